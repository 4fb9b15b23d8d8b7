section
/-! run, part r5: both objects' runs -/
/-- at home with his errand done in one of the first n hours -/
def meP (K : KEY) (T0 : Int → Int) (n : Nat) (p : Int) : Prop := ∃ (j : Nat) (T : Int → Int), j < n ∧ raf K T0 j T ∧ hdT K T p
/-- within an hour: those below p are looked at -/
def miP (A B : Int → Prop) (p b : Int) : Prop := (b < p ∧ B b) ∨ (p ≤ b ∧ A b)
def runA (K : KEY) (T0 : Int → Int) (w r : Int) : Prop := (w = 0 ∧ r = cnP (itD K T0 (25 - T0 0).toNat) (K.1 2).toNat) ∨ (w = 1 ∧ ∃ T, raf K T0 (24 - T0 0).toNat T ∧ r = K.1 2 - cnP (hdT K T) (K.1 2).toNat) ∨ (w ≠ 0 ∧ w ≠ 1 ∧ r = -1)
def runJ (w : Int) (h g : LH) (r : Int) : Prop := frDay h g ∧ runA (key h) (rd h 198) w r
section RE
variable {xs : Nat → Int} {xl e : Nat} {h g u : LH} {Q : Option LV → LH → Prop} {K : KEY} {S S' T T' T0 T1 T2 F : Int → Int} {L l : List Int} {q sc p b b' d r n v1 till lo hour x m : Int} {A B : Int → Prop}
theorem VT_of (hI : INV h) (hs : SR h 60 0) : VT (key h) (rd h 198) := by
  have n2 := rq_people hI.1
  refine ⟨rs_now hI.1 0 0 (by omega) (by decide) (by decide) (by decide) (by decide) (by decide), fun p p0 p1 => ?_, fun d d0 d1 => ?_⟩
  · have p1' : p < rd h 188 2 := p1
    have a := rs_where hI.1 (i := p + 2) 0 p (by omega) (by decide) (by decide) (by decide) p0 (by omega)
    have b := rs_done hI.1 (i := p + 8) 0 p (by omega) (by decide) (by decide) (by decide) p0 (by omega)
    have c := rs_went hI.1 (i := p + 14) 0 p (by omega) (by decide) (by decide) (by decide) p0 (by omega)
    have w := (INVw hI).1 p p0 (by omega) p1'
    rw [show 0 + 2 + p = p + 2 by omega] at w
    exact ⟨⟨a.1, w⟩, by omega, by omega⟩
  · have := (hs.2.2.2.1 d d0 d1).2
    rw [show 0 + d + 20 = d + 20 by omega] at this
    exact this
theorem SCT_60 (hs : SR h 60 0) : SCT h 60 (rd h 188 2) (rd h 198) := by
  obtain ⟨s1, s2, s3, s4, s5⟩ := hs
  refine ⟨s1, s2, fun p p0 p1 => ?_, fun d d0 d1 => ?_, s5⟩
  · have := s3 p p0 p1
    rw [show 0 + p + 2 = p + 2 by omega, show 0 + p + 8 = p + 8 by omega, show 0 + p + 14 = p + 14 by omega] at this
    exact this
  · have := s4 d d0 d1
    rw [show 0 + d + 20 = d + 20 by omega] at this
    exact this
theorem SCT_cp (hs : SCT h sc n T) (hn : n ≤ 6) (hq : scq h g sc 68) : SCT g 68 n T := by
  obtain ⟨s1, s2, s3, s4, s5⟩ := hs
  obtain ⟨q1, q2, q3⟩ := hq
  refine ⟨?_, ?_, fun p p0 p1 => ?_, fun d d0 d1 => ?_, fun p p0 p1 => ?_⟩
  · rw [q1 0 (by decide) (by decide)]; exact s1
  · rw [q1 1 (by decide) (by decide)]; exact s2
  · rw [q2 p p0 (by omega), q1 3 (by decide) (by decide), q1 2 (by decide) (by decide)]
    exact s3 p p0 p1
  · rw [q3 d d0 d1]
    exact s4 d d0 d1
  · rw [q1 3 (by decide) (by decide)]
    exact s5 p p0 p1
theorem E_runS (he : 8 ≤ e) (hI : INV h) (hE : EQL h) (h1 : i32 v1) (k : ∀ r g, INV g → runJ v1 h g r → Q (some (.inl r)) g) : Rn xs xl e mm_OneSided_run 0 [some (.inr (.inr 1)), some (.inl v1), none, none] [] h Q := by
  obtain ⟨L, hc⟩ := CXq_of hI hE
  have hK := KR_of hI
  have hq : rd h 1 1 = 5 ∨ rd h 1 1 = 32 := rQf hI.1
  have hF := RF_of hI.1
  have n2 := rq_people hI.1
  have k5 := hE.2.2.2.2.2.2.2.2.2.2.2.1
  have w : WC (key h) (rd h 198) h := ⟨hI, rfl, rfl⟩
  have vt := VT_of hI k5
  have s60 := SCT_60 k5
  have kb : ∀ p, 0 ≤ p → p < (key h).1 2 → KB (key h) p := fun p p0 p1 => KB_of w (by
    have p1' : p < rd h 188 2 := p1
    omega)
  have A : Rn xs xl e mm_OneSided_run 0 [some (.inr (.inr 1)), some (.inl v1), none, none] [] h (fun r g => ∃ x, r = some (.inl x) ∧ runJ v1 h g x) := by
    have go : (v1 = 0 ∨ v1 = 1) → ∃ c, c < e ∧ Rn xs xl c mm_Scene_copy 0 [some (.inr (.inr 68)), some (.inr (.inr 60))] [] h (fun r h' => Rn xs xl e mm_OneSided_run 30 [some (.inr (.inr 1)), some (.inl v1), some (.inr (.inr 68)), none] (r.toList ++ []) h' (fun r g => ∃ x, r = some (.inl x) ∧ runJ v1 h g x)) := by
      intro hv
      refine ⟨0, by omega, F_scopy scn_68 (by decide) scn_60 (by decide) hF (fun g gq gf gF => ?_)⟩
      have gs : SCT g 68 ((key h).1 2) (rd h 198) := SCT_cp s60 n2.2 gq
      have gD : frDay h g := fun a i _ _ _ m4 => gf a i m4
      have gc : CXq g (key h) (rd h 1 1) L := CXq_fr hc hK gF (fun a i ha => gf a i (by unfold scp; omega))
      refine B_OneSided_run_30 hq gc.2.2.2.1 gF ⟨7, by omega, F_runDay (Nat.le_refl 7) gc hK kb vt gs (fun u T uF uf ra us => ?_)⟩
      have uD := frDay_t gD uf
      have uc : CXq u (key h) (rd h 1 1) L := CXq_fr hc hK uF (fun a i ha => uD a i (by omega) (by omega) (by omega) (by unfold scp; omega))
      refine B_OneSided_run_42 hq uc.2.2.2.1 uF ⟨fun c => ⟨0, by omega, ?_⟩, fun c => ⟨_, rfl, uD, Or.inl ⟨c, rfl⟩⟩⟩
      have v1' : v1 = 1 := by omega
      refine F_homeAndDone uc hK us scn_68 (by decide) (fun r1 i1 b1 => ?_)
      have c4 : rd u (rd h 1 1) 4 = (key h).1 2 := uc.2.2.2.2.1.2.2
      have i2 := cnP_in (hdT (key h) (enT T)) ((key h).1 2).toNat
      have n2' : 0 ≤ (key h).1 2 ∧ (key h).1 2 ≤ 6 := n2
      refine B_OneSided_run_64 uF ⟨0, by omega, F_bits uF i1 (by omega) b1 (B_OneSided_run_67 uF ?_)⟩
      rw [c4]
      refine ⟨by omega, _, rfl, uD, Or.inr (Or.inl ⟨v1', T, ra, ?_⟩)⟩
      rw [cnP_ext (P := hdT (key h) (enT T)) (P' := hdT (key h) T) _ (fun b b0 b1 => hdT_enT (by omega))]
    exact B_OneSided_run_0 hF ⟨fun c => go (Or.inl c), fun c => ⟨fun c2 => go (Or.inr c2), fun c2 => ⟨_, rfl, fun _ _ _ _ _ _ => rfl, Or.inr (Or.inr ⟨c, c2, rfl⟩)⟩⟩⟩
  have B : Rn xs xl e mm_OneSided_run 0 [some (.inr (.inr 1)), some (.inl v1), none, none] [] h (fun r g => INV g) := use_sm TC_run (as := [.inr (.inr 1), .inl v1]) rfl (Nat.le_trans (Nat.le_of_ble_eq_true rfl) he) hI (gAr_c (g_ref 1) (gAr_c (g_i h1) gAr_n)) rfl (Nat.le_of_ble_eq_true rfl) rfl (fun r g gI gf gq => gI)
  refine (A.and B).mono (fun r g z => ?_)
  obtain ⟨⟨x, rfl, a⟩, b⟩ := z
  exact k x g b a
/-! the reference -/
theorem tr_eq (e2 : S (b + 1) = S' (b' + 1)) : tr K S b p = tr K S' b' p := by
  funext hr k d
  unfold tr
  rw [e2]
theorem wayP_eq (e : tr K S b p = tr K S' b' p) : ∀ (n : Nat) (hour q : Int) (l : List Int), wayP K S b p till F n hour q l = wayP K S' b' p till F n hour q l
  | 0, _, _, _ => rfl
  | n + 1, hour, q, l => by
    have nx : nxD K S b p till F = nxD K S' b' p till F := by
      funext hour q d x
      unfold nxD frst
      rw [e]
    have ih := fun hour q l => wayP_eq e n hour q l
    show (∃ d x l', l = d :: l' ∧ (0 ≤ d ∧ d < K.1 1) ∧ nxD K S b p till F hour q d x ∧ (∀ d' x', 0 ≤ d' → d' < d → ¬ nxD K S b p till F hour q d' x') ∧ wayP K S b p till F n (x + 1) (tr K S b p x q d) l') = (∃ d x l', l = d :: l' ∧ (0 ≤ d ∧ d < K.1 1) ∧ nxD K S' b' p till F hour q d x ∧ (∀ d' x', 0 ≤ d' → d' < d → ¬ nxD K S' b' p till F hour q d' x') ∧ wayP K S' b' p till F n (x + 1) (tr K S' b' p x q d) l')
    rw [nx, e]
    simp only [ih]
theorem errW_congr (e1 : S b = S' b') (e2 : S (b + 1) = S' (b' + 1)) (e3 : S (b + p + 2) = S' (b' + p + 2)) (e4 : S (b + p + 8) = S' (b' + p + 8)) (e5 : S (b + p + 14) = S' (b' + p + 14)) (hw : errW K S b p till l) : errW K S' b' p till l := by
  have et := tr_eq (K := K) (p := p) e2
  have ek : k0F S b p = k0F S' b' p := by
    unfold k0F
    rw [e3, e4]
  have ef : ∀ lo F, FOK K S b p till lo F → FOK K S' b' p till lo F := fun lo F f => ⟨f.1, fun hr q a c d z => by
    have := f.2 hr q a c d z
    unfold good at this ⊢
    rw [← et]
    exact this⟩
  unfold errW at hw ⊢
  rw [ek, e1, e5] at hw
  rcases hw with hw | ⟨w1, w2, F, w3, w4⟩
  · exact Or.inl hw
  · rw [wayP_eq et] at w4
    exact Or.inr ⟨w1, w2, F, ef _ F w3, w4⟩
theorem rgo_24 (h0 : T 0 = 24) (sb : SB T 0 p) (kb : KB K p) : rgo K T p T := by
  by_cases c : T (p + 14) = 1
  · exact Or.inl ⟨c, rfl⟩
  · have b14 : 0 ≤ T (0 + p + 14) ∧ T (0 + p + 14) ≤ 1 := sb.2.1
    obtain ⟨k0, k1, -⟩ := k0F_in sb
    have kh := kb.2.2.2.1
    have hb := bit_shl (j := K.1 (4 * p + 117) + 10) (k := k0F T 0 p) (by omega) (by omega) k0 (by omega)
    by_cases c3 : k0F T 0 p = K.1 (4 * p + 117) + 10
    · exact Or.inr ⟨c, T 0, [], Or.inl ⟨hb.mpr c3, rfl⟩, Or.inl ⟨Or.inr c3, rfl⟩, rfl⟩
    · exact Or.inr ⟨c, -1, [], Or.inr ⟨fun y => c3 (hb.mp y), Or.inl ⟨rfl, fun x x0 x1 => by omega⟩⟩, Or.inl ⟨Or.inl (by decide), rfl⟩, rfl⟩
/-- the reference's heap while a day is run -/
def UR (g u : LH) (K : KEY) (T : Int → Int) : Prop := INV u ∧ frR g u ∧ key u = K ∧ RBT u 1540 T
theorem UR_52 {v : Int} (hu : UR g u K T) (iv : i32 v) : UR g (wr u 182 52 v) K T := by
  obtain ⟨a, c, d, f⟩ := hu
  refine ⟨wF_52 a iv, c.w (by omega), ?_, fun i i0 i1 => ?_⟩
  · rw [← d]
    exact key_frs (fun a i _ _ => rdw_ne (by omega)) (fun i _ _ => rdw_nei (by omega))
  · rw [rdw_ne (by decide)]
    exact f i i0 i1
theorem UR_53 {v : Int} (hu : UR g u K T) (iv : i32 v) : UR g (wr u 182 53 v) K T := by
  obtain ⟨a, c, d, f⟩ := hu
  refine ⟨wF_53 a iv, c.w (by omega), ?_, fun i i0 i1 => ?_⟩
  · rw [← d]
    exact key_frs (fun a i _ _ => rdw_ne (by omega)) (fun i _ _ => rdw_nei (by omega))
  · rw [rdw_ne (by decide)]
    exact f i i0 i1
theorem UR_K (hu : UR g u K T) (i : Int) : rd u 188 i = K.1 i := by
  have := hu.2.2.1
  rw [show rd u 188 i = (key u).1 i from rfl, this]
theorem UR_T (hu : UR g u K T) {i j : Int} (hj : j = 1540 + i) (i0 : 0 ≤ i) (i1 : i < 34) : rd u 198 j = T i := by
  rw [hj]
  exact hu.2.2.2 i i0 i1
theorem goF_T (hu : UR g u K T) (hp : 0 ≤ p ∧ p ≤ 5) (hd : 0 ≤ d ∧ d ≤ 13) : goF u 1540 p d = goV K T p d := by
  unfold goF goV
  rw [UR_T hu (j := 1540 + p + 14) (i := p + 14) (by omega) (by omega) (by omega), UR_T hu (j := 1540 + d + 20) (i := d + 20) (by omega) (by omega) (by omega), UR_T hu (j := 1540 + 1) (i := 1) (by omega) (by omega) (by omega), UR_T hu (j := 1540 + p + 2) (i := p + 2) (by omega) (by omega) (by omega), UR_T hu (j := 1540) (i := 0) (by omega) (by omega) (by omega), UR_K hu, UR_K hu, hu.2.2.1]
theorem UR_gone {w : LH} (hu : UR g u K T) (hp : 0 ≤ p ∧ p ≤ 5) (hd : 0 ≤ d ∧ d ≤ 13) (wI : INV w) (hg : gone 1540 p d r u w) : UR g w K (wT K T p d r) := by
  obtain ⟨a, c, e, f⟩ := id hu
  obtain ⟨g1, g2, g3, g4, gf⟩ := hg
  refine ⟨wI, fun x i n1 n2 n3 n4 n5 n6 => (gf x i n1 n2 (by omega)).trans (c x i n1 n2 n3 n4 n5 n6), ?_, fun i i0 i1 => ?_⟩
  · rw [← e]
    exact key_frs (fun x i _ _ => gf x i (by omega) (by omega) (by omega)) (fun i _ _ => gf 182 i (by decide) (by decide) (by omega))
  · unfold wT
    by_cases c1 : i = p + 2
    · rw [if_pos c1, c1, ← g1]
      exact congrArg (rd w 198) (by omega)
    · rw [if_neg c1]
      by_cases c2 : i = p + 14
      · rw [if_pos c2, c2, ← g2]
        exact congrArg (rd w 198) (by omega)
      · rw [if_neg c2]
        by_cases c3 : i = d + 20
        · rw [if_pos c3, c3, ← f (d + 20) (by omega) (by omega), show 1540 + (d + 20) = 1540 + d + 20 by omega, g3]
        · rw [if_neg c3]
          by_cases c4 : i = p + 8
          · rw [if_pos c4, c4, ← f (p + 8) (by omega) (by omega), show 1540 + (p + 8) = 1540 + p + 8 by omega, g4, UR_K hu]
          · rw [if_neg c4, gf 198 _ (by decide) (by decide) (by omega)]
            exact f i i0 i1
theorem UR_ps {w : LH} (hu : UR g u K T) (h0 : T 0 < 24) (wI : INV w) (wf : ∀ a i, ¬ (a = 198 ∧ (i = 1540 ∨ (1540 + 14 ≤ i ∧ i ≤ 1540 + 33))) → rd w a i = rd u a i) (wp : psx 1540 u w) : UR g w K (psT T) := by
  obtain ⟨a, c, e, f⟩ := id hu
  obtain ⟨p1, p2, p3⟩ := wp
  have f0 := UR_T hu (j := 1540) (i := 0) (by omega) (by omega) (by omega)
  refine ⟨wI, fun x i n1 n2 n3 n4 n5 n6 => (wf x i (by omega)).trans (c x i n1 n2 n3 n4 n5 n6), ?_, fun i i0 i1 => ?_⟩
  · rw [← e]
    exact key_frs (fun x i _ _ => wf x i (by omega)) (fun i _ _ => wf 182 i (by omega))
  · unfold psT
    by_cases c1 : i = 0
    · rw [if_pos c1, c1, show (1540 : Int) + 0 = 1540 by decide, p1, f0, if_pos h0]
    · rw [if_neg c1]
      by_cases c2 : 14 ≤ i
      · rw [if_pos c2]
        by_cases c3 : i < 20
        · rw [← p2 (i - 14) (by omega) (by omega)]
          exact congrArg (rd w 198) (by omega)
        · rw [← p3 (i - 20) (by omega) (by omega)]
          exact congrArg (rd w 198) (by omega)
      · rw [if_neg c2, wf 198 _ (by omega)]
        exact f i i0 i1
theorem meP_st (hc : CXq h K q L) (hK : KR K) (kb : ∀ p, 0 ≤ p → p < K.1 2 → KB K p) (vt : VT K T0) {n : Nat} (hn : T0 0 + n ≤ 24) (h1 : raf K T0 n T) : meP K T0 (n + 1) p ↔ meP K T0 n p ∨ hdT K T p := by
  constructor
  · rintro ⟨j, X, a, b, d⟩
    by_cases z : j = n
    · rw [z] at b
      rw [raf_one hc hK kb vt hn b h1] at d
      exact Or.inr d
    · exact Or.inl ⟨j, X, by omega, b, d⟩
  · rintro (⟨j, X, a, b, d⟩ | d)
    · exact ⟨j, X, by omega, b, d⟩
    · exact ⟨n, T, by omega, h1, d⟩
theorem itD_me {n : Nat} (hm : T0 0 + n ≤ K.1 (4 * p + 119)) : itD K T0 n p ↔ meP K T0 n p := by
  constructor
  · rintro ⟨j, X, a, b, _, d⟩
    exact ⟨j, X, a, b, d⟩
  · rintro ⟨j, X, a, b, d⟩
    exact ⟨j, X, a, b, by omega, d⟩
/-- the next one is looked at: nothing comes to it -/
theorem miP_same (hq : A p ↔ B p) : ∀ b, miP A B (p + 1) b ↔ miP A B p b := fun b => by
  unfold miP
  by_cases c : b = p
  · subst c
    exact ⟨fun y => y.elim (fun y => Or.inr ⟨by omega, hq.mpr y.2⟩) (fun y => by omega), fun y => y.elim (fun y => by omega) (fun y => Or.inl ⟨by omega, hq.mp y.2⟩)⟩
  · exact ⟨fun y => y.elim (fun y => Or.inl ⟨by omega, y.2⟩) (fun y => Or.inr ⟨by omega, y.2⟩), fun y => y.elim (fun y => Or.inl ⟨by omega, y.2⟩) (fun y => Or.inr ⟨by omega, y.2⟩)⟩
theorem miP_p : miP A B p p ↔ A p := ⟨fun y => y.elim (fun y => by omega) (fun y => y.2), fun y => Or.inr ⟨by omega, y⟩⟩
theorem miP_p1 : miP A B (p + 1) p ↔ B p := ⟨fun y => y.elim (fun y => y.2) (fun y => by omega), fun y => Or.inl ⟨by omega, y⟩⟩
theorem miP_o {b : Int} (hb : b ≠ p) : miP A B (p + 1) b ↔ miP A B p b := by
  unfold miP
  exact ⟨fun y => y.elim (fun y => Or.inl ⟨by omega, y.2⟩) (fun y => Or.inr ⟨by omega, y.2⟩), fun y => y.elim (fun y => Or.inl ⟨by omega, y.2⟩) (fun y => Or.inr ⟨by omega, y.2⟩)⟩
theorem miP_0 {n : Nat} : cnP (miP A B 0) n = cnP A n := cnP_ext n (fun b b0 _ => ⟨fun y => y.elim (fun y => by omega) (fun y => y.2), fun y => Or.inr ⟨b0, y⟩⟩)
theorem miP_n {n : Nat} (hp : (n : Int) ≤ p) : cnP (miP A B p) n = cnP B n := cnP_ext n (fun b b0 b1 => ⟨fun y => y.elim (fun y => y.2) (fun y => by omega), fun y => Or.inl ⟨by omega, y⟩⟩)
theorem G_findRun (he : 9 ≤ e) (hI : INV g) (hc : CXq h K q L) (eK : key g = K) (hK : KR K) (kb : ∀ p, 0 ≤ p → p < K.1 2 → KB K p) (e0 : ∀ i, 0 ≤ i → i < 34 → rd g 198 i = T0 i) (vt : VT K T0) (k : ∀ u T, INV u → frR g u → rd u 182 52 = cnP (itD K T0 (25 - T0 0).toNat) (K.1 2).toNat → raf K T0 (24 - T0 0).toNat T → rd u 182 53 = K.1 2 - cnP (hdT K T) (K.1 2).toNat → Q none u) : Rn xs xl e mm_findRun 0 [some (.inr (.inr 182)), none, none, none, none, none] [] g Q := by
  have n2 := hK.2.2.1
  have t0 := vt.1
  -- who isn't at home
  have l266 : ∀ (n : Nat) (u : LH) (T : Int → Int) (v1 v2 v3 : Int) (o4 o5 : Option LV), K.1 2 - v3 ≤ n → 0 ≤ v3 → v3 ≤ K.1 2 → raf K T0 (24 - T0 0).toNat T → UR g u K T → rd u 182 52 = cnP (itD K T0 (25 - T0 0).toNat) (K.1 2).toNat → rd u 182 53 = v3 - cnP (hdT K T) v3.toNat → Rn xs xl e mm_findRun 266 [some (.inr (.inr 182)), some (.inl v1), some (.inl v2), some (.inl v3), o4, o5] [] u Q := by
    intro n
    have stop : ∀ (u : LH) (T : Int → Int) (v3 : Int), K.1 2 ≤ v3 → v3 ≤ K.1 2 → raf K T0 (24 - T0 0).toNat T → UR g u K T → rd u 182 52 = cnP (itD K T0 (25 - T0 0).toNat) (K.1 2).toNat → rd u 182 53 = v3 - cnP (hdT K T) v3.toNat → Q none u := fun u T v3 a0 a1 ra uu u52 u53 => k u T uu.1 uu.2.1 u52 ra (by rw [u53, show v3 = K.1 2 by omega])
    induction n with
    | zero =>
      intro u T v1 v2 v3 o4 o5 hn a0 a1 ra uu u52 u53
      have u2 := UR_K uu 2
      exact B_findRun_266 (RF_of uu.1.1) (by omega) (by omega) ⟨fun _ => stop u T v3 (by omega) a1 ra uu u52 u53, fun c => by omega⟩
    | succ n ih =>
      intro u T v1 v2 v3 o4 o5 hn a0 a1 ra uu u52 u53
      have u2 := UR_K uu 2
      have st : cnP (hdT K T) (v3 + 1).toNat = cnP (hdT K T) v3.toNat + @ite Int (hdT K T v3) (Classical.propDecidable _) 1 0 := by
        rw [show (v3 + 1).toNat = v3.toNat + 1 by omega]
        show cnP (hdT K T) v3.toNat + @ite Int (hdT K T (v3.toNat : Int)) (Classical.propDecidable _) 1 0 = _
        rw [Int.toNat_of_nonneg a0]
      have ci := cnP_in (hdT K T) v3.toNat
      refine B_findRun_266 (RF_of uu.1.1) (by omega) (by omega) ⟨fun c => stop u T v3 (by omega) a1 ra uu u52 u53, fun c => ?_⟩
      have p1 : v3 < K.1 2 := by omega
      have w8 := UR_T uu (j := v3 + 1548) (i := v3 + 8) (by omega) (by omega) (by omega)
      have w2 := UR_T uu (j := v3 + 1542) (i := v3 + 2) (by omega) (by omega) (by omega)
      have kh := UR_K uu (4 * v3 + 117)
      have nx : ∀ y : Int, y = 1 - @ite Int (hdT K T v3) (Classical.propDecidable _) 1 0 → Rn xs xl e mm_findRun 266 [some (.inr (.inr 182)), some (.inl v1), some (.inl v2), some (.inl (v3 + 1)), o4, o5] [] (wr u 182 53 (w32 (rd u 182 53 + y))) Q := fun y hy => by
        have iy : @ite Int (hdT K T v3) (Classical.propDecidable _) 1 0 = 0 ∨ @ite Int (hdT K T v3) (Classical.propDecidable _) 1 0 = 1 := by
          by_cases z : hdT K T v3
          · rw [if_pos z]; exact Or.inr rfl
          · rw [if_neg z]; exact Or.inl rfl
        rw [w32_id (show i32 (rd u 182 53 + y) by unfold i32; omega)]
        refine ih _ T v1 v2 (v3 + 1) o4 o5 (by omega) (by omega) (by omega) ra (UR_53 uu (by unfold i32; omega)) ?_ ?_
        · rw [rdw_nei (by decide)]; exact u52
        · rw [rdw_eq, st, u53, hy]
          omega
      refine ⟨fun y => nx 1 ?_, fun y => ⟨fun z => nx 1 ?_, fun z => nx 0 ?_⟩⟩
      · rw [if_neg (fun t => y (w8.trans t.1))]
        rfl
      · rw [if_neg (fun t => z (by rw [w2, kh]; exact t.2))]
        rfl
      · rw [if_pos ⟨by rw [← w8]; exact y, by rw [← w2, ← kh]; exact z⟩]
        rfl
  have t259 : ∀ (u : LH) (T : Int → Int) (v1 v2 : Int) (o3 o4 o5 : Option LV), raf K T0 (24 - T0 0).toNat T → UR g u K T → rd u 182 52 = cnP (itD K T0 (25 - T0 0).toNat) (K.1 2).toNat → Rn xs xl e mm_findRun 259 [some (.inr (.inr 182)), some (.inl v1), some (.inl v2), o3, o4, o5] [] u Q := fun u T v1 v2 o3 o4 o5 ra uu u52 => B_findRun_259 (RF_of uu.1.1) (l266 6 _ T v1 v2 0 _ _ (by omega) (by omega) (by omega) ra (UR_53 uu (by unfold i32; omega)) (by rw [rdw_nei (by decide)]; exact u52) (by rw [rdw_eq]; rfl))
  -- one hour
  have body : ∀ (u : LH) (n : Nat) (T : Int → Int) (v1 : Int) (o3 o4 o5 : Option LV), T0 0 + n ≤ 24 → rdy K T0 n T → UR g u K T → rd u 182 52 = cnP (itD K T0 n) (K.1 2).toNat → (∀ b, 0 ≤ b → b < 32 → (bitZ v1 b ↔ b < K.1 2 ∧ meP K T0 n b)) → (∀ (u : LH) (T : Int → Int) (v1 : Int) (o3 o4 o5 : Option LV), T0 0 + n < 24 → rdy K T0 (n + 1) T → UR g u K T → rd u 182 52 = cnP (itD K T0 (n + 1)) (K.1 2).toNat → (∀ b, 0 ≤ b → b < 32 → (bitZ v1 b ↔ b < K.1 2 ∧ meP K T0 (n + 1) b)) → Rn xs xl e mm_findRun 19 [some (.inr (.inr 182)), some (.inl v1), some (.inl 1), o3, o4, o5] [] u Q) → Rn xs xl e mm_findRun 19 [some (.inr (.inr 182)), some (.inl v1), some (.inl 1), o3, o4, o5] [] u Q := by
    intro u n T v1 o3 o4 o5 hn r0 uu u52 vb next
    have rv := rdy_VT hc hK vt n T hn r0
    have T0v : T 0 = T0 0 + n := rv.2
    -- all have been looked at
    have t233 : ∀ (u : LH) (T' : Int → Int) (v1 v4 : Int) (o5 : Option LV), rps K T (K.1 2).toNat T' → UR g u K T' → rd u 182 52 = cnP (itD K T0 (n + 1)) (K.1 2).toNat → (∀ b, 0 ≤ b → b < 32 → (bitZ v1 b ↔ b < K.1 2 ∧ meP K T0 (n + 1) b)) → Rn xs xl e mm_findRun 233 [some (.inr (.inr 182)), some (.inl v1), some (.inl 1), some (.inl (T 0)), some (.inl v4), o5] [] u Q := by
      intro u T' v1 v4 o5 rp uu u52 vb
      have rw' := rps_VT hc hK rv.1 _ T' (by omega) rp
      refine B_findRun_233 (RF_of uu.1.1) ⟨fun c => B_findRun_19 (RF_of uu.1.1) ⟨fun _ => ?_, fun z => absurd rfl z⟩, fun c => ⟨0, by omega, G_passesX uu.1 (by decide) (by decide) (fun w wI wf wp => B_findRun_256 (RF_of wI.1) (next w (psT T') v1 _ _ _ (by omega) ⟨T, T', r0, rp, rfl⟩ (UR_ps uu (by omega) wI wf wp) ?_ vb))⟩⟩
      · have e1 : n = (24 - T0 0).toNat := by omega
        have e2 : n + 1 = (25 - T0 0).toNat := by omega
        rw [e2] at u52
        refine t259 u T' _ _ _ _ _ ?_ uu u52
        rw [← e1]
        exact ⟨T, r0, rp⟩
      · rw [wf 182 52 (by omega)]
        exact u52
    have l120 : ∀ (m : Nat) (u : LH) (T' : Int → Int) (v1 v4 : Int) (o5 : Option LV), K.1 2 - v4 ≤ m → 0 ≤ v4 → v4 ≤ K.1 2 → rps K T (K.1 2).toNat T' → UR g u K T' → rd u 182 52 = cnP (miP (itD K T0 n) (itD K T0 (n + 1)) v4) (K.1 2).toNat → (∀ b, 0 ≤ b → b < 32 → (bitZ v1 b ↔ b < K.1 2 ∧ miP (meP K T0 n) (meP K T0 (n + 1)) v4 b)) → Rn xs xl e mm_findRun 120 [some (.inr (.inr 182)), some (.inl v1), some (.inl 1), some (.inl (T 0)), some (.inl v4), o5] [] u Q := by
      intro m
      have stop : ∀ (u : LH) (T' : Int → Int) (v1 v4 : Int) (o5 : Option LV), K.1 2 ≤ v4 → v4 ≤ K.1 2 → rps K T (K.1 2).toNat T' → UR g u K T' → rd u 182 52 = cnP (miP (itD K T0 n) (itD K T0 (n + 1)) v4) (K.1 2).toNat → (∀ b, 0 ≤ b → b < 32 → (bitZ v1 b ↔ b < K.1 2 ∧ miP (meP K T0 n) (meP K T0 (n + 1)) v4 b)) → Rn xs xl e mm_findRun 233 [some (.inr (.inr 182)), some (.inl v1), some (.inl 1), some (.inl (T 0)), some (.inl v4), o5] [] u Q := by
        intro u T' v1 v4 o5 a0 a1 rp uu u52 vb
        refine t233 u T' v1 v4 o5 rp uu ?_ (fun b b0 b1 => ?_)
        · rw [u52, miP_n (by omega)]
        · rw [vb b b0 b1]
          unfold miP
          exact ⟨fun y => ⟨y.1, y.2.elim (fun y => y.2) (fun z => by omega)⟩, fun y => ⟨y.1, Or.inl ⟨by omega, y.2⟩⟩⟩
      induction m with
      | zero =>
        intro u T' v1 v4 o5 hm a0 a1 rp uu u52 vb
        have u2 := UR_K uu 2
        exact B_findRun_120 (RF_of uu.1.1) (by omega) (by omega) ⟨fun _ => stop u T' v1 v4 o5 (by omega) a1 rp uu u52 vb, fun c => by omega⟩
      | succ m im =>
        intro u T' v1 v4 o5 hm a0 a1 rp uu u52 vb
        have u2 := UR_K uu 2
        refine B_findRun_120 (RF_of uu.1.1) (by omega) (by omega) ⟨fun c => stop u T' v1 v4 o5 (by omega) a1 rp uu u52 vb, fun c => ?_⟩
        have p1 : v4 < K.1 2 := by omega
        have w8 := UR_T uu (j := v4 + 1548) (i := v4 + 8) (by omega) (by omega) (by omega)
        have w2 := UR_T uu (j := v4 + 1542) (i := v4 + 2) (by omega) (by omega) (by omega)
        have kh := UR_K uu (4 * v4 + 117)
        have k9 := UR_K uu (4 * v4 + 119)
        have ra : raf K T0 n T' := ⟨T, r0, rp⟩
        have is := itD_st (p := v4) hc hK kb vt hn ra
        have ms := meP_st (p := v4) hc hK kb vt hn ra
        have ci := cnP_in (miP (itD K T0 n) (itD K T0 (n + 1)) v4) (K.1 2).toNat
        -- nothing is counted
        have c0 : (itD K T0 n v4 ↔ itD K T0 (n + 1) v4) → ∀ v1' v5, (∀ b, 0 ≤ b → b < 32 → (bitZ v1' b ↔ b < K.1 2 ∧ miP (meP K T0 n) (meP K T0 (n + 1)) (v4 + 1) b)) → Rn xs xl e mm_findRun 120 [some (.inr (.inr 182)), some (.inl v1'), some (.inl 1), some (.inl (T 0)), some (.inl (v4 + 1)), some (.inl v5)] [] (wr u 182 52 (w32 (rd u 182 52 + 0))) Q := fun hq v1' v5 vb' => by
          have iu : i32 (rd u 182 52 + 0) := by unfold i32; omega
          rw [w32_id iu]
          refine im _ T' v1' (v4 + 1) _ (by omega) (by omega) (by omega) rp (UR_52 uu iu) ?_ vb'
          rw [rdw_eq, Int.add_zero, u52]
          exact cnP_ext _ (fun b _ _ => (miP_same hq b).symm)
        have c1 : itD K T0 (n + 1) v4 → ¬ itD K T0 n v4 → ∀ v1' v5, (∀ b, 0 ≤ b → b < 32 → (bitZ v1' b ↔ b < K.1 2 ∧ miP (meP K T0 n) (meP K T0 (n + 1)) (v4 + 1) b)) → Rn xs xl e mm_findRun 120 [some (.inr (.inr 182)), some (.inl v1'), some (.inl 1), some (.inl (T 0)), some (.inl (v4 + 1)), some (.inl v5)] [] (wr u 182 52 (w32 (rd u 182 52 + 1))) Q := fun hy hn' v1' v5 vb' => by
          have iu : i32 (rd u 182 52 + 1) := by unfold i32; omega
          rw [w32_id iu]
          refine im _ T' v1' (v4 + 1) _ (by omega) (by omega) (by omega) rp (UR_52 uu iu) ?_ vb'
          rw [rdw_eq, u52, cnP_up (P := miP (itD K T0 n) (itD K T0 (n + 1)) v4) (p := v4) (fun b hb => miP_o hb) (miP_p1.mpr hy) (fun y => hn' (miP_p.mp y)), if_pos (show 0 ≤ v4 ∧ v4 < (((K.1 2).toNat : Nat) : Int) by omega)]
        have no : ¬ hdT K T' v4 → ∀ b, 0 ≤ b → b < 32 → (bitZ (zor v1 0) b ↔ b < K.1 2 ∧ miP (meP K T0 n) (meP K T0 (n + 1)) (v4 + 1) b) := fun z b b0 b1 => by
          rw [bit_or b0 b1, vb b b0 b1, miP_same (show meP K T0 n v4 ↔ meP K T0 (n + 1) v4 by rw [ms]; exact ⟨Or.inl, fun y => y.elim (fun y => y) (fun y => absurd y z)⟩) b]
          exact ⟨fun y => y.elim (fun y => y) (fun y => absurd y bit_zero), Or.inl⟩
        have yes : hdT K T' v4 → ∀ b, 0 ≤ b → b < 32 → (bitZ (zor v1 (zshl 1 v4)) b ↔ b < K.1 2 ∧ miP (meP K T0 n) (meP K T0 (n + 1)) (v4 + 1) b) := fun z b b0 b1 => by
          rw [bit_or b0 b1, bit_shl a0 (by omega) b0 b1, vb b b0 b1]
          by_cases t : b = v4
          · subst t
            rw [miP_p1, ms]
            exact ⟨fun _ => ⟨p1, Or.inr z⟩, fun _ => Or.inr rfl⟩
          · rw [miP_o t]
            exact ⟨fun y => y.elim (fun y => y) (fun y => absurd y t), Or.inl⟩
        have n0 : ¬ hdT K T' v4 → Rn xs xl e mm_findRun 172 [some (.inr (.inr 182)), some (.inl v1), some (.inl 1), some (.inl (T 0)), some (.inl v4), some (.inl 0)] [] u Q := fun z => B_findRun_172 (RF_of uu.1.1) (by omega) (by omega) ⟨fun _ => c0 (by rw [is]; exact ⟨Or.inl, fun y => y.elim (fun y => y) (fun y => absurd y.2 z)⟩) _ 0 (no z), fun y => absurd rfl y⟩
        refine ⟨fun y => n0 (fun t => y (w8.trans t.1)), fun y => ⟨fun z => n0 (fun t => z (by rw [w2, kh]; exact t.2)), fun z => ?_⟩⟩
        have hd : hdT K T' v4 := ⟨by rw [← w8]; exact y, by rw [← w2, ← kh]; exact z⟩
        have vm := vb v4 a0 (by omega)
        rw [miP_p] at vm
        refine B_findRun_172 (RF_of uu.1.1) (by omega) (by omega) ⟨fun z => by omega, fun _ => ⟨fun c2 => ⟨fun c3 => ?_, fun c3 => ?_⟩, fun c2 => ?_⟩⟩
        · rw [k9] at c3
          exact c0 (by rw [is]; exact ⟨Or.inl, fun y => y.elim (fun y => y) (fun y => by omega)⟩) _ 1 (yes hd)
        · rw [k9] at c3
          have le : T0 0 + n ≤ K.1 (4 * v4 + 119) := by omega
          exact c1 (is.mpr (Or.inr ⟨le, hd⟩)) (fun y => c2 (vm.mpr ⟨p1, (itD_me le).mp y⟩)) _ 1 (yes hd)
        · refine c0 (by rw [is]; exact ⟨Or.inl, fun y => y.elim (fun y => y) (fun y => (itD_me y.1).mpr (vm.mp c2).2)⟩) _ 1 (yes hd)
    have l35 : ∀ (m : Nat) (u : LH) (T' : Int → Int) (v4 : Int) (o5 : Option LV), K.1 2 - v4 ≤ m → 0 ≤ v4 → v4 ≤ K.1 2 → rps K T v4.toNat T' → UR g u K T' → rd u 182 52 = cnP (itD K T0 n) (K.1 2).toNat → Rn xs xl e mm_findRun 35 [some (.inr (.inr 182)), some (.inl v1), some (.inl 1), some (.inl (T 0)), some (.inl v4), o5] [] u Q := by
      intro m
      have stop : ∀ (u : LH) (T' : Int → Int) (v4 : Int) (o5 : Option LV), K.1 2 ≤ v4 → v4 ≤ K.1 2 → rps K T v4.toNat T' → UR g u K T' → rd u 182 52 = cnP (itD K T0 n) (K.1 2).toNat → Rn xs xl e mm_findRun 117 [some (.inr (.inr 182)), some (.inl v1), some (.inl 1), some (.inl (T 0)), some (.inl v4), o5] [] u Q := by
        intro u T' v4 o5 a0 a1 rp uu u52
        rw [show v4 = K.1 2 by omega] at rp
        refine B_findRun_117 (RF_of uu.1.1) (l120 (K.1 2).toNat u T' v1 0 o5 (by omega) (by omega) (by omega) rp uu ?_ (fun b b0 b1 => ?_))
        · rw [u52, miP_0]
        · rw [vb b b0 b1]
          unfold miP
          exact ⟨fun y => ⟨y.1, Or.inr ⟨b0, y.2⟩⟩, fun y => ⟨y.1, y.2.elim (fun z => by omega) (fun y => y.2)⟩⟩
      induction m with
      | zero =>
        intro u T' v4 o5 hm a0 a1 rp uu u52
        have u2 := UR_K uu 2
        exact B_findRun_35 (RF_of uu.1.1) (by omega) (by omega) ⟨fun _ => stop u T' v4 o5 (by omega) a1 rp uu u52, fun c => by omega⟩
      | succ m im =>
        intro u T' v4 o5 hm a0 a1 rp uu u52
        have u2 := UR_K uu 2
        refine B_findRun_35 (RF_of uu.1.1) (by omega) (by omega) ⟨fun c => stop u T' v4 o5 (by omega) a1 rp uu u52, fun c => ?_⟩
        have p1 : v4 < K.1 2 := by omega
        have rw' := rps_VT hc hK rv.1 _ T' (by omega) rp
        have kb4 := kb v4 a0 p1
        have sb := SB_T rw'.1 hK ⟨a0, p1⟩
        have v4b := rw'.1.2.1 v4 a0 p1
        have en : (v4 + 1).toNat = v4.toNat + 1 := by omega
        have nxt : ∀ (w : LH) (T2 : Int → Int) (v5 : Int), rgo K T' v4 T2 → UR g w K T2 → rd w 182 52 = rd u 182 52 → Rn xs xl e mm_findRun 35 [some (.inr (.inr 182)), some (.inl v1), some (.inl 1), some (.inl (T 0)), some (.inl (v4 + 1)), some (.inl v5)] [] w Q := fun w T2 v5 rg ww w52 => im w T2 (v4 + 1) _ (by omega) (by omega) (by omega) (by rw [en]; exact ⟨T', rp, by rw [Int.toNat_of_nonneg a0]; exact rg⟩) ww (w52.trans u52)
        have stay : ∀ (w : LH), rgo K T' v4 T' → UR g w K T' → rd w 182 52 = rd u 182 52 → Rn xs xl e mm_findRun 90 [some (.inr (.inr 182)), some (.inl v1), some (.inl 1), some (.inl (T 0)), some (.inl v4), some (.inl 0)] [] w Q := fun w rg ww w52 => B_findRun_90 (RF_of ww.1.1) (by omega) ⟨fun _ => nxt w T' 0 rg ww w52, fun z => absurd rfl z⟩
        have w14 := UR_T uu (j := v4 + 1554) (i := v4 + 14) (by omega) (by omega) (by omega)
        refine ⟨fun y => stay u (rgo_24 (by have := rw'.2; omega) sb kb4) uu rfl, fun y => ⟨fun z => stay u (Or.inl ⟨by omega, rfl⟩) uu rfl, fun z => ⟨8, by omega, ?_⟩⟩⟩
        have nt : T' (v4 + 14) ≠ 1 := by omega
        have S0 := UR_T uu (j := 1540) (i := 0) (by omega) (by omega) (by omega)
        have S1 := UR_T uu (j := 1540 + 1) (i := 1) (by omega) (by omega) (by omega)
        have S2 := UR_T uu (j := 1540 + v4 + 2) (i := v4 + 2) (by omega) (by omega) (by omega)
        have S8 := UR_T uu (j := 1540 + v4 + 8) (i := v4 + 8) (by omega) (by omega) (by omega)
        have S14 := UR_T uu (j := 1540 + v4 + 14) (i := v4 + 14) (by omega) (by omega) (by omega)
        have Z2 : 0 + v4 + 2 = v4 + 2 := by omega
        have Z8 : 0 + v4 + 8 = v4 + 8 := by omega
        have Z14 : 0 + v4 + 14 = v4 + 14 := by omega
        refine G_findWayX (Nat.le_refl 8) (K := K) (S := rd u 198) ⟨uu.1, uu.2.2.1, rfl⟩ (by decide) (by decide) (by omega) (by rw [S2]; exact v4b.1.2) (fun r w l wc wf ht ew el li => ?_)
        have ht0 : FHr K T' 0 v4 (zshl 1 (K.1 (4 * v4 + 117) + 10)) r := (FHr_congr (b := 1540) (b' := 0) S0 S1 (by rw [S2, Z2]) (by rw [S8, Z8]) (by rw [S14, Z14])).mp ht
        have ew0 : errW K T' 0 v4 r l := errW_congr (b := 1540) (b' := 0) S0 S1 (by rw [S2, Z2]) (by rw [S8, Z8]) (by rw [S14, Z14]) ew
        have ww : UR g w K T' := ⟨wc.1, fun a i m1 m2 m3 m4 m5 m6 => (wf a i m1 m2 m3 m4 (by omega)).trans (uu.2.1 a i m1 m2 m3 m4 m5 m6), wc.2.1, fun i i0 i1 => by rw [wc.2.2]; exact uu.2.2.2 i i0 i1⟩
        have w52 : rd w 182 52 = rd u 182 52 := wf 182 52 (by decide) (by decide) (by decide) (by decide) (by omega)
        have nil : l = [] → rgo K T' v4 T' := fun z => by
          rw [z] at ew0
          exact Or.inr ⟨nt, r, [], ht0, ew0, rfl⟩
        refine B_findRun_73 (RF_of wc.1.1) ⟨fun c3 => stay w (nil ?_) ww w52, fun c3 => ⟨fun c4 => stay w (nil ?_) ww w52, fun c4 => ?_⟩⟩
        · rcases ew0 with t | ⟨⟨t, _⟩, _⟩
          · exact t.2
          · omega
        · cases l with
          | nil => rfl
          | cons d l =>
            have : ((d :: l).length : Int) = (l.length : Int) + 1 := rfl
            omega
        · cases l with
          | nil =>
            have : (([] : List Int).length : Int) = 0 := rfl
            omega
          | cons d l =>
            have dd := errW_hd ew0
            have k1 := hK.2.1
            have ed : rd w 202 0 = d := li 0 (by show 0 < l.length + 1; omega)
            have gw := goF_T (d := d) ww ⟨a0, by omega⟩ ⟨dd.1, by omega⟩
            have gi := goV_in (d := d) hc hK ⟨a0, p1⟩ dd.1 dd.2 rw'.1
            have vd := rw'.1.2.2 d dd.1 (by omega)
            have cd := UR_T ww (j := 1540 + d + 20) (i := d + 20) (by omega) (by omega) (by omega)
            refine B_findRun_90 (RF_of wc.1.1) (by omega) ⟨fun z => absurd z (by decide), fun _ => ⟨5, by omega, ?_⟩⟩
            rw [ed]
            refine G_goesI (Nat.le_refl 5) wc.1 (Or.inr (Or.inr rfl)) ⟨a0, by omega⟩ ⟨dd.1, by omega⟩ (fun z => absurd z (by decide)) (by omega) (fun z x xI xf => ?_) (fun z x xI xg => ?_)
            · rw [gw] at z
              refine B_findRun_110 (RF_of xI.1) (by omega) (nxt x T' 1 (Or.inr ⟨nt, r, d :: l, ht0, ew0, by rw [aft_c, if_pos (by omega)]⟩) ?_ ((xf 182 52 (by decide) (by decide)).trans w52))
              refine ⟨xI, fun a i m1 m2 m3 m4 m5 m6 => (xf a i m1 m2).trans (ww.2.1 a i m1 m2 m3 m4 m5 m6), ?_, fun i i0 i1 => ?_⟩
              · rw [← ww.2.2.1]
                exact key_frs (fun a i _ _ => xf a i (by omega) (by omega)) (fun i _ _ => xf 182 i (by decide) (by decide))
              · rw [xf 198 _ (by decide) (by decide)]
                exact ww.2.2.2 i i0 i1
            · rw [gw] at z xg
              exact B_findRun_110 (RF_of xI.1) (by omega) (nxt x (wT K T' v4 d (goV K T' v4 d)) 1 (Or.inr ⟨nt, r, d :: l, ht0, ew0, by rw [aft_c, if_neg (by omega)]⟩) (UR_gone ww ⟨a0, by omega⟩ ⟨dd.1, by omega⟩ xI xg) ((xg.2.2.2.2 182 52 (by decide) (by decide) (by omega)).trans w52))
    refine B_findRun_19 (RF_of uu.1.1) ⟨fun z => absurd z (by decide), fun _ => ?_⟩
    rw [UR_T uu (j := 1540) (i := 0) (by omega) (by omega) (by omega)]
    exact l35 (K.1 2).toNat u T 0 _ (by omega) (by omega) (by omega) rfl uu u52
  have outer : ∀ (m : Nat) (u : LH) (n : Nat) (T : Int → Int) (v1 : Int) (o3 o4 o5 : Option LV), 24 - (T0 0 + n) ≤ m → T0 0 + n ≤ 24 → rdy K T0 n T → UR g u K T → rd u 182 52 = cnP (itD K T0 n) (K.1 2).toNat → (∀ b, 0 ≤ b → b < 32 → (bitZ v1 b ↔ b < K.1 2 ∧ meP K T0 n b)) → Rn xs xl e mm_findRun 19 [some (.inr (.inr 182)), some (.inl v1), some (.inl 1), o3, o4, o5] [] u Q := by
    intro m
    induction m with
    | zero =>
      intro u n T v1 o3 o4 o5 hm hn r0 uu u52 vb
      exact body u n T v1 o3 o4 o5 hn r0 uu u52 vb (fun _ _ _ _ _ _ c => by omega)
    | succ m im =>
      intro u n T v1 o3 o4 o5 hm hn r0 uu u52 vb
      exact body u n T v1 o3 o4 o5 hn r0 uu u52 vb (fun u T v1 o3 o4 o5 c r0 uu u52 vb => im u (n + 1) T v1 o3 o4 o5 (by omega) (by omega) r0 uu u52 vb)
  refine B_findRun_0 (RF_of hI.1) ⟨0, by omega, D_copies hI.1 (by omega) (by omega) (by omega) (fun u ur uf uc => ?_)⟩
  have uI : INV u := INV_far hI ur (fun a i n _ _ => uf a i (by omega))
  have uu : UR g u K T0 := ⟨uI, fun a i _ _ _ _ n _ => uf a i (by omega), by rw [← eK]; exact key_frs (fun a i _ _ => uf a i (by omega)) (fun i _ _ => uf 182 i (by omega)), fun i i0 i1 => by
    rw [uc i i0 i1, Int.zero_add]
    exact e0 i i0 i1⟩
  have z0 : ∀ N : Nat, cnP (itD K T0 0) N = 0 := fun N => by
    induction N with
    | zero => rfl
    | succ N ih =>
      show cnP (itD K T0 0) N + @ite Int _ (Classical.propDecidable _) 1 0 = 0
      rw [ih, if_neg]
      · rfl
      · rintro ⟨j, _, hj, _⟩
        omega
  refine B_findRun_10 (RF_of ur) (outer 24 _ 0 T0 0 _ _ _ (by omega) (by omega) rfl (UR_52 uu (by unfold i32; omega)) (by rw [rdw_eq, z0]) (fun b b0 b1 => ⟨fun y => absurd y bit_zero, fun y => ?_⟩))
  obtain ⟨j, _, hj, _⟩ := y.2
  omega
theorem G_runS (he : 11 ≤ e) (hI : INV h) (hE : EQL h) (gI : INV g) (hj : runJ v1 h g r) (k : ∀ g', INV g' → EQL g' → Q (some (.inl r)) g') : Rn xs xl e mm_run 0 [some (.inr (.inr 182)), some (.inl v1)] [] g Q := by
  obtain ⟨sm, hr⟩ := hj
  have fs : ∀ a i, (a < 68 ∨ 79 < a) → rd g a i = rd h a i := fun a i c => sm a i (by omega) (by omega) (by omega) (by unfold scp; omega)
  have EG : EQL g := EQL_fr hI hE (fs 2 0 (by omega)) (fs 182 2 (by omega)) (fun a i ha => by
    obtain ⟨y1, -⟩ := inK_p ha
    exact sm a i (by omega) (by omega) (by omega) (by unfold scp; omega))
  have ek : key g = key h := key_frs (fun a i _ _ => fs a i (by omega)) (fun i _ _ => fs 182 i (by omega))
  have e8 : rd g 198 = rd h 198 := funext (fun i => fs 198 i (by omega))
  rw [← ek, ← e8] at hr
  obtain ⟨L, hc⟩ := CXq_of gI EG
  have hK := KR_of gI
  have n2 := rq_people gI.1
  have k5 := EG.2.2.2.2.2.2.2.2.2.2.2.1
  have w : WC (key g) (rd g 198) g := ⟨gI, rfl, rfl⟩
  have vt := VT_of gI k5
  have kb : ∀ p, 0 ≤ p → p < (key g).1 2 → KB (key g) p := fun p p0 p1 => KB_of w (by
    have p1' : p < rd g 188 2 := p1
    omega)
  have i0 : INV (wr g 182 0 0) := wF_thrown gI (by omega) (by omega)
  have k0 : key (wr g 182 0 0) = key g := key_frs (fun a i _ _ => rdw_ne (by omega)) (fun i _ _ => rdw_nei (by omega))
  refine B_run_0 (RF_of gI.1) ⟨9, by omega, G_findRun (Nat.le_refl 9) i0 hc k0 hK kb (T0 := rd g 198) (fun i _ _ => rdw_ne (by decide)) vt (fun u T uI uf u52 ra u53 => ?_)⟩
  have uE : EQL u := EQL_fr gI EG ((uf 2 0 (by decide) (by decide) (by decide) (by decide) (by omega) (by omega)).trans (rdw_ne (by decide))) ((uf 182 2 (by decide) (by decide) (by decide) (by decide) (by omega) (by omega)).trans (rdw_nei (by decide))) (fun a i ha => by
    obtain ⟨y1, y2, y3, -⟩ := inK_p ha
    exact (uf a i (by omega) (by omega) (by omega) (by omega) (by omega) (by omega)).trans (by rw [rd_wr, if_neg (by omega)]))
  have uk : ∀ x, x = r → Q (some (.inl x)) u := fun x ex => by
    rw [ex]
    exact k u uI uE
  refine B_run_9 (RF_of uI.1) ⟨fun c => ⟨fun c2 => uk _ ?_, fun c2 => uk _ ?_⟩, fun c => uk _ ?_⟩
  · rcases hr with ⟨y, _⟩ | ⟨y, _⟩ | ⟨_, _, y⟩
    · exact absurd y c
    · exact absurd y c2
    · exact y.symm
  · rcases hr with ⟨y, _⟩ | ⟨_, T', ra', y⟩ | ⟨_, y, _⟩
    · exact absurd y c
    · rw [y, u53, raf_one hc hK kb vt (by have := vt.1; omega) ra' ra]
    · exact absurd c2 y
  · rcases hr with ⟨_, y⟩ | ⟨y, _⟩ | ⟨y, _⟩
    · rw [y, u52]
    · omega
    · exact absurd c y
end RE
end
section
/-! the law's calls, one by one, and its loop, by program (wip/sc/gen_law_s.py) -/
section LA
variable {xs : Nat → Int} {xl e : Nat} {h g : LH} {Q : Option LV → LH → Prop}
theorem inK_muY {a i : Int} (ha : inK a i) : ¬ muY a i := by
  obtain ⟨y1, y2, y3, y4, y5⟩ := inK_p ha
  unfold muY
  omega
theorem inK_182 {a i : Int} (ha : inK a i) : ¬ (a = 182 ∧ (i = 0 ∨ i = 2)) := by
  obtain ⟨y1, y2, -⟩ := inK_p ha
  omega
theorem inK_2 {a i : Int} (ha : inK a i) : a ≠ 2 := by
  obtain ⟨y1, -⟩ := inK_p ha
  omega
theorem LW_0 {v3 : Int} (hxs : ∀ j, i32 (xs j)) (h0 : 0 ≤ v3) (h1 : v3 + 7 ≤ (xl : Int)) (hx : xl ≤ 3584) (hI : INV h) (hE : EQL h) (k : ∀ g, INV g → EQL g → Rn xs xl 64 mm_OneSidedLaw_law 1231 [some (.inr (.inr (-2))), some (.inr (.inr 1)), some (.inr (.inr 182)), some (.inl v3)] [] g Q) : Rn xs xl 64 mm_OneSidedLaw_law 164 [some (.inr (.inr (-2))), some (.inr (.inr 1)), some (.inr (.inr 182)), some (.inl v3)] [] h Q := by
  refine B_law_164 (RF_of hI.1) (by omega) ⟨by omega, by omega, by omega, by omega, by omega, by omega, 63, by decide, E_feedX (by decide) hI (fun g gI ge gx gf => ?_)⟩
  refine B_law_229 (RF_of gI.1) (by omega) ⟨by omega, by omega, by omega, by omega, by omega, by omega, 63, by decide, D_feedX (r64 _ _) (r64 _ _) (r64 _ _) (by decide) gI (fun g2 i2 e2 x2 f2 => ?_)⟩
  have e0 : rd g 182 2 = rd h 182 2 := gf 182 2 (by decide) (by decide)
  have x0 : rd g 183 = rd h 183 := funext (fun i => gf 183 i (by omega) (by decide))
  have e3 : rd g2 2 0 = rd g 2 0 := f2 2 0 (by decide) (by decide)
  have x3 : rd g2 3 = rd g 3 := funext (fun i => f2 3 i (by omega) (by decide))
  have hE' : rd h 2 0 = rd h 182 2 := hE.1
  rw [e0, ← hE'] at e2 x2
  rw [x0] at x2
  refine B_law_295 (RF_of i2.1) (by omega) (k g2 i2 ⟨?_, fun i i0 i1 => ?_, EQS_fr hI hE.2.2 (fun a i ha n3 n183 _ => (f2 a i (inK_182 ha) n183).trans (gf a i (fun z => inK_2 ha z.1) n3))⟩)
  · rw [e3, ge, e2]
  · rw [e3, ge] at i1
    rw [x3, gx, x2]
    exact fedX3_ag hE.2.1 i i0 i1
theorem LW_1 {v3 : Int} (hxs : ∀ j, i32 (xs j)) (h0 : 0 ≤ v3) (h1 : v3 + 7 ≤ (xl : Int)) (hx : xl ≤ 3584) (hI : INV h) (hE : EQL h) (k : ∀ g, INV g → EQL g → Rn xs xl 64 mm_OneSidedLaw_law 1231 [some (.inr (.inr (-2))), some (.inr (.inr 1)), some (.inr (.inr 182)), some (.inl v3)] [] g Q) : Rn xs xl 64 mm_OneSidedLaw_law 299 [some (.inr (.inr (-2))), some (.inr (.inr 1)), some (.inr (.inr 182)), some (.inl v3)] [] h Q := by
  exact B_law_299 (RF_of hI.1) (by omega) ⟨63, by decide, E_quarterJS (by decide) hI hE (fun g gI gj => B_law_303 (RF_of gI.1) (by omega) ⟨63, by decide, G_quarterJS (by decide) hI hE gI gj (fun g2 i2 E2 => B_law_308 (RF_of i2.1) (by omega) (k g2 i2 E2))⟩)⟩
theorem LW_2 {v3 : Int} (hxs : ∀ j, i32 (xs j)) (h0 : 0 ≤ v3) (h1 : v3 + 7 ≤ (xl : Int)) (hx : xl ≤ 3584) (hI : INV h) (hE : EQL h) (k : ∀ g, INV g → EQL g → Rn xs xl 64 mm_OneSidedLaw_law 1231 [some (.inr (.inr (-2))), some (.inr (.inr 1)), some (.inr (.inr 182)), some (.inl v3)] [] g Q) : Rn xs xl 64 mm_OneSidedLaw_law 312 [some (.inr (.inr (-2))), some (.inr (.inr 1)), some (.inr (.inr 182)), some (.inl v3)] [] h Q := by
  have day_F : ∀ {g g2 : LH}, INV g → rd g 2 0 = 0 → EQS g → rd g2 182 2 = 0 → (∀ a i, ¬ muY a i → rd g2 a i = rd g a i) → EQL g2 := fun gI gz gP e2 f2 => EQL_0 ((f2 2 0 (by unfold muY; omega)).trans gz) e2 (EQS_fr gI gP (fun a i ha _ _ _ => f2 a i (inK_muY ha)))
  have S : ∀ (r : Int) (g : LH), INV g → rd g 2 0 = 0 → EQS g → Rn xs xl 64 mm_OneSidedLaw_law 316 [some (.inr (.inr (-2))), some (.inr (.inr 1)), some (.inr (.inr 182)), some (.inl v3)] [.inl r] g Q := by
    intro r g gI gz gP
    exact B_law_316 (RF_of gI.1) (by omega) ⟨63, by decide, D_day (by decide) gI (fun r2 g2 i2 e2 f2 => B_law_321 (RF_of i2.1) (by omega) (k g2 i2 (day_F gI gz gP e2 f2)))⟩
  exact B_law_312 (RF_of hI.1) (by omega) ⟨63, by decide, root_0 TD_day (as := [.inr (.inr 1)]) rfl (Nat.le_of_ble_eq_true rfl) hI (gAr_c (g_ref 1) gAr_n) rfl (Nat.le_of_ble_eq_true rfl) rfl rfl rfl (fun r g gI gz gf => S r g gI gz (EQS_fr hI hE.2.2 (fun a i ha _ _ _ => gf a i (dsj_ok (by decide +kernel) ha))))⟩
theorem LW_3 {v3 : Int} (hxs : ∀ j, i32 (xs j)) (h0 : 0 ≤ v3) (h1 : v3 + 7 ≤ (xl : Int)) (hx : xl ≤ 3584) (hI : INV h) (hE : EQL h) (k : ∀ g, INV g → EQL g → Rn xs xl 64 mm_OneSidedLaw_law 1231 [some (.inr (.inr (-2))), some (.inr (.inr 1)), some (.inr (.inr 182)), some (.inl v3)] [] g Q) : Rn xs xl 64 mm_OneSidedLaw_law 325 [some (.inr (.inr (-2))), some (.inr (.inr 1)), some (.inr (.inr 182)), some (.inl v3)] [] h Q := by
  have S : ∀ (r : Int) (g : LH), INV g → EQL g → Rn xs xl 64 mm_OneSidedLaw_law 339 [some (.inr (.inr (-2))), some (.inr (.inr 1)), some (.inr (.inr 182)), some (.inl v3)] [.inl r] g Q := by
    intro r g gI EG
    exact B_law_339 (RF_of gI.1) (by omega) ⟨by omega, by omega, 63, by decide, root_i TR_door (as := [.inr (.inr 182), .inl (xs (v3 + 1).toNat), .inl (xs (v3 + 2).toNat)]) rfl (Nat.le_of_ble_eq_true rfl) gI (gAr_c (g_ref 182) (gAr_c (g_i (hxs _)) (gAr_c (g_i (hxs _)) gAr_n))) rfl (Nat.le_of_ble_eq_true rfl) rfl rfl rfl (by decide +kernel) (by decide +kernel) (by decide +kernel) EG (fun r2 g2 i2 E2 => B_law_354 (RF_of i2.1) (by omega) (k g2 i2 E2))⟩
  exact B_law_325 (RF_of hI.1) (by omega) ⟨by omega, by omega, 63, by decide, root_i TC_door (as := [.inr (.inr 1), .inl (xs (v3 + 1).toNat), .inl (xs (v3 + 2).toNat)]) rfl (Nat.le_of_ble_eq_true rfl) hI (gAr_c (g_ref 1) (gAr_c (g_i (hxs _)) (gAr_c (g_i (hxs _)) gAr_n))) rfl (Nat.le_of_ble_eq_true rfl) rfl rfl rfl (by decide +kernel) (by decide +kernel) (by decide +kernel) hE (fun r g gI EG => S r g gI EG)⟩
theorem LW_4 {v3 : Int} (hxs : ∀ j, i32 (xs j)) (h0 : 0 ≤ v3) (h1 : v3 + 7 ≤ (xl : Int)) (hx : xl ≤ 3584) (hI : INV h) (hE : EQL h) (k : ∀ g, INV g → EQL g → Rn xs xl 64 mm_OneSidedLaw_law 1231 [some (.inr (.inr (-2))), some (.inr (.inr 1)), some (.inr (.inr 182)), some (.inl v3)] [] g Q) : Rn xs xl 64 mm_OneSidedLaw_law 358 [some (.inr (.inr (-2))), some (.inr (.inr 1)), some (.inr (.inr 182)), some (.inl v3)] [] h Q := by
  have S : ∀ (r : Int) (g : LH), INV g → EQL g → Rn xs xl 64 mm_OneSidedLaw_law 372 [some (.inr (.inr (-2))), some (.inr (.inr 1)), some (.inr (.inr 182)), some (.inl v3)] [.inl r] g Q := by
    intro r g gI EG
    exact B_law_372 (RF_of gI.1) (by omega) ⟨by omega, by omega, 63, by decide, root_i TR_person (as := [.inr (.inr 182), .inl (xs (v3 + 1).toNat), .inl (xs (v3 + 2).toNat)]) rfl (Nat.le_of_ble_eq_true rfl) gI (gAr_c (g_ref 182) (gAr_c (g_i (hxs _)) (gAr_c (g_i (hxs _)) gAr_n))) rfl (Nat.le_of_ble_eq_true rfl) rfl rfl rfl (by decide +kernel) (by decide +kernel) (by decide +kernel) EG (fun r2 g2 i2 E2 => B_law_387 (RF_of i2.1) (by omega) (k g2 i2 E2))⟩
  exact B_law_358 (RF_of hI.1) (by omega) ⟨by omega, by omega, 63, by decide, root_i TC_person (as := [.inr (.inr 1), .inl (xs (v3 + 1).toNat), .inl (xs (v3 + 2).toNat)]) rfl (Nat.le_of_ble_eq_true rfl) hI (gAr_c (g_ref 1) (gAr_c (g_i (hxs _)) (gAr_c (g_i (hxs _)) gAr_n))) rfl (Nat.le_of_ble_eq_true rfl) rfl rfl rfl (by decide +kernel) (by decide +kernel) (by decide +kernel) hE (fun r g gI EG => S r g gI EG)⟩
theorem LW_5 {v3 : Int} (hxs : ∀ j, i32 (xs j)) (h0 : 0 ≤ v3) (h1 : v3 + 7 ≤ (xl : Int)) (hx : xl ≤ 3584) (hI : INV h) (hE : EQL h) (k : ∀ g, INV g → EQL g → Rn xs xl 64 mm_OneSidedLaw_law 1231 [some (.inr (.inr (-2))), some (.inr (.inr 1)), some (.inr (.inr 182)), some (.inl v3)] [] g Q) : Rn xs xl 64 mm_OneSidedLaw_law 391 [some (.inr (.inr (-2))), some (.inr (.inr 1)), some (.inr (.inr 182)), some (.inl v3)] [] h Q := by
  have S : ∀ (r : Int) (g : LH), INV g → EQL g → Rn xs xl 64 mm_OneSidedLaw_law 415 [some (.inr (.inr (-2))), some (.inr (.inr 1)), some (.inr (.inr 182)), some (.inl v3)] [.inl r] g Q := by
    intro r g gI EG
    exact B_law_415 (RF_of gI.1) (by omega) ⟨by omega, by omega, by omega, by omega, 63, by decide, root_i TR_leads (as := [.inr (.inr 182), .inl (xs (v3 + 1).toNat), .inl (xs (v3 + 2).toNat), .inl (xs (v3 + 3).toNat), .inl (xs (v3 + 4).toNat)]) rfl (Nat.le_of_ble_eq_true rfl) gI (gAr_c (g_ref 182) (gAr_c (g_i (hxs _)) (gAr_c (g_i (hxs _)) (gAr_c (g_i (hxs _)) (gAr_c (g_i (hxs _)) gAr_n))))) rfl (Nat.le_of_ble_eq_true rfl) rfl rfl rfl (by decide +kernel) (by decide +kernel) (by decide +kernel) EG (fun r2 g2 i2 E2 => B_law_440 (RF_of i2.1) (by omega) (k g2 i2 E2))⟩
  exact B_law_391 (RF_of hI.1) (by omega) ⟨by omega, by omega, by omega, by omega, 63, by decide, root_i TC_leads (as := [.inr (.inr 1), .inl (xs (v3 + 1).toNat), .inl (xs (v3 + 2).toNat), .inl (xs (v3 + 3).toNat), .inl (xs (v3 + 4).toNat)]) rfl (Nat.le_of_ble_eq_true rfl) hI (gAr_c (g_ref 1) (gAr_c (g_i (hxs _)) (gAr_c (g_i (hxs _)) (gAr_c (g_i (hxs _)) (gAr_c (g_i (hxs _)) gAr_n))))) rfl (Nat.le_of_ble_eq_true rfl) rfl rfl rfl (by decide +kernel) (by decide +kernel) (by decide +kernel) hE (fun r g gI EG => S r g gI EG)⟩
theorem LW_6 {v3 : Int} (hxs : ∀ j, i32 (xs j)) (h0 : 0 ≤ v3) (h1 : v3 + 7 ≤ (xl : Int)) (hx : xl ≤ 3584) (hI : INV h) (hE : EQL h) (k : ∀ g, INV g → EQL g → Rn xs xl 64 mm_OneSidedLaw_law 1231 [some (.inr (.inr (-2))), some (.inr (.inr 1)), some (.inr (.inr 182)), some (.inl v3)] [] g Q) : Rn xs xl 64 mm_OneSidedLaw_law 444 [some (.inr (.inr (-2))), some (.inr (.inr 1)), some (.inr (.inr 182)), some (.inl v3)] [] h Q := by
  exact B_law_444 (RF_of hI.1) (by omega) ⟨by omega, by omega, 63, by decide, E_goS (by decide) hI hE (hxs _) (hxs _) (fun r g gI gj => B_law_458 (RF_of gI.1) (by omega) ⟨by omega, by omega, 63, by decide, G_goS (by decide) hI hE gI gj (fun g2 i2 E2 => B_law_473 (RF_of i2.1) (by omega) (k g2 i2 E2))⟩)⟩
theorem LW_7 {v3 : Int} (hxs : ∀ j, i32 (xs j)) (h0 : 0 ≤ v3) (h1 : v3 + 7 ≤ (xl : Int)) (hx : xl ≤ 3584) (hI : INV h) (hE : EQL h) (k : ∀ g, INV g → EQL g → Rn xs xl 64 mm_OneSidedLaw_law 1231 [some (.inr (.inr (-2))), some (.inr (.inr 1)), some (.inr (.inr 182)), some (.inl v3)] [] g Q) : Rn xs xl 64 mm_OneSidedLaw_law 477 [some (.inr (.inr (-2))), some (.inr (.inr 1)), some (.inr (.inr 182)), some (.inl v3)] [] h Q := by
  exact B_law_477 (RF_of hI.1) (by omega) ⟨by omega, 63, by decide, E_hoursS (by decide) hI hE (hxs _) (fun r g gI gj => B_law_486 (RF_of gI.1) (by omega) ⟨by omega, 63, by decide, G_hoursS (by decide) hI hE gI gj (fun g2 i2 E2 => B_law_496 (RF_of i2.1) (by omega) (k g2 i2 E2))⟩)⟩
theorem LW_8 {v3 : Int} (hxs : ∀ j, i32 (xs j)) (h0 : 0 ≤ v3) (h1 : v3 + 7 ≤ (xl : Int)) (hx : xl ≤ 3584) (hI : INV h) (hE : EQL h) (k : ∀ g, INV g → EQL g → Rn xs xl 64 mm_OneSidedLaw_law 1231 [some (.inr (.inr (-2))), some (.inr (.inr 1)), some (.inr (.inr 182)), some (.inl v3)] [] g Q) : Rn xs xl 64 mm_OneSidedLaw_law 500 [some (.inr (.inr (-2))), some (.inr (.inr 1)), some (.inr (.inr 182)), some (.inl v3)] [] h Q := by
  exact B_law_500 (RF_of hI.1) (by omega) ⟨by omega, by omega, fun c => ⟨63, by decide, E_shutS (by decide) hI hE (hxs _) g_z0 (by omega) (fun r g gI gj => B_law_522 (RF_of gI.1) (by omega) ⟨by omega, by omega, fun _ => ⟨63, by decide, G_shutS (by decide) hI hE gI (by omega) gj (fun g2 i2 E2 => B_law_545 (RF_of i2.1) (by omega) (k g2 i2 E2))⟩, fun z => absurd c z⟩)⟩, fun c => ⟨63, by decide, E_shutS (by decide) hI hE (hxs _) g_z1 (by omega) (fun r g gI gj => B_law_522 (RF_of gI.1) (by omega) ⟨by omega, by omega, fun z => absurd z c, fun _ => ⟨63, by decide, G_shutS (by decide) hI hE gI (by omega) gj (fun g2 i2 E2 => B_law_545 (RF_of i2.1) (by omega) (k g2 i2 E2))⟩⟩)⟩⟩
theorem LW_9 {v3 : Int} (hxs : ∀ j, i32 (xs j)) (h0 : 0 ≤ v3) (h1 : v3 + 7 ≤ (xl : Int)) (hx : xl ≤ 3584) (hI : INV h) (hE : EQL h) (k : ∀ g, INV g → EQL g → Rn xs xl 64 mm_OneSidedLaw_law 1231 [some (.inr (.inr (-2))), some (.inr (.inr 1)), some (.inr (.inr 182)), some (.inl v3)] [] g Q) : Rn xs xl 64 mm_OneSidedLaw_law 549 [some (.inr (.inr (-2))), some (.inr (.inr 1)), some (.inr (.inr 182)), some (.inl v3)] [] h Q := by
  exact B_law_549 (RF_of hI.1) (by omega) ⟨63, by decide, E_undoS (by decide) hI hE (fun r g gI gj => B_law_553 (RF_of gI.1) (by omega) ⟨63, by decide, G_undoS (by decide) hI hE gI gj (fun g2 i2 E2 => B_law_558 (RF_of i2.1) (by omega) (k g2 i2 E2))⟩)⟩
theorem LW_10 {v3 : Int} (hxs : ∀ j, i32 (xs j)) (h0 : 0 ≤ v3) (h1 : v3 + 7 ≤ (xl : Int)) (hx : xl ≤ 3584) (hI : INV h) (hE : EQL h) (k : ∀ g, INV g → EQL g → Rn xs xl 64 mm_OneSidedLaw_law 1231 [some (.inr (.inr (-2))), some (.inr (.inr 1)), some (.inr (.inr 182)), some (.inl v3)] [] g Q) : Rn xs xl 64 mm_OneSidedLaw_law 562 [some (.inr (.inr (-2))), some (.inr (.inr 1)), some (.inr (.inr 182)), some (.inl v3)] [] h Q := by
  have S : ∀ (r : Int) (g : LH), INV g → EQL g → Rn xs xl 64 mm_OneSidedLaw_law 571 [some (.inr (.inr (-2))), some (.inr (.inr 1)), some (.inr (.inr 182)), some (.inl v3)] [.inl r] g Q := by
    intro r g gI EG
    exact B_law_571 (RF_of gI.1) (by omega) ⟨by omega, 63, by decide, D_judgedS (by decide) gI (fun r2 g2 i2 f2 => B_law_581 (RF_of i2.1) (by omega) (k g2 i2 (EQL_fr gI EG (f2 2 0 (by decide) (by decide) (fun z => absurd z (by decide)) (by decide)) (f2 182 2 (by decide) (by decide) (fun z => absurd z (by decide)) (by decide)) (fun a i ha => by obtain ⟨y1, y2, y3, -⟩ := inK_p ha; exact f2 a i (by omega) (by omega) (fun z => by omega) (by omega)))))⟩
  exact B_law_562 (RF_of hI.1) (by omega) ⟨by omega, 63, by decide, root_i TD_judged (as := [.inr (.inr 1), .inl (xs (v3 + 1).toNat)]) rfl (Nat.le_of_ble_eq_true rfl) hI (gAr_c (g_ref 1) (gAr_c (g_i (hxs _)) gAr_n)) rfl (Nat.le_of_ble_eq_true rfl) rfl rfl rfl (by decide +kernel) (by decide +kernel) (by decide +kernel) hE (fun r g gI EG => S r g gI EG)⟩
theorem LW_11 {v3 : Int} (hxs : ∀ j, i32 (xs j)) (h0 : 0 ≤ v3) (h1 : v3 + 7 ≤ (xl : Int)) (hx : xl ≤ 3584) (hI : INV h) (hE : EQL h) (k : ∀ g, INV g → EQL g → Rn xs xl 64 mm_OneSidedLaw_law 1231 [some (.inr (.inr (-2))), some (.inr (.inr 1)), some (.inr (.inr 182)), some (.inl v3)] [] g Q) : Rn xs xl 64 mm_OneSidedLaw_law 585 [some (.inr (.inr (-2))), some (.inr (.inr 1)), some (.inr (.inr 182)), some (.inl v3)] [] h Q := by
  have S : ∀ (r : Int) (g : LH), INV g → EQL g → Rn xs xl 64 mm_OneSidedLaw_law 599 [some (.inr (.inr (-2))), some (.inr (.inr 1)), some (.inr (.inr 182)), some (.inl v3)] [.inl r] g Q := by
    intro r g gI EG
    exact B_law_599 (RF_of gI.1) (by omega) ⟨by omega, by omega, 63, by decide, root_i TR_soonest (as := [.inr (.inr 182), .inl (xs (v3 + 1).toNat), .inl (xs (v3 + 2).toNat)]) rfl (Nat.le_of_ble_eq_true rfl) gI (gAr_c (g_ref 182) (gAr_c (g_i (hxs _)) (gAr_c (g_i (hxs _)) gAr_n))) rfl (Nat.le_of_ble_eq_true rfl) rfl rfl rfl (by decide +kernel) (by decide +kernel) (by decide +kernel) EG (fun r2 g2 i2 E2 => B_law_614 (RF_of i2.1) (by omega) (k g2 i2 E2))⟩
  exact B_law_585 (RF_of hI.1) (by omega) ⟨by omega, by omega, 63, by decide, root_i TC_soonest (as := [.inr (.inr 1), .inl (xs (v3 + 1).toNat), .inl (xs (v3 + 2).toNat)]) rfl (Nat.le_of_ble_eq_true rfl) hI (gAr_c (g_ref 1) (gAr_c (g_i (hxs _)) (gAr_c (g_i (hxs _)) gAr_n))) rfl (Nat.le_of_ble_eq_true rfl) rfl rfl rfl (by decide +kernel) (by decide +kernel) (by decide +kernel) hE (fun r g gI EG => S r g gI EG)⟩
theorem LW_12 {v3 : Int} (hxs : ∀ j, i32 (xs j)) (h0 : 0 ≤ v3) (h1 : v3 + 7 ≤ (xl : Int)) (hx : xl ≤ 3584) (hI : INV h) (hE : EQL h) (k : ∀ g, INV g → EQL g → Rn xs xl 64 mm_OneSidedLaw_law 1231 [some (.inr (.inr (-2))), some (.inr (.inr 1)), some (.inr (.inr 182)), some (.inl v3)] [] g Q) : Rn xs xl 64 mm_OneSidedLaw_law 618 [some (.inr (.inr (-2))), some (.inr (.inr 1)), some (.inr (.inr 182)), some (.inl v3)] [] h Q := by
  have S : ∀ (r : Int) (g : LH), INV g → EQL g → Rn xs xl 64 mm_OneSidedLaw_law 632 [some (.inr (.inr (-2))), some (.inr (.inr 1)), some (.inr (.inr 182)), some (.inl v3)] [.inl r] g Q := by
    intro r g gI EG
    exact B_law_632 (RF_of gI.1) (by omega) ⟨by omega, by omega, 63, by decide, D_errand (by decide) gI (fun r2 g2 i2 f2 => B_law_647 (RF_of i2.1) (by omega) (k g2 i2 (EQL_fr gI EG ((f2 2 0 (by decide) (by decide) (by decide) (by decide) (by decide)).trans (rdw_ne (by decide))) ((f2 182 2 (by decide) (by decide) (by decide) (by decide) (by decide)).trans (rdw_nei (by decide))) (fun a i ha => by obtain ⟨y1, y2, y3, -⟩ := inK_p ha; exact (f2 a i (by omega) (by omega) (by omega) (by omega) (by omega)).trans (by rw [rd_wr, if_neg (by omega)])))))⟩
  exact B_law_618 (RF_of hI.1) (by omega) ⟨by omega, by omega, 63, by decide, root_i TC_errand (as := [.inr (.inr 1), .inl (xs (v3 + 1).toNat), .inl (xs (v3 + 2).toNat)]) rfl (Nat.le_of_ble_eq_true rfl) hI (gAr_c (g_ref 1) (gAr_c (g_i (hxs _)) (gAr_c (g_i (hxs _)) gAr_n))) rfl (Nat.le_of_ble_eq_true rfl) rfl rfl rfl (by decide +kernel) (by decide +kernel) (by decide +kernel) hE (fun r g gI EG => S r g gI EG)⟩
theorem LW_13 {v3 : Int} (hxs : ∀ j, i32 (xs j)) (h0 : 0 ≤ v3) (h1 : v3 + 7 ≤ (xl : Int)) (hx : xl ≤ 3584) (hI : INV h) (hE : EQL h) (k : ∀ g, INV g → EQL g → Rn xs xl 64 mm_OneSidedLaw_law 1231 [some (.inr (.inr (-2))), some (.inr (.inr 1)), some (.inr (.inr 182)), some (.inl v3)] [] g Q) : Rn xs xl 64 mm_OneSidedLaw_law 651 [some (.inr (.inr (-2))), some (.inr (.inr 1)), some (.inr (.inr 182)), some (.inl v3)] [] h Q := by
  have S : ∀ (r : Int) (g : LH), INV g → EQL g → Rn xs xl 64 mm_OneSidedLaw_law 660 [some (.inr (.inr (-2))), some (.inr (.inr 1)), some (.inr (.inr 182)), some (.inl v3)] [.inl r] g Q := by
    intro r g gI EG
    exact B_law_660 (RF_of gI.1) (by omega) ⟨by omega, 63, by decide, root_i TR_reach (as := [.inr (.inr 182), .inl (xs (v3 + 1).toNat)]) rfl (Nat.le_of_ble_eq_true rfl) gI (gAr_c (g_ref 182) (gAr_c (g_i (hxs _)) gAr_n)) rfl (Nat.le_of_ble_eq_true rfl) rfl rfl rfl (by decide +kernel) (by decide +kernel) (by decide +kernel) EG (fun r2 g2 i2 E2 => B_law_670 (RF_of i2.1) (by omega) (k g2 i2 E2))⟩
  exact B_law_651 (RF_of hI.1) (by omega) ⟨by omega, 63, by decide, root_i TC_reach (as := [.inr (.inr 1), .inl (xs (v3 + 1).toNat)]) rfl (Nat.le_of_ble_eq_true rfl) hI (gAr_c (g_ref 1) (gAr_c (g_i (hxs _)) gAr_n)) rfl (Nat.le_of_ble_eq_true rfl) rfl rfl rfl (by decide +kernel) (by decide +kernel) (by decide +kernel) hE (fun r g gI EG => S r g gI EG)⟩
theorem LW_14 {v3 : Int} (hxs : ∀ j, i32 (xs j)) (h0 : 0 ≤ v3) (h1 : v3 + 7 ≤ (xl : Int)) (hx : xl ≤ 3584) (hI : INV h) (hE : EQL h) (k : ∀ g, INV g → EQL g → Rn xs xl 64 mm_OneSidedLaw_law 1231 [some (.inr (.inr (-2))), some (.inr (.inr 1)), some (.inr (.inr 182)), some (.inl v3)] [] g Q) : Rn xs xl 64 mm_OneSidedLaw_law 674 [some (.inr (.inr (-2))), some (.inr (.inr 1)), some (.inr (.inr 182)), some (.inl v3)] [] h Q := by
  have S : ∀ (r : Int) (g : LH), INV g → EQL g → Rn xs xl 64 mm_OneSidedLaw_law 678 [some (.inr (.inr (-2))), some (.inr (.inr 1)), some (.inr (.inr 182)), some (.inl v3)] [.inl r] g Q := by
    intro r g gI EG
    exact B_law_678 (RF_of gI.1) (by omega) ⟨63, by decide, root_i TR_stuck (as := [.inr (.inr 182)]) rfl (Nat.le_of_ble_eq_true rfl) gI (gAr_c (g_ref 182) gAr_n) rfl (Nat.le_of_ble_eq_true rfl) rfl rfl rfl (by decide +kernel) (by decide +kernel) (by decide +kernel) EG (fun r2 g2 i2 E2 => B_law_683 (RF_of i2.1) (by omega) (k g2 i2 E2))⟩
  exact B_law_674 (RF_of hI.1) (by omega) ⟨63, by decide, root_i TC_stuck (as := [.inr (.inr 1)]) rfl (Nat.le_of_ble_eq_true rfl) hI (gAr_c (g_ref 1) gAr_n) rfl (Nat.le_of_ble_eq_true rfl) rfl rfl rfl (by decide +kernel) (by decide +kernel) (by decide +kernel) hE (fun r g gI EG => S r g gI EG)⟩
theorem LW_15 {v3 : Int} (hxs : ∀ j, i32 (xs j)) (h0 : 0 ≤ v3) (h1 : v3 + 7 ≤ (xl : Int)) (hx : xl ≤ 3584) (hI : INV h) (hE : EQL h) (k : ∀ g, INV g → EQL g → Rn xs xl 64 mm_OneSidedLaw_law 1231 [some (.inr (.inr (-2))), some (.inr (.inr 1)), some (.inr (.inr 182)), some (.inl v3)] [] g Q) : Rn xs xl 64 mm_OneSidedLaw_law 687 [some (.inr (.inr (-2))), some (.inr (.inr 1)), some (.inr (.inr 182)), some (.inl v3)] [] h Q := by
  have S : ∀ (r : Int) (g : LH), INV g → EQL g → Rn xs xl 64 mm_OneSidedLaw_law 706 [some (.inr (.inr (-2))), some (.inr (.inr 1)), some (.inr (.inr 182)), some (.inl v3)] [.inl r] g Q := by
    intro r g gI EG
    exact B_law_706 (RF_of gI.1) (by omega) ⟨by omega, by omega, by omega, 63, by decide, root_i TR_ring (as := [.inr (.inr 182), .inl (xs (v3 + 1).toNat), .inl (xs (v3 + 2).toNat), .inl (xs (v3 + 3).toNat)]) rfl (Nat.le_of_ble_eq_true rfl) gI (gAr_c (g_ref 182) (gAr_c (g_i (hxs _)) (gAr_c (g_i (hxs _)) (gAr_c (g_i (hxs _)) gAr_n)))) rfl (Nat.le_of_ble_eq_true rfl) rfl rfl rfl (by decide +kernel) (by decide +kernel) (by decide +kernel) EG (fun r2 g2 i2 E2 => B_law_726 (RF_of i2.1) (by omega) (k g2 i2 E2))⟩
  exact B_law_687 (RF_of hI.1) (by omega) ⟨by omega, by omega, by omega, 63, by decide, root_i TC_ring (as := [.inr (.inr 1), .inl (xs (v3 + 1).toNat), .inl (xs (v3 + 2).toNat), .inl (xs (v3 + 3).toNat)]) rfl (Nat.le_of_ble_eq_true rfl) hI (gAr_c (g_ref 1) (gAr_c (g_i (hxs _)) (gAr_c (g_i (hxs _)) (gAr_c (g_i (hxs _)) gAr_n)))) rfl (Nat.le_of_ble_eq_true rfl) rfl rfl rfl (by decide +kernel) (by decide +kernel) (by decide +kernel) hE (fun r g gI EG => S r g gI EG)⟩
theorem LW_16 {v3 : Int} (hxs : ∀ j, i32 (xs j)) (h0 : 0 ≤ v3) (h1 : v3 + 7 ≤ (xl : Int)) (hx : xl ≤ 3584) (hI : INV h) (hE : EQL h) (k : ∀ g, INV g → EQL g → Rn xs xl 64 mm_OneSidedLaw_law 1231 [some (.inr (.inr (-2))), some (.inr (.inr 1)), some (.inr (.inr 182)), some (.inl v3)] [] g Q) : Rn xs xl 64 mm_OneSidedLaw_law 730 [some (.inr (.inr (-2))), some (.inr (.inr 1)), some (.inr (.inr 182)), some (.inl v3)] [] h Q := by
  have S : ∀ (r : Int) (g : LH), INV g → EQL g → Rn xs xl 64 mm_OneSidedLaw_law 749 [some (.inr (.inr (-2))), some (.inr (.inr 1)), some (.inr (.inr 182)), some (.inl v3)] [.inl r] g Q := by
    intro r g gI EG
    exact B_law_749 (RF_of gI.1) (by omega) ⟨by omega, by omega, by omega, 63, by decide, root_i TR_homeless (as := [.inr (.inr 182), .inl (xs (v3 + 1).toNat), .inl (xs (v3 + 2).toNat), .inl (xs (v3 + 3).toNat)]) rfl (Nat.le_of_ble_eq_true rfl) gI (gAr_c (g_ref 182) (gAr_c (g_i (hxs _)) (gAr_c (g_i (hxs _)) (gAr_c (g_i (hxs _)) gAr_n)))) rfl (Nat.le_of_ble_eq_true rfl) rfl rfl rfl (by decide +kernel) (by decide +kernel) (by decide +kernel) EG (fun r2 g2 i2 E2 => B_law_769 (RF_of i2.1) (by omega) (k g2 i2 E2))⟩
  exact B_law_730 (RF_of hI.1) (by omega) ⟨by omega, by omega, by omega, 63, by decide, root_i TC_homeless (as := [.inr (.inr 1), .inl (xs (v3 + 1).toNat), .inl (xs (v3 + 2).toNat), .inl (xs (v3 + 3).toNat)]) rfl (Nat.le_of_ble_eq_true rfl) hI (gAr_c (g_ref 1) (gAr_c (g_i (hxs _)) (gAr_c (g_i (hxs _)) (gAr_c (g_i (hxs _)) gAr_n)))) rfl (Nat.le_of_ble_eq_true rfl) rfl rfl rfl (by decide +kernel) (by decide +kernel) (by decide +kernel) hE (fun r g gI EG => S r g gI EG)⟩
theorem LW_17 {v3 : Int} (hxs : ∀ j, i32 (xs j)) (h0 : 0 ≤ v3) (h1 : v3 + 7 ≤ (xl : Int)) (hx : xl ≤ 3584) (hI : INV h) (hE : EQL h) (k : ∀ g, INV g → EQL g → Rn xs xl 64 mm_OneSidedLaw_law 1231 [some (.inr (.inr (-2))), some (.inr (.inr 1)), some (.inr (.inr 182)), some (.inl v3)] [] g Q) : Rn xs xl 64 mm_OneSidedLaw_law 773 [some (.inr (.inr (-2))), some (.inr (.inr 1)), some (.inr (.inr 182)), some (.inl v3)] [] h Q := by
  have S : ∀ (r : Int) (g : LH), INV g → EQL g → Rn xs xl 64 mm_OneSidedLaw_law 787 [some (.inr (.inr (-2))), some (.inr (.inr 1)), some (.inr (.inr 182)), some (.inl v3)] [.inl r] g Q := by
    intro r g gI EG
    exact B_law_787 (RF_of gI.1) (by omega) ⟨by omega, by omega, 63, by decide, root_i TR_add (as := [.inr (.inr 182), .inl (xs (v3 + 1).toNat), .inl (xs (v3 + 2).toNat)]) rfl (Nat.le_of_ble_eq_true rfl) gI (gAr_c (g_ref 182) (gAr_c (g_i (hxs _)) (gAr_c (g_i (hxs _)) gAr_n))) rfl (Nat.le_of_ble_eq_true rfl) rfl rfl rfl (by decide +kernel) (by decide +kernel) (by decide +kernel) EG (fun r2 g2 i2 E2 => B_law_802 (RF_of i2.1) (by omega) (k g2 i2 E2))⟩
  exact B_law_773 (RF_of hI.1) (by omega) ⟨by omega, by omega, 63, by decide, root_i TC_add (as := [.inr (.inr 1), .inl (xs (v3 + 1).toNat), .inl (xs (v3 + 2).toNat)]) rfl (Nat.le_of_ble_eq_true rfl) hI (gAr_c (g_ref 1) (gAr_c (g_i (hxs _)) (gAr_c (g_i (hxs _)) gAr_n))) rfl (Nat.le_of_ble_eq_true rfl) rfl rfl rfl (by decide +kernel) (by decide +kernel) (by decide +kernel) hE (fun r g gI EG => S r g gI EG)⟩
theorem LW_18 {v3 : Int} (hxs : ∀ j, i32 (xs j)) (h0 : 0 ≤ v3) (h1 : v3 + 7 ≤ (xl : Int)) (hx : xl ≤ 3584) (hI : INV h) (hE : EQL h) (k : ∀ g, INV g → EQL g → Rn xs xl 64 mm_OneSidedLaw_law 1231 [some (.inr (.inr (-2))), some (.inr (.inr 1)), some (.inr (.inr 182)), some (.inl v3)] [] g Q) : Rn xs xl 64 mm_OneSidedLaw_law 806 [some (.inr (.inr (-2))), some (.inr (.inr 1)), some (.inr (.inr 182)), some (.inl v3)] [] h Q := by
  have S : ∀ (r : Int) (g : LH), INV g → EQL g → Rn xs xl 64 mm_OneSidedLaw_law 820 [some (.inr (.inr (-2))), some (.inr (.inr 1)), some (.inr (.inr 182)), some (.inl v3)] [.inl r] g Q := by
    intro r g gI EG
    exact B_law_820 (RF_of gI.1) (by omega) ⟨by omega, by omega, 63, by decide, root_i TR_turn (as := [.inr (.inr 182), .inl (xs (v3 + 1).toNat), .inl (xs (v3 + 2).toNat)]) rfl (Nat.le_of_ble_eq_true rfl) gI (gAr_c (g_ref 182) (gAr_c (g_i (hxs _)) (gAr_c (g_i (hxs _)) gAr_n))) rfl (Nat.le_of_ble_eq_true rfl) rfl rfl rfl (by decide +kernel) (by decide +kernel) (by decide +kernel) EG (fun r2 g2 i2 E2 => B_law_835 (RF_of i2.1) (by omega) (k g2 i2 E2))⟩
  exact B_law_806 (RF_of hI.1) (by omega) ⟨by omega, by omega, 63, by decide, root_i TC_turn (as := [.inr (.inr 1), .inl (xs (v3 + 1).toNat), .inl (xs (v3 + 2).toNat)]) rfl (Nat.le_of_ble_eq_true rfl) hI (gAr_c (g_ref 1) (gAr_c (g_i (hxs _)) (gAr_c (g_i (hxs _)) gAr_n))) rfl (Nat.le_of_ble_eq_true rfl) rfl rfl rfl (by decide +kernel) (by decide +kernel) (by decide +kernel) hE (fun r g gI EG => S r g gI EG)⟩
theorem LW_19 {v3 : Int} (hxs : ∀ j, i32 (xs j)) (h0 : 0 ≤ v3) (h1 : v3 + 7 ≤ (xl : Int)) (hx : xl ≤ 3584) (hI : INV h) (hE : EQL h) (k : ∀ g, INV g → EQL g → Rn xs xl 64 mm_OneSidedLaw_law 1231 [some (.inr (.inr (-2))), some (.inr (.inr 1)), some (.inr (.inr 182)), some (.inl v3)] [] g Q) : Rn xs xl 64 mm_OneSidedLaw_law 839 [some (.inr (.inr (-2))), some (.inr (.inr 1)), some (.inr (.inr 182)), some (.inl v3)] [] h Q := by
  have S : ∀ (r : Int) (g : LH), INV g → EQL g → Rn xs xl 64 mm_OneSidedLaw_law 863 [some (.inr (.inr (-2))), some (.inr (.inr 1)), some (.inr (.inr 182)), some (.inl v3)] [.inl r] g Q := by
    intro r g gI EG
    exact B_law_863 (RF_of gI.1) (by omega) ⟨by omega, by omega, by omega, by omega, 63, by decide, root_i TR_cut (as := [.inr (.inr 182), .inl (xs (v3 + 1).toNat), .inl (xs (v3 + 2).toNat), .inl (xs (v3 + 3).toNat), .inl (xs (v3 + 4).toNat)]) rfl (Nat.le_of_ble_eq_true rfl) gI (gAr_c (g_ref 182) (gAr_c (g_i (hxs _)) (gAr_c (g_i (hxs _)) (gAr_c (g_i (hxs _)) (gAr_c (g_i (hxs _)) gAr_n))))) rfl (Nat.le_of_ble_eq_true rfl) rfl rfl rfl (by decide +kernel) (by decide +kernel) (by decide +kernel) EG (fun r2 g2 i2 E2 => B_law_888 (RF_of i2.1) (by omega) (k g2 i2 E2))⟩
  exact B_law_839 (RF_of hI.1) (by omega) ⟨by omega, by omega, by omega, by omega, 63, by decide, root_i TC_cut (as := [.inr (.inr 1), .inl (xs (v3 + 1).toNat), .inl (xs (v3 + 2).toNat), .inl (xs (v3 + 3).toNat), .inl (xs (v3 + 4).toNat)]) rfl (Nat.le_of_ble_eq_true rfl) hI (gAr_c (g_ref 1) (gAr_c (g_i (hxs _)) (gAr_c (g_i (hxs _)) (gAr_c (g_i (hxs _)) (gAr_c (g_i (hxs _)) gAr_n))))) rfl (Nat.le_of_ble_eq_true rfl) rfl rfl rfl (by decide +kernel) (by decide +kernel) (by decide +kernel) hE (fun r g gI EG => S r g gI EG)⟩
theorem LW_20 {v3 : Int} (hxs : ∀ j, i32 (xs j)) (h0 : 0 ≤ v3) (h1 : v3 + 7 ≤ (xl : Int)) (hx : xl ≤ 3584) (hI : INV h) (hE : EQL h) (k : ∀ g, INV g → EQL g → Rn xs xl 64 mm_OneSidedLaw_law 1231 [some (.inr (.inr (-2))), some (.inr (.inr 1)), some (.inr (.inr 182)), some (.inl v3)] [] g Q) : Rn xs xl 64 mm_OneSidedLaw_law 892 [some (.inr (.inr (-2))), some (.inr (.inr 1)), some (.inr (.inr 182)), some (.inl v3)] [] h Q := by
  have S : ∀ (r : Int) (g : LH), INV g → EQL g → Rn xs xl 64 mm_OneSidedLaw_law 911 [some (.inr (.inr (-2))), some (.inr (.inr 1)), some (.inr (.inr 182)), some (.inl v3)] [.inl r] g Q := by
    intro r g gI EG
    exact B_law_911 (RF_of gI.1) (by omega) ⟨by omega, by omega, by omega, 63, by decide, D_crowd (by decide) gI (fun r2 g2 i2 f2 => B_law_931 (RF_of i2.1) (by omega) (k g2 i2 (EQL_fr gI EG (f2 2 0 (by decide) (by decide) (by decide) (by decide) (by decide) (by decide) (by decide) (by decide)) (f2 182 2 (by decide) (by decide) (by decide) (by decide) (by decide) (by decide) (by decide) (by decide)) (fun a i ha => by obtain ⟨y1, y2, y3, -⟩ := inK_p ha; exact f2 a i (by omega) (by omega) (by omega) (by omega) (by omega) (by omega) (by omega) (by omega)))))⟩
  exact B_law_892 (RF_of hI.1) (by omega) ⟨by omega, by omega, by omega, 63, by decide, E_crowd (by decide) hI (fun r g gI gf => S r g gI (EQL_fr hI hE (gf 2 0 (by decide) (by decide) (by decide) (by decide) (by decide) (by decide)) (gf 182 2 (by decide) (by decide) (by decide) (by decide) (by decide) (by decide)) (fun a i ha => by obtain ⟨y1, -⟩ := inK_p ha; exact gf a i (by omega) (by omega) (by omega) (by omega) (by omega) (by omega))))⟩
theorem LW_21 {v3 : Int} (hxs : ∀ j, i32 (xs j)) (h0 : 0 ≤ v3) (h1 : v3 + 7 ≤ (xl : Int)) (hx : xl ≤ 3584) (hI : INV h) (hE : EQL h) (k : ∀ g, INV g → EQL g → Rn xs xl 64 mm_OneSidedLaw_law 1231 [some (.inr (.inr (-2))), some (.inr (.inr 1)), some (.inr (.inr 182)), some (.inl v3)] [] g Q) : Rn xs xl 64 mm_OneSidedLaw_law 935 [some (.inr (.inr (-2))), some (.inr (.inr 1)), some (.inr (.inr 182)), some (.inl v3)] [] h Q := by
  have S : ∀ (r : Int) (g : LH), INV g → EQL g → Rn xs xl 64 mm_OneSidedLaw_law 962 [some (.inr (.inr (-2))), some (.inr (.inr 1)), some (.inr (.inr 182)), some (.inl v3)] [.inl r] g Q := by
    intro r g gI EG
    exact B_law_962 (RF_of gI.1) (by omega) ⟨by omega, by omega, by omega, fun _ => ⟨63, by decide, root_b TR_told (as := [.inr (.inr 182), .inl (xs (v3 + 1).toNat), .inl (xs (v3 + 2).toNat), .inl 0]) rfl (Nat.le_of_ble_eq_true rfl) gI (gAr_c (g_ref 182) (gAr_c (g_i (hxs _)) (gAr_c (g_i (hxs _)) (gAr_c g_z0 gAr_n)))) rfl (Nat.le_of_ble_eq_true rfl) rfl rfl rfl rfl (by decide +kernel) (by decide +kernel) (by decide +kernel) EG (fun r2 g2 i2 E2 => B_law_990 (RF_of i2.1) (by omega) (k g2 i2 E2))⟩, fun _ => ⟨63, by decide, root_b TR_told (as := [.inr (.inr 182), .inl (xs (v3 + 1).toNat), .inl (xs (v3 + 2).toNat), .inl 1]) rfl (Nat.le_of_ble_eq_true rfl) gI (gAr_c (g_ref 182) (gAr_c (g_i (hxs _)) (gAr_c (g_i (hxs _)) (gAr_c g_z1 gAr_n)))) rfl (Nat.le_of_ble_eq_true rfl) rfl rfl rfl rfl (by decide +kernel) (by decide +kernel) (by decide +kernel) EG (fun r2 g2 i2 E2 => B_law_990 (RF_of i2.1) (by omega) (k g2 i2 E2))⟩⟩
  exact B_law_935 (RF_of hI.1) (by omega) ⟨by omega, by omega, by omega, fun _ => ⟨63, by decide, root_b TC_told (as := [.inr (.inr 1), .inl (xs (v3 + 1).toNat), .inl (xs (v3 + 2).toNat), .inl 0]) rfl (Nat.le_of_ble_eq_true rfl) hI (gAr_c (g_ref 1) (gAr_c (g_i (hxs _)) (gAr_c (g_i (hxs _)) (gAr_c g_z0 gAr_n)))) rfl (Nat.le_of_ble_eq_true rfl) rfl rfl rfl rfl (by decide +kernel) (by decide +kernel) (by decide +kernel) hE (fun r g gI EG => S r g gI EG)⟩, fun _ => ⟨63, by decide, root_b TC_told (as := [.inr (.inr 1), .inl (xs (v3 + 1).toNat), .inl (xs (v3 + 2).toNat), .inl 1]) rfl (Nat.le_of_ble_eq_true rfl) hI (gAr_c (g_ref 1) (gAr_c (g_i (hxs _)) (gAr_c (g_i (hxs _)) (gAr_c g_z1 gAr_n)))) rfl (Nat.le_of_ble_eq_true rfl) rfl rfl rfl rfl (by decide +kernel) (by decide +kernel) (by decide +kernel) hE (fun r g gI EG => S r g gI EG)⟩⟩
theorem LW_22 {v3 : Int} (hxs : ∀ j, i32 (xs j)) (h0 : 0 ≤ v3) (h1 : v3 + 7 ≤ (xl : Int)) (hx : xl ≤ 3584) (hI : INV h) (hE : EQL h) (k : ∀ g, INV g → EQL g → Rn xs xl 64 mm_OneSidedLaw_law 1231 [some (.inr (.inr (-2))), some (.inr (.inr 1)), some (.inr (.inr 182)), some (.inl v3)] [] g Q) : Rn xs xl 64 mm_OneSidedLaw_law 994 [some (.inr (.inr (-2))), some (.inr (.inr 1)), some (.inr (.inr 182)), some (.inl v3)] [] h Q := by
  have S : ∀ (r : Int) (g : LH), INV g → EQL g → Rn xs xl 64 mm_OneSidedLaw_law 1003 [some (.inr (.inr (-2))), some (.inr (.inr 1)), some (.inr (.inr 182)), some (.inl v3)] [.inl r] g Q := by
    intro r g gI EG
    exact B_law_1003 (RF_of gI.1) (by omega) ⟨by omega, 63, by decide, root_i TR_found (as := [.inr (.inr 182), .inl (xs (v3 + 1).toNat)]) rfl (Nat.le_of_ble_eq_true rfl) gI (gAr_c (g_ref 182) (gAr_c (g_i (hxs _)) gAr_n)) rfl (Nat.le_of_ble_eq_true rfl) rfl rfl rfl (by decide +kernel) (by decide +kernel) (by decide +kernel) EG (fun r2 g2 i2 E2 => B_law_1013 (RF_of i2.1) (by omega) (k g2 i2 E2))⟩
  exact B_law_994 (RF_of hI.1) (by omega) ⟨by omega, 63, by decide, root_i TC_found (as := [.inr (.inr 1), .inl (xs (v3 + 1).toNat)]) rfl (Nat.le_of_ble_eq_true rfl) hI (gAr_c (g_ref 1) (gAr_c (g_i (hxs _)) gAr_n)) rfl (Nat.le_of_ble_eq_true rfl) rfl rfl rfl (by decide +kernel) (by decide +kernel) (by decide +kernel) hE (fun r g gI EG => S r g gI EG)⟩
theorem LW_23 {v3 : Int} (hxs : ∀ j, i32 (xs j)) (h0 : 0 ≤ v3) (h1 : v3 + 7 ≤ (xl : Int)) (hx : xl ≤ 3584) (hI : INV h) (hE : EQL h) (k : ∀ g, INV g → EQL g → Rn xs xl 64 mm_OneSidedLaw_law 1231 [some (.inr (.inr (-2))), some (.inr (.inr 1)), some (.inr (.inr 182)), some (.inl v3)] [] g Q) : Rn xs xl 64 mm_OneSidedLaw_law 1017 [some (.inr (.inr (-2))), some (.inr (.inr 1)), some (.inr (.inr 182)), some (.inl v3)] [] h Q := by
  have S : ∀ (r : Int) (g : LH), INV g → EQL g → Rn xs xl 64 mm_OneSidedLaw_law 1036 [some (.inr (.inr (-2))), some (.inr (.inr 1)), some (.inr (.inr 182)), some (.inl v3)] [.inl r] g Q := by
    intro r g gI EG
    exact B_law_1036 (RF_of gI.1) (by omega) ⟨by omega, by omega, by omega, 63, by decide, root_rests (by decide) gI EG (hxs _) (hxs _) (hxs _) (fun r2 g2 i2 E2 => B_law_1056 (RF_of i2.1) (by omega) (k g2 i2 E2))⟩
  exact B_law_1017 (RF_of hI.1) (by omega) ⟨by omega, by omega, by omega, 63, by decide, root_i TC_rests (as := [.inr (.inr 1), .inl (xs (v3 + 1).toNat), .inl (xs (v3 + 2).toNat), .inl (xs (v3 + 3).toNat)]) rfl (Nat.le_of_ble_eq_true rfl) hI (gAr_c (g_ref 1) (gAr_c (g_i (hxs _)) (gAr_c (g_i (hxs _)) (gAr_c (g_i (hxs _)) gAr_n)))) rfl (Nat.le_of_ble_eq_true rfl) rfl rfl rfl (by decide +kernel) (by decide +kernel) (by decide +kernel) hE (fun r g gI EG => S r g gI EG)⟩
theorem LW_24 {v3 : Int} (hxs : ∀ j, i32 (xs j)) (h0 : 0 ≤ v3) (h1 : v3 + 7 ≤ (xl : Int)) (hx : xl ≤ 3584) (hI : INV h) (hE : EQL h) (k : ∀ g, INV g → EQL g → Rn xs xl 64 mm_OneSidedLaw_law 1231 [some (.inr (.inr (-2))), some (.inr (.inr 1)), some (.inr (.inr 182)), some (.inl v3)] [] g Q) : Rn xs xl 64 mm_OneSidedLaw_law 1060 [some (.inr (.inr (-2))), some (.inr (.inr 1)), some (.inr (.inr 182)), some (.inl v3)] [] h Q := by
  have S : ∀ (r : Int) (g : LH), INV g → EQL g → Rn xs xl 64 mm_OneSidedLaw_law 1074 [some (.inr (.inr (-2))), some (.inr (.inr 1)), some (.inr (.inr 182)), some (.inl v3)] [.inl r] g Q := by
    intro r g gI EG
    exact B_law_1074 (RF_of gI.1) (by omega) ⟨by omega, by omega, 63, by decide, root_i TR_chase (as := [.inr (.inr 182), .inl (xs (v3 + 1).toNat), .inl (xs (v3 + 2).toNat)]) rfl (Nat.le_of_ble_eq_true rfl) gI (gAr_c (g_ref 182) (gAr_c (g_i (hxs _)) (gAr_c (g_i (hxs _)) gAr_n))) rfl (Nat.le_of_ble_eq_true rfl) rfl rfl rfl (by decide +kernel) (by decide +kernel) (by decide +kernel) EG (fun r2 g2 i2 E2 => B_law_1089 (RF_of i2.1) (by omega) (k g2 i2 E2))⟩
  exact B_law_1060 (RF_of hI.1) (by omega) ⟨by omega, by omega, 63, by decide, root_i TC_chase (as := [.inr (.inr 1), .inl (xs (v3 + 1).toNat), .inl (xs (v3 + 2).toNat)]) rfl (Nat.le_of_ble_eq_true rfl) hI (gAr_c (g_ref 1) (gAr_c (g_i (hxs _)) (gAr_c (g_i (hxs _)) gAr_n))) rfl (Nat.le_of_ble_eq_true rfl) rfl rfl rfl (by decide +kernel) (by decide +kernel) (by decide +kernel) hE (fun r g gI EG => S r g gI EG)⟩
theorem LW_25 {v3 : Int} (hxs : ∀ j, i32 (xs j)) (h0 : 0 ≤ v3) (h1 : v3 + 7 ≤ (xl : Int)) (hx : xl ≤ 3584) (hI : INV h) (hE : EQL h) (k : ∀ g, INV g → EQL g → Rn xs xl 64 mm_OneSidedLaw_law 1231 [some (.inr (.inr (-2))), some (.inr (.inr 1)), some (.inr (.inr 182)), some (.inl v3)] [] g Q) : Rn xs xl 64 mm_OneSidedLaw_law 1093 [some (.inr (.inr (-2))), some (.inr (.inr 1)), some (.inr (.inr 182)), some (.inl v3)] [] h Q := by
  exact B_law_1093 (RF_of hI.1) (by omega) ⟨by omega, 63, by decide, E_runS (by decide) hI hE (hxs _) (fun r g gI gj => B_law_1102 (RF_of gI.1) (by omega) ⟨by omega, 63, by decide, G_runS (by decide) hI hE gI gj (fun g2 i2 E2 => B_law_1111 (RF_of i2.1) (by omega) ⟨fun _ => k g2 i2 E2, fun z => absurd rfl z⟩)⟩)⟩
theorem LW_26 {v3 : Int} (hxs : ∀ j, i32 (xs j)) (h0 : 0 ≤ v3) (h1 : v3 + 7 ≤ (xl : Int)) (hx : xl ≤ 3584) (hI : INV h) (hE : EQL h) (k : ∀ g, INV g → EQL g → Rn xs xl 64 mm_OneSidedLaw_law 1231 [some (.inr (.inr (-2))), some (.inr (.inr 1)), some (.inr (.inr 182)), some (.inl v3)] [] g Q) : Rn xs xl 64 mm_OneSidedLaw_law 1116 [some (.inr (.inr (-2))), some (.inr (.inr 1)), some (.inr (.inr 182)), some (.inl v3)] [] h Q := by
  have S : ∀ (r : Int) (g : LH), INV g → EQL g → Rn xs xl 64 mm_OneSidedLaw_law 1135 [some (.inr (.inr (-2))), some (.inr (.inr 1)), some (.inr (.inr 182)), some (.inl v3)] [.inl r] g Q := by
    intro r g gI EG
    exact B_law_1135 (RF_of gI.1) (by omega) ⟨by omega, by omega, by omega, 63, by decide, root_i TR_years (as := [.inr (.inr 182), .inl (xs (v3 + 1).toNat), .inl (xs (v3 + 2).toNat), .inl (xs (v3 + 3).toNat)]) rfl (Nat.le_of_ble_eq_true rfl) gI (gAr_c (g_ref 182) (gAr_c (g_i (hxs _)) (gAr_c (g_i (hxs _)) (gAr_c (g_i (hxs _)) gAr_n)))) rfl (Nat.le_of_ble_eq_true rfl) rfl rfl rfl (by decide +kernel) (by decide +kernel) (by decide +kernel) EG (fun r2 g2 i2 E2 => B_law_1155 (RF_of i2.1) (by omega) (k g2 i2 E2))⟩
  exact B_law_1116 (RF_of hI.1) (by omega) ⟨by omega, by omega, by omega, 63, by decide, root_i TC_years (as := [.inr (.inr 1), .inl (xs (v3 + 1).toNat), .inl (xs (v3 + 2).toNat), .inl (xs (v3 + 3).toNat)]) rfl (Nat.le_of_ble_eq_true rfl) hI (gAr_c (g_ref 1) (gAr_c (g_i (hxs _)) (gAr_c (g_i (hxs _)) (gAr_c (g_i (hxs _)) gAr_n)))) rfl (Nat.le_of_ble_eq_true rfl) rfl rfl rfl (by decide +kernel) (by decide +kernel) (by decide +kernel) hE (fun r g gI EG => S r g gI EG)⟩
theorem LW_27 {v3 : Int} (hxs : ∀ j, i32 (xs j)) (h0 : 0 ≤ v3) (h1 : v3 + 7 ≤ (xl : Int)) (hx : xl ≤ 3584) (hI : INV h) (hE : EQL h) (k : ∀ g, INV g → EQL g → Rn xs xl 64 mm_OneSidedLaw_law 1231 [some (.inr (.inr (-2))), some (.inr (.inr 1)), some (.inr (.inr 182)), some (.inl v3)] [] g Q) : Rn xs xl 64 mm_OneSidedLaw_law 1159 [some (.inr (.inr (-2))), some (.inr (.inr 1)), some (.inr (.inr 182)), some (.inl v3)] [] h Q := by
  exact B_law_1159 (RF_of hI.1) (by omega) ⟨by omega, by omega, fun c => ⟨63, by decide, E_markS (by decide) hI hE (hxs _) g_z0 (fun r g gI gj => B_law_1181 (RF_of gI.1) (by omega) ⟨by omega, by omega, fun _ => ⟨63, by decide, G_markS (by decide) hI hE gI gj (fun g2 i2 E2 => B_law_1204 (RF_of i2.1) (by omega) (k g2 i2 E2))⟩, fun z => absurd c z⟩)⟩, fun c => ⟨63, by decide, E_markS (by decide) hI hE (hxs _) g_z1 (fun r g gI gj => B_law_1181 (RF_of gI.1) (by omega) ⟨by omega, by omega, fun z => absurd z c, fun _ => ⟨63, by decide, G_markS (by decide) hI hE gI gj (fun g2 i2 E2 => B_law_1204 (RF_of i2.1) (by omega) (k g2 i2 E2))⟩⟩)⟩⟩
theorem LW_28 {v3 : Int} (hxs : ∀ j, i32 (xs j)) (h0 : 0 ≤ v3) (h1 : v3 + 7 ≤ (xl : Int)) (hx : xl ≤ 3584) (hI : INV h) (hE : EQL h) (k : ∀ g, INV g → EQL g → Rn xs xl 64 mm_OneSidedLaw_law 1231 [some (.inr (.inr (-2))), some (.inr (.inr 1)), some (.inr (.inr 182)), some (.inl v3)] [] g Q) : Rn xs xl 64 mm_OneSidedLaw_law 1208 [some (.inr (.inr (-2))), some (.inr (.inr 1)), some (.inr (.inr 182)), some (.inl v3)] [] h Q := by
  have S : ∀ (r : Int) (g : LH), INV g → EQL g → Rn xs xl 64 mm_OneSidedLaw_law 1217 [some (.inr (.inr (-2))), some (.inr (.inr 1)), some (.inr (.inr 182)), some (.inl v3)] [.inl r] g Q := by
    intro r g gI EG
    exact B_law_1217 (RF_of gI.1) (by omega) ⟨by omega, 63, by decide, root_i TR_count (as := [.inr (.inr 182), .inl (xs (v3 + 1).toNat)]) rfl (Nat.le_of_ble_eq_true rfl) gI (gAr_c (g_ref 182) (gAr_c (g_i (hxs _)) gAr_n)) rfl (Nat.le_of_ble_eq_true rfl) rfl rfl rfl (by decide +kernel) (by decide +kernel) (by decide +kernel) EG (fun r2 g2 i2 E2 => B_law_1227 (RF_of i2.1) (by omega) (k g2 i2 E2))⟩
  exact B_law_1208 (RF_of hI.1) (by omega) ⟨by omega, 63, by decide, root_i TC_count (as := [.inr (.inr 1), .inl (xs (v3 + 1).toNat)]) rfl (Nat.le_of_ble_eq_true rfl) hI (gAr_c (g_ref 1) (gAr_c (g_i (hxs _)) gAr_n)) rfl (Nat.le_of_ble_eq_true rfl) rfl rfl rfl (by decide +kernel) (by decide +kernel) (by decide +kernel) hE (fun r g gI EG => S r g gI EG)⟩
theorem law_loop (hxs : ∀ j, i32 (xs j)) (hx : xl ≤ 3584) (kq : ∀ g, INV g → Q (some (.inl 1)) g) : ∀ (m : Nat) (v3 : Int) (h : LH), 0 ≤ v3 → v3 ≤ (xl : Int) → ((xl : Int) - v3).toNat ≤ m → INV h → EQL h → Rn xs xl 64 mm_OneSidedLaw_law 18 [some (.inr (.inr (-2))), some (.inr (.inr 1)), some (.inr (.inr 182)), some (.inl v3)] [] h Q := by
  intro m
  induction m with
  | zero =>
    intro v3 h h0 h1 hm hI hE
    exact B_law_18 (RF_of hI.1) (by omega) ⟨by omega, fun _ => kq h hI, fun z => absurd z (by omega)⟩
  | succ m ih =>
    intro v3 h h0 h1 hm hI hE
    refine B_law_18 (RF_of hI.1) (by omega) ⟨by omega, fun _ => kq h hI, fun z => ?_⟩
    have z7 : v3 + 7 ≤ (xl : Int) := by omega
    have K : ∀ g, INV g → EQL g → Rn xs xl 64 mm_OneSidedLaw_law 1231 [some (.inr (.inr (-2))), some (.inr (.inr 1)), some (.inr (.inr 182)), some (.inl v3)] [] g Q := fun g gI gE => B_law_1231 (RF_of gI.1) (by omega) (ih (v3 + 7) g (by omega) (by omega) (by omega) gI gE)
    exact ⟨by omega, fun _ => LW_0 hxs h0 z7 hx hI hE K, fun _ => LW_1 hxs h0 z7 hx hI hE K, fun _ => LW_2 hxs h0 z7 hx hI hE K, fun _ => LW_3 hxs h0 z7 hx hI hE K, fun _ => LW_4 hxs h0 z7 hx hI hE K, fun _ => LW_5 hxs h0 z7 hx hI hE K, fun _ => LW_6 hxs h0 z7 hx hI hE K, fun _ => LW_7 hxs h0 z7 hx hI hE K, fun _ => LW_8 hxs h0 z7 hx hI hE K, fun _ => LW_9 hxs h0 z7 hx hI hE K, fun _ => LW_10 hxs h0 z7 hx hI hE K, fun _ => LW_11 hxs h0 z7 hx hI hE K, fun _ => LW_12 hxs h0 z7 hx hI hE K, fun _ => LW_13 hxs h0 z7 hx hI hE K, fun _ => LW_14 hxs h0 z7 hx hI hE K, fun _ => LW_15 hxs h0 z7 hx hI hE K, fun _ => LW_16 hxs h0 z7 hx hI hE K, fun _ => LW_17 hxs h0 z7 hx hI hE K, fun _ => LW_18 hxs h0 z7 hx hI hE K, fun _ => LW_19 hxs h0 z7 hx hI hE K, fun _ => LW_20 hxs h0 z7 hx hI hE K, fun _ => LW_21 hxs h0 z7 hx hI hE K, fun _ => LW_22 hxs h0 z7 hx hI hE K, fun _ => LW_23 hxs h0 z7 hx hI hE K, fun _ => LW_24 hxs h0 z7 hx hI hE K, fun _ => LW_25 hxs h0 z7 hx hI hE K, fun _ => LW_26 hxs h0 z7 hx hI hE K, fun _ => LW_27 hxs h0 z7 hx hI hE K, fun _ => LW_28 hxs h0 z7 hx hI hE K, fun _ => K h hI hE⟩
end LA
end
section
/-! LM, part 9d: the first heap; the law's run from its entry -/
def gVb (a : AV) (v : LV) : Bool := match v with
  | .inl x => a.1 == 0 && decide (-2147483648 ≤ x) && decide (x ≤ 2147483647) && decide (a.2.1 ≤ x) && decide (x ≤ a.2.2.1) && decide ((x - a.2.1) % ((a.2.2.2 : Nat) : Int) = 0)
  | .inr (.inl x) => a.1 == 1 && decide (-9223372036854775808 ≤ x) && decide (x ≤ 9223372036854775807) && decide (a.2.1 ≤ x) && decide (x ≤ a.2.2.1) && decide ((x - a.2.1) % ((a.2.2.2 : Nat) : Int) = 0)
  | .inr (.inr x) => a.1 == 2 && decide (a.2.1 ≤ x) && decide (x ≤ a.2.2.1) && decide ((x - a.2.1) % ((a.2.2.2 : Nat) : Int) = 0)
theorem gVb_ok {a : AV} {v : LV} (h : gVb a v = true) : gV a v := by
  rcases v with x | x | x
  · simp only [gVb, Bool.and_eq_true, decide_eq_true_eq, beq_iff_eq] at h
    obtain ⟨⟨⟨⟨⟨h1, h2⟩, h3⟩, h4⟩, h5⟩, h6⟩ := h
    exact ⟨h1, ⟨h2, h3⟩, h4, h5, Int.dvd_of_emod_eq_zero h6⟩
  · simp only [gVb, Bool.and_eq_true, decide_eq_true_eq, beq_iff_eq] at h
    obtain ⟨⟨⟨⟨⟨h1, h2⟩, h3⟩, h4⟩, h5⟩, h6⟩ := h
    exact ⟨h1, ⟨h2, h3⟩, h4, h5, Int.dvd_of_emod_eq_zero h6⟩
  · simp only [gVb, Bool.and_eq_true, decide_eq_true_eq, beq_iff_eq] at h
    obtain ⟨⟨⟨h1, h4⟩, h5⟩, h6⟩ := h
    exact ⟨h1, h4, h5, Int.dvd_of_emod_eq_zero h6⟩
theorem rd_mem : ∀ (h : LH) (a i : Int), (a, i, rd h a i) ∈ h ∨ (rd h a i = 0 ∧ ∀ v, (a, i, v) ∉ h)
  | [], a, i => Or.inr ⟨rfl, fun v q => by cases q⟩
  | (b, j, v) :: t, a, i => by
    by_cases c : b = a ∧ j = i
    · obtain ⟨rfl, rfl⟩ := c
      left
      show (b, j, if b = b ∧ j = j then v else rd t b j) ∈ _
      rw [if_pos ⟨rfl, rfl⟩]
      exact List.mem_cons_self
    · have e : rd ((b, j, v) :: t) a i = rd t a i := if_neg c
      rw [e]
      rcases rd_mem t a i with q | ⟨q1, q2⟩
      · exact Or.inl (List.mem_cons_of_mem _ q)
      · refine Or.inr ⟨q1, fun w hw => ?_⟩
        rcases List.mem_cons.mp hw with z | z
        · cases z
          exact c ⟨rfl, rfl⟩
        · exact q2 w z
theorem rd_none {h : LH} {a i : Int} (hn : ∀ e ∈ h, ¬ (e.1 = a ∧ e.2.1 = i)) : rd h a i = 0 := by
  rcases rd_mem h a i with q | q
  · exact absurd ⟨rfl, rfl⟩ (hn _ q)
  · exact q.1
def chkZ (h : LH) (a : Nat) : Bool :=
  if (lay a).1 = 1 ∨ (lay a).1 = 2 ∨ (lay a).1 = 3 ∨ (lay a).1 = 4 then (match RGL[a]? with
    | some L => decide (0 < L.length) && L.all (fun av => gVb av (mkv (if (lay a).1 = 2 then 1 else 0) 0))
    | none => false)
  else (List.range (lay a).2.2).all (fun i => gVb (hav a i) (mkv (lkd a i) 0) || h.any (fun e => e.1 == (a : Int) && e.2.1 == (i : Int)))
def chkR (h : LH) : Bool := h.all (fun e => gVb (hav e.1 e.2.1) (mkv (lkd e.1 e.2.1) e.2.2)) && (List.range (NC + 1)).all (chkZ h)
theorem chkR_ok {h : LH} (hc : chkR h = true) : RNG h := by
  unfold chkR at hc
  rw [Bool.and_eq_true, List.all_eq_true, List.all_eq_true] at hc
  obtain ⟨c1, c2⟩ := hc
  intro a i hv
  obtain ⟨v1, v2, v3, v4⟩ := hv
  unfold hval
  rcases rd_mem h a i with q | ⟨q1, q2⟩
  · exact gVb_ok (c1 _ q)
  · rw [q1]
    have z := c2 a.toNat (List.mem_range.mpr (by omega))
    have ea : ((a.toNat : Nat) : Int) = a := Int.toNat_of_nonneg (by omega)
    unfold chkZ at z
    by_cases k : (lay a.toNat).1 = 1 ∨ (lay a.toNat).1 = 2 ∨ (lay a.toNat).1 = 3 ∨ (lay a.toNat).1 = 4
    · rw [if_pos k] at z
      split at z
      · next L hL =>
        rw [Bool.and_eq_true, decide_eq_true_eq, List.all_eq_true] at z
        have e1 : hav a i = L.getD (i.toNat % L.length) top0 := by
          unfold hav
          rw [hL]
        have lt : i.toNat % L.length < L.length := Nat.mod_lt _ z.1
        have e2 : L.getD (i.toNat % L.length) top0 ∈ L := by
          rw [List.getD_eq_getElem?_getD, List.getElem?_eq_getElem lt]
          exact List.getElem_mem lt
        have e3 : lkd a i = if (lay a.toNat).1 = 2 then 1 else 0 := by
          rcases k with k | k | k | k
          · rw [lkd_1 k, k]; rfl
          · rw [lkd_2 k, k]; rfl
          · rw [lkd_3 k, k]; rfl
          · rw [lkd_4 k, k]; rfl
        rw [e1, e3]
        exact gVb_ok (z.2 _ e2)
      · cases z
    · rw [if_neg k, List.all_eq_true] at z
      have y := z i.toNat (List.mem_range.mpr (by omega))
      rw [ea, Int.toNat_of_nonneg v3, Bool.or_eq_true] at y
      rcases y with y | y
      · exact gVb_ok y
      · rw [List.any_eq_true] at y
        obtain ⟨e, e1, e2⟩ := y
        rw [Bool.and_eq_true, beq_iff_eq, beq_iff_eq] at e2
        obtain ⟨x, y2, w⟩ := e
        obtain ⟨rfl, rfl⟩ := e2
        exact absurd e1 (q2 w)
theorem rng0 : chkR hc_556 = true := by decide +kernel
theorem noE0 : (hc_556.all (fun e => !(e.1 == 64) && !(e.1 == 72) && !(e.1 == 107) && !(e.1 == 115) && !(e.1 == 123) && !(e.1 == 131) && !(e.1 == 184) && !(e.1 == 200) && (!(e.1 == 195) || e.2.1 == 0))) = true := by decide +kernel
theorem val0 : rd hc_556 188 3 = -1 ∧ rd hc_556 188 1 = 0 ∧ rd hc_556 188 2 = 0 ∧ rd hc_556 2 0 = rd hc_556 182 2 := ⟨by decide +kernel, by decide +kernel, by decide +kernel, by decide +kernel⟩
theorem inv0 : INV hc_556 := by
  have n := List.all_eq_true.mp noE0
  obtain ⟨v1, v2, v3, -⟩ := val0
  have c : ∀ a, (a = 64 ∨ a = 72 ∨ a = 107 ∨ a = 115 ∨ a = 123 ∨ a = 131 ∨ a = 184 ∨ a = 200) → ∀ i, rd hc_556 a i = 0 := by
    intro a ha i
    refine rd_none (fun e he q => ?_)
    have x := n e he
    simp only [Bool.and_eq_true, Bool.not_eq_true', beq_eq_false_iff_ne] at x
    omega
  have d : ∀ i, i ≠ 0 → rd hc_556 195 i = 0 := by
    intro i hi
    refine rd_none (fun e he q => ?_)
    have x := n e he
    simp only [Bool.and_eq_true, Bool.not_eq_true', beq_eq_false_iff_ne, Bool.or_eq_true, beq_iff_eq] at x
    omega
  refine ⟨chkR_ok rng0, ⟨?_, ?_, ?_, ?_, ?_, ?_, ?_, ?_⟩, ?_, ?_, ?_, ?_⟩
  · intro i _; rw [c 64 (by omega)]; omega
  · intro i _; rw [c 72 (by omega)]; omega
  · intro i _; rw [c 107 (by omega)]; omega
  · intro i _; rw [c 115 (by omega)]; omega
  · intro i _; rw [c 123 (by omega)]; omega
  · intro i _; rw [c 131 (by omega)]; omega
  · intro k k0 k1 _; rw [d _ (by omega)]; omega
  · intro m m0 m1 k k0 k1 _; rw [c 200 (by omega)]; omega
  · intro q; rw [v1] at q; omega
  · exact c 184 (by omega) 1000
  · refine ⟨fun d d0 d1 d2 => ?_, fun p p0 p1 p2 => ?_⟩
    · rw [v2] at d2; omega
    · rw [v3] at p2; omega
  · refine ⟨fun p p0 p1 p2 => ?_, fun m m0 m1 _ p p0 p1 p2 => ?_, fun j j0 j1 _ p p0 p1 p2 => ?_⟩ <;> (rw [v3] at p2; omega)
theorem mkr_chk : (∀ m : Nat, m < 4 → rd hc_556 75 (m : Int) = 102 + 8 * (m : Int) ∧ rd hc_556 199 (m : Int) = 0) ∧ rd hc_556 1 6 = 0 := ⟨by decide +kernel, by decide +kernel⟩
theorem mkr0 : MKR hc_556 := by
  obtain ⟨c1, c2⟩ := mkr_chk
  refine ⟨fun m h0 h1 => ?_, by rw [c2]; decide, fun m h0 h1 => ?_⟩
  · have y := (c1 m.toNat (by omega)).1
    rw [show ((m.toNat : Nat) : Int) = m by omega] at y
    exact y
  · have y := (c1 m.toNat (by omega)).2
    rw [show ((m.toNat : Nat) : Int) = m by omega] at y
    have z := mbit_0 m.toNat (by omega)
    rw [show ((m.toNat : Nat) : Int) = m by omega] at z
    rw [y, c2, z]
theorem scr_chk : rd hc_556 1 1 = 5 ∧ rd hc_556 5 0 = rd hc_556 188 0 ∧ rd hc_556 5 2 = 0 ∧ rd hc_556 5 4 = 0 ∧ rd hc_556 5 6 = 0 ∧ rd hc_556 182 28 = -1 ∧ rd hc_556 182 29 = -1 ∧ rd hc_556 60 0 = rd hc_556 198 0 ∧ rd hc_556 60 1 = rd hc_556 198 1 ∧ rd hc_556 60 3 = 0 ∧ rd hc_556 1 8 = 0 ∧ rd hc_556 1 9 = 0 ∧ rd hc_556 182 25 = 0 := ⟨by decide +kernel, by decide +kernel, by decide +kernel, by decide +kernel, by decide +kernel, by decide +kernel, by decide +kernel, by decide +kernel, by decide +kernel, by decide +kernel, by decide +kernel, by decide +kernel, by decide +kernel⟩
theorem scr_chk2 : (∀ d : Nat, d < 14 → rd hc_556 62 (d : Int) = 0 ∧ rd hc_556 198 ((d : Int) + 20) = 0) ∧ (∀ i : Nat, i < 16 → rd hc_556 76 (i : Int) = 134 + 3 * (i : Int)) := ⟨by decide +kernel, by decide +kernel⟩
theorem noE1 : (hc_556.all (fun e => !(e.1 == 10) && !(e.1 == 11))) = true := by decide +kernel
theorem scr0 : SCR hc_556 := by
  obtain ⟨s1, s2, s3, s4, s5, s6, s7, s8, s9, sa, sb, sc, sd⟩ := scr_chk
  obtain ⟨-, v2, v3, -⟩ := val0
  have n := List.all_eq_true.mp noE1
  have z : ∀ a, (a = 10 ∨ a = 11) → ∀ i, rd hc_556 a i = 0 := by
    intro a ha i
    refine rd_none (fun e he q => ?_)
    have x := n e he
    simp only [Bool.and_eq_true, Bool.not_eq_true', beq_eq_false_iff_ne] at x
    omega
  have st : ∀ s hr, stl hc_556 5 [] hc_556 s hr := fun s hr => by
    refine ⟨fun j j0 j1 => ?_, fun j j0 j1 => ?_⟩
    · show bitZ (rd hc_556 10 (24 * s + hr)) j ↔ (j < rd hc_556 5 2 ∧ _)
      rw [z 10 (Or.inl rfl), s3]
      exact ⟨fun y => absurd y bit_zero, fun y => by omega⟩
    · show bitZ (rd hc_556 11 (24 * s + hr)) j ↔ (j < rd hc_556 5 2 ∧ _)
      rw [z 11 (Or.inr rfl), s3]
      exact ⟨fun y => absurd y bit_zero, fun y => by omega⟩
  refine ⟨?_, ⟨[], ?_, ?_⟩, s6, s7, ⟨s8, s9, fun p p0 p1 => by omega, fun d d0 d1 => ?_, fun p p0 p1 => by rw [sa]; exact bit_zero⟩, ?_, fun m h0 h1 hm => ?_, fun i i0 i1 => ?_⟩
  · unfold QFR
    rw [s1]
    exact ⟨s2, s3.trans v2.symm, s4.trans v3.symm, fun i j hi _ => by omega, fun i j hi _ => by omega, fun _ => by rw [val0.1]; decide, fun y => by omega, by omega⟩
  · rw [s1]
    exact ⟨s5, fun i hi => absurd hi (Nat.not_lt_zero i), Nat.zero_le _, trivial, fun y => absurd y (by decide), fun c hc => absurd hc List.not_mem_nil⟩
  · rw [s1]
    exact fun s hr _ _ _ _ => st s hr
  · have y := scr_chk2.1 d.toNat (by omega)
    rw [Int.toNat_of_nonneg d0] at y
    rw [show (0 : Int) + d + 20 = d + 20 by omega, y.2]
    exact ⟨y.1, by decide, by decide⟩
  · unfold UN
    rw [sb, sc]
    exact ⟨by decide, by decide, sd, fun k k0 k1 => by omega⟩
  · have y := (mkr_chk.1 m.toNat (by omega)).2
    rw [show ((m.toNat : Nat) : Int) = m by omega] at y
    exact absurd y hm
  · have y := scr_chk2.2 i.toNat (by omega)
    rw [Int.toNat_of_nonneg i0] at y
    exact y
theorem eql0 : EQL hc_556 := ⟨val0.2.2.2, fun i i0 i1 => by rw [show rd hc_556 2 0 = 0 by decide +kernel] at i1; omega, pt0, rfl, rfl, by decide +kernel, mkr0, scr0⟩
theorem gl_0 : lmGoZ 9 2 64 mm_OneSidedLaw_law 0 [some (.inr (.inr (-2))), none, none, none] [] 0 [] = some (4, [some (.inr (.inr (-2))), none, none, none], [.inr (.inr 1), .inr (.inr 1)], 1, []) := goOk_ok (by decide +kernel)
theorem gl_7 : lmGoZ 9 3 64 mm_OneSidedLaw_law 7 [some (.inr (.inr (-2))), none, none, none] [.inr (.inr 1)] 181 hc_302 = some (12, [some (.inr (.inr (-2))), some (.inr (.inr 1)), none, none], [.inr (.inr 182), .inr (.inr 182)], 182, hc_302) := goOk_ok (by decide +kernel)
theorem gl_15 : lmGoZ 9 3 64 mm_OneSidedLaw_law 15 [some (.inr (.inr (-2))), some (.inr (.inr 1)), none, none] [.inr (.inr 182)] 212 hc_556 = some (18, [some (.inr (.inr (-2))), some (.inr (.inr 1)), some (.inr (.inr 182)), some (.inl 0)], [], 212, hc_556) := goOk_ok (by decide +kernel)
theorem dl_4 : decode mm_OneSidedLaw_law.2.1 4 = .ok (.invokespecial 9, 3) := by decide +kernel
theorem dl_12 : decode mm_OneSidedLaw_law.2.1 12 = .ok (.invokespecial 12, 3) := by decide +kernel
theorem kl_4 : lmK mm_OneSidedLaw_law.2.2.2.2.1 1 (.invokespecial 9) [.inr (.inr 1), .inr (.inr 1)] = some (0, [.inr (.inr 1)], [.inr (.inr 1)]) := callOk_ok (by decide +kernel)
theorem kl_12 : lmK mm_OneSidedLaw_law.2.2.2.2.1 182 (.invokespecial 12) [.inr (.inr 182), .inr (.inr 182)] = some (157, [.inr (.inr 182)], [.inr (.inr 182)]) := callOk_ok (by decide +kernel)
theorem run_law {xs : Nat → Int} {xl : Nat} (hxs : ∀ j, i32 (xs j)) (hx : xl ≤ 3584) : ∃ (f : Nat) (h' : LH), lmRun xs xl f 64 mm_OneSidedLaw_law 0 [some (.inr (.inr (-2))), none, none, none] [] 0 [] = some (some (.inl 1), 212, h') := by
  obtain ⟨f, r, h', q1, q2⟩ := law_loop (Q := fun r _ => r = some (.inl 1)) hxs hx (fun _ _ => rfl) xl 0 hc_556 (by omega) (by omega) (by omega) inv0 eql0
  subst q2
  have g : ∃ f, lmRun xs xl f 64 mm_OneSidedLaw_law 0 [some (.inr (.inr (-2))), none, none, none] [] 0 [] = some (some (.inl 1), 212, h') := by
    refine lmGoZ_ok _ _ _ _ _ _ _ _ _ _ _ _ _ _ gl_0 ?_
    refine run_call (d := 63) (r := none) (n' := 181) (h' := hc_302) (M' := mm_OneSided_init) dl_4 rfl rfl kl_4 rfl (by obtain ⟨f, hf⟩ := run_ini (xs := xs) (xl := xl); exact ⟨f, lmRun_le f f 8 63 _ _ _ _ _ _ _ (Nat.le_refl _) (by decide) hf⟩) ?_
    refine lmGoZ_ok _ _ _ _ _ _ _ _ _ _ _ _ _ _ gl_7 ?_
    refine run_call (d := 63) (r := none) (n' := 212) (h' := hc_556) (M' := mm_init) dl_12 rfl rfl kl_12 rfl (by obtain ⟨f, hf⟩ := run_mod (xs := xs) (xl := xl); exact ⟨f, lmRun_le f f 8 63 _ _ _ _ _ _ _ (Nat.le_refl _) (by decide) hf⟩) ?_
    refine lmGoZ_ok _ _ _ _ _ _ _ _ _ _ _ _ _ _ gl_15 ?_
    exact ⟨f, q1⟩
  obtain ⟨f2, hf2⟩ := g
  exact ⟨f2, h', hf2⟩
end
