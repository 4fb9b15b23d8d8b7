/-! years, part y2: both objects' years -/
def yrsC (h : LH) (v1 v2 v3 : Int) : Prop := (0 ≤ v1 ∧ v1 ≤ 9999) ∧ (1 ≤ v2 ∧ v2 ≤ 60) ∧ (v3 = 0 ∨ v3 = 1) ∧ 1 ≤ rd h 188 1
noncomputable def yrsV (K : KEY) (sh v1 v2 v3 : Int) : Int := if v3 = 0 then (yS K v1 sh 6 v2.toNat).2.2.1 else (yS K v1 sh 6 v2.toNat).2.2.2
def yrsJ (v1 v2 v3 : Int) (h g : LH) (r : Int) : Prop := scf 68 h g ∧ ((¬ yrsC h v1 v2 v3 ∧ r = -1) ∨ (yrsC h v1 v2 v3 ∧ r = yrsV (key h) (rd h 198 1) v1 v2 v3))
/-- the reference's heap while years go by -/
def YR (g u : LH) (seed sh : Int) : Prop := INV u ∧ (∀ a i, a ≠ 196 → a ≠ 197 → ¬ (a = 182 ∧ (i = 0 ∨ i = 54)) → ¬ (a = 198 ∧ 1540 ≤ i) → rd u a i = rd g a i) ∧ rd u 182 54 = seed ∧ rd u 198 1541 = sh ∧ rd u 198 1540 = 0 ∧ ∀ p, 0 ≤ p → p ≤ 5 → rd u 198 (1540 + p + 2) = rd g 188 (4 * p + 117) ∧ rd u 198 (1540 + p + 8) = (if rd g 188 (4 * p + 117) = rd g 188 (4 * p + 118) then 1 else 0) ∧ rd u 198 (1540 + p + 14) = 0
section YB
variable {xs : Nat → Int} {xl e : Nat} {h g u w : LH} {Q : Option LV → LH → Prop} {K : KEY} {p r v1 v2 v3 seed sh a b x y : Int}
theorem y_54 (hI : INV h) (hv : i64 a) : INV (wr h 182 54 a) := INV_wr hI (by unfold sens; omega) (by
  rw [show hav 182 54 = (1, -9223372036854775808, 9223372036854775807, 1) by decide +kernel, show lkd 182 54 = 1 by decide +kernel]
  exact g_lng hv)
theorem y_41 (hI : INV h) (hv : i32 x) : INV (wr h 198 1541 x) := INV_ws hI (ws hI.1 1 1 (-2147483648) 2147483647 (by decide) (by decide) (by decide) (by decide +kernel) hv.1 hv.2 hv) (by decide)
theorem YR_w (yr : YR g u seed sh) (ia : i64 a) (ib : i64 b) (ix : i32 x) (iy : i32 y) : YR g (wr (wr (wr (wr u 182 54 a) 198 1541 x) 182 54 b) 198 1541 y) b y := by
  obtain ⟨i, f, -, -, z, s⟩ := yr
  refine ⟨y_41 (y_54 (y_41 (y_54 i ia) ix) ib) iy, fun c j n1 n2 n3 n4 => ?_, ?_, rdw_eq, ?_, fun p p0 p1 => ?_⟩
  · rw [rd_wr, if_neg (by omega), rd_wr, if_neg (by omega), rd_wr, if_neg (by omega), rd_wr, if_neg (by omega)]
    exact f c j n1 n2 n3 n4
  · rw [rdw_ne (by decide), rdw_eq]
  · rw [rdw_nei (by decide), rdw_ne (by decide), rdw_nei (by decide), rdw_ne (by decide)]
    exact z
  · obtain ⟨s1, s2, s3⟩ := s p p0 p1
    refine ⟨?_, ?_, ?_⟩
    · rw [rdw_nei (by omega), rdw_ne (by decide), rdw_nei (by omega), rdw_ne (by decide)]
      exact s1
    · rw [rdw_nei (by omega), rdw_ne (by decide), rdw_nei (by omega), rdw_ne (by decide)]
      exact s2
    · rw [rdw_nei (by omega), rdw_ne (by decide), rdw_nei (by omega), rdw_ne (by decide)]
      exact s3
theorem YR_L (yr : YR g u seed sh) (wI : INV w) (f : frL u w) : YR g w seed sh := by
  obtain ⟨-, f0, s0, s1, z, s⟩ := yr
  refine ⟨wI, fun c j n1 n2 n3 n4 => (f c j n1 n2).trans (f0 c j n1 n2 n3 n4), (f 182 54 (by decide) (by decide)).trans s0, (f 198 1541 (by decide) (by decide)).trans s1, (f 198 1540 (by decide) (by decide)).trans z, fun p p0 p1 => ?_⟩
  rw [f 198 _ (by decide) (by decide), f 198 _ (by decide) (by decide), f 198 _ (by decide) (by decide)]
  exact s p p0 p1
theorem YR_key (yr : YR g u seed sh) : key u = key g :=
  key_frs (fun a i a0 a1 => yr.2.1 a i (by omega) (by omega) (by omega) (by omega)) (fun i i0 i1 => yr.2.1 182 i (by decide) (by decide) (by omega) (by omega))
theorem YR_E (gI : INV g) (EG : EQL g) (yr : YR g u seed sh) : EQL u :=
  EQL_fr gI EG (yr.2.1 2 0 (by decide) (by decide) (by decide) (by decide)) (yr.2.1 182 2 (by decide) (by decide) (by decide) (by decide)) (fun a i ha => by
    obtain ⟨y1, y2, y3, -, -⟩ := inK_p ha
    exact yr.2.1 a i (by omega) (by omega) (by omega) (by omega))
theorem EQL_68 (hI : INV h) (hE : EQL h) (f : scf 68 h g) : EQL g :=
  EQL_fr hI hE (f 2 0 (by unfold scp; omega)) (f 182 2 (by unfold scp; omega)) (fun a i ha => by
    obtain ⟨y1, -⟩ := inK_p ha
    exact f a i (by unfold scp; omega))
theorem nIT_no (sb : SB (S0d K sh) 0 p) (hr : FHr K (S0d K sh) 0 p (zshl 1 (K.1 (4 * p + 117) + 10)) r) (a0 : 0 ≤ p) (z : ¬ (0 ≤ r ∧ r ≤ K.1 (4 * p + 119))) : nIT K sh (p + 1).toNat = nIT K sh p.toNat := by
  rw [show (p + 1).toNat = p.toNat + 1 by omega]
  show nIT K sh p.toNat + @ite Int (itP K sh (p.toNat : Int)) (Classical.propDecidable _) 1 0 = _
  rw [Int.toNat_of_nonneg a0, if_neg, Int.add_zero]
  rintro ⟨r', hr', x⟩
  rw [FHr_one sb hr' hr] at x
  exact z x
theorem nIT_yes (hr : FHr K (S0d K sh) 0 p (zshl 1 (K.1 (4 * p + 117) + 10)) r) (a0 : 0 ≤ p) (z : 0 ≤ r ∧ r ≤ K.1 (4 * p + 119)) : nIT K sh (p + 1).toNat = nIT K sh p.toNat + 1 := by
  rw [show (p + 1).toNat = p.toNat + 1 by omega]
  show nIT K sh p.toNat + @ite Int (itP K sh (p.toNat : Int)) (Classical.propDecidable _) 1 0 = _
  rw [Int.toNat_of_nonneg a0, if_pos ⟨r, hr, z⟩]
theorem dN_i (g : Int) : i64 (dN g) := w64_in _
theorem E_yearsS (he : 8 ≤ e) (hI : INV h) (hE : EQL h) (h1 : i32 v1) (h2 : i32 v2) (h3 : i32 v3) (k : ∀ r g, INV g → yrsJ v1 v2 v3 h g r → Q (some (.inl r)) g) : Rn xs xl e mm_OneSided_years 0 [some (.inr (.inr 1)), some (.inl v1), some (.inl v2), some (.inl v3)] [] h Q := by
  obtain ⟨L, hc⟩ := CXq_of hI hE
  have hK := KR_of hI
  have hq : rd h 1 1 = 5 ∨ rd h 1 1 = 32 := rQf hI.1
  obtain ⟨-, -, -, -, ⟨-, c2, -⟩, -⟩ := id hc
  have c2' : rd h (rd h 1 1) 2 = rd h 188 1 := c2
  have n2 := rq_people hI.1
  have k5 := hE.2.2.2.2.2.2.2.2.2.2.2.1
  have e60 : rd h 60 1 = rd h 198 1 := by
    have := k5.2.1
    rw [show (0 : Int) + 1 = 1 by decide] at this
    exact this
  have w : WC (key h) (rd h 198) h := ⟨hI, rfl, rfl⟩
  have A : Rn xs xl e mm_OneSided_years 0 [some (.inr (.inr 1)), some (.inl v1), some (.inl v2), some (.inl v3)] [] h (fun r g => ∃ x, r = some (.inl x) ∧ yrsJ v1 v2 v3 h g x) := by
    have no : ¬ yrsC h v1 v2 v3 → ∃ x, (some (.inl (-1)) : Option LV) = some (.inl x) ∧ yrsJ v1 v2 v3 h h x := fun z => ⟨-1, rfl, fun _ _ _ => rfl, Or.inl ⟨z, rfl⟩⟩
    have go : ∀ v : Int, v = v3 → yrsC h v1 v2 v3 → ∃ c, c < e ∧ Rn xs xl c mm_Plans_runYears 0 [some (.inr (.inr 77)), some (.inr (.inr (rd h 1 1))), some (.inr (.inr 68)), some (.inl (rd h 60 1)), some (.inl v1), some (.inl v2), some (.inl v), none, none, none, none, none, none, none] [] h (fun r h' => Rn xs xl e mm_OneSided_years 86 [some (.inr (.inr 1)), some (.inl v1), some (.inl v2), some (.inl v3)] (r.toList ++ []) h' (fun r g => ∃ x, r = some (.inl x) ∧ yrsJ v1 v2 v3 h g x)) := fun v ev yc => by
      subst ev
      refine ⟨5, by omega, F_runYears (Nat.le_refl 5) hc hK (fun p p0 p1 => KB_of w ?_) ?_ yc.2.1 (fun g gf gF => B_OneSided_years_86 gF ⟨_, rfl, gf, Or.inr ⟨yc, ?_⟩⟩)⟩
      · have p1' : p < rd h 188 2 := p1
        omega
      · exact yc.2.2.2
      · rw [e60]
        rfl
    refine B_OneSided_years_0 hq rfl (RF_of hI.1) ⟨fun c => no (fun z => by have := z.1; omega), fun a1 => ⟨fun c => no (fun z => by have := z.1; omega), fun a2 => ⟨fun c => no (fun z => by have := z.2.1; omega), fun a3 => ⟨fun a4 => ⟨fun a5 => ⟨fun a6 => ⟨fun _ => go 0 a5.symm ⟨⟨a1, a2⟩, ⟨a3, a4⟩, Or.inl a5, by omega⟩, fun z => by omega⟩, fun c => no (fun z => by have := z.2.2.2; omega)⟩, fun a5 => ⟨fun c => no (fun z => by have := z.2.2.1; omega), fun a6 => ⟨fun a7 => go 1 a6.symm ⟨⟨a1, a2⟩, ⟨a3, a4⟩, Or.inr a6, by omega⟩, fun c => no (fun z => by have := z.2.2.2; omega)⟩⟩⟩, fun c => no (fun z => by have := z.2.1; omega)⟩⟩⟩⟩
  have B : Rn xs xl e mm_OneSided_years 0 [some (.inr (.inr 1)), some (.inl v1), some (.inl v2), some (.inl v3)] [] h (fun r g => INV g) := use_sm TC_years (as := [.inr (.inr 1), .inl v1, .inl v2, .inl v3]) rfl (Nat.le_trans (Nat.le_of_ble_eq_true rfl) he) hI (gAr_c (g_ref 1) (gAr_c (g_i h1) (gAr_c (g_i h2) (gAr_c (g_i h3) gAr_n)))) rfl (Nat.le_of_ble_eq_true rfl) rfl (fun r g gI gf gq => gI)
  refine (A.and B).mono (fun r g z => ?_)
  obtain ⟨⟨x, rfl, a⟩, b⟩ := z
  exact k x g b a
theorem G_yearsS (he : 9 ≤ e) (hI : INV h) (hE : EQL h) (gI : INV g) (hj : yrsJ v1 v2 v3 h g r) (k : ∀ g', INV g' → EQL g' → Q (some (.inl r)) g') : Rn xs xl e mm_years 0 [some (.inr (.inr 182)), some (.inl v1), some (.inl v2), some (.inl v3), none, none, none, none, none, none] [] g Q := by
  obtain ⟨sm, hc⟩ := hj
  have EG := EQL_68 hI hE sm
  have ek : key g = key h := key_frs (fun a i a0 a1 => sm a i (by unfold scp; omega)) (fun i _ _ => sm 182 i (by unfold scp; omega))
  have e1 : rd g 198 1 = rd h 198 1 := sm 198 1 (by unfold scp; omega)
  have eC : yrsC g v1 v2 v3 ↔ yrsC h v1 v2 v3 := by
    unfold yrsC
    rw [sm 188 1 (by unfold scp; omega)]
  rw [← eC, ← ek, ← e1] at hc
  have n1 := rq_doors gI.1
  have n2 := rq_people gI.1
  have hK := KR_of gI
  have no : ¬ yrsC g v1 v2 v3 → Q (some (.inl (-1))) (wr g 182 0 0) := fun z => by
    obtain ⟨i1, e1⟩ := thr gI EG
    rcases hc with ⟨_, rfl⟩ | ⟨c, _⟩
    · exact k _ i1 e1
    · exact absurd c z
  refine B_years_0 (RF_of gI.1) (by omega) ⟨fun c => no (fun z => by have := z.1; omega), fun a1 => ⟨fun c => no (fun z => by have := z.1; omega), fun a2 => ⟨fun c => no (fun z => by have := z.2.1; omega), fun a3 => ⟨fun c => no (fun z => by have := z.2.1; omega), fun a4 => ⟨fun c => no (fun z => by have := z.2.2.1; omega), fun a5 => ⟨fun c => no (fun z => by have := z.2.2.1; omega), fun a6 => ⟨fun a7 => ⟨1, by omega, ?_⟩, fun c => no (fun z => by have := z.2.2.2; omega)⟩⟩⟩⟩⟩⟩⟩
  have yc : yrsC g v1 v2 v3 := ⟨⟨a1, a2⟩, ⟨a3, a4⟩, by omega, by omega⟩
  have er : r = yrsV (key g) (rd g 198 1) v1 v2 v3 := by
    rcases hc with ⟨z, _⟩ | ⟨_, z⟩
    · exact absurd yc z
    · exact z
  generalize esh : rd g 198 1 = sh at er
  have i0 : INV (wr (wr g 182 0 0) 182 54 v1) := y_54 (wF_thrown gI (by omega) (by omega)) (by unfold i64; omega)
  have loop : ∀ (n : Nat) (u : LH) (v6 : Int) (o7 o8 o9 : Option LV), v2 - v6 ≤ n → 0 ≤ v6 → v6 ≤ v2 → YR g u (yS (key g) v1 sh 1000000 v6.toNat).1 (yS (key g) v1 sh 1000000 v6.toNat).2.1 → Rn xs xl e mm_years 82 [some (.inr (.inr 182)), some (.inl v1), some (.inl v2), some (.inl v3), some (.inl (yS (key g) v1 sh 1000000 v6.toNat).2.2.1), some (.inl (yS (key g) v1 sh 1000000 v6.toNat).2.2.2), some (.inl v6), o7, o8, o9] [] u Q := by
    intro n
    have stop : ∀ (u : LH) (v6 : Int), v2 ≤ v6 → v6 ≤ v2 → YR g u (yS (key g) v1 sh 1000000 v6.toNat).1 (yS (key g) v1 sh 1000000 v6.toNat).2.1 → (v3 ≠ 0 → Q (some (.inl (yS (key g) v1 sh 1000000 v6.toNat).2.2.2)) u) ∧ (v3 = 0 → Q (some (.inl (yS (key g) v1 sh 1000000 v6.toNat).2.2.1)) u) := fun u v6 b1 b2 yr => by
      have := k u yr.1 (YR_E gI EG yr)
      rw [er] at this
      unfold yrsV at this
      rw [show v6 = v2 by omega]
      refine ⟨fun z => ?_, fun z => ?_⟩
      · rw [if_neg z] at this
        have le := yS_least (K := key g) (seed := v1) (sh := sh) (l0 := 6) (l1 := 1000000) hK.2.2.1 (by omega) (by omega) (v2.toNat - 1)
        rw [show v2.toNat - 1 + 1 = v2.toNat by omega] at le
        rw [← le]
        exact this
      · rw [if_pos z] at this
        rw [← (yS_same (K := key g) (seed := v1) (sh := sh) (l0 := 6) (l1 := 1000000) v2.toNat).2.2]
        exact this
    induction n with
    | zero =>
      intro u v6 o7 o8 o9 hn b0 b1 yr
      exact B_years_82 (RF_of yr.1.1) (by omega) (by omega) ⟨fun c => stop u v6 c b1 yr, fun c => by omega⟩
    | succ n ih =>
      intro u v6 o7 o8 o9 hn b0 b1 yr
      have en : (v6 + 1).toNat = v6.toNat + 1 := by omega
      have u1 : rd u 188 1 = (key g).1 1 := by
        have := YR_key yr
        rw [show rd u 188 1 = (key u).1 1 from rfl, this]
      have s138 : v6 < v2 → ∀ t, YR g t (yS (key g) v1 sh 1000000 (v6 + 1).toNat).1 (yS (key g) v1 sh 1000000 (v6 + 1).toNat).2.1 → Rn xs xl e mm_years 138 [some (.inr (.inr 182)), some (.inl v1), some (.inl v2), some (.inl v3), some (.inl (yS (key g) v1 sh 1000000 v6.toNat).2.2.1), some (.inl (yS (key g) v1 sh 1000000 v6.toNat).2.2.2), some (.inl v6), o7, o8, o9] [] t Q := by
        intro c t tr
        have tk := YR_key tr
        have sm0 := yS_sum (K := key g) (seed := v1) (sh := sh) (l0 := 1000000) hK.2.2.1 v6.toNat
        have e3 : (yS (key g) v1 sh 1000000 (v6 + 1).toNat).2.2.1 = (yS (key g) v1 sh 1000000 v6.toNat).2.2.1 + nIT (key g) (yS (key g) v1 sh 1000000 (v6 + 1).toNat).2.1 ((key g).1 2).toNat := by rw [en]; rfl
        have e4 : (yS (key g) v1 sh 1000000 (v6 + 1).toNat).2.2.2 = if nIT (key g) (yS (key g) v1 sh 1000000 (v6 + 1).toNat).2.1 ((key g).1 2).toNat < (yS (key g) v1 sh 1000000 v6.toNat).2.2.2 then nIT (key g) (yS (key g) v1 sh 1000000 (v6 + 1).toNat).2.1 ((key g).1 2).toNat else (yS (key g) v1 sh 1000000 v6.toNat).2.2.2 := by rw [en]; rfl
        have nx := ih
        generalize esd : (yS (key g) v1 sh 1000000 (v6 + 1).toNat).2.1 = s2 at *
        have kn : (key g).1 2 = rd g 188 2 := rfl
        have inner : ∀ (m : Nat) (w : LH) (v8 : Int) (o9 : Option LV), (key g).1 2 - v8 ≤ m → 0 ≤ v8 → v8 ≤ (key g).1 2 → WC (key g) (rd t 198) w → frL t w → Rn xs xl e mm_years 144 [some (.inr (.inr 182)), some (.inl v1), some (.inl v2), some (.inl v3), some (.inl (yS (key g) v1 sh 1000000 v6.toNat).2.2.1), some (.inl (yS (key g) v1 sh 1000000 v6.toNat).2.2.2), some (.inl v6), some (.inl (nIT (key g) s2 v8.toNat)), some (.inl v8), o9] [] w Q := by
          intro m
          have fin : ∀ (w : LH) (v8 : Int) (o9 : Option LV), (key g).1 2 ≤ v8 → v8 ≤ (key g).1 2 → WC (key g) (rd t 198) w → frL t w → (-2147483648 ≤ (yS (key g) v1 sh 1000000 v6.toNat).2.2.1 + nIT (key g) s2 v8.toNat ∧ (yS (key g) v1 sh 1000000 v6.toNat).2.2.1 + nIT (key g) s2 v8.toNat ≤ 2147483647) ∧ ((yS (key g) v1 sh 1000000 v6.toNat).2.2.2 ≤ nIT (key g) s2 v8.toNat → Rn xs xl e mm_years 82 [some (.inr (.inr 182)), some (.inl v1), some (.inl v2), some (.inl v3), some (.inl ((yS (key g) v1 sh 1000000 v6.toNat).2.2.1 + nIT (key g) s2 v8.toNat)), some (.inl (yS (key g) v1 sh 1000000 v6.toNat).2.2.2), some (.inl (v6 + 1)), some (.inl (nIT (key g) s2 v8.toNat)), some (.inl v8), o9] [] w Q) ∧ (nIT (key g) s2 v8.toNat < (yS (key g) v1 sh 1000000 v6.toNat).2.2.2 → Rn xs xl e mm_years 82 [some (.inr (.inr 182)), some (.inl v1), some (.inl v2), some (.inl v3), some (.inl ((yS (key g) v1 sh 1000000 v6.toNat).2.2.1 + nIT (key g) s2 v8.toNat)), some (.inl (nIT (key g) s2 v8.toNat)), some (.inl (v6 + 1)), some (.inl (nIT (key g) s2 v8.toNat)), some (.inl v8), o9] [] w Q) := fun w v8 o9 d0 d1 ww wf => by
            have i8 := nIT_in (K := key g) (sh := s2) v8.toNat
            have ev : ((key g).1 2).toNat = v8.toNat := by omega
            rw [ev] at e3 e4
            have go := nx w (v6 + 1) (some (.inl (nIT (key g) s2 v8.toNat))) (some (.inl v8)) o9 (by omega) (by omega) (by omega) (by rw [esd]; exact YR_L tr ww.1 wf)
            rw [e3, e4] at go
            refine ⟨by omega, fun z => ?_, fun z => ?_⟩
            · rw [if_neg (by omega)] at go
              exact go
            · rw [if_pos z] at go
              exact go
          induction m with
          | zero =>
            intro w v8 o9 hm d0 d1 ww wf
            have e2 : rd w 188 2 = (key g).1 2 := by
              have := ww.2.1
              rw [show rd w 188 2 = (key w).1 2 from rfl, this]
            have i8 := nIT_in (K := key g) (sh := s2) v8.toNat
            exact B_years_144 (RF_of ww.1.1) (by omega) (by omega) (by omega) (by omega) ⟨fun _ => fin w v8 o9 (by omega) d1 ww wf, fun z => by omega⟩
          | succ m im =>
            intro w v8 o9 hm d0 d1 ww wf
            have e2 : rd w 188 2 = (key g).1 2 := by
              have := ww.2.1
              rw [show rd w 188 2 = (key w).1 2 from rfl, this]
            have i8 := nIT_in (K := key g) (sh := s2) v8.toNat
            refine B_years_144 (RF_of ww.1.1) (by omega) (by omega) (by omega) (by omega) ⟨fun z => fin w v8 o9 (by omega) d1 ww wf, fun z => ⟨7, by omega, ?_⟩⟩
            have p1 : v8 < (key g).1 2 := by omega
            refine G_errandHourX (Nat.le_refl 7) ww (by decide) (by decide) (by omega) (fun r w' ww' wf' hr => ?_)
            obtain ⟨t1, t2, t3⟩ := tr.2.2.2.2.2 v8 d0 (by omega)
            have hr0 : FHr (key g) (S0d (key g) s2) 0 v8 (zshl 1 ((key g).1 (4 * v8 + 117) + 10)) r := by
              refine (FHr_congr (b := 1540) (b' := 0) ?_ ?_ ?_ ?_ ?_).mp hr
              · rw [S0d_0]
                exact tr.2.2.2.2.1
              · rw [S0d_1]
                exact tr.2.2.2.1
              · rw [S0d_2 (by omega)]
                exact t1
              · rw [S0d_8 (by omega)]
                exact t2
              · rw [S0d_14 (by omega)]
                exact t3
            have sb := SB_0d (sh := s2) hK ⟨d0, p1⟩
            have neg := FHr_neg sb hr0
            have e9 : rd w' 188 (4 * v8 + 119) = (key g).1 (4 * v8 + 119) := by
              have := ww'.2.1
              rw [show rd w' 188 (4 * v8 + 119) = (key w').1 (4 * v8 + 119) from rfl, this]
            have nxt := im w' (v8 + 1) (some (.inl r)) (by omega) (by omega) (by omega) ww' (wf.trans wf')
            refine B_years_162 (RF_of ww'.1.1) (by omega) (by omega) (by omega) ⟨fun y => ?_, fun y => ⟨fun z => ?_, fun z => ?_⟩⟩
            · rw [nIT_no sb hr0 d0 (by omega)] at nxt
              exact nxt
            · rw [nIT_no sb hr0 d0 (by omega)] at nxt
              exact nxt
            · rw [nIT_yes hr0 d0 (by omega)] at nxt
              exact nxt
        exact B_years_138 (RF_of tr.1.1) (by omega) (inner 6 t 0 o9 (by omega) (by omega) (by omega) ⟨tr.1, tk, rfl⟩ (frL.refl t))
      refine B_years_82 (RF_of yr.1.1) (by omega) (by omega) ⟨fun c => stop u v6 c b1 yr, fun c => ⟨by rw [yr.2.1 188 1 (by decide) (by decide) (by decide) (by decide)]; exact a7, fun y => ?_, fun y => ?_⟩⟩
      · refine s138 c _ ?_
        have x1 : (yS (key g) v1 sh 1000000 (v6 + 1).toNat).1 = dN (dN (rd u 182 54)) := by rw [yr.2.2.1, en]; rfl
        have x2 : (yS (key g) v1 sh 1000000 (v6 + 1).toNat).2.1 = zxor (rd u 198 1541) (zshl 1 (dB (dN (rd u 182 54)) (rd u 188 1))) := by
          rw [yr.2.2.1, yr.2.2.2.1, u1, en]
          show ySh _ _ _ = _
          unfold ySh
          rw [if_neg]
          rw [yr.2.2.1] at y
          exact y
        rw [x1, x2]
        exact YR_w yr (dN_i _) (dN_i _) (zxor_i _ _) (zxor_i _ _)
      · refine s138 c _ ?_
        have x1 : (yS (key g) v1 sh 1000000 (v6 + 1).toNat).1 = dN (dN (rd u 182 54)) := by rw [yr.2.2.1, en]; rfl
        have x2 : (yS (key g) v1 sh 1000000 (v6 + 1).toNat).2.1 = 0 := by
          rw [en]
          show ySh _ _ _ = _
          unfold ySh
          rw [if_pos]
          rw [yr.2.2.1] at y
          exact y
        rw [x1, x2]
        exact YR_w yr (dN_i _) (dN_i _) (zxor_i _ _) (by unfold i32; omega)
  refine G_startsX (Nat.le_refl 1) i0.1 (by decide) (by decide) (by decide) (fun u ur us uf => ?_)
  refine B_years_57 (RF_of ur) ?_
  have f0 : ∀ a i, ¬ (a = 182 ∧ (i = 0 ∨ i = 54)) → rd (wr (wr g 182 0 0) 182 54 v1) a i = rd g a i := fun a i n => by
    rw [rd_wr, if_neg (by omega), rd_wr, if_neg (by omega)]
  have uI : INV u := INV_far i0 ur (fun a i n _ _ => uf a i (by omega))
  have us1 : rd u 198 1 = sh := by
    rw [uf 198 1 (by omega), f0 198 1 (by omega)]
    exact esh
  rw [us1]
  have ish : i32 sh := by
    rw [← esh]
    exact (rdP (a := 198) (i := 1) (lo := -2147483648) (hi := 2147483647) (st := 1) gI.1 (vldA (n := 1610) (k := 1) (by decide +kernel) (by decide +kernel) (by omega)) (Or.inl (lkd_1 (by decide +kernel))) (fun v hv => by rw [hs_rng (lo := 1) (hi := 1) (A := (0, -2147483648, 2147483647, 1)) (by decide) (by decide) (by decide) (by decide +kernel)] at hv; exact hv)).2.2
  refine loop v2.toNat _ 0 none none none (by omega) (by omega) (by omega) ⟨y_41 uI ish, fun a i n1 n2 n3 n4 => ?_, ?_, rdw_eq, ?_, fun p p0 p1 => ?_⟩
  · rw [rd_wr, if_neg (by omega), uf a i (by omega)]
    exact f0 a i n3
  · rw [rdw_ne (by decide), uf 182 54 (by omega), rdw_eq]
    rfl
  · rw [rdw_nei (by decide)]
    exact us.1
  · have g8 : ∀ i, rd u 188 i = rd g 188 i := fun i => (uf 188 i (by omega)).trans (f0 188 i (by omega))
    rw [rdw_nei (by omega), rdw_nei (by omega), rdw_nei (by omega), ← g8, ← g8]
    exact us.2.1 p p0 p1
end YB
