section
/-! lines, part x5: day under the relation -/
/-- day's answer, and where its lines begin -/
def dyF (h : LH) : Int := (dF (tO (rd h 3) (rd h 2 0)) (tV (rd h 3) (rd h 2 0) 37) (tW (rd h 3) (rd h 2 0) 37 (rd hc_556 187)) (tP (rd h 3) (rd h 2 0)) (kR h (rd h 3) (rd h 2 0) 20 6) (kR h (rd h 3) (rd h 2 0) 0 14)).1.1
def dyL (h : LH) : List Nat := dTF (tO (rd h 3) (rd h 2 0)) (tV (rd h 3) (rd h 2 0) 37) (tW (rd h 3) (rd h 2 0) 37 (rd hc_556 187)) (tP (rd h 3) (rd h 2 0)) (kR h (rd h 3) (rd h 2 0) 20 6) (kR h (rd h 3) (rd h 2 0) 0 14)
/-- memory N of the class holds those lines -/
def dyC (h g : LH) (N : Int) : Prop := (rd g N 1 = ((dyL h).length : Int) ∧ (dyL h).length ≤ 24) ∧ ∀ i : Nat, i < (dyL h).length → LnC (tO (rd h 3) (rd h 2 0)) (tV (rd h 3) (rd h 2 0) 32) (tW (rd h 3) (rd h 2 0) 37 (rd hc_556 187)) (fun x => rd h (rd h 1 1 + 21 + x) 0) (fun x => rd h (rd h 1 1 + 7 + x) 0) (rd h (rd h 1 1) 4) (rd h (rd h 1 1) 2) ((dyL h).getD i 0) (rd g (N + 4) i) (rd g (N + 5) i)
/-- between both days -/
def dyJ (h g : LH) : Prop := rd g 2 0 = 0 ∧ (∀ a i, inK a i ∨ inX a i → ¬ (a = 59 ∧ i = 1) → a ≠ 63 → a ≠ 64 → rd g a i = rd h a i) ∧ rd g 182 2 = rd h 182 2 ∧ (dyF h ≠ 0 → rd g 59 1 = rd h 59 1 ∧ ∀ i, rd g 63 i = rd h 63 i ∧ rd g 64 i = rd h 64 i) ∧ (dyF h = 0 → dyC h g 59)
section X5
variable {xs : Nat → Int} {xl e : Nat} {h g : LH} {Q : Option LV → LH → Prop} {q x y x' y' : Int} {T : Int → Int} {n : Int} {w : Nat → Int} {t j : Nat}
theorem Ln_p (hN : NMR h) (h1 : n ≤ 1000) (h2 : 0 ≤ n) (hb : 0 ≤ rd h 182 18) (ho : tO T n j = 1) (hx : 0 ≤ x ∧ x < rd h (rd h 1 1) 4) (hn : rd h (rd h 1 1 + 21 + x) 0 = tV T n 32 j) : fR h T n j = 20 + x := by
  obtain ⟨n1, n2, n3, n4, n5, n6⟩ := hN
  have tw := tV_wd (T := T) h1 h2 ho
  have ex : ((x.toNat : Nat) : Int) = x := Int.toNat_of_nonneg hx.1
  obtain ⟨k, k1, k2⟩ := n5 x.toNat (by omega)
  rw [ex] at k2
  have w3 : wd (rd h (rd h 1 1 + 21 + x) 0) (rd h 191 k) := by
    rcases n3 k k1 with ⟨j', j1, j2, j3⟩ | ⟨j', j1, j2, j3⟩
    · omega
    · have e : (j' : Int) = x := by omega
      rw [e] at j3
      exact j3
  have e7 : rd h 191 k = tV T n 37 j := (wd_iff w3 tw).mp hn
  unfold fR
  rcases fndI_sp (f := fun i => rd h 191 i) (c := fun i => rd h 193 i) (x := tV T n 37 j) (rd h 182 18).toNat 0 with ⟨i, a1, a2, a3, a4⟩ | ⟨a1, a2⟩
  · have ek : i = k := n6 i k (by omega) k1 (a3.trans e7.symm)
    rw [a4, ek]
    exact k2
  · exact absurd e7 (a1 k (by omega) (by omega))
theorem Ln_d (hN : NMR h) (h1 : n ≤ 1000) (h2 : 0 ≤ n) (hb : 0 ≤ rd h 182 18) (ho : tO T n j = 1) (hx : 0 ≤ x ∧ x < rd h (rd h 1 1) 2) (hn : rd h (rd h 1 1 + 7 + x) 0 = tV T n 32 j) : fR h T n j = x := by
  obtain ⟨n1, n2, n3, n4, n5, n6⟩ := hN
  have tw := tV_wd (T := T) h1 h2 ho
  have ex : ((x.toNat : Nat) : Int) = x := Int.toNat_of_nonneg hx.1
  obtain ⟨k, k1, k2⟩ := n4 x.toNat (by omega)
  rw [ex] at k2
  have w3 : wd (rd h (rd h 1 1 + 7 + x) 0) (rd h 191 k) := by
    rcases n3 k k1 with ⟨j', j1, j2, j3⟩ | ⟨j', j1, j2, j3⟩
    · have e : (j' : Int) = x := by omega
      rw [e] at j3
      exact j3
    · omega
  have e7 : rd h 191 k = tV T n 37 j := (wd_iff w3 tw).mp hn
  unfold fR
  rcases fndI_sp (f := fun i => rd h 191 i) (c := fun i => rd h 193 i) (x := tV T n 37 j) (rd h 182 18).toNat 0 with ⟨i, a1, a2, a3, a4⟩ | ⟨a1, a2⟩
  · have ek : i = k := n6 i k (by omega) k1 (a3.trans e7.symm)
    rw [a4, ek]
    exact k2
  · exact absurd e7 (a1 k (by omega) (by omega))
/-- a line of the class and one of the reference that begin at one token are alike -/
theorem Ln_eq (hN : NMR h) (h1 : n ≤ 1000) (h2 : 0 ≤ n) (hb : 0 ≤ rd h 182 18) (hC : LnC (tO T n) (tV T n 32) w (fun x => rd h (rd h 1 1 + 21 + x) 0) (fun x => rd h (rd h 1 1 + 7 + x) 0) (rd h (rd h 1 1) 4) (rd h (rd h 1 1) 2) t x y) (hR : LnR (tO T n) w (fR h T n) (fR h T n) t x' y') : x = x' ∧ (x ≠ -1 → y = y' ∧ (0 ≤ x ∧ x < rd h (rd h 1 1) 4) ∧ (0 ≤ y ∧ y < rd h (rd h 1 1) 2)) := by
  rcases hC with ⟨a, rfl⟩ | ⟨a, ⟨b1, b2, b3⟩, c1, c2, c3⟩
  · rcases hR with ⟨a', rfl⟩ | ⟨a', _⟩
    · exact ⟨rfl, fun z => absurd rfl z⟩
    · omega
  · rcases hR with ⟨a', _⟩ | ⟨a', ⟨_, _, d3⟩, _, _, e3⟩
    · omega
    · have f1 := Ln_p hN h1 h2 hb b1 b2 b3
      have f2 := Ln_d hN h1 h2 hb c1 c2 c3
      exact ⟨by omega, fun _ => ⟨by omega, b2, c2⟩⟩
theorem K_readDayX (he : 6 ≤ e) (hq : q = 5 ∨ q = 32) (hI : INV h) (k : ∀ r h', INV h' → (∀ a i, a ∈ ([59, 63, 64] : List Int) → rd h' a i = rd h a i) → Q r h') : Rn xs xl e mm_Reader_readDay 0 [some (.inr (.inr 2)), some (.inr (.inr q)), some (.inr (.inr 67)), none] [] h Q := by
  rcases hq with rfl | rfl
  · exact use_sm (tabD (j := 9) rfl) (as := [.inr (.inr 2), .inr (.inr 5), .inr (.inr 67)]) rfl he hI (gAr_c (g_ref 2) (gAr_c (g_ref 5) (gAr_c (g_ref 67) gAr_n))) rfl (Nat.le_of_ble_eq_true rfl) rfl (fun r h' i' f q => k r h' i' (fun a i ha => f a i (cbx_ok (L := [59, 63, 64]) (by decide +kernel) ha)))
  · exact use_sm (tabD (j := 10) rfl) (as := [.inr (.inr 2), .inr (.inr 32), .inr (.inr 67)]) rfl he hI (gAr_c (g_ref 2) (gAr_c (g_ref 32) (gAr_c (g_ref 67) gAr_n))) rfl (Nat.le_of_ble_eq_true rfl) rfl (fun r h' i' f q => k r h' i' (fun a i ha => f a i (cbx_ok (L := [59, 63, 64]) (by decide +kernel) ha)))
theorem E_dayY (he : 8 ≤ e) (hI : INV h) (hE : EQX h) (k : ∀ g, INV g → dyJ h g → Q (some (.inl (dyF h))) g) : Rn xs xl e mm_OneSided_day 0 [some (.inr (.inr 1)), none] [] h Q := by
  have n0 := rG_2_0 hI.1
  have hq : rd h 1 1 = 5 ∨ rd h 1 1 = 32 := rQf hI.1
  have b18 := rF_namesMany hI.1
  obtain ⟨c1, c2, c3, c4, c5, c6, -⟩ := id hE.1
  have hN := hE.2.1.1
  have kp : ∀ j, tO (rd h 3) (rd h 2 0) j = 1 → nmC (fun i => rd h (rd h 1 1 + 21 + i) 0) (rd h (rd h 1 1) 4).toNat (tV (rd h 3) (rd h 2 0) 32 j) = kR h (rd h 3) (rd h 2 0) 20 6 j := fun j ho => kn_p hN n0.2 n0.1 b18.1 ho
  have kd : ∀ j, tO (rd h 3) (rd h 2 0) j = 1 → nmC (fun i => rd h (rd h 1 1 + 7 + i) 0) (rd h (rd h 1 1) 2).toNat (tV (rd h 3) (rd h 2 0) 32 j) = kR h (rd h 3) (rd h 2 0) 0 14 j := fun j ho => kn_d hN n0.2 n0.1 b18.1 ho
  have hW : tW (rd h 3) (rd h 2 0) 32 (rd hc_556 4) = tW (rd h 3) (rd h 2 0) 37 (rd hc_556 187) := funext (fun j => tW_b n0.2 n0.1 sameW0 j)
  have same := dF_b (w := tW (rd h 3) (rd h 2 0) 37 (rd hc_556 187)) (tV_sm (T := rd h 3) n0.2 n0.1) kp kd
  have sameT := dTF_b (w := tW (rd h 3) (rd h 2 0) 37 (rd hc_556 187)) (tV_sm (T := rd h 3) n0.2 n0.1) kp kd
  have key : ∀ Q0 : Option LV → LH → Prop, (∀ h', (dyF h = 0 → dyC h h' 67) → Q0 (some (.inl (dyF h))) h') → Rn xs xl 6 mm_Reader_readDay 0 [some (.inr (.inr 2)), some (.inr (.inr (rd h 1 1))), some (.inr (.inr 67)), none] [] h Q0 := by
    intro Q0 k0
    have z := F_readDay (xs := xs) (xl := xl) (e := 6) (h := h) (Q := Q0) (q := rd h 1 1) (T := rd h 3) (n := rd h 2 0) (W := rd hc_556 4) (by omega) hq c3 ⟨RF_of hI.1, ⟨rfl, fun _ _ _ => rfl, n0.1, n0.2⟩, c4⟩ hN.1 hN.2.1
    rw [hW, same, sameT] at z
    exact z (fun h' a => k0 h' a)
  have A0 : Rn xs xl 6 mm_Reader_readDay 0 [some (.inr (.inr 2)), some (.inr (.inr (rd h 1 1))), some (.inr (.inr 67)), none] [] h (fun r g => r = some (.inl (dyF h)) ∧ (dyF h = 0 → dyC h g 67)) := key _ (fun h' a => ⟨rfl, a⟩)
  have B0 : Rn xs xl 6 mm_Reader_readDay 0 [some (.inr (.inr 2)), some (.inr (.inr (rd h 1 1))), some (.inr (.inr 67)), none] [] h (fun r g => INV g ∧ (∀ a i, a ∈ ([59, 63, 64] : List Int) → rd g a i = rd h a i)) := K_readDayX (by omega) hq hI (fun r h' i' f' => ⟨i', f'⟩)
  have A : Rn xs xl e mm_OneSided_day 0 [some (.inr (.inr 1)), none] [] h (fun r g => r = some (.inl (dyF h)) ∧ (dyF h ≠ 0 → rd g 59 1 = rd h 59 1 ∧ ∀ i, rd g 63 i = rd h 63 i ∧ rd g 64 i = rd h 64 i) ∧ (dyF h = 0 → dyC h g 59)) := by
    refine B_OneSided_day_0 (rSf hI.1) hq rfl rfl (RF_of hI.1) ⟨6, by omega, (A0.and B0).mono (fun r g z => ?_)⟩
    obtain ⟨⟨rfl, a⟩, gI, gf⟩ := z
    refine B_OneSided_day_15 (rSf gI.1) (rQf gI.1) rfl rfl (RF_of gI.1) ⟨fun c => B_OneSided_day_31 (rSf gI.1) (rQf gI.1) rfl rfl (RF_of gI.1) ⟨rfl, fun _ => ⟨gf 59 1 (by decide), fun i => ⟨gf 63 i (by decide), gf 64 i (by decide)⟩⟩, fun z => absurd z c⟩, fun c => ⟨0, by omega, ?_⟩⟩
    have A1 : Rn xs xl 0 mm_Memory_copyDay 0 [some (.inr (.inr 59)), some (.inr (.inr 67))] [] g (fun r u => r = none ∧ dcq g u 67 59) := F_cday_59_67 (RF_of gI.1) (fun u d _ => ⟨rfl, d⟩)
    have B1 : Rn xs xl 0 mm_Memory_copyDay 0 [some (.inr (.inr 59)), some (.inr (.inr 67))] [] g (fun r u => INV u) := D_copyDay_59_67 gI (fun u i _ => i)
    refine (A1.and B1).mono (fun r u z => ?_)
    obtain ⟨⟨rfl, d1, d2⟩, uI⟩ := z
    refine B_OneSided_day_31 (rSf uI.1) (rQf uI.1) rfl rfl (RF_of uI.1) ⟨rfl, fun z => absurd c z, fun _ => ?_⟩
    obtain ⟨⟨x1, x2⟩, x3⟩ := a c
    refine ⟨⟨d1.trans x1, x2⟩, fun i hi => ?_⟩
    obtain ⟨y1, y2⟩ := d2 (i : Int) (by omega) (by omega)
    rw [y1, y2]
    exact x3 i hi
  have B : Rn xs xl e mm_OneSided_day 0 [some (.inr (.inr 1)), none] [] h (fun r g => INV g ∧ rd g 2 0 = 0 ∧ (∀ a i, inK a i ∨ inX a i → ¬ (a = 59 ∧ i = 1) → a ≠ 63 → a ≠ 64 → rd g a i = rd h a i) ∧ rd g 182 2 = rd h 182 2) := root_0 TD_day (as := [.inr (.inr 1)]) rfl (Nat.le_trans (Nat.le_of_ble_eq_true rfl) he) hI (gAr_c (g_ref 1) gAr_n) rfl (Nat.le_of_ble_eq_true rfl) rfl rfl rfl (fun r g gI g0 gf => ⟨gI, g0, fun a i ha n1 n2 n3 => gf a i (inBx_f (fun x hm q => by
    have y : a = 1 ∨ (3 ≤ a ∧ a ≤ 66) ∨ 75 ≤ a := by
      rcases ha with ha | ha
      · have := (inK_p ha).1
        omega
      · have := (inX_p ha).1
        omega
    clear ha
    revert q
    simp only [SMD12, List.mem_cons, List.not_mem_nil, or_false] at hm
    rcases hm with rfl | rfl | rfl | rfl | rfl | rfl | rfl | rfl | rfl | rfl | rfl | rfl | rfl | rfl <;> intro q <;> simp only at q <;> omega)), gf 182 2 (by decide +kernel)⟩)
  refine (A.and B).mono (fun r g z => ?_)
  obtain ⟨⟨rfl, a1, a2⟩, gI, b1, b2, b3⟩ := z
  exact k g gI ⟨b1, b2, b3, a1, a2⟩
theorem inK_mY {a i : Int} (ha : inK a i) : ¬ muY a i := by
  obtain ⟨y1, y2, y3, y4, y5⟩ := inK_p ha
  unfold muY
  omega
theorem G_dayY (he : 8 ≤ e) (hI : INV h) (hE : EQX h) (gI : INV g) (hj : dyJ h g) (k : ∀ g', INV g' → EQX g' → Q (some (.inl (dyF h))) g') : Rn xs xl e mm_day 0 [some (.inr (.inr 182)), none] [] g Q := by
  have n0 := rG_2_0 hI.1
  have b18 := rF_namesMany hI.1
  obtain ⟨g0, gf, g2, m1, m0⟩ := hj
  have fx : ∀ a i, inX a i → a ≠ 59 → a ≠ 63 → a ≠ 64 → rd g a i = rd h a i := fun a i ha n1 n2 n3 => gf a i (Or.inr ha) (fun z => n1 z.1) n2 n3
  have fk : ∀ a i, inK a i → rd g a i = rd h a i := fun a i ha => gf a i (Or.inl ha) (by have := (inK_p ha).1; omega) (by have := (inK_p ha).1; omega) (by have := (inK_p ha).1; omega)
  have f191 : ∀ i, rd g 191 i = rd h 191 i := fun i => fx 191 i (inX_all (lo := 191) (hi := 191) (by decide) (by decide) (by decide)) (by decide) (by decide) (by decide)
  have f193 : ∀ i, rd g 193 i = rd h 193 i := fun i => fx 193 i (inX_all (lo := 193) (hi := 193) (by decide) (by decide) (by decide)) (by decide) (by decide) (by decide)
  have f18 : rd g 182 18 = rd h 182 18 := fx 182 18 (inX_i (lo := 182) (hi := 182) (l := 18) (u := 18) (by decide) (by decide) (by decide) (by decide) (by decide)) (by decide) (by decide) (by decide)
  have e1 : (fun i : Nat => rd g 191 (i : Int)) = (fun i : Nat => rd h 191 (i : Int)) := funext (fun i => f191 i)
  have e3 : (fun i : Nat => rd g 193 (i : Int)) = (fun i : Nat => rd h 193 (i : Int)) := funext (fun i => f193 i)
  have k1 : ∀ a b, kR g (rd h 3) (rd h 2 0) a b = kR h (rd h 3) (rd h 2 0) a b := by
    intro a b
    unfold kR
    rw [e1, e3, f18]
  have kf : fR g (rd h 3) (rd h 2 0) = fR h (rd h 3) (rd h 2 0) := by
    unfold fR
    rw [e1, e3, f18]
  have A : Rn xs xl e mm_day 0 [some (.inr (.inr 182)), none] [] g (fun r g' => r = some (.inl (dyF h)) ∧ (dyF h ≠ 0 → ∀ i, 0 ≤ i → i < 50 → rd g' 195 i = rd g 195 i) ∧ (dyF h = 0 → (rd g' 195 0 = ((dyL h).length : Int) ∧ (dyL h).length ≤ 24) ∧ ∀ i : Nat, i < (dyL h).length → LnR (tO (rd h 3) (rd h 2 0)) (tW (rd h 3) (rd h 2 0) 37 (rd hc_556 187)) (fR h (rd h 3) (rd h 2 0)) (fR h (rd h 3) (rd h 2 0)) ((dyL h).getD i 0) (rd g' 195 (2 * (i : Int) + 1)) (rd g' 195 (2 * (i : Int) + 2)))) := by
    refine G_day (T := rd h 3) (n := rd h 2 0) (V := rd hc_556 187) (by omega) (RF_of gI.1) (rF_namesMany gI.1) (fun i i0 i1 => rA_nameOf gI.1 ⟨i0, i1⟩) (g2.trans hE.1.1.symm) n0.1 n0.2 (fun i i0 i1 => ?_) ?_ vinj0 ?_
    · rw [fk 183 i (inK_all (lo := 183) (hi := 183) (by decide) (by decide) (by decide))]
      exact (hE.1.2.1 i i0 i1).symm
    · rw [← hE.1.2.2.2.2.1]
      funext i
      exact fk 187 i (inK_all (lo := 187) (hi := 187) (by decide) (by decide) (by decide))
    · rw [k1, k1, kf]
      exact fun h' a b => ⟨rfl, a, b⟩
  have B : Rn xs xl e mm_day 0 [some (.inr (.inr 182)), none] [] g (fun r g' => INV g' ∧ rd g' 182 2 = 0 ∧ (∀ a i, ¬ muY a i → rd g' a i = rd g a i)) := D_day (by omega) gI (fun r h' a b c => ⟨a, b, c⟩)
  refine (A.and B).mono (fun r g' z => ?_)
  obtain ⟨⟨rfl, a1, a0⟩, gI', z2, f'⟩ := z
  clear A B
  have EG : EQS g := EQS_fr hI hE.1.2.2 (fun a i ha _ _ _ => fk a i ha)
  have EL : EQL g' := EQL_0 ((f' 2 0 (by unfold muY; omega)).trans g0) z2 (EQS_fr gI EG (fun a i ha _ _ _ => f' a i (inK_mY ha)))
  refine k g' gI' ⟨EL, ?_, XS_fr (XS_fr hE.2.2 fk) (fun a i ha => f' a i (inK_mY ha))⟩
  have fg : ∀ a i, inX a i → a ≠ 195 → rd g' a i = rd g a i := fun a i ha n => f' a i (by
    obtain ⟨y1, y2, -⟩ := inX_p ha
    unfold muY
    omega)
  by_cases z : dyF h = 0
  · obtain ⟨⟨x1, x2⟩, x3⟩ := m0 z
    obtain ⟨⟨y1, -⟩, y3⟩ := a0 z
    obtain ⟨hN, hL, hW, hM⟩ := id hE.2.1
    have hq : rd h 1 1 = 5 ∨ rd h 1 1 = 32 := rQf hI.1
    have qf := hE.1.2.2.2.2.2.2.2.1
    have fa : ∀ a i, inX a i → a ≠ 59 → a ≠ 63 → a ≠ 64 → a ≠ 195 → rd g' a i = rd h a i := fun a i ha n1 n2 n3 n4 => (fg a i ha n4).trans (fx a i ha n1 n2 n3)
    have p : ∀ i, 0 ≤ i → i ≤ 2 → rd g' 188 i = rd h 188 i := fun i i0 i1 => fa 188 i (inX_i (lo := 188) (hi := 188) (l := 0) (u := 2) (by decide) (by decide) (by decide) i0 i1) (by decide) (by decide) (by decide) (by decide)
    have p0 := p 0 (by decide) (by decide)
    have p1 := p 1 (by decide) (by decide)
    have p2 := p 2 (by decide) (by decide)
    have f59 : ∀ i, 2 ≤ i → i ≤ 7 → rd g' 59 i = rd h 59 i := fun i i0 i1 => by
      have m : inX 59 i := inX_i (lo := 59) (hi := 59) (l := 1) (u := 7) (by decide) (by decide) (by decide) (by omega) i1
      exact (fg 59 i m (by decide)).trans (gf 59 i (Or.inr m) (by omega) (by decide) (by decide))
    have g59 : rd g' 59 1 = rd g 59 1 := fg 59 1 (inX_i (lo := 59) (hi := 59) (l := 1) (u := 7) (by decide) (by decide) (by decide) (by decide) (by decide)) (by decide)
    have g63 : ∀ a i, 63 ≤ a → a ≤ 64 → rd g' a i = rd g a i := fun a i h1 h2 => fg a i (inX_all (lo := 63) (hi := 66) (by decide) h1 (by omega)) (by omega)
    have f65 : ∀ a i, 65 ≤ a → a ≤ 66 → rd g' a i = rd h a i := fun a i h1 h2 => fa a i (inX_all (lo := 63) (hi := 66) (by decide) (by omega) h2) (by omega) (by omega) (by omega) (by omega)
    have f198 : ∀ i, 34 ≤ i → i ≤ 349 → rd g' 198 i = rd h 198 i := fun i i0 i1 => fa 198 i (inX_i (lo := 198) (hi := 198) (l := 34) (u := 349) (by decide) (by decide) (by decide) i0 i1) (by decide) (by decide) (by decide) (by decide)
    have cq : ∀ a i, inX a i → rd h 1 1 ≤ a → a ≤ rd h 1 1 + 26 → rd g' a i = rd h a i := fun a i ha h1 h2 => fa a i ha (by omega) (by omega) (by omega) (by omega)
    refine ⟨NMR_x hN (fa 1 1 (inX_i (lo := 1) (hi := 1) (l := 1) (u := 1) (by decide) (by decide) (by decide) (by decide) (by decide)) (by decide) (by decide) (by decide) (by decide)) ((fg 182 18 (inX_i (lo := 182) (hi := 182) (l := 18) (u := 18) (by decide) (by decide) (by decide) (by decide) (by decide)) (by decide)).trans f18) ?_ ?_ (fun i => (fg 191 i (inX_all (lo := 191) (hi := 191) (by decide) (by decide) (by decide)) (by decide)).trans (f191 i)) (fun i => (fg 193 i (inX_all (lo := 193) (hi := 193) (by decide) (by decide) (by decide)) (by decide)).trans (f193 i)) (fun a h1 h2 => ?_), ⟨?_, ?_, fun i i0 i1 => ?_⟩, WLR_mv hW (f59 4 (by decide) (by decide)) (f59 7 (by decide) (by decide)) (fun i i0 i1 => ⟨f65 _ i (by decide) (by decide), f65 _ i (by decide) (by decide)⟩) (fun i i0 i1 => f198 _ (by omega) (by omega)) p0, fun m h1 h2 hm => ?_⟩
    · rcases hq with q | q
      · rw [q]; exact cq 5 2 (inX_i (lo := 5) (hi := 5) (l := 2) (u := 4) (by decide) (by decide) (by decide) (by decide) (by decide)) (by omega) (by omega)
      · rw [q]; exact cq 32 2 (inX_i (lo := 32) (hi := 32) (l := 2) (u := 4) (by decide) (by decide) (by decide) (by decide) (by decide)) (by omega) (by omega)
    · rcases hq with q | q
      · rw [q]; exact cq 5 4 (inX_i (lo := 5) (hi := 5) (l := 2) (u := 4) (by decide) (by decide) (by decide) (by decide) (by decide)) (by omega) (by omega)
      · rw [q]; exact cq 32 4 (inX_i (lo := 32) (hi := 32) (l := 2) (u := 4) (by decide) (by decide) (by decide) (by decide) (by decide)) (by omega) (by omega)
    · rcases hq with q | q
      · exact cq a 0 (inX_all (lo := 12) (hi := 31) (by decide) (by omega) (by omega)) (by omega) (by omega)
      · exact cq a 0 (inX_all (lo := 39) (hi := 58) (by decide) (by omega) (by omega)) (by omega) (by omega)
    · rw [g59, x1, y1]
    · rw [g59, x1]; omega
    · rw [g59, x1] at i1
      have ei : ((i.toNat : Nat) : Int) = i := Int.toNat_of_nonneg i0
      have lc := x3 i.toNat (by omega)
      have lr := y3 i.toNat (by omega)
      have ln := Ln_eq hN n0.2 n0.1 b18.1 lc lr
      rw [ei] at ln
      rw [show rd g' (59 + 4) i = rd g (59 + 4) i from g63 _ i (by decide) (by decide), show rd g' (59 + 5) i = rd g (59 + 5) i from g63 _ i (by decide) (by decide), p1, p2, show (0 : Int) + 2 * i + 1 = 2 * i + 1 by omega, show (0 : Int) + 2 * i + 2 = 2 * i + 2 by omega, ← qf.2.1, ← qf.2.2.1]
      exact ln
    · have f199 : rd g' 199 m = rd h 199 m := fa 199 m (inX_all (lo := 199) (hi := 199) (by decide) (by decide) (by decide)) (by decide) (by decide) (by decide) (by decide)
      rw [f199] at hm
      obtain ⟨hL', hW'⟩ := hM m h1 h2 hm
      have mf : ∀ i, 1 ≤ i → i ≤ 7 → rd g' (102 + 8 * m) i = rd h (102 + 8 * m) i := fun i i0 i1 => fa _ i (inX_mf h1 h2 i0 i1) (by omega) (by omega) (by omega) (by omega)
      have mr : ∀ a i, 106 + 8 * m ≤ a → a ≤ 109 + 8 * m → rd g' a i = rd h a i := fun a i a0 a1 => fa a i (inX_mr h1 h2 a0 a1) (by omega) (by omega) (by omega) (by omega)
      exact ⟨LNR_mv hL' (mf 1 (by decide) (by decide)) (fun i i0 i1 => ⟨mr _ i (by omega) (by omega), mr _ i (by omega) (by omega)⟩) (fun i i0 i1 => fa 200 _ (inX_all (lo := 200) (hi := 200) (by decide) (by decide) (by decide)) (by decide) (by decide) (by decide) (by decide)) p1 p2, WLR_mv hW' (mf 4 (by decide) (by decide)) (mf 7 (by decide) (by decide)) (fun i i0 i1 => ⟨mr _ i (by omega) (by omega), mr _ i (by omega) (by omega)⟩) (fun i i0 i1 => f198 _ (by omega) (by omega)) p0⟩
  · obtain ⟨x1, x2⟩ := m1 z
    refine XR_fr hI hE.2.1 (fun a i ha _ => ?_)
    by_cases n195 : a = 195
    · subst n195
      have y := (inX_p ha).2.2.2.2.2.1 rfl
      exact (a1 z i (by omega) (by omega)).trans (fx 195 i ha (by decide) (by decide) (by decide))
    · rw [fg a i ha n195]
      by_cases n59 : a = 59 ∧ i = 1
      · rw [n59.1, n59.2]; exact x1
      · by_cases n63 : a = 63
        · rw [n63]; exact (x2 i).1
        · by_cases n64 : a = 64
          · rw [n64]; exact (x2 i).2
          · exact gf a i (Or.inr ha) n59 n63 n64
end X5
end
section
/-! walks, part x6: told under the relation -/
/-- whether told answers yes -/
def tdA (R w v1 v2 : Int) : Prop := (0 ≤ v1 ∧ v1 < R) ∧ (0 ≤ v2 ∧ v2 < R) ∧ v1 ≠ v2 ∧ w < 10
/-- between both told -/
def tlJ (v1 v2 v3 : Int) (h g : LH) (r : Int) : Prop := (¬ tdA (rd h (rd h 1 1) 0) (rd h 59 4) v1 v2 ∧ r = 0 ∧ samP h g) ∨ (tdA (rd h (rd h 1 1) 0) (rd h 59 4) v1 v2 ∧ r = 1 ∧ rd g 59 4 = rd h 59 4 + 1 ∧ rd g 65 (rd h 59 4) = v1 ∧ rd g 66 (rd h 59 4) = v2 ∧ rd g 59 7 = (if v3 = 0 then zand (rd h 59 7) (zxor (zshl 1 (rd h 59 4)) (-1)) else zor (rd h 59 7) (zshl 1 (rd h 59 4))) ∧ ∀ a i, ¬ (a = 59 ∧ (i = 4 ∨ i = 7)) → ¬ (a = 65 ∧ i = rd h 59 4) → ¬ (a = 66 ∧ i = rd h 59 4) → rd g a i = rd h a i)
section X6
variable {xs : Nat → Int} {xl e : Nat} {h g : LH} {Q : Option LV → LH → Prop} {v1 v2 v3 r : Int}
theorem E_toldY (he : 8 ≤ e) (hI : INV h) (h1 : i32 v1) (h2 : i32 v2) (h3 : gV (0, 0, 1, 1) (.inl v3)) (k : ∀ r g, INV g → tlJ v1 v2 v3 h g r → Q (some (.inl r)) g) : Rn xs xl e mm_OneSided_told 0 [some (.inr (.inr 1)), some (.inl v1), some (.inl v2), some (.inl v3)] [] h Q := by
  have w := rG_59_4 hI.1
  have hq := rQf hI.1
  have A : Rn xs xl e mm_OneSided_told 0 [some (.inr (.inr 1)), some (.inl v1), some (.inl v2), some (.inl v3)] [] h (fun r g => ∃ x, r = some (.inl x) ∧ tlJ v1 v2 v3 h g x) := by
    have no : ¬ tdA (rd h (rd h 1 1) 0) (rd h 59 4) v1 v2 → ∃ x, (some (.inl 0) : Option LV) = some (.inl x) ∧ tlJ v1 v2 v3 h h x := fun z => ⟨0, rfl, Or.inl ⟨z, rfl, fun _ _ => rfl⟩⟩
    refine B_OneSided_told_0 (t := rd h 1 1) (rSf hI.1) hq rfl rfl (RF_of hI.1) (by omega) ⟨fun c => no (fun z => by have := z.1; omega), fun c1 => ⟨fun c => no (fun z => by have := z.1; omega), fun c2 => ⟨fun c => no (fun z => by have := z.2.1; omega), fun c3 => ⟨fun c => no (fun z => by have := z.2.1; omega), fun c4 => ⟨fun c5 => ⟨0, by omega, ?_⟩, fun c => no (fun z => by have := z.2.2.1; omega)⟩⟩⟩⟩⟩
    refine B_Memory_noteWalk_0 (RF_of hI.1) ⟨fun c6 => ⟨by omega, by omega, fun c7 => ⟨by omega, ?_⟩, fun c7 => ⟨by omega, ?_⟩⟩, fun c6 => ?_⟩
    · have F : RF (wr (wr (wr (wr h 65 (rd h 59 4) v1) 66 (rd h 59 4) v2) 59 7 (zand (rd h 59 7) (zxor (zshl 1 (rd h 59 4)) (-1)))) 59 4 ((rd h 59 4) + 1)) := RF_wn (by decide +kernel) (RF_wn (by decide +kernel) (RF_wn (hav_nr (by decide +kernel) _) (RF_wn (hav_nr (by decide +kernel) _) (RF_of hI.1))))
      have s2 : ∀ j : Nat, rd (wr (wr (wr (wr h 65 (rd h 59 4) v1) 66 (rd h 59 4) v2) 59 7 (zand (rd h 59 7) (zxor (zshl 1 (rd h 59 4)) (-1)))) 59 4 ((rd h 59 4) + 1)) 1 (j : Int) = rd h 1 j := fun j => by rw [rdw_ne (by decide), rdw_ne (by decide), rdw_ne (by decide), rdw_ne (by decide)]
      refine B_OneSided_told_33 (rSf hI.1) hq (s2 2) (s2 1) F ⟨Or.inr rfl, 1, rfl, Or.inr ⟨⟨⟨c1, c2⟩, ⟨c3, c4⟩, c5, c6⟩, rfl, rdw_eq, ?_, ?_, ?_, fun a i n1 n2 n3 => ?_⟩⟩
      · rw [rdw_ne (by decide), rdw_ne (by decide), rdw_ne (by decide), rdw_eq]
      · rw [rdw_ne (by decide), rdw_ne (by decide), rdw_eq]
      · rw [rdw_nei (by decide), rdw_eq, if_pos c7]
      · rw [rd_wr, if_neg (by omega), rd_wr, if_neg (by omega), rd_wr, if_neg (by omega), rd_wr, if_neg (by omega)]
    · have F : RF (wr (wr (wr (wr h 65 (rd h 59 4) v1) 66 (rd h 59 4) v2) 59 7 (zor (rd h 59 7) (zshl 1 (rd h 59 4)))) 59 4 ((rd h 59 4) + 1)) := RF_wn (by decide +kernel) (RF_wn (by decide +kernel) (RF_wn (hav_nr (by decide +kernel) _) (RF_wn (hav_nr (by decide +kernel) _) (RF_of hI.1))))
      have s2 : ∀ j : Nat, rd (wr (wr (wr (wr h 65 (rd h 59 4) v1) 66 (rd h 59 4) v2) 59 7 (zor (rd h 59 7) (zshl 1 (rd h 59 4)))) 59 4 ((rd h 59 4) + 1)) 1 (j : Int) = rd h 1 j := fun j => by rw [rdw_ne (by decide), rdw_ne (by decide), rdw_ne (by decide), rdw_ne (by decide)]
      refine B_OneSided_told_33 (rSf hI.1) hq (s2 2) (s2 1) F ⟨Or.inr rfl, 1, rfl, Or.inr ⟨⟨⟨c1, c2⟩, ⟨c3, c4⟩, c5, c6⟩, rfl, rdw_eq, ?_, ?_, ?_, fun a i n1 n2 n3 => ?_⟩⟩
      · rw [rdw_ne (by decide), rdw_ne (by decide), rdw_ne (by decide), rdw_eq]
      · rw [rdw_ne (by decide), rdw_ne (by decide), rdw_eq]
      · rw [rdw_nei (by decide), rdw_eq, if_neg c7]
      · rw [rd_wr, if_neg (by omega), rd_wr, if_neg (by omega), rd_wr, if_neg (by omega), rd_wr, if_neg (by omega)]
    · exact B_OneSided_told_33 (rSf hI.1) hq rfl rfl (RF_of hI.1) ⟨Or.inl rfl, no (fun z => by have := z.2.2.2; omega)⟩
  have B : Rn xs xl e mm_OneSided_told 0 [some (.inr (.inr 1)), some (.inl v1), some (.inl v2), some (.inl v3)] [] h (fun r g => INV g) := use_sm TC_told (as := [.inr (.inr 1), .inl v1, .inl v2, .inl v3]) rfl (Nat.le_trans (Nat.le_of_ble_eq_true rfl) he) hI (gAr_c (g_ref 1) (gAr_c (g_i h1) (gAr_c (g_i h2) (gAr_c h3 gAr_n)))) rfl (Nat.le_of_ble_eq_true rfl) rfl (fun r g gI gf gq => gI)
  refine (A.and B).mono (fun r g z => ?_)
  obtain ⟨⟨x, rfl, a⟩, b⟩ := z
  exact k x g b a
/-- the reference's told -/
theorem G_toldR (he : 2 ≤ e) (hI : INV h) (hw : 0 ≤ rd h 198 34 ∧ rd h 198 34 ≤ 10) (k1 : ∀ g, tdA (rd h 188 0) (rd h 198 34) v1 v2 → rd g 198 34 = rd h 198 34 + 1 → rd g 198 (3 * rd h 198 34 + 35) = v1 → rd g 198 (3 * rd h 198 34 + 36) = v2 → rd g 198 (3 * rd h 198 34 + 37) = (if v3 = 0 then 0 else 1) → (∀ a i, ¬ (a = 198 ∧ (i = 34 ∨ (3 * rd h 198 34 + 35 ≤ i ∧ i ≤ 3 * rd h 198 34 + 37))) → ¬ (a = 182 ∧ i = 0) → rd g a i = rd h a i) → Q (some (.inl 1)) g) (k0 : ∀ g, ¬ tdA (rd h 188 0) (rd h 198 34) v1 v2 → (∀ a i, ¬ (a = 182 ∧ i = 0) → rd g a i = rd h a i) → Q (some (.inl 0)) g) : Rn xs xl e mm_told 0 [some (.inr (.inr 182)), some (.inl v1), some (.inl v2), some (.inl v3), none] [] h Q := by
  have f0 : ∀ a i, ¬ (a = 182 ∧ i = 0) → rd (wr h 182 0 0) a i = rd h a i := fun a i n => by rw [rd_wr, if_neg (by omega)]
  have no : ¬ tdA (rd h 188 0) (rd h 198 34) v1 v2 → Q (some (.inl 0)) (wr h 182 0 0) := fun q => k0 _ q f0
  have e34 : ∀ x, rd (wr (wr (wr (wr h 182 0 0) 198 (3 * (rd h 198 34) + 35) v1) 198 (3 * (rd h 198 34) + 36) v2) 198 (3 * (rd h 198 34) + 37) x) 198 34 = rd h 198 34 := fun x => by
    rw [rdw_nei (by omega), rdw_nei (by omega), rdw_nei (by omega), rdw_ne (by decide)]
  have yes : ∀ x y, tdA (rd h 188 0) (rd h 198 34) v1 v2 → x = (if v3 = 0 then 0 else 1) → y = rd h 198 34 + 1 → Q (some (.inl 1)) (wr (wr (wr (wr (wr h 182 0 0) 198 (3 * (rd h 198 34) + 35) v1) 198 (3 * (rd h 198 34) + 36) v2) 198 (3 * (rd h 198 34) + 37) x) 198 34 y) := by
    intro x y ht hx hy
    refine k1 _ ht (rdw_eq.trans hy) ?_ ?_ ?_ (fun a i n1 n2 => ?_)
    · rw [rdw_nei (by omega), rdw_nei (by omega), rdw_nei (by omega), rdw_eq]
    · rw [rdw_nei (by omega), rdw_nei (by omega), rdw_eq]
    · rw [rdw_nei (by omega), rdw_eq, hx]
    · rw [rd_wr, if_neg (by omega), rd_wr, if_neg (by omega), rd_wr, if_neg (by omega), rd_wr, if_neg (by omega)]
      exact f0 a i n2
  refine B_told_0 (RF_of hI.1) he ⟨fun c => no (fun z => by have := z.1; omega), fun c1 => ⟨fun c => no (fun z => by have := z.1; omega), fun c2 => ⟨fun c => no (fun z => by have := z.2.1; omega), fun c3 => ⟨fun c => no (fun z => by have := z.2.1; omega), fun c4 => ⟨fun c => no (fun z => by have := z.2.2.1; omega), fun c5 => ⟨fun c6 => ⟨by omega, by omega, by omega, by omega, by omega, by omega, fun c7 => ⟨by omega, by rw [e34]; omega, ?_⟩, fun c7 => ⟨by omega, by rw [e34]; omega, ?_⟩⟩, fun c6 => no (fun z => by have := z.2.2.2; omega)⟩⟩⟩⟩⟩⟩
  · exact yes 0 _ ⟨⟨c1, c2⟩, ⟨c3, c4⟩, c5, by omega⟩ (by rw [if_pos c7]) (by rw [e34])
  · exact yes 1 _ ⟨⟨c1, c2⟩, ⟨c3, c4⟩, c5, by omega⟩ (by rw [if_neg c7]) (by rw [e34])
theorem G_toldY (he : 8 ≤ e) (hI : INV h) (hE : EQX h) (h1 : i32 v1) (h2 : i32 v2) (h3 : gV (0, 0, 1, 1) (.inl v3)) (gI : INV g) (hj : tlJ v1 v2 v3 h g r) (k : ∀ g', INV g' → EQX g' → Q (some (.inl r)) g') : Rn xs xl e mm_told 0 [some (.inr (.inr 182)), some (.inl v1), some (.inl v2), some (.inl v3), none] [] g Q := by
  obtain ⟨hN, hL, hW, hM⟩ := id hE.2.1
  obtain ⟨w1, w2, w3⟩ := id hW
  have qf := hE.1.2.2.2.2.2.2.2.1
  have q0 : rd h (rd h 1 1) 0 = rd h 188 0 := qf.1
  rw [show (0 : Int) + 34 = 34 from rfl] at w1
  have gh : ∀ a i, 182 ≤ a → rd g a i = rd h a i := fun a i n => by
    rcases hj with ⟨-, -, sm⟩ | ⟨-, -, -, -, -, -, fr⟩
    · exact sm a i
    · exact fr a i (by omega) (by omega) (by omega)
  have e8 : rd g 188 0 = rd h 188 0 := gh _ _ (by decide)
  have e34 : rd g 198 34 = rd h 59 4 := (gh _ _ (by decide)).trans w1.symm
  have B : Rn xs xl e mm_told 0 [some (.inr (.inr 182)), some (.inl v1), some (.inl v2), some (.inl v3), none] [] g (fun r g' => INV g') := use_sm TR_told (as := [.inr (.inr 182), .inl v1, .inl v2, .inl v3]) rfl (Nat.le_trans (Nat.le_of_ble_eq_true rfl) he) gI (gAr_c (g_ref 182) (gAr_c (g_i h1) (gAr_c (g_i h2) (gAr_c h3 gAr_n)))) rfl (Nat.le_of_ble_eq_true rfl) rfl (fun r g gI gf gq => gI)
  have A : Rn xs xl e mm_told 0 [some (.inr (.inr 182)), some (.inl v1), some (.inl v2), some (.inl v3), none] [] g (fun q g' => q = some (.inl r) ∧ EQX g') := by
    refine G_toldR (by omega) gI (by omega) (fun g' ht a1 a2 a3 a4 af => ?_) (fun g' hn af => ?_)
    · rw [e8, e34] at ht
      rw [e34] at a1 a2 a3 a4 af
      rcases hj with ⟨n, -, -⟩ | ⟨-, rfl, b1, b2, b3, b4, fr⟩
      · rw [q0] at n
        exact absurd ht n
      have hw : rd h 59 4 < 10 := ht.2.2.2
      have lo : ∀ a i, a < 182 → rd g' a i = rd g a i := fun a i n => af a i (by omega) (by omega)
      have cl : ∀ a i, a < 182 → ¬ (a = 59 ∧ (i = 4 ∨ i = 7)) → ¬ (a = 65 ∧ i = rd h 59 4) → ¬ (a = 66 ∧ i = rd h 59 4) → rd g' a i = rd h a i := fun a i n n1 n2 n3 => (lo a i n).trans (fr a i n1 n2 n3)
      have rl : ∀ a i, 182 ≤ a → ¬ (a = 198 ∧ (i = 34 ∨ (3 * rd h 59 4 + 35 ≤ i ∧ i ≤ 3 * rd h 59 4 + 37))) → ¬ (a = 182 ∧ i = 0) → rd g' a i = rd h a i := fun a i n n1 n2 => (af a i n1 n2).trans (gh a i n)
      have EL : EQL g' := by
        refine EQL_fr hI hE.1 (cl 2 0 (by decide) (by decide) (by omega) (by omega)) (rl 182 2 (by decide) (by omega) (by decide)) (fun a i ha => ?_)
        obtain ⟨y1, y2, y3, -⟩ := inK_p ha
        by_cases z : a < 182
        · exact cl a i z (by omega) (by omega) (by omega)
        · exact rl a i (by omega) (by omega) (by omega)
      have p : ∀ i, rd g' 188 i = rd h 188 i := fun i => rl 188 i (by decide) (by omega) (by omega)
      have hq : rd h 1 1 = 5 ∨ rd h 1 1 = 32 := rQf hI.1
      refine ⟨rfl, EL, ⟨NMR_x hN (cl 1 1 (by decide) (by decide) (by omega) (by omega)) (rl 182 18 (by decide) (by omega) (by decide)) (cl _ 2 (by omega) (by omega) (by omega) (by omega)) (cl _ 4 (by omega) (by omega) (by omega) (by omega)) (fun i => rl 191 i (by decide) (by omega) (by omega)) (fun i => rl 193 i (by decide) (by omega) (by omega)) (fun a x0 x1 => cl a 0 (by omega) (by omega) (by omega) (by omega)), LNR_mv hL (cl 59 1 (by decide) (by decide) (by omega) (by omega)) (fun i i0 i1 => ⟨cl _ i (by decide) (by omega) (by omega) (by omega), cl _ i (by decide) (by omega) (by omega) (by omega)⟩) (fun i i0 i1 => rl 195 _ (by decide) (by omega) (by omega)) (p 1) (p 2), ⟨?_, ?_, fun i i0 i1 => ?_⟩, fun m m0 m1 hm => ?_⟩, XS_fr hE.2.2 (fun a i ha => by
        have y := (inK_p ha).1
        obtain ⟨-, y2, y3, -⟩ := inK_p ha
        by_cases z : a < 182
        · exact cl a i z (by omega) (by omega) (by omega)
        · exact rl a i (by omega) (by omega) (by omega))⟩
      · rw [lo 59 4 (by decide), b1, show (0 : Int) + 34 = 34 from rfl, a1]
      · rw [lo 59 4 (by decide), b1]; omega
      · rw [lo 59 4 (by decide), b1] at i1
        rw [lo 59 7 (by decide), b4, p 0]
        by_cases z : i = rd h 59 4
        · rw [z, show (0 : Int) + 3 * rd h 59 4 + 35 = 3 * rd h 59 4 + 35 by omega, show (0 : Int) + 3 * rd h 59 4 + 36 = 3 * rd h 59 4 + 36 by omega, show (0 : Int) + 3 * rd h 59 4 + 37 = 3 * rd h 59 4 + 37 by omega, a2, a3, a4, show rd g' (59 + 6) (rd h 59 4) = v1 from (lo _ _ (by decide)).trans b2, show rd g' (59 + 7) (rd h 59 4) = v2 from (lo _ _ (by decide)).trans b3]
          refine ⟨rfl, rfl, ?_, ht.1, ht.2.1⟩
          by_cases c : v3 = 0
          · rw [if_pos c, if_pos c]
            refine Or.inl ⟨rfl, fun y => ?_⟩
            rw [bit_and (by omega) (by omega), bit_not (by omega) (by omega), bit_shl (by omega) (by omega) (by omega) (by omega)] at y
            exact y.2 rfl
          · rw [if_neg c, if_neg c]
            refine Or.inr ⟨rfl, ?_⟩
            rw [bit_or (by omega) (by omega), bit_shl (by omega) (by omega) (by omega) (by omega)]
            exact Or.inr rfl
        · obtain ⟨y1, y2, y3, y4, y5⟩ := w3 i i0 (by omega)
          have t5 : rd g' (59 + 6) i = rd h (59 + 6) i := cl _ i (by decide) (by omega) (by omega) (by omega)
          have t6 : rd g' (59 + 7) i = rd h (59 + 7) i := cl _ i (by decide) (by omega) (by omega) (by omega)
          rw [t5, t6, rl 198 _ (by decide) (by omega) (by omega), rl 198 (0 + 3 * i + 36) (by decide) (by omega) (by omega), rl 198 (0 + 3 * i + 37) (by decide) (by omega) (by omega)]
          refine ⟨y1, y2, ?_, y4, y5⟩
          have bb : bitZ (if v3 = 0 then zand (rd h 59 7) (zxor (zshl 1 (rd h 59 4)) (-1)) else zor (rd h 59 7) (zshl 1 (rd h 59 4))) i ↔ bitZ (rd h 59 7) i := by
            by_cases c : v3 = 0
            · rw [if_pos c, bit_and (by omega) (by omega), bit_not (by omega) (by omega), bit_shl (by omega) (by omega) (by omega) (by omega)]
              exact ⟨fun y => y.1, fun y => ⟨y, z⟩⟩
            · rw [if_neg c, bit_or (by omega) (by omega), bit_shl (by omega) (by omega) (by omega) (by omega)]
              exact ⟨fun y => y.resolve_right z, Or.inl⟩
          rcases y3 with ⟨u1, u2⟩ | ⟨u1, u2⟩
          · exact Or.inl ⟨u1, fun y => u2 (bb.mp y)⟩
          · exact Or.inr ⟨u1, bb.mpr u2⟩
      · have f199 : rd g' 199 m = rd h 199 m := rl 199 m (by decide) (by omega) (by omega)
        rw [f199] at hm
        obtain ⟨hL', hW'⟩ := hM m m0 m1 hm
        exact ⟨LNR_mv hL' (cl _ 1 (by omega) (by omega) (by omega) (by omega)) (fun i i0 i1 => ⟨cl _ i (by omega) (by omega) (by omega) (by omega), cl _ i (by omega) (by omega) (by omega) (by omega)⟩) (fun i i0 i1 => rl 200 _ (by decide) (by omega) (by omega)) (p 1) (p 2), WLR_mv hW' (cl _ 4 (by omega) (by omega) (by omega) (by omega)) (cl _ 7 (by omega) (by omega) (by omega) (by omega)) (fun i i0 i1 => ⟨cl _ i (by omega) (by omega) (by omega) (by omega), cl _ i (by omega) (by omega) (by omega) (by omega)⟩) (fun i i0 i1 => rl 198 _ (by decide) (by omega) (by omega)) (p 0)⟩
    · rw [e8, e34] at hn
      rcases hj with ⟨-, rfl, sm⟩ | ⟨y, -⟩
      · have sE : EQX g := EQX_fr hI hE (sm _ _) (sm _ _) (fun a i _ => sm a i)
        refine ⟨rfl, EQX_fr gI sE (af 2 0 (by decide)) (af 182 2 (by decide)) (fun a i ha => af a i (fun z => ?_))⟩
        rcases ha with ha | ha
        · have := (inK_p ha).2.1 z.1
          omega
        · have := (inX_p ha).2.1 z.1
          omega
      · rw [q0] at y
        exact absurd y hn
  refine (A.and B).mono (fun q g' z => ?_)
  obtain ⟨⟨rfl, a⟩, b⟩ := z
  exact k g' b a
end X6
end
section
/-! lines and walks, part x7: quarter under the relation (the reference's part by xw/gen_x7.py) -/
section X7A
variable {xs : Nat → Int} {xl e : Nat} {h : LH} {Q : Option LV → LH → Prop}
theorem G_beginsL (he : 2 ≤ e) (hr : RNG h) (hs : SP4 h) (k : ∀ g, INV g → (∀ a i, ¬ muG a i → rd g a i = rd h a i) → (∀ m, 0 ≤ m → m < 4 → rd g 199 m = 0) → (BGN g ∧ rd g 195 0 = 0) → Q none g) : Rn xs xl e mm_begins 0 [some (.inr (.inr 182)), none] [] h Q := by
  refine B_begins_0 (RF_of hr) ⟨1, by omega, G_startsX (by omega) hr (by omega) (by omega) (by omega) (fun g gr gsd gf0 => ?_)⟩
  have gf : ∀ a i, ¬ (a = 198 ∧ 0 ≤ i ∧ i < 34) → rd g a i = rd h a i := fun a i n => gf0 a i (by omega)
  have gw : ∀ p, 0 ≤ p → p ≤ 5 → rd g 198 (0 + 2 + p) = rd h 188 (117 + 4 * p) := fun p p0 p1 => by
    have z := (gsd.2.1 p p0 p1).1
    rw [gf0 188 _ (by omega)] at z
    rw [show (0 + 2 + p : Int) = 0 + p + 2 by omega, z, show (4 * p + 117 : Int) = 117 + 4 * p by omega]
  have r1 := ws gr (i := 1) (v := 0) 1 1 (-2147483648) 2147483647 (by omega) (by omega) (by omega) (by decide +kernel) (by omega) (by omega) (by unfold i32; omega)
  have r2 := ws r1 (i := 34) (v := 0) 34 34 0 10 (by omega) (by omega) (by omega) (by decide +kernel) (by omega) (by omega) (by unfold i32; omega)
  have r3 := wY_lines r2 (i := 0) (v := 0) (ix := (0, 0, 0, 0)) (lo := 0) (hi := 24) (by decide +kernel) (pt 0) (by omega) (by omega) (by unfold i32; omega)
  have r4 := wu r3 (v := 0) (by omega) (by omega)
  generalize hg4 : wr (wr (wr (wr g 198 1 0) 198 34 0) 195 0 0) 182 25 0 = g4 at *
  have f4 : ∀ a i, ¬ muG a i → rd g4 a i = rd h a i := by
    intro a i hn
    rw [← hg4, rd_wr, if_neg, rd_wr, if_neg, rd_wr, if_neg, rd_wr, if_neg]
    · exact gf a i (fun q => hn (by unfold muG; omega))
    all_goals (rintro ⟨rfl, rfl⟩; exact hn (by unfold muG; omega))
  have w4 : ∀ p, 0 ≤ p → p ≤ 5 → rd g4 198 (0 + 2 + p) = rd h 188 (117 + 4 * p) := by
    intro p p0 p1
    rw [← hg4, rdw_ne (by decide), rdw_ne (by decide), rdw_nei (by omega), rdw_nei (by omega)]
    exact gw p p0 p1
  have u4 : rd g4 182 25 = 0 := by
    rw [← hg4]
    exact rdw_eq
  have u34 : rd g4 198 34 = 0 := by
    rw [← hg4, rdw_ne (by decide), rdw_ne (by decide)]
    exact rdw_eq
  have u195 : rd g4 195 0 = 0 := by
    rw [← hg4, rdw_ne (by decide)]
    exact rdw_eq
  have u1 : rd g4 198 1 = 0 := by
    rw [← hg4, rdw_ne (by decide), rdw_ne (by decide), rdw_nei (by decide)]
    exact rdw_eq
  have sd4 : sdx 0 g4 := by
    have e8 : ∀ i, rd g4 188 i = rd g 188 i := fun i => by rw [← hg4, rdw_ne (by decide), rdw_ne (by decide), rdw_ne (by decide), rdw_ne (by decide)]
    have e9 : ∀ i, i ≠ 1 → i ≠ 34 → rd g4 198 i = rd g 198 i := fun i n1 n2 => by rw [← hg4, rdw_ne (by decide), rdw_ne (by decide), rdw_nei (fun z => n2 z.symm), rdw_nei (fun z => n1 z.symm)]
    refine ⟨(e9 0 (by decide) (by decide)).trans gsd.1, fun p p0 p1 => ?_, fun d d0 d1 => (e9 _ (by omega) (by omega)).trans (gsd.2.2 d d0 d1)⟩
    rw [e8, e8, e9 _ (by omega) (by omega), e9 _ (by omega) (by omega), e9 _ (by omega) (by omega)]
    exact gsd.2.1 p p0 p1
  refine B_begins_5 (RF_of gr) ?_
  rw [hg4]
  have loop : ∀ (n : Nat) (q : LH) (v : Int), 4 - v ≤ n → 0 ≤ v → v ≤ 4 → RNG q → (∀ m, 0 ≤ m → m < v → rd q 199 m = 0) → (∀ a i, a ≠ 199 → rd q a i = rd g4 a i) → Rn xs xl e mm_begins 34 [some (.inr (.inr 182)), some (.inl v)] [] q Q := by
    have stop : ∀ (q : LH), RNG q → (∀ m, 0 ≤ m → m < 4 → rd q 199 m = 0) → (∀ a i, a ≠ 199 → rd q a i = rd g4 a i) → Q none q := by
      intro q qr qm qf
      have qh : ∀ a i, ¬ muG a i → rd q a i = rd h a i := fun a i hn => (qf a i (fun z => hn (by unfold muG; omega))).trans (f4 a i hn)
      have s4 : SP4 q := SP4_of (fun b j hb n1 n2 n3 => qh b j (by unfold muG; unfold sens at hb; omega)) hs
      refine k q ⟨qr, s4.1, s4.2.1, s4.2.2.1, s4.2.2.2, ?_, fun m m0 m1 z => ?_, fun j j0 j1 z => ?_⟩ qh qm ⟨⟨(qf 198 34 (by decide)).trans u34, (qf 182 25 (by decide)).trans u4, (qf 198 1 (by decide)).trans u1, (qf 198 0 (by decide)).trans sd4.1, fun p p0 p1 => by rw [qf 198 _ (by decide), qf 198 _ (by decide), qf 198 _ (by decide), qf 188 _ (by decide), qf 188 _ (by decide)]; exact sd4.2.1 p p0 p1, fun d d0 d1 => (qf 198 _ (by decide)).trans (sd4.2.2 d d0 d1)⟩, (qf 195 0 (by decide)).trans u195⟩
      · intro p p0 p1 p2
        rw [qf 198 _ (by decide), w4 p p0 p1, qh 188 0 (by unfold muG; omega)]
        rw [qh 188 2 (by unfold muG; omega)] at p2
        exact hs.2.2.2.2 p p0 p1 p2
      · rw [qm m m0 m1] at z
        cases z
      · rw [qf 182 25 (by decide), u4] at z
        omega
    intro n
    induction n with
    | zero =>
      intro q v hn v0 v1 qr qm qf
      exact B_begins_34 (RF_of qr) ⟨fun _ => stop q qr (fun m m0 m1 => qm m m0 (by omega)) qf, fun c => by omega⟩
    | succ n ih =>
      intro q v hn v0 v1 qr qm qf
      refine B_begins_34 (RF_of qr) ⟨fun _ => stop q qr (fun m m0 m1 => qm m m0 (by omega)) qf, fun c => ⟨by omega, by omega, ih _ (v + 1) (by omega) (by omega) (by omega) (wR_isMarked qr (by omega) (by omega)) (fun m m0 m1 => ?_) (fun a i hn => ?_)⟩⟩
      · rw [rd_wr]
        split
        · rfl
        · exact qm m m0 (by omega)
      · rw [rdw_ne (fun q => hn q.symm)]
        exact qf a i hn
  exact loop 4 g4 0 (by omega) (by omega) (by omega) r4 (fun m _ _ => by omega) (fun _ _ _ => rfl)
end X7A
section X7B
variable {xs : Nat → Int} {xl e : Nat} {h g g1 : LH} {Q : Option LV → LH → Prop} {R : Int} {T : Int → Int} {n : Int} {V : Int → Int} {s : Int × Nat} {N ND NP : List Nat} {L : List Int} {x : Nat} {D : Int} {m : Nat}
/-- behind a text without a fault: copies, a new day, answer 0 -/
theorem DQ_tailL (he : 41 ≤ e) {G : LH} (gI : INV G) (gq : NQ G) (f0 : rd G 182 8 = 0) (k : ∀ g, INV g → (∀ i, rd g 187 i = rd G 187 i) → (∀ i, 0 ≤ i → i < 150 → rd g 188 i = rd G 188 (i + 150)) → (∀ m, 0 ≤ m → m < 4 → rd g 199 m = 0) → ((BGN g ∧ rd g 195 0 = 0) ∧ rd g 182 28 = rd G 182 28 ∧ rd g 182 29 = rd G 182 29) → (rd g 182 18 = rd G 182 19 ∧ ∀ i, 0 ≤ i → i < rd G 182 19 → rd g 191 i = rd G 192 i ∧ rd g 193 i = rd G 194 i) → (∀ i, 0 ≤ i → i < rd G 182 13 → rd g 189 i = rd G 189 (i + 1100) ∧ rd g 190 i = rd G 190 (i + 1100)) → Q (some (.inl 0)) g) : Rn xs xl e mm_quarter 129 [some (.inr (.inr 182)), some (.inl 0)] [] G Q := by
  obtain ⟨q1, q2, q3, q4, q5⟩ := gq f0
  have c0 := rF_codes gI.1
  have n0 := rw_doors gI.1
  have n1 := rw_people gI.1
  refine q_copy1 (G := G) (fun g1 r1 c1 f1 => ?_) 150 G 0 (by omega) (by omega) (by omega) gI.1 (fun i i0 i1 => by omega) (fun _ _ _ => rfl)
  have e13 : rd g1 182 13 = rd G 182 13 := f1 _ _ (by omega)
  refine q_copy2 (G := g1) (by omega) (fun g2 r2 c2 f2 => ?_) (rd g1 182 13).toNat g1 0 (by omega) (by omega) (by omega) r1 (fun i i0 i1 => by omega) (fun _ _ _ => rfl)
  refine q_copy3N (G := g2) (fun g3 r3 f3 n3 => ?_) 20 g2 0 (by omega) (by omega) (by omega) r2 (fun _ _ _ => rfl) (fun i i0 i1 => by omega)
  have x188 : ∀ i, 0 ≤ i → i < 150 → rd g3 188 i = rd G 188 (i + 150) := fun i i0 i1 => ((f3 188 i (by omega)).trans (f2 188 i (by omega))).trans (c1 i i0 i1)
  have x0 := x188 0 (by omega) (by omega)
  have x1 := x188 1 (by omega) (by omega)
  have x2 := x188 2 (by omega) (by omega)
  have x3 := x188 3 (by omega) (by omega)
  have s4 : SP4 g3 := by
    have old : ∀ b j, b ≠ 188 → b ≠ 189 → b ≠ 190 → b ≠ 191 → b ≠ 193 → b ≠ 182 → rd g3 b j = rd G b j := fun b j n1 n2 n3 n4 n5 n6 => ((f3 b j (by omega)).trans (f2 b j (by omega))).trans (f1 b j (by omega))
    obtain ⟨⟨h1, h2, h3, h4, h5, h6, h7, h8⟩, hl, ht, hq, hw⟩ := gI.2
    refine ⟨⟨lines_same (fun j => old _ j (by decide) (by decide) (by decide) (by decide) (by decide) (by decide)) (fun j => old _ j (by decide) (by decide) (by decide) (by decide) (by decide) (by decide)) h1, lines_same (fun j => old _ j (by decide) (by decide) (by decide) (by decide) (by decide) (by decide)) (fun j => old _ j (by decide) (by decide) (by decide) (by decide) (by decide) (by decide)) h2, lines_same (fun j => old _ j (by decide) (by decide) (by decide) (by decide) (by decide) (by decide)) (fun j => old _ j (by decide) (by decide) (by decide) (by decide) (by decide) (by decide)) h3, lines_same (fun j => old _ j (by decide) (by decide) (by decide) (by decide) (by decide) (by decide)) (fun j => old _ j (by decide) (by decide) (by decide) (by decide) (by decide) (by decide)) h4, lines_same (fun j => old _ j (by decide) (by decide) (by decide) (by decide) (by decide) (by decide)) (fun j => old _ j (by decide) (by decide) (by decide) (by decide) (by decide) (by decide)) h5, lines_same (fun j => old _ j (by decide) (by decide) (by decide) (by decide) (by decide) (by decide)) (fun j => old _ j (by decide) (by decide) (by decide) (by decide) (by decide) (by decide)) h6, ?_, ?_⟩, ?_, ?_, ?_⟩
    · intro m m0 m1 q
      rw [old 195 _ (by decide) (by decide) (by decide) (by decide) (by decide) (by decide)] at q ⊢
      exact h7 m m0 m1 q
    · intro m m0 m1 j j0 j1 q
      rw [old 200 _ (by decide) (by decide) (by decide) (by decide) (by decide) (by decide)] at q ⊢
      exact h8 m m0 m1 j j0 j1 q
    · intro q
      rw [x3] at q
      rcases q5 with z | ⟨z1, n, z2, z3, z4⟩
      · have := z.1
        rw [show (3 + 150 : Int) = 153 by omega, this] at q
        cases q
      · have cp : ∀ j, 0 ≤ j → j < rd G 182 13 → rd g3 189 j = opR G j ∧ rd g3 190 j = arR G j := by
          intro j j0 j1
          have y := c2 j j0 (by omega)
          unfold opR arR
          rw [f3 189 j (by omega), f3 190 j (by omega), y.1, y.2, f1 189 _ (by omega), f1 190 _ (by omega), show (j + 1100 : Int) = 1100 + j by omega]
          exact ⟨rfl, rfl⟩
        have lt := seg_lt z3
        exact ⟨n, by omega, seg_same z3 (fun j j0 j1 => cp j j0 (by omega)), (cp n (by omega) (by omega)).1.trans z4⟩
    · unfold SPtok
      rw [old 184 _ (by decide) (by decide) (by decide) (by decide) (by decide) (by decide)]
      exact ht
    · refine ⟨fun d d0 d1 d2 => ?_, fun p p0 p1 p2 => ?_⟩
      · rw [x1] at d2
        rw [x188 _ (by omega) (by omega), x188 (6 + 8 * d) (by omega) (by omega), x0, show (5 + 8 * d + 150 : Int) = 155 + 8 * d by omega, show (6 + 8 * d + 150 : Int) = 156 + 8 * d by omega]
        exact q3 d d0 d2
      · rw [x2] at p2
        rw [x188 _ (by omega) (by omega), x0, show (117 + 4 * p + 150 : Int) = 267 + 4 * p by omega]
        exact q4 p p0 p2
  exact ⟨2, by omega, G_beginsL (by omega) r3 s4 (fun g4 i4 f4 m4 w4 v => B_quarter_258 (RF_of i4.1) (k g4 i4 (fun i => by rw [f4 187 i (by unfold muG; omega), f3 187 i (by omega), f2 187 i (by omega), f1 187 i (by omega)]) (fun i i0 i1 => (f4 188 i (by unfold muG; omega)).trans (x188 i i0 i1)) m4 ⟨w4, by rw [f4 182 28 (by unfold muG; omega), f3 182 28 (by omega), f2 182 28 (by omega), f1 182 28 (by omega)], by rw [f4 182 29 (by unfold muG; omega), f3 182 29 (by omega), f2 182 29 (by omega), f1 182 29 (by omega)]⟩ (by
    have o19 : rd g2 182 19 = rd G 182 19 := (f2 _ _ (by omega)).trans (f1 _ _ (by omega))
    rw [o19] at n3
    refine ⟨(f4 182 18 (by unfold muG; omega)).trans n3.1, fun i i0 i1 => ?_⟩
    rw [f4 191 i (by unfold muG; omega), f4 193 i (by unfold muG; omega), (n3.2 i i0 i1).1, (n3.2 i i0 i1).2, f2 192 i (by omega), f2 194 i (by omega), f1 192 i (by omega), f1 194 i (by omega)]
    exact ⟨rfl, rfl⟩) (fun i i0 i1 => by
    have y := c2 i i0 (by omega)
    rw [f4 189 i (by unfold muG; omega), f4 190 i (by unfold muG; omega), f3 189 i (by omega), f3 190 i (by omega), y.1, y.2, f1 189 _ (by omega), f1 190 _ (by omega)]
    exact ⟨rfl, rfl⟩)))⟩
theorem G_quarterL (he : 41 ≤ e) (hI : INV h) (h2 : rd h 182 2 = n) (n0 : 0 ≤ n) (n1 : n ≤ 1000) (hT : ∀ i, 0 ≤ i → i < n → rd h 183 i = T i) (hV : rd h 187 = V) (hi : Vinj V)
    (k : ∀ h', rd h' 187 = V → ((qF (tO T n) (tV T n 37) (tW T n 37 V) (tP T n)).1.1 ≠ 0 → ∀ a i, pq a i → rd h' a i = rd h a i) → ((qF (tO T n) (tV T n 37) (tW T n 37 V) (tP T n)).1.1 = 0 → rd h' 188 0 = qR (tV T n 37) (tW T n 37 V) (tP T n) ∧ (∀ m, 0 ≤ m → m < 4 → rd h' 199 m = 0) ∧ ((BGN h' ∧ rd h' 195 0 = 0) ∧ rd h' 182 28 = rd h 182 28 ∧ rd h' 182 29 = rd h 182 29) ∧ NMK T n h' (qF (tO T n) (tV T n 37) (tW T n 37 V) (tP T n)) ∧ RFD T n V h' (qF (tO T n) (tV T n 37) (tW T n 37 V) (tP T n))) → Q (some (.inl (qF (tO T n) (tV T n 37) (tW T n 37 V) (tP T n)).1.1)) h') : Rn xs xl e mm_quarter 0 [some (.inr (.inr 182)), none] [] h Q := by
  generalize eF : qF (tO T n) (tV T n 37) (tW T n 37 V) (tP T n) = Y at k
  obtain ⟨R, hRq⟩ : ∃ R, R = qR (tV T n 37) (tW T n 37 V) (tP T n) := ⟨_, rfl⟩
  rw [← hRq] at k
  have hp' : ∀ k, 0 ≤ tP T n k := fun k => tP_0 n1 n0 k
  have loop : ∀ (m : Nat) (c : Nat) (g : LH) (y : QY), qL (tO T n) (tV T n 37) (tW T n 37 V) (tP T n) R c y = Y → RSK T n V m g y.1 → INV g → NQ g → (∀ a i, pq a i → rd g a i = rd h a i) → (y.1.1 = 0 → DRKf T n V g R y ∧ 1000 ≤ y.1.2 + c) → Rn xs xl e mm_quarter 52 [some (.inr (.inr 182)), none] [] g Q := by
    intro m c
    induction c with
    | zero =>
      intro g y eY hs gI gq gf hd
      have gF := RF_of gI.1
      have e8 := hs.2.1
      have a7 := hs.2.2.2.1
      have p0 := hs.2.2.1
      have m1 := hs.1.2.2.2.2.1
      have eY' : y = Y := eY
      have stop : Rn xs xl e mm_quarter 115 [some (.inr (.inr 182)), none] [] g Q := by
        refine B_quarter_115 gF ⟨fun q => ?_, fun q => ?_⟩
        · have z : y.1.1 = 0 := by omega
          refine DQ_tailL he gI gq (e8.trans z) (fun g4 _ f187 f188 f199 f34 fnm fcd => ?_)
          have := k g4 ((funext f187).trans hs.1.2.2.2.2.2.2.2.1)
          rw [← eY', z] at this
          exact this (fun q3 => absurd rfl q3) (fun _ => ⟨(f188 0 (by decide) (by decide)).trans (hd z).1.1.1.2.1, f199, ⟨f34.1, f34.2.1.trans (gf 182 28 (by unfold pq; omega)), f34.2.2.trans (gf 182 29 (by unfold pq; omega))⟩, NMK_of (hd z).1.1 fnm, RFD_of (hd z).1 f188 fcd⟩)
        · have := k g hs.1.2.2.2.2.2.2.2.1
          rw [← eY', ← e8] at this
          exact this (fun _ => gf) (fun q3 => absurd q3 (by omega))
      refine B_quarter_52 gF ⟨fun _ => stop, fun q => ⟨by omega, fun _ => stop, fun q2 => ?_⟩⟩
      have z : y.1.1 = 0 := e8.symm.trans q
      have eo := RS_o hs z
      have lt := RS_lt hs z (fun q3 => q2 (eo.trans q3))
      have := (hd z).2
      omega
    | succ c ih =>
      intro g y eY hs gI gq gf hd
      have gF := RF_of gI.1
      have e8 := hs.2.1
      have a7 := hs.2.2.2.1
      have p0 := hs.2.2.1
      have m1 := hs.1.2.2.2.2.1
      have stop : ¬ (y.1.1 = 0 ∧ tO T n y.1.2 ≠ 0) → Rn xs xl e mm_quarter 115 [some (.inr (.inr 182)), none] [] g Q := by
        intro ns
        have eY' : y = Y := by rw [qL_stop ns] at eY; exact eY
        refine B_quarter_115 gF ⟨fun q => ?_, fun q => ?_⟩
        · have z : y.1.1 = 0 := by omega
          refine DQ_tailL he gI gq (e8.trans z) (fun g4 _ f187 f188 f199 f34 fnm fcd => ?_)
          have := k g4 ((funext f187).trans hs.1.2.2.2.2.2.2.2.1)
          rw [← eY', z] at this
          exact this (fun q3 => absurd rfl q3) (fun _ => ⟨(f188 0 (by decide) (by decide)).trans (hd z).1.1.1.2.1, f199, ⟨f34.1, f34.2.1.trans (gf 182 28 (by unfold pq; omega)), f34.2.2.trans (gf 182 29 (by unfold pq; omega))⟩, NMK_of (hd z).1.1 fnm, RFD_of (hd z).1 f188 fcd⟩)
        · have := k g hs.1.2.2.2.2.2.2.2.1
          rw [← eY', ← e8] at this
          exact this (fun _ => gf) (fun q3 => absurd q3 (by omega))
      refine B_quarter_52 gF ⟨fun q => stop (fun q3 => q (e8.trans q3.1)), fun q => ⟨by omega, fun q2 => stop (fun q3 => q3.2 ((RS_o hs q3.1).symm.trans q2)), fun q2 => ?_⟩⟩
      have z : y.1.1 = 0 := e8.symm.trans q
      have eo := RS_o hs z
      have no : tO T n y.1.2 ≠ 0 := fun q3 => q2 (eo.trans q3)
      have lt := RS_lt hs z no
      have l7 := (hs.2.2.2.2 z).1
      obtain ⟨D, hc⟩ := hd z
      rw [qL_go ⟨z, no⟩] at eY
      have gp : PB g := ⟨gI, trivial⟩
      have l9 : rd g 182 7 ≤ 999 := by omega
      have t106 : ∀ (g1 : LH) (s1 : Int × Nat), RSK T n V m g1 s1 → PL g g1 → (qS (tO T n) (tV T n 37) (tW T n 37 V) (tP T n) R y).1 = tkS (tO T n) (tV T n 37) (tP T n) 59 s1 → (s1.1 = 0 → DRKf T n V g1 R (qS (tO T n) (tV T n 37) (tW T n 37 V) (tP T n) R y)) → Rn xs xl e mm_quarter 106 [some (.inr (.inr 182)), none] [] g1 Q := by
        generalize qS (tO T n) (tV T n 37) (tW T n 37 V) (tP T n) R y = y' at eY
        intro g1 s1 r1 p1 e1 d1
        have A : Rn xs xl 1 mm_takeSign 0 [some (.inr (.inr 182)), some (.inl 59)] [] g1 (fun r g2 => r = none ∧ RSK T n V m g2 (tkS (tO T n) (tV T n 37) (tP T n) 59 s1) ∧ frT g1 g2) := G_takeSign (by omega) r1 (fun h' a b => ⟨rfl, a, b⟩)
        have B : Rn xs xl 1 mm_takeSign 0 [some (.inr (.inr 182)), some (.inl 59)] [] g1 (fun r g2 => r = none ∧ PG muT g1 g2) := D_takeSign (by omega) p1.1 (fun g2 p2 _ => ⟨rfl, p2⟩)
        refine B_quarter_106 (RF_of p1.1.1.1) ⟨1, by omega, (A.and B).mono (fun r g2 q => ?_)⟩
        obtain ⟨⟨rfl, a1, a2⟩, -, p2⟩ := q
        rw [← e1] at a1
        refine B_quarter_112 p2.rf (ih g2 y' eY a1 p2.inv (NQ_T p2 p1.2.2.1) (fun a i ha => ?_) (fun z' => ?_))
        · unfold pq at ha
          rw [p2.2.2.2 a i (by unfold muT; omega), p1.2.2.2 a i (by unfold muA; omega)]
          exact gf a i ha
        have z8 : rd g2 182 8 = 0 := a1.2.1.trans z'
        have z1 := p2.2.2.1 z8
        have ge := p2.2.1
        have g1' := (p1.2.1 z1).2
        have l2 := (a1.2.2.2.2 z').1
        exact ⟨DRKf_T (d1 (r1.2.1.symm.trans z1)) a2 rfl, by omega⟩
      obtain ⟨⟨⟨d1, d2, d3, d4, d5, d6, d7, d8, d9, d10⟩, C, dC, dR⟩, dD, dP, dL⟩ := D
      refine ⟨0, by omega, G_isWord hs (by omega) (fun _ ew => ?_) (fun nw => ?_)⟩
      · -- a door
        have B : Rn xs xl 5 mm_readDoor 0 [some (.inr (.inr 182)), none, none, none, none] [] g (fun r g1 => r = none ∧ PL g g1) := D_readDoor (by omega) gp gq l9 (e8.trans z) (fun g1 p1 => ⟨rfl, p1⟩)
        by_cases c14 : 14 ≤ y.2.2.1.length
        · have A : Rn xs xl 5 mm_readDoor 0 [some (.inr (.inr 182)), none, none, none, none] [] g (fun r g1 => r = none ∧ RSK T n V m g1 (tkE (tP T n) 5 y.1)) := G_readDoorX hs (by omega) (by omega) (fun h' a b => ⟨rfl, a⟩)
          refine B_quarter_76_1 gF ⟨5, by omega, (A.and B).mono (fun r g1 q => ?_)⟩
          obtain ⟨⟨rfl, a1⟩, -, p1⟩ := q
          have ne := tkE_ne' hs (v1 := 5) (by decide)
          refine B_quarter_83 (RF_of p1.1.1.1) (t106 g1 _ a1 p1 ?_ (fun q3 => absurd q3 ne))
          rw [tkS_f ne]
          unfold qS
          rw [if_pos ew, if_pos c14]
        · have A : Rn xs xl 5 mm_readDoor 0 [some (.inr (.inr 182)), none, none, none, none] [] g (fun r g1 => r = none ∧ RSK T n V m g1 (drL (tO T n) (tV T n 37) (tW T n 37 V) (tP T n) R y.2.1 y.1) ∧ ((drL (tO T n) (tV T n 37) (tW T n 37 V) (tP T n) R y.2.1 y.1).1 = 0 → (NRK T n g1 (y.2.1 ++ [y.1.2 + 1]) ∧ CDK g1 (C ++ [(y.2.2.1.length : Int)])) ∧ rd g1 188 151 = (y.2.2.1.length : Int) + 1 ∧ (rd g1 188 (8 * (y.2.2.1.length : Int) + 154) = tW T n 37 V (drC (tO T n) (tV T n 37) (tW T n 37 V) (tP T n) R y.2.1 y.1).2 - 14 ∧ rd g1 188 (8 * (y.2.2.1.length : Int) + 154 + 1) = tV T n 37 (drA (tO T n) (tV T n 37) (tW T n 37 V) (tP T n) y.2.1 y.1).2 ∧ rd g1 188 (8 * (y.2.2.1.length : Int) + 154 + 2) = tV T n 37 (drB (tO T n) (tV T n 37) (tW T n 37 V) (tP T n) R y.2.1 y.1).2 ∧ drFl T n V g1 (y.2.2.1.length : Int) (drD (tO T n) (tV T n 37) (tW T n 37 V) (tP T n) R y.2.1 y.1))) ∧ (∀ a i, ¬ muDR (y.2.2.1.length : Int) a i → rd g1 a i = rd g a i)) := G_readDoorC (by omega) hs z no d1 dC (by omega) d2 d3 d4 (by omega) (fun h' a b f => ⟨rfl, a, fun q3 => b q3, f⟩)
          refine B_quarter_76_1 gF ⟨5, by omega, (A.and B).mono (fun r g1 q => ?_)⟩
          obtain ⟨⟨rfl, a1, a2, a3⟩, -, p1⟩ := q
          refine B_quarter_83 (RF_of p1.1.1.1) (t106 g1 _ a1 p1 ?_ (fun q3 => ?_))
          · unfold qS
            rw [if_pos ew, if_neg c14]
          · obtain ⟨b1, b2, bF⟩ := a2 q3
            have DF := rD_app (x := y.1.2 + 1) dD (fun i j i0 j0 j1 => a3 188 _ (by unfold muDR muNK; omega)) ⟨Nat.le_add_left 1 _, rdf_of hp' z q3 bF⟩
            have PF := rP_same dP (fun i j i0 j0 j1 => a3 188 _ (by unfold muDR muNK; omega))
            have LF := rL_same dL (a3 182 13 (by unfold muDR muNK; omega)) (fun a i ha => a3 a i (by unfold muDR muNK; omega))
            unfold DRKf DRKc DRK qS
            rw [if_pos ew, if_neg c14]
            rw [a3 188 150 (by unfold muDR muNK; omega), a3 188 152 (by unfold muDR muNK; omega), a3 188 153 (by unfold muDR muNK; omega), a3 182 13 (by unfold muDR muNK; omega), b2]
            simp only [List.length_append, List.length_singleton]
            exact ⟨⟨⟨b1.1, d2, d3, by omega, d5, by omega, by omega, d8, d9, d10⟩, _, b1.2, CRel_d dR⟩, DF, PF, LF⟩
      · refine B_quarter_76_0 gF ⟨0, by omega, G_isWord hs (by omega) (fun _ ew => ?_) (fun nw7 => ?_)⟩
        · have n1' := nw z
          have B : Rn xs xl 5 mm_readPerson 0 [some (.inr (.inr 182)), none, none] [] g (fun r g1 => r = none ∧ PL g g1) := D_readPerson (by omega) gp gq l9 (e8.trans z) (fun g1 p1 => ⟨rfl, p1⟩)
          by_cases c6 : 6 ≤ y.2.2.2.1.length
          · have A : Rn xs xl 5 mm_readPerson 0 [some (.inr (.inr 182)), none, none] [] g (fun r g1 => r = none ∧ RSK T n V m g1 (tkE (tP T n) 5 y.1)) := B_readPerson_0 gF ⟨fun q3 => by omega, fun _ => ⟨0, by omega, G_wrong hs (by omega) (fun h1 s1 f1 => B_readPerson_20 s1.1.1 ⟨rfl, s1⟩)⟩⟩
            refine B_quarter_92_1 gF ⟨5, by omega, (A.and B).mono (fun r g1 q => ?_)⟩
            obtain ⟨⟨rfl, a1⟩, -, p1⟩ := q
            have ne := tkE_ne' hs (v1 := 5) (by decide)
            refine B_quarter_99 (RF_of p1.1.1.1) (t106 g1 _ a1 p1 ?_ (fun q3 => absurd q3 ne))
            rw [tkS_f ne]
            unfold qS
            rw [if_neg n1', if_pos ew, if_pos c6]
          · have A : Rn xs xl 5 mm_readPerson 0 [some (.inr (.inr 182)), none, none] [] g (fun r g1 => r = none ∧ RSK T n V m g1 (psL (tO T n) (tV T n 37) (tW T n 37 V) (tP T n) R y.2.1 y.1) ∧ ((psL (tO T n) (tV T n 37) (tW T n 37 V) (tP T n) R y.2.1 y.1).1 = 0 → (NRK T n g1 (y.2.1 ++ [y.1.2 + 1]) ∧ CDK g1 (C ++ [(y.2.2.2.1.length : Int) + 20])) ∧ rd g1 188 152 = (y.2.2.2.1.length : Int) + 1 ∧ (rd g1 188 (266 + 4 * (y.2.2.2.1.length : Int)) = tW T n 37 V (psA (tO T n) (tV T n 37) (tW T n 37 V) (tP T n) y.2.1 y.1).2 - 18 ∧ rd g1 188 (267 + 4 * (y.2.2.2.1.length : Int)) = tV T n 37 (psB (tO T n) (tV T n 37) (tW T n 37 V) (tP T n) y.2.1 y.1).2 ∧ rd g1 188 (268 + 4 * (y.2.2.2.1.length : Int)) = tV T n 37 (psC (tO T n) (tV T n 37) (tW T n 37 V) (tP T n) R y.2.1 y.1).2 ∧ rd g1 188 (269 + 4 * (y.2.2.2.1.length : Int)) = tV T n 37 (psD (tO T n) (tV T n 37) (tW T n 37 V) (tP T n) R y.2.1 y.1).2)) ∧ (∀ a i, ¬ muP (y.2.2.2.1.length : Int) a i → rd g1 a i = rd g a i)) := G_readPersonC (by omega) hs z no d1 dC (by omega) d2 d3 d5 (by omega) (fun h' a b f => ⟨rfl, a, fun q3 => b q3, f⟩)
            refine B_quarter_92_1 gF ⟨5, by omega, (A.and B).mono (fun r g1 q => ?_)⟩
            obtain ⟨⟨rfl, a1, a2, a3⟩, -, p1⟩ := q
            refine B_quarter_99 (RF_of p1.1.1.1) (t106 g1 _ a1 p1 ?_ (fun q3 => ?_))
            · unfold qS
              rw [if_neg n1', if_pos ew, if_neg c6]
            · obtain ⟨b1, b2, bF⟩ := a2 q3
              have PF := rP_app (x := y.1.2 + 1) dP (fun i j i0 j0 j1 => a3 188 _ (by unfold muP muNK; omega)) ⟨Nat.le_add_left 1 _, rpf_of hp' z q3 bF⟩
              have DF := rD_same dD (fun i j i0 j0 j1 => a3 188 _ (by unfold muP muNK; omega))
              have LF := rL_same dL (a3 182 13 (by unfold muP muNK; omega)) (fun a i ha => a3 a i (by unfold muP muNK; omega))
              unfold DRKf DRKc DRK qS
              rw [if_neg n1', if_pos ew, if_neg c6]
              rw [a3 188 150 (by unfold muP muNK; omega), a3 188 151 (by unfold muP muNK; omega), a3 188 153 (by unfold muP muNK; omega), a3 182 13 (by unfold muP muNK; omega), b2]
              simp only [List.length_append, List.length_singleton]
              exact ⟨⟨⟨b1.1, d2, d3, d4, by omega, by omega, d7, by omega, d9, d10⟩, _, b1.2, CRel_p dR⟩, DF, PF, LF⟩
        · have n1' := nw z
          have n7' := nw7 z
          have B : Rn xs xl 39 mm_readLet 0 [some (.inr (.inr 182))] [] g (fun r g1 => r = none ∧ PL g g1) := D_readLet (by omega) gp gq (e8.trans z) (fun g1 p1 => ⟨rfl, p1⟩)
          have h13 : rd g 188 153 < 0 → rd g 182 13 = 0 := by
            intro q3
            rcases Nat.eq_zero_or_pos y.2.2.2.2.length with u | u
            · exact (d9 u).2
            · have := d10 u
              omega
          by_cases w11 : tW T n 37 V y.1.2 = 11
          · by_cases cl : 0 < y.2.2.2.2.length
            · have A : Rn xs xl 39 mm_readLet 0 [some (.inr (.inr 182))] [] g (fun r g1 => r = none ∧ RSK T n V m g1 (tkE (tP T n) 3 y.1)) := G_readLet (by omega) hs z (fun q3 => absurd w11 q3) (fun _ _ h' a b => ⟨rfl, a⟩) h13 (fun _ q3 => absurd (d10 cl) (by omega))
              refine B_quarter_92_0 gF ⟨39, by omega, (A.and B).mono (fun r g1 q => ?_)⟩
              obtain ⟨⟨rfl, a1⟩, -, p1⟩ := q
              have ne := tkE_ne' hs (v1 := 3) (by decide)
              refine t106 g1 _ a1 p1 ?_ (fun q3 => absurd q3 ne)
              rw [tkS_f ne]
              unfold qS
              rw [if_neg n1', if_neg n7', if_pos w11, if_pos cl]
            · have d9' := d9 (by omega)
              have A : Rn xs xl 39 mm_readLet 0 [some (.inr (.inr 182))] [] g (fun r g1 => r = none ∧ RSK T n V m g1 (qX (tO T n) (tV T n 37) (tW T n 37 V) (tP T n) y.1).1 ∧ rd g1 188 153 = 0 ∧ ((qX (tO T n) (tV T n 37) (tW T n 37 V) (tP T n) y.1).1.1 = 0 → rd g1 182 13 = (qX (tO T n) (tV T n 37) (tW T n 37 V) (tP T n) y.1).2.length + 1 ∧ rd g1 189 (1100 + ((qX (tO T n) (tV T n 37) (tW T n 37 V) (tP T n) y.1).2.length : Int)) = 0 ∧ ∀ i : Nat, i < (qX (tO T n) (tV T n 37) (tW T n 37 V) (tP T n) y.1).2.length → rd g1 189 (1100 + i) = cdO ((qX (tO T n) (tV T n 37) (tW T n 37 V) (tP T n) y.1).2.getD i 0) ∧ rd g1 190 (1100 + i) = cdA ((qX (tO T n) (tV T n 37) (tW T n 37 V) (tP T n) y.1).2.getD i 0)) ∧ (∀ a i, ¬ muLL a i → rd g1 a i = rd g a i)) := G_readLet (by omega) hs z (fun q3 => absurd w11 q3) (fun _ q3 => absurd q3 (by omega)) h13 (fun _ _ h' a b cc f => ⟨rfl, a, b, cc, f⟩)
              refine B_quarter_92_0 gF ⟨39, by omega, (A.and B).mono (fun r g1 q => ?_)⟩
              obtain ⟨⟨rfl, a1, a2, aL, a3⟩, -, p1⟩ := q
              refine t106 g1 _ a1 p1 ?_ (fun q3 => ?_)
              · unfold qS
                rw [if_neg n1', if_neg n7', if_pos w11, if_neg cl]
              · have ln := qX_len (fun j => tP_0 hs.1.2.2.2.2.2.2.1 hs.1.2.2.2.2.2.1 j) q3
                have DF := rD_same (g1 := g1) dD (fun i j i0 j0 j1 => a3 188 _ (by unfold muLL muLK; omega))
                have PF := rP_same (g1 := g1) dP (fun i j i0 j0 j1 => a3 188 _ (by unfold muLL muLK; omega))
                have LF : rLk g1 (qX (tO T n) (tV T n 37) (tW T n 37 V) (tP T n) y.1).2 := fun _ => aL q3
                unfold DRKf DRKc DRK qS
                rw [if_neg n1', if_neg n7', if_pos w11, if_neg cl]
                rw [a3 188 150 (by unfold muLL muLK; omega), a3 188 151 (by unfold muLL muLK; omega), a3 188 152 (by unfold muLL muLK; omega), a2]
                have dn : NRK T n g1 y.2.1 := by
                  refine ⟨(a3 182 19 (by unfold muLL muLK; omega)).trans d1.1, fun i hi => ?_⟩
                  rw [a3 192 _ (by unfold muLL muLK; omega), a3 194 _ (by unfold muLL muLK; omega)]
                  exact d1.2 i hi
                exact ⟨⟨⟨dn, d2, d3, d4, d5, d6, d7, d8, fun q4 => absurd q4 (Nat.ne_of_gt ln), fun _ => Int.le_refl 0⟩, C, CDK_fr dC (a3 182 19 (by unfold muLL muLK; omega)) (fun i => a3 194 i (by unfold muLL muLK; omega)), dR⟩, DF, PF, LF⟩
          · have A : Rn xs xl 39 mm_readLet 0 [some (.inr (.inr 182))] [] g (fun r g1 => r = none ∧ RSK T n V m g1 (tkE (tP T n) 1 y.1)) := G_readLet (by omega) hs z (fun _ h' a b => ⟨rfl, a⟩) (fun q3 => absurd q3 w11) h13 (fun q3 => absurd q3 w11)
            refine B_quarter_92_0 gF ⟨39, by omega, (A.and B).mono (fun r g1 q => ?_)⟩
            obtain ⟨⟨rfl, a1⟩, -, p1⟩ := q
            have ne := tkE_ne' hs (v1 := 1) (by decide)
            refine t106 g1 _ a1 p1 ?_ (fun q3 => absurd q3 ne)
            rw [tkS_f ne]
            unfold qS
            rw [if_neg n1', if_neg n7', if_neg w11]
  have i0 : INV (wr h 182 0 0) := wF_thrown hI (by omega) (by omega)
  have A0 : Rn xs xl 2 mm_cutAll 0 [some (.inr (.inr 182)), none, none, none, none, none, none] [] (wr h 182 0 0) (fun r h1 => r = none ∧ ∃ m : Nat, (∀ j : Nat, j ≤ m → RTK T n h1 j) ∧ tO T n m = 0 ∧ (∀ j : Nat, j < m → tO T n j ≠ 0) ∧ m ≤ 1000) := F_cutAll (by omega) (RF_of i0.1) ((rdw_nei (by decide)).trans h2) n0 n1 (fun i i0 i1 => (rdw_ne (by decide)).trans (hT i i0 i1)) (fun h' m c1 c2 c3 c4 _ _ _ _ => ⟨rfl, m, c1, c2, c3, c4⟩)
  have B0 : Rn xs xl 2 mm_cutAll 0 [some (.inr (.inr 182)), none, none, none, none, none, none] [] (wr h 182 0 0) (fun r h1 => r = none ∧ INV h1 ∧ rd h1 182 7 = 0 ∧ rd h1 182 8 = 0 ∧ rd h1 182 2 = 0 ∧ (∀ a i, ¬ muC a i → rd h1 a i = rd (wr h 182 0 0) a i)) := D_cutAll (by omega) i0 (fun h1 i1 a1 f1 t1 fr1 => ⟨rfl, i1, a1, f1, t1, fr1⟩)
  refine B_quarter_0 (RF_of hI.1) ⟨2, by omega, (A0.and B0).mono (fun r h1 q => ?_)⟩
  obtain ⟨⟨rfl, m, c1, c2, c3, c4⟩, -, i1, a1, f1, t1, fr1⟩ := q
  have i2 : INV (wr (wr h1 182 13 0) 182 19 0) := wF_readMany (wF_codes i1 (by omega) (by omega)) (by omega) (by omega)
  refine B_quarter_9 (RF_of i1.1) ⟨0, by omega, D_stands i2 (fun h3 i3 m3 z3 fr3 => ?_)⟩
  have e3 : ∀ a i, ¬ (a = 188 ∧ 150 ≤ i) → ¬ (a = 182 ∧ (i = 13 ∨ i = 19)) → rd h3 a i = rd h1 a i := by
    intro a i n1 n2
    rw [fr3 a i n1, rd_wr, if_neg, rd_wr, if_neg] <;> (rintro ⟨rfl, rfl⟩; exact n2 (by omega))
  have x3 : rd h3 182 13 = 0 := (fr3 _ _ (by omega)).trans ((rdw_nei (by decide)).trans rdw_eq)
  have m3' : rd h3 182 19 = 0 := (fr3 _ _ (by omega)).trans rdw_eq
  have s3 : RSK T n V m h3 (0, 0) := by
    refine ⟨⟨RF_of i3.1, fun j hj => ?_, c2, c3, c4, n0, n1, ?_, hi⟩, ?_, Int.le_refl 0, ?_, fun _ => ⟨?_, Nat.zero_le _⟩⟩
    · obtain ⟨r1, r2, r3⟩ := c1 j hj
      exact ⟨(e3 _ _ (by omega) (by omega)).trans r1, (e3 _ _ (by omega) (by omega)).trans r2, fun q1 q2 => (e3 _ _ (by omega) (by omega)).trans (r3 q1 q2)⟩
    · rw [← hV]
      funext i
      rw [e3 _ _ (by omega) (by omega), fr1 _ _ (by unfold muC; omega), rdw_ne (by decide)]
    · rw [e3 _ _ (by omega) (by omega), f1]
    · rw [e3 _ _ (by omega) (by omega), a1]; decide
    · rw [e3 _ _ (by omega) (by omega), a1]; rfl
  have A4 : Rn xs xl 2 mm_takeWord 0 [some (.inr (.inr 182)), some (.inl 0)] [] h3 (fun r h4 => r = none ∧ RSK T n V m h4 (tkW (tW T n 37 V) (tP T n) 0 (0, 0))) := G_takeWord (by omega) s3 (by omega) (fun h' a b => ⟨rfl, a⟩)
  have B4 : Rn xs xl 2 mm_takeWord 0 [some (.inr (.inr 182)), some (.inl 0)] [] h3 (fun r h4 => r = none ∧ PG muT h3 h4) := D_takeWord (by omega) ⟨i3, trivial⟩ (by omega) (fun h4 p4 => ⟨rfl, p4⟩)
  refine B_quarter_26 (RF_of i3.1) ⟨2, by omega, (A4.and B4).mono (fun r h4 q => ?_)⟩
  obtain ⟨⟨rfl, s4⟩, -, p4⟩ := q
  have A5 : Rn xs xl 1 mm_takeNumber 0 [some (.inr (.inr 182)), some (.inl 2), some (.inl 10)] [] h4 (fun r h5 => ∃ x, r = some (.inl x) ∧ RSK T n V m h5 (tkN (tO T n) (tV T n 37) (tP T n) 2 10 (tkW (tW T n 37 V) (tP T n) 0 (0, 0))) ∧ ((tkN (tO T n) (tV T n 37) (tP T n) 2 10 (tkW (tW T n 37 V) (tP T n) 0 (0, 0))).1 = 0 → x = qR (tV T n 37) (tW T n 37 V) (tP T n))) := G_takeNumber (by omega) s4 ⟨by unfold i32; omega, by unfold i32; omega⟩ (fun h' r a _ b _ => ⟨r, rfl, a, fun q3 => (b q3).1⟩)
  have B5 : Rn xs xl 1 mm_takeNumber 0 [some (.inr (.inr 182)), some (.inl 2), some (.inl 10)] [] h4 (fun r h5 => ∃ x, r = some (.inl x) ∧ PG muT h4 h5 ∧ (rd h5 182 8 = 0 → 2 ≤ x ∧ x ≤ 10) ∧ (rd h5 182 8 ≠ 0 → x = 0)) := D_takeNumber (by omega) p4.1 (by unfold i32; omega) (by unfold i32; omega) (fun r h5 p5 a5 b5 => ⟨r, rfl, p5, fun q3 => ⟨(a5 q3).1, (a5 q3).2.1⟩, b5⟩)
  refine B_quarter_31 p4.rf ⟨1, by omega, (A5.and B5).mono (fun r h5 q => ?_)⟩
  obtain ⟨⟨x, rfl, s5, q5⟩, x', ex, p5, a5, b5⟩ := q
  cases ex
  have rb : 0 ≤ x ∧ x ≤ 10 := by
    by_cases z : rd h5 182 8 = 0
    · have := a5 z; omega
    · have := b5 z; omega
  have i6 : INV (wr h5 188 150 x) := wq_rooms p5.inv rb.1 rb.2
  have A7 : Rn xs xl 1 mm_takeSign 0 [some (.inr (.inr 182)), some (.inl 59)] [] (wr h5 188 150 x) (fun r h7 => r = none ∧ RSK T n V m h7 (qA (tO T n) (tV T n 37) (tW T n 37 V) (tP T n))) := G_takeSign (by omega) (RSK_w s5) (fun h' a b => ⟨rfl, a⟩)
  have B7 : Rn xs xl 1 mm_takeSign 0 [some (.inr (.inr 182)), some (.inl 59)] [] (wr h5 188 150 x) (fun r h7 => r = none ∧ PG muT (wr h5 188 150 x) h7) := D_takeSign (by omega) ⟨i6, trivial⟩ (fun h7 p7 _ => ⟨rfl, p7⟩)
  refine B_quarter_45 p5.rf ⟨1, by omega, (A7.and B7).mono (fun r h7 q => ?_)⟩
  obtain ⟨⟨rfl, s7⟩, -, p7⟩ := q
  have p45 := p4.trans p5
  have e7 : ∀ a i, ¬ muT a i → ¬ (a = 188 ∧ i = 150) → rd h7 a i = rd h3 a i := by
    intro a i n1 n2
    rw [p7.2.2.2 a i n1, rd_wr, if_neg (by rintro ⟨rfl, rfl⟩; exact n2 ⟨rfl, rfl⟩)]
    exact p45.2.2.2 a i n1
  have y : ∀ i, i ≠ 150 → rd h7 188 i = rd h3 188 i := fun i hi => e7 188 i (by unfold muT; omega) (by omega)
  have y0 : rd h7 188 150 = x := (p7.2.2.2 _ _ (by unfold muT; omega)).trans rdw_eq
  have y1 : rd h7 188 151 = 0 := (y 151 (by decide)).trans (z3 151 (by decide) (by decide) (by decide))
  have y2 : rd h7 188 152 = 0 := (y 152 (by decide)).trans (z3 152 (by decide) (by decide) (by decide))
  have y3 : rd h7 188 153 = -1 := (y 153 (by decide)).trans m3
  have yc : rd h7 182 13 = 0 := (e7 182 13 (by unfold muT; omega) (by omega)).trans x3
  have yn : rd h7 182 19 = 0 := (e7 182 19 (by unfold muT; omega) (by omega)).trans m3'
  refine loop m 1000 h7 (qB (tO T n) (tV T n 37) (tW T n 37 V) (tP T n)) (by rw [hRq]; exact eF) s7 p7.inv (fun z => ?_) (fun a i ha => ?_) (fun z => ⟨?_, ?_⟩)
  · have z6 := p7.2.2.1 z
    rw [rdw_ne (by decide)] at z6
    have r2 := a5 z6
    refine ⟨by omega, by omega, fun d d0 d1 => by omega, fun p p0 p1 => by omega, Or.inl ⟨y3, yc⟩⟩
  · unfold pq at ha
    rw [e7 a i (by unfold muT; omega) (by omega), e3 a i (by omega) (by omega), fr1 a i (by unfold muC; omega), rd_wr, if_neg (by omega)]
  · have z5 : (tkN (tO T n) (tV T n 37) (tP T n) 2 10 (tkW (tW T n 37 V) (tP T n) 0 (0, 0))).1 = 0 := tkS_z z
    have ex := q5 z5
    refine ⟨⟨⟨⟨yn, fun i hi => absurd hi (Nat.not_lt_zero i)⟩, y0.trans (ex.trans hRq.symm), by rw [hRq, ← ex]; exact rb, y1, y2, rfl, Nat.zero_le 14, Nat.zero_le 6, fun _ => ⟨by omega, yc⟩, fun q3 => absurd q3 (Nat.lt_irrefl 0)⟩, [], ⟨yn, fun i hi => absurd hi (Nat.not_lt_zero i)⟩, CRel_0⟩, fun i hi => absurd hi (Nat.not_lt_zero i), fun i hi => absurd hi (Nat.not_lt_zero i), fun hi => absurd hi (Nat.lt_irrefl 0)⟩
  · omega
end X7B
section X7C
variable {xs : Nat → Int} {xl e : Nat} {h g : LH} {Q : Option LV → LH → Prop} {q : Int} {T : Int → Int} {n : Int} {W : Int → Int}
theorem K_sbeginX (he : 2 ≤ e) (hq : q = 5 ∨ q = 32) (hI : INV h) (k : ∀ h', INV h' → Q none h') : Rn xs xl e mm_Scene_begin 0 [some (.inr (.inr 60)), some (.inr (.inr q)), none, none] [] h Q := by
  rcases hq with rfl | rfl
  · exact use_sm (tabC (j := 131) rfl) (as := [.inr (.inr 60), .inr (.inr 5)]) rfl he hI (gAr_c (g_ref 60) (gAr_c (g_ref 5) gAr_n)) rfl (Nat.le_of_ble_eq_true rfl) rfl (fun r h' i' f q => by rw [res_none q]; exact k h' i')
  · exact use_sm (tabC (j := 133) rfl) (as := [.inr (.inr 60), .inr (.inr 32)]) rfl he hI (gAr_c (g_ref 60) (gAr_c (g_ref 32) gAr_n)) rfl (Nat.le_of_ble_eq_true rfl) rfl (fun r h' i' f q => by rw [res_none q]; exact k h' i')
theorem K_beginL (he : 3 ≤ e) (hq : q = 5 ∨ q = 32) (hI : INV h) (k : ∀ h', INV h' → rd h' 59 1 = 0 → rd h' 59 4 = 0 → Q none h') : Rn xs xl e mm_Memory_begin 0 [some (.inr (.inr 59)), some (.inr (.inr q))] [] h Q := by
  have A : Rn xs xl e mm_Memory_begin 0 [some (.inr (.inr 59)), some (.inr (.inr q))] [] h (fun r g => rd g 59 1 = 0 ∧ rd g 59 4 = 0) := B_Memory_begin_0 hq (RF_of hI.1) ⟨2, by omega, K_sbeginX (by omega) hq hI (fun g gI => B_Memory_begin_8 hq (RF_of gI.1) ⟨(rdw_nei (by decide)).trans ((rdw_nei (by decide)).trans rdw_eq), (rdw_nei (by decide)).trans rdw_eq⟩)⟩
  have B : Rn xs xl e mm_Memory_begin 0 [some (.inr (.inr 59)), some (.inr (.inr q))] [] h (fun r g => r = none ∧ INV g) := K_beginF he hq hI (fun h' a b => ⟨rfl, a⟩)
  refine (A.and B).mono (fun r g z => ?_)
  obtain ⟨⟨a1, a2⟩, rfl, b⟩ := z
  exact k g b a1 a2
/-- cells of the scenes kept -/
def kS : List (Int × Int) := [(103, 103), (111, 111), (119, 119), (127, 127), (134, 181)]
def dsS (bs : BX) : Bool := bs.all (fun x => kS.all (fun b => decide (x.2.1 < b.1) || decide (b.2 < x.1)))
theorem dsS_ok {bs : BX} (hb : dsS bs = true) {a i : Int} (ha : ∃ b ∈ kS, b.1 ≤ a ∧ a ≤ b.2) : inBx bs a i = false := by
  refine inBx_f (fun x hm q => ?_)
  obtain ⟨b, b0, b1, b2⟩ := ha
  have z := List.all_eq_true.mp (List.all_eq_true.mp hb x hm) b b0
  simp only [Bool.or_eq_true, decide_eq_true_eq] at z
  omega
/-- behind the class's quarter no line and no walk is there -/
theorem E_quarterL (he : 42 ≤ e) (hI : INV h) (hP : PT h) (hT : TP T n h) (hW : rd h 4 = W) : Rn xs xl e mm_OneSided_quarter 0 [some (.inr (.inr 1)), none, none] [] h (fun r g => r = some (.inl 0) → rd g 59 1 = 0 ∧ rd g 59 4 = 0) := by
  generalize eY : qF (tO T n) (tV T n 32) (tW T n 32 W) (tP T n) = Y
  have hS := rSf hI.1
  generalize eq : rd h 1 ((2 : Nat) : Int) = q at hS
  have A : Rn xs xl 41 mm_Reader_readQuarter 0 [some (.inr (.inr 2)), some (.inr (.inr q)), none] [] h (fun r g => r = some (.inl Y.1.1)) := by
    refine F_readQuarterF (by omega) hS hP ⟨RF_of hI.1, hT, hW⟩ ?_
    rw [eY]
    exact fun h' d => rfl
  have B : Rn xs xl 41 mm_Reader_readQuarter 0 [some (.inr (.inr 2)), some (.inr (.inr q)), none] [] h (fun r g => INV g ∧ (∀ a i, a ≠ 2 → ¬ (q ≤ a ∧ a ≤ q + 26) → rd g a i = rd h a i)) := K_readQuarterF (by omega) hS hI (fun r h' i' f' => ⟨i', f'⟩)
  refine B_OneSided_quarter_0 hS (rQf hI.1) eq rfl (RF_of hI.1) ⟨41, by omega, (A.and B).mono (fun r g z => ?_)⟩
  obtain ⟨rfl, gI, gf⟩ := z
  have g2 : rd g 1 ((2 : Nat) : Int) = q := (gf 1 _ (by decide) (by omega)).trans eq
  refine B_OneSided_quarter_11 hS (rQf gI.1) g2 rfl (RF_of gI.1) ⟨fun z => ?_, fun z => fun z2 => ?_⟩
  · have i1 := wQ_1 (wQ_2 gI (rQf gI.1)) hS
    refine B_OneSided_quarter_18 hS (rQf gI.1) g2 rfl (RF_of gI.1) ⟨6, by omega, K_settleF (by omega) hS i1 (fun g3 i3 f3 => ?_)⟩
    have e11 : rd g3 1 ((1 : Nat) : Int) = q := (f3 1 _ (by decide) (by omega)).trans rdw_eq
    refine B_OneSided_quarter_43 (rSf i3.1) hS rfl e11 (RF_of i3.1) ⟨3, by omega, K_beginL (by omega) hS i3 (fun g4 i4 w1 w4 => ?_)⟩
    exact B_OneSided_quarter_54 (rSf i4.1) (rQf i4.1) rfl rfl (RF_of i4.1) (fun _ => ⟨((rdw_ne (by decide)).trans (rdw_ne (by decide))).trans w1, ((rdw_ne (by decide)).trans (rdw_ne (by decide))).trans w4⟩)
  · simp only [Option.some.injEq, Sum.inl.injEq] at z2
    exact absurd z2 z
theorem E_quarterY (he : 42 ≤ e) (hI : INV h) (hE : EQX h) (k : ∀ g, INV g → (qtJ h g ∧ ((txQ h).1.1 = 0 → rd g 59 1 = 0 ∧ rd g 59 4 = 0) ∧ ∀ a i, (∃ b ∈ kS, b.1 ≤ a ∧ a ≤ b.2) → rd g a i = rd h a i) → Q (some (.inl (txQ h).1.1)) g) : Rn xs xl e mm_OneSided_quarter 0 [some (.inr (.inr 1)), none, none] [] h Q := by
  have n0 := rG_2_0 hI.1
  obtain ⟨-, -, hP, hW4, -⟩ := id hE.1
  have A : Rn xs xl e mm_OneSided_quarter 0 [some (.inr (.inr 1)), none, none] [] h (fun r g => r = some (.inl (txQ h).1.1) ∧ INV g ∧ qtJ h g) := E_quarterJS he hI hE.1 (fun g a b => ⟨rfl, a, b⟩)
  have B : Rn xs xl e mm_OneSided_quarter 0 [some (.inr (.inr 1)), none, none] [] h (fun r g => r = some (.inl 0) → rd g 59 1 = 0 ∧ rd g 59 4 = 0) := E_quarterL (T := rd h 3) (n := rd h 2 0) he hI hP ⟨rfl, fun _ _ _ => rfl, n0.1, n0.2⟩ hW4
  have C : Rn xs xl e mm_OneSided_quarter 0 [some (.inr (.inr 1)), none, none] [] h (fun r g => ∀ a i, (∃ b ∈ kS, b.1 ≤ a ∧ a ≤ b.2) → rd g a i = rd h a i) := root_0 TC_quarter (as := [.inr (.inr 1)]) rfl (Nat.le_trans (Nat.le_of_ble_eq_true rfl) he) hI (gAr_c (g_ref 1) gAr_n) rfl (Nat.le_of_ble_eq_true rfl) rfl rfl rfl (fun r g gI g0 gf a i ha => gf a i (dsS_ok (by decide +kernel) ha))
  refine ((A.and B).and C).mono (fun r g z => ?_)
  obtain ⟨⟨⟨rfl, gI, gj⟩, b⟩, c⟩ := z
  exact k g gI ⟨gj, fun z => b (by rw [z]), c⟩
theorem inX_pq {a i : Int} (ha : inX a i) : pq a i := by
  obtain ⟨y1, y2, y3, y4, y5, -⟩ := inX_p ha
  have y4' : a ≠ 189 := y4
  have y5' : a ≠ 190 := y5
  unfold pq
  omega
theorem G_quarterY (he : 42 ≤ e) (hI : INV h) (hE : EQX h) (gI : INV g) (hj : qtJ h g ∧ ((txQ h).1.1 = 0 → rd g 59 1 = 0 ∧ rd g 59 4 = 0) ∧ ∀ a i, (∃ b ∈ kS, b.1 ≤ a ∧ a ≤ b.2) → rd g a i = rd h a i) (k : ∀ g', INV g' → EQX g' → Q (some (.inl (txQ h).1.1)) g') : Rn xs xl e mm_quarter 0 [some (.inr (.inr 182)), none] [] g Q := by
  have n0 := rG_2_0 hI.1
  obtain ⟨hq', hl, hs⟩ := hj
  have A : Rn xs xl e mm_quarter 0 [some (.inr (.inr 182)), none] [] g (fun r g' => r = some (.inl (txQ h).1.1) ∧ INV g' ∧ EQL g') := G_quarterJS he hI hE.1 gI hq' (fun g' a b => ⟨rfl, a, b⟩)
  obtain ⟨g0, gf, g8, m1, m2⟩ := hq'
  obtain ⟨-, -, hP, hW4, hV, sq, -⟩ := id hE.1
  have hv : rd g 187 = rd hc_556 187 := by
    rw [← hV]; funext i; exact gf 187 i (by decide)
  have C : Rn xs xl e mm_quarter 0 [some (.inr (.inr 182)), none] [] g (fun r g' => ((txQ h).1.1 ≠ 0 → ∀ a i, pq a i → rd g' a i = rd g a i) ∧ ((txQ h).1.1 = 0 → (∀ m, 0 ≤ m → m < 4 → rd g' 199 m = 0) ∧ rd g' 198 34 = 0 ∧ rd g' 195 0 = 0 ∧ NMK (rd h 3) (rd h 2 0) g' (txQ h))) := by
    refine G_quarterL (T := rd h 3) (n := rd h 2 0) (V := rd hc_556 187) (by omega) gI ((gf 182 2 (by decide)).trans hE.1.1.symm) n0.1 n0.2 (fun i i0 i1 => ?_) hv vinj0 (fun h' a b c => ⟨b, fun z => ?_⟩)
    · rw [gf 183 i (by decide)]
      exact (hE.1.2.1 i i0 i1).symm
    · obtain ⟨c1, c2, ⟨⟨c3, c6⟩, -⟩, c4, c5⟩ := c z
      exact ⟨c2, c3.1, c6, c4⟩
  have B : Rn xs xl e mm_quarter 0 [some (.inr (.inr 182)), none] [] g (fun r g' => ∀ a i, a < 182 → rd g' a i = rd g a i) := D_quarter (by omega) gI (fun r h' a b c => c)
  refine ((A.and C).and B).mono (fun r g' z => ?_)
  obtain ⟨⟨⟨rfl, gI', EL⟩, c1, c2⟩, lo⟩ := z
  have XSg : XS g := by
    refine ⟨?_, fun m m0 m1 => ?_, fun i i0 i1 => ?_⟩
    · by_cases z : (txQ h).1.1 = 0
      · obtain ⟨-, -, -, s⟩ := m2 z
        rw [s.2.2.1.2.1]
        exact hb_zero
      · have hS : rd h 1 2 = 5 ∨ rd h 1 2 = 32 := rSf hI.1
        rw [m1 z 60 1 (by decide) (by omega)]
        exact hE.2.2.1
    · rw [hs _ 1 (by
        rcases (show m = 0 ∨ m = 1 ∨ m = 2 ∨ m = 3 by omega) with rfl | rfl | rfl | rfl
        · exact ⟨(103, 103), by decide, by decide, by decide⟩
        · exact ⟨(111, 111), by decide, by decide, by decide⟩
        · exact ⟨(119, 119), by decide, by decide, by decide⟩
        · exact ⟨(127, 127), by decide, by decide, by decide⟩)]
      exact hE.2.2.2.1 m m0 m1
    · rw [hs _ 1 ⟨(134, 181), by decide, by show (134 : Int) ≤ _; omega, by show _ ≤ (181 : Int); omega⟩]
      exact hE.2.2.2.2 i i0 i1
  refine k g' gI' ⟨EL, ?_, XS_lo XSg lo⟩
  by_cases z : (txQ h).1.1 = 0
  · obtain ⟨d1, d2, d3, d4⟩ := c2 z
    obtain ⟨a1, a2, a3, -⟩ := m2 z
    obtain ⟨l1, l4⟩ := hl z
    have hS : rd h 1 2 = 5 ∨ rd h 1 2 = 32 := rSf hI.1
    have nc := a3.1.1
    have l14 := nc.2.2.1
    have nc' : NCK (rd h 3) (rd h 2 0) g' (rd h 1 2) (txQ h).2.2.1 (txQ h).2.2.2.1 := NCK_fr nc (fun a i ha => lo a i (by omega))
    refine ⟨NMR_of (V := rd hc_556 187) n0.2 n0.1 ((lo 1 1 (by decide)).trans a1) z nc' d4, ⟨?_, ?_, fun i i0 i1 => ?_⟩, ⟨?_, ?_, fun i i0 i1 => ?_⟩, fun m m0 m1 hm => absurd (d1 m m0 m1) hm⟩
    · rw [lo 59 1 (by decide), l1, d3]
    · rw [lo 59 1 (by decide), l1]; decide
    · rw [lo 59 1 (by decide), l1] at i1; omega
    · rw [lo 59 4 (by decide), l4, show (0 : Int) + 34 = 34 from rfl, d2]
    · rw [lo 59 4 (by decide), l4]; decide
    · rw [lo 59 4 (by decide), l4] at i1; omega
  · have hq : rd h 1 1 = 5 ∨ rd h 1 1 = 32 := rQf hI.1
    refine XR_fr hI hE.2.1 (fun a i ha hk => ?_)
    rw [c1 z a i (inX_pq ha)]
    have y := (inX_p ha).1
    exact m1 z a i (by omega) (by omega)
end X7C
end
