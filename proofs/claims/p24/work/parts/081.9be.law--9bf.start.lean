section
/-! the law's calls, one by one, and its loop, by program (wip/xw/gen_law_x.py) -/
section LA
variable {xs : Nat → Int} {xl e : Nat} {h g : LH} {Q : Option LV → LH → Prop}
theorem inK_182 {a i : Int} (ha : inK a i) : ¬ (a = 182 ∧ (i = 0 ∨ i = 2)) := by
  obtain ⟨y1, y2, -⟩ := inK_p ha
  omega
theorem inK_2 {a i : Int} (ha : inK a i) : a ≠ 2 := by
  obtain ⟨y1, -⟩ := inK_p ha
  omega
theorem inX_182 {a i : Int} (ha : inX a i) : ¬ (a = 182 ∧ (i = 0 ∨ i = 2)) := by
  obtain ⟨-, y2, -⟩ := inX_p ha
  omega
theorem XS_feed {h g : LH} (hx : XS h) (f : ∀ a i, 4 ≤ a → a < 182 → rd g a i = rd h a i) : XS g := by
  obtain ⟨a, b, c⟩ := hx
  refine ⟨?_, fun m m0 m1 => ?_, fun i i0 i1 => ?_⟩
  · rw [f 60 1 (by decide) (by decide)]; exact a
  · rw [f _ 1 (by omega) (by omega)]; exact b m m0 m1
  · rw [f _ 1 (by omega) (by omega)]; exact c i i0 i1
theorem inX_2 {a i : Int} (ha : inX a i) : a ≠ 2 ∧ a ≠ 3 ∧ a ≠ 183 := by
  have y1 := (inX_p ha).1
  omega
theorem LW_0 {v3 : Int} (hxs : ∀ j, i32 (xs j)) (h0 : 0 ≤ v3) (h1 : v3 + 7 ≤ (xl : Int)) (hx : xl ≤ 3584) (hI : INV h) (hE : EQX h) (k : ∀ g, INV g → EQX g → Rn xs xl 64 mm_OneSidedLaw_law 1231 [some (.inr (.inr (-2))), some (.inr (.inr 1)), some (.inr (.inr 182)), some (.inl v3)] [] g Q) : Rn xs xl 64 mm_OneSidedLaw_law 164 [some (.inr (.inr (-2))), some (.inr (.inr 1)), some (.inr (.inr 182)), some (.inl v3)] [] h Q := by
  refine B_law_164 (RF_of hI.1) (by omega) ⟨by omega, by omega, by omega, by omega, by omega, by omega, 63, by decide, E_feedX (by decide) hI (fun g gI ge gx gf => ?_)⟩
  refine B_law_229 (RF_of gI.1) (by omega) ⟨by omega, by omega, by omega, by omega, by omega, by omega, 63, by decide, D_feedX (r64 _ _) (r64 _ _) (r64 _ _) (by decide) gI (fun g2 i2 e2 x2 f2 => ?_)⟩
  have e0 : rd g 182 2 = rd h 182 2 := gf 182 2 (by decide) (by decide)
  have x0 : rd g 183 = rd h 183 := funext (fun i => gf 183 i (by omega) (by decide))
  have e3 : rd g2 2 0 = rd g 2 0 := f2 2 0 (by decide) (by decide)
  have x3 : rd g2 3 = rd g 3 := funext (fun i => f2 3 i (by omega) (by decide))
  have hE' : rd h 2 0 = rd h 182 2 := hE.1.1
  rw [e0, ← hE'] at e2 x2
  rw [x0] at x2
  refine B_law_295 (RF_of i2.1) (by omega) (k g2 i2 ⟨⟨?_, fun i i0 i1 => ?_, EQS_fr hI hE.1.2.2 (fun a i ha n3 n183 _ => (f2 a i (inK_182 ha) n183).trans (gf a i (fun z => inK_2 ha z.1) n3))⟩, XR_fr hI hE.2.1 (fun a i ha _ => (f2 a i (inX_182 ha) (inX_2 ha).2.2).trans (gf a i (fun z => (inX_2 ha).1 z.1) (inX_2 ha).2.1)), XS_feed hE.2.2 (fun a i n0 n1 => (f2 a i (by omega) (by omega)).trans (gf a i (by omega) (by omega)))⟩)
  · rw [e3, ge, e2]
  · rw [e3, ge] at i1
    rw [x3, gx, x2]
    exact fedX3_ag hE.1.2.1 i i0 i1
theorem LW_1 {v3 : Int} (hxs : ∀ j, i32 (xs j)) (h0 : 0 ≤ v3) (h1 : v3 + 7 ≤ (xl : Int)) (hx : xl ≤ 3584) (hI : INV h) (hE : EQX h) (k : ∀ g, INV g → EQX g → Rn xs xl 64 mm_OneSidedLaw_law 1231 [some (.inr (.inr (-2))), some (.inr (.inr 1)), some (.inr (.inr 182)), some (.inl v3)] [] g Q) : Rn xs xl 64 mm_OneSidedLaw_law 299 [some (.inr (.inr (-2))), some (.inr (.inr 1)), some (.inr (.inr 182)), some (.inl v3)] [] h Q := by
  exact B_law_299 (RF_of hI.1) (by omega) ⟨63, by decide, E_quarterY (by decide) hI hE (fun g gI gj => B_law_303 (RF_of gI.1) (by omega) ⟨63, by decide, G_quarterY (by decide) hI hE gI gj (fun g2 i2 E2 => B_law_308 (RF_of i2.1) (by omega) (k g2 i2 E2))⟩)⟩
theorem LW_2 {v3 : Int} (hxs : ∀ j, i32 (xs j)) (h0 : 0 ≤ v3) (h1 : v3 + 7 ≤ (xl : Int)) (hx : xl ≤ 3584) (hI : INV h) (hE : EQX h) (k : ∀ g, INV g → EQX g → Rn xs xl 64 mm_OneSidedLaw_law 1231 [some (.inr (.inr (-2))), some (.inr (.inr 1)), some (.inr (.inr 182)), some (.inl v3)] [] g Q) : Rn xs xl 64 mm_OneSidedLaw_law 312 [some (.inr (.inr (-2))), some (.inr (.inr 1)), some (.inr (.inr 182)), some (.inl v3)] [] h Q := by
  exact B_law_312 (RF_of hI.1) (by omega) ⟨63, by decide, E_dayY (by decide) hI hE (fun g gI gj => B_law_316 (RF_of gI.1) (by omega) ⟨63, by decide, G_dayY (by decide) hI hE gI gj (fun g2 i2 E2 => B_law_321 (RF_of i2.1) (by omega) (k g2 i2 E2))⟩)⟩
theorem LW_3 {v3 : Int} (hxs : ∀ j, i32 (xs j)) (h0 : 0 ≤ v3) (h1 : v3 + 7 ≤ (xl : Int)) (hx : xl ≤ 3584) (hI : INV h) (hE : EQX h) (k : ∀ g, INV g → EQX g → Rn xs xl 64 mm_OneSidedLaw_law 1231 [some (.inr (.inr (-2))), some (.inr (.inr 1)), some (.inr (.inr 182)), some (.inl v3)] [] g Q) : Rn xs xl 64 mm_OneSidedLaw_law 325 [some (.inr (.inr (-2))), some (.inr (.inr 1)), some (.inr (.inr 182)), some (.inl v3)] [] h Q := by
  have S : ∀ (r : Int) (g : LH), INV g → EQX g → Rn xs xl 64 mm_OneSidedLaw_law 339 [some (.inr (.inr (-2))), some (.inr (.inr 1)), some (.inr (.inr 182)), some (.inl v3)] [.inl r] g Q := by
    intro r g gI EG
    exact B_law_339 (RF_of gI.1) (by omega) ⟨by omega, by omega, 63, by decide, root_iX TR_door (as := [.inr (.inr 182), .inl (xs (v3 + 1).toNat), .inl (xs (v3 + 2).toNat)]) rfl (Nat.le_of_ble_eq_true rfl) gI (gAr_c (g_ref 182) (gAr_c (g_i (hxs _)) (gAr_c (g_i (hxs _)) gAr_n))) rfl (Nat.le_of_ble_eq_true rfl) rfl rfl rfl (by decide +kernel) (by decide +kernel) (by decide +kernel) (by decide +kernel) EG (fun r2 g2 i2 E2 => B_law_354 (RF_of i2.1) (by omega) (k g2 i2 E2))⟩
  exact B_law_325 (RF_of hI.1) (by omega) ⟨by omega, by omega, 63, by decide, root_iX TC_door (as := [.inr (.inr 1), .inl (xs (v3 + 1).toNat), .inl (xs (v3 + 2).toNat)]) rfl (Nat.le_of_ble_eq_true rfl) hI (gAr_c (g_ref 1) (gAr_c (g_i (hxs _)) (gAr_c (g_i (hxs _)) gAr_n))) rfl (Nat.le_of_ble_eq_true rfl) rfl rfl rfl (by decide +kernel) (by decide +kernel) (by decide +kernel) (by decide +kernel) hE (fun r g gI EG => S r g gI EG)⟩
theorem LW_4 {v3 : Int} (hxs : ∀ j, i32 (xs j)) (h0 : 0 ≤ v3) (h1 : v3 + 7 ≤ (xl : Int)) (hx : xl ≤ 3584) (hI : INV h) (hE : EQX h) (k : ∀ g, INV g → EQX g → Rn xs xl 64 mm_OneSidedLaw_law 1231 [some (.inr (.inr (-2))), some (.inr (.inr 1)), some (.inr (.inr 182)), some (.inl v3)] [] g Q) : Rn xs xl 64 mm_OneSidedLaw_law 358 [some (.inr (.inr (-2))), some (.inr (.inr 1)), some (.inr (.inr 182)), some (.inl v3)] [] h Q := by
  have S : ∀ (r : Int) (g : LH), INV g → EQX g → Rn xs xl 64 mm_OneSidedLaw_law 372 [some (.inr (.inr (-2))), some (.inr (.inr 1)), some (.inr (.inr 182)), some (.inl v3)] [.inl r] g Q := by
    intro r g gI EG
    exact B_law_372 (RF_of gI.1) (by omega) ⟨by omega, by omega, 63, by decide, root_iX TR_person (as := [.inr (.inr 182), .inl (xs (v3 + 1).toNat), .inl (xs (v3 + 2).toNat)]) rfl (Nat.le_of_ble_eq_true rfl) gI (gAr_c (g_ref 182) (gAr_c (g_i (hxs _)) (gAr_c (g_i (hxs _)) gAr_n))) rfl (Nat.le_of_ble_eq_true rfl) rfl rfl rfl (by decide +kernel) (by decide +kernel) (by decide +kernel) (by decide +kernel) EG (fun r2 g2 i2 E2 => B_law_387 (RF_of i2.1) (by omega) (k g2 i2 E2))⟩
  exact B_law_358 (RF_of hI.1) (by omega) ⟨by omega, by omega, 63, by decide, root_iX TC_person (as := [.inr (.inr 1), .inl (xs (v3 + 1).toNat), .inl (xs (v3 + 2).toNat)]) rfl (Nat.le_of_ble_eq_true rfl) hI (gAr_c (g_ref 1) (gAr_c (g_i (hxs _)) (gAr_c (g_i (hxs _)) gAr_n))) rfl (Nat.le_of_ble_eq_true rfl) rfl rfl rfl (by decide +kernel) (by decide +kernel) (by decide +kernel) (by decide +kernel) hE (fun r g gI EG => S r g gI EG)⟩
theorem LW_5 {v3 : Int} (hxs : ∀ j, i32 (xs j)) (h0 : 0 ≤ v3) (h1 : v3 + 7 ≤ (xl : Int)) (hx : xl ≤ 3584) (hI : INV h) (hE : EQX h) (k : ∀ g, INV g → EQX g → Rn xs xl 64 mm_OneSidedLaw_law 1231 [some (.inr (.inr (-2))), some (.inr (.inr 1)), some (.inr (.inr 182)), some (.inl v3)] [] g Q) : Rn xs xl 64 mm_OneSidedLaw_law 391 [some (.inr (.inr (-2))), some (.inr (.inr 1)), some (.inr (.inr 182)), some (.inl v3)] [] h Q := by
  have S : ∀ (r : Int) (g : LH), INV g → EQX g → Rn xs xl 64 mm_OneSidedLaw_law 415 [some (.inr (.inr (-2))), some (.inr (.inr 1)), some (.inr (.inr 182)), some (.inl v3)] [.inl r] g Q := by
    intro r g gI EG
    exact B_law_415 (RF_of gI.1) (by omega) ⟨by omega, by omega, by omega, by omega, 63, by decide, root_iX TR_leads (as := [.inr (.inr 182), .inl (xs (v3 + 1).toNat), .inl (xs (v3 + 2).toNat), .inl (xs (v3 + 3).toNat), .inl (xs (v3 + 4).toNat)]) rfl (Nat.le_of_ble_eq_true rfl) gI (gAr_c (g_ref 182) (gAr_c (g_i (hxs _)) (gAr_c (g_i (hxs _)) (gAr_c (g_i (hxs _)) (gAr_c (g_i (hxs _)) gAr_n))))) rfl (Nat.le_of_ble_eq_true rfl) rfl rfl rfl (by decide +kernel) (by decide +kernel) (by decide +kernel) (by decide +kernel) EG (fun r2 g2 i2 E2 => B_law_440 (RF_of i2.1) (by omega) (k g2 i2 E2))⟩
  exact B_law_391 (RF_of hI.1) (by omega) ⟨by omega, by omega, by omega, by omega, 63, by decide, root_iX TC_leads (as := [.inr (.inr 1), .inl (xs (v3 + 1).toNat), .inl (xs (v3 + 2).toNat), .inl (xs (v3 + 3).toNat), .inl (xs (v3 + 4).toNat)]) rfl (Nat.le_of_ble_eq_true rfl) hI (gAr_c (g_ref 1) (gAr_c (g_i (hxs _)) (gAr_c (g_i (hxs _)) (gAr_c (g_i (hxs _)) (gAr_c (g_i (hxs _)) gAr_n))))) rfl (Nat.le_of_ble_eq_true rfl) rfl rfl rfl (by decide +kernel) (by decide +kernel) (by decide +kernel) (by decide +kernel) hE (fun r g gI EG => S r g gI EG)⟩
theorem LW_6 {v3 : Int} (hxs : ∀ j, i32 (xs j)) (h0 : 0 ≤ v3) (h1 : v3 + 7 ≤ (xl : Int)) (hx : xl ≤ 3584) (hI : INV h) (hE : EQX h) (k : ∀ g, INV g → EQX g → Rn xs xl 64 mm_OneSidedLaw_law 1231 [some (.inr (.inr (-2))), some (.inr (.inr 1)), some (.inr (.inr 182)), some (.inl v3)] [] g Q) : Rn xs xl 64 mm_OneSidedLaw_law 444 [some (.inr (.inr (-2))), some (.inr (.inr 1)), some (.inr (.inr 182)), some (.inl v3)] [] h Q := by
  exact B_law_444 (RF_of hI.1) (by omega) ⟨by omega, by omega, 63, by decide, E_goS (by decide) hI hE.1 (hxs _) (hxs _) (fun r g gI gj => B_law_458 (RF_of gI.1) (by omega) ⟨by omega, by omega, 63, by decide, G_goY (by decide) hI hE gI gj (fun g2 i2 E2 => B_law_473 (RF_of i2.1) (by omega) (k g2 i2 E2))⟩)⟩
theorem LW_7 {v3 : Int} (hxs : ∀ j, i32 (xs j)) (h0 : 0 ≤ v3) (h1 : v3 + 7 ≤ (xl : Int)) (hx : xl ≤ 3584) (hI : INV h) (hE : EQX h) (k : ∀ g, INV g → EQX g → Rn xs xl 64 mm_OneSidedLaw_law 1231 [some (.inr (.inr (-2))), some (.inr (.inr 1)), some (.inr (.inr 182)), some (.inl v3)] [] g Q) : Rn xs xl 64 mm_OneSidedLaw_law 477 [some (.inr (.inr (-2))), some (.inr (.inr 1)), some (.inr (.inr 182)), some (.inl v3)] [] h Q := by
  exact B_law_477 (RF_of hI.1) (by omega) ⟨by omega, 63, by decide, E_hoursS (by decide) hI hE.1 (hxs _) (fun r g gI gj => B_law_486 (RF_of gI.1) (by omega) ⟨by omega, 63, by decide, G_hoursY (by decide) hI hE (hxs _) gI gj (fun g2 i2 E2 => B_law_496 (RF_of i2.1) (by omega) (k g2 i2 E2))⟩)⟩
theorem LW_8 {v3 : Int} (hxs : ∀ j, i32 (xs j)) (h0 : 0 ≤ v3) (h1 : v3 + 7 ≤ (xl : Int)) (hx : xl ≤ 3584) (hI : INV h) (hE : EQX h) (k : ∀ g, INV g → EQX g → Rn xs xl 64 mm_OneSidedLaw_law 1231 [some (.inr (.inr (-2))), some (.inr (.inr 1)), some (.inr (.inr 182)), some (.inl v3)] [] g Q) : Rn xs xl 64 mm_OneSidedLaw_law 500 [some (.inr (.inr (-2))), some (.inr (.inr 1)), some (.inr (.inr 182)), some (.inl v3)] [] h Q := by
  exact B_law_500 (RF_of hI.1) (by omega) ⟨by omega, by omega, fun c => ⟨63, by decide, E_shutS (by decide) hI hE.1 (hxs _) g_z0 (by omega) (fun r g gI gj => B_law_522 (RF_of gI.1) (by omega) ⟨by omega, by omega, fun _ => ⟨63, by decide, G_shutY (by decide) hI hE (hxs _) g_z0 gI (by omega) gj (fun g2 i2 E2 => B_law_545 (RF_of i2.1) (by omega) (k g2 i2 E2))⟩, fun z => absurd c z⟩)⟩, fun c => ⟨63, by decide, E_shutS (by decide) hI hE.1 (hxs _) g_z1 (by omega) (fun r g gI gj => B_law_522 (RF_of gI.1) (by omega) ⟨by omega, by omega, fun z => absurd z c, fun _ => ⟨63, by decide, G_shutY (by decide) hI hE (hxs _) g_z1 gI (by omega) gj (fun g2 i2 E2 => B_law_545 (RF_of i2.1) (by omega) (k g2 i2 E2))⟩⟩)⟩⟩
theorem LW_9 {v3 : Int} (hxs : ∀ j, i32 (xs j)) (h0 : 0 ≤ v3) (h1 : v3 + 7 ≤ (xl : Int)) (hx : xl ≤ 3584) (hI : INV h) (hE : EQX h) (k : ∀ g, INV g → EQX g → Rn xs xl 64 mm_OneSidedLaw_law 1231 [some (.inr (.inr (-2))), some (.inr (.inr 1)), some (.inr (.inr 182)), some (.inl v3)] [] g Q) : Rn xs xl 64 mm_OneSidedLaw_law 549 [some (.inr (.inr (-2))), some (.inr (.inr 1)), some (.inr (.inr 182)), some (.inl v3)] [] h Q := by
  exact B_law_549 (RF_of hI.1) (by omega) ⟨63, by decide, E_undoS (by decide) hI hE.1 (fun r g gI gj => B_law_553 (RF_of gI.1) (by omega) ⟨63, by decide, G_undoY (by decide) hI hE gI gj (fun g2 i2 E2 => B_law_558 (RF_of i2.1) (by omega) (k g2 i2 E2))⟩)⟩
theorem LW_10 {v3 : Int} (hxs : ∀ j, i32 (xs j)) (h0 : 0 ≤ v3) (h1 : v3 + 7 ≤ (xl : Int)) (hx : xl ≤ 3584) (hI : INV h) (hE : EQX h) (k : ∀ g, INV g → EQX g → Rn xs xl 64 mm_OneSidedLaw_law 1231 [some (.inr (.inr (-2))), some (.inr (.inr 1)), some (.inr (.inr 182)), some (.inl v3)] [] g Q) : Rn xs xl 64 mm_OneSidedLaw_law 562 [some (.inr (.inr (-2))), some (.inr (.inr 1)), some (.inr (.inr 182)), some (.inl v3)] [] h Q := by
  have S : ∀ (r : Int) (g : LH), INV g → EQX g → Rn xs xl 64 mm_OneSidedLaw_law 571 [some (.inr (.inr (-2))), some (.inr (.inr 1)), some (.inr (.inr 182)), some (.inl v3)] [.inl r] g Q := by
    intro r g gI EG
    exact B_law_571 (RF_of gI.1) (by omega) ⟨by omega, 63, by decide, D_judgedS (by decide) gI (fun r2 g2 i2 f2 => B_law_581 (RF_of i2.1) (by omega) (k g2 i2 (EQX_fr gI EG (f2 2 0 (by decide) (by decide) (fun z => absurd z (by decide)) (by decide)) (f2 182 2 (by decide) (by decide) (fun z => absurd z (by decide)) (by decide)) (fun a i ha => by rcases ha with ha | ha; (obtain ⟨y1, y2, y3, -⟩ := inK_p ha; exact f2 a i (by omega) (by omega) (fun z => by omega) (by omega)); (obtain ⟨y1, y2, -, -, -, y6, y7, y8, y9⟩ := inX_p ha; exact f2 a i (by omega) (by omega) (fun z => by omega) (by omega))))))⟩
  exact B_law_562 (RF_of hI.1) (by omega) ⟨by omega, 63, by decide, root_iX TD_judged (as := [.inr (.inr 1), .inl (xs (v3 + 1).toNat)]) rfl (Nat.le_of_ble_eq_true rfl) hI (gAr_c (g_ref 1) (gAr_c (g_i (hxs _)) gAr_n)) rfl (Nat.le_of_ble_eq_true rfl) rfl rfl rfl (by decide +kernel) (by decide +kernel) (by decide +kernel) (by decide +kernel) hE (fun r g gI EG => S r g gI EG)⟩
theorem LW_11 {v3 : Int} (hxs : ∀ j, i32 (xs j)) (h0 : 0 ≤ v3) (h1 : v3 + 7 ≤ (xl : Int)) (hx : xl ≤ 3584) (hI : INV h) (hE : EQX h) (k : ∀ g, INV g → EQX g → Rn xs xl 64 mm_OneSidedLaw_law 1231 [some (.inr (.inr (-2))), some (.inr (.inr 1)), some (.inr (.inr 182)), some (.inl v3)] [] g Q) : Rn xs xl 64 mm_OneSidedLaw_law 585 [some (.inr (.inr (-2))), some (.inr (.inr 1)), some (.inr (.inr 182)), some (.inl v3)] [] h Q := by
  have S : ∀ (r : Int) (g : LH), INV g → EQX g → Rn xs xl 64 mm_OneSidedLaw_law 599 [some (.inr (.inr (-2))), some (.inr (.inr 1)), some (.inr (.inr 182)), some (.inl v3)] [.inl r] g Q := by
    intro r g gI EG
    exact B_law_599 (RF_of gI.1) (by omega) ⟨by omega, by omega, 63, by decide, root_iX TR_soonest (as := [.inr (.inr 182), .inl (xs (v3 + 1).toNat), .inl (xs (v3 + 2).toNat)]) rfl (Nat.le_of_ble_eq_true rfl) gI (gAr_c (g_ref 182) (gAr_c (g_i (hxs _)) (gAr_c (g_i (hxs _)) gAr_n))) rfl (Nat.le_of_ble_eq_true rfl) rfl rfl rfl (by decide +kernel) (by decide +kernel) (by decide +kernel) (by decide +kernel) EG (fun r2 g2 i2 E2 => B_law_614 (RF_of i2.1) (by omega) (k g2 i2 E2))⟩
  exact B_law_585 (RF_of hI.1) (by omega) ⟨by omega, by omega, 63, by decide, root_iX TC_soonest (as := [.inr (.inr 1), .inl (xs (v3 + 1).toNat), .inl (xs (v3 + 2).toNat)]) rfl (Nat.le_of_ble_eq_true rfl) hI (gAr_c (g_ref 1) (gAr_c (g_i (hxs _)) (gAr_c (g_i (hxs _)) gAr_n))) rfl (Nat.le_of_ble_eq_true rfl) rfl rfl rfl (by decide +kernel) (by decide +kernel) (by decide +kernel) (by decide +kernel) hE (fun r g gI EG => S r g gI EG)⟩
theorem LW_12 {v3 : Int} (hxs : ∀ j, i32 (xs j)) (h0 : 0 ≤ v3) (h1 : v3 + 7 ≤ (xl : Int)) (hx : xl ≤ 3584) (hI : INV h) (hE : EQX h) (k : ∀ g, INV g → EQX g → Rn xs xl 64 mm_OneSidedLaw_law 1231 [some (.inr (.inr (-2))), some (.inr (.inr 1)), some (.inr (.inr 182)), some (.inl v3)] [] g Q) : Rn xs xl 64 mm_OneSidedLaw_law 618 [some (.inr (.inr (-2))), some (.inr (.inr 1)), some (.inr (.inr 182)), some (.inl v3)] [] h Q := by
  have S : ∀ (r : Int) (g : LH), INV g → EQX g → Rn xs xl 64 mm_OneSidedLaw_law 632 [some (.inr (.inr (-2))), some (.inr (.inr 1)), some (.inr (.inr 182)), some (.inl v3)] [.inl r] g Q := by
    intro r g gI EG
    exact B_law_632 (RF_of gI.1) (by omega) ⟨by omega, by omega, 63, by decide, D_errand (by decide) gI (fun r2 g2 i2 f2 => B_law_647 (RF_of i2.1) (by omega) (k g2 i2 (EQX_fr gI EG ((f2 2 0 (by decide) (by decide) (by decide) (by decide) (by decide)).trans (rdw_ne (by decide))) ((f2 182 2 (by decide) (by decide) (by decide) (by decide) (by decide)).trans (rdw_nei (by decide))) (fun a i ha => by rcases ha with ha | ha; (obtain ⟨y1, y2, y3, -⟩ := inK_p ha; exact (f2 a i (by omega) (by omega) (by omega) (by omega) (by omega)).trans (by rw [rd_wr, if_neg (by omega)])); (obtain ⟨y1, y2, -, -, -, y6, y7, y8, y9⟩ := inX_p ha; exact (f2 a i (by omega) (by omega) (by omega) (by omega) (by omega)).trans (by rw [rd_wr, if_neg (by omega)]))))))⟩
  exact B_law_618 (RF_of hI.1) (by omega) ⟨by omega, by omega, 63, by decide, root_iX TC_errand (as := [.inr (.inr 1), .inl (xs (v3 + 1).toNat), .inl (xs (v3 + 2).toNat)]) rfl (Nat.le_of_ble_eq_true rfl) hI (gAr_c (g_ref 1) (gAr_c (g_i (hxs _)) (gAr_c (g_i (hxs _)) gAr_n))) rfl (Nat.le_of_ble_eq_true rfl) rfl rfl rfl (by decide +kernel) (by decide +kernel) (by decide +kernel) (by decide +kernel) hE (fun r g gI EG => S r g gI EG)⟩
theorem LW_13 {v3 : Int} (hxs : ∀ j, i32 (xs j)) (h0 : 0 ≤ v3) (h1 : v3 + 7 ≤ (xl : Int)) (hx : xl ≤ 3584) (hI : INV h) (hE : EQX h) (k : ∀ g, INV g → EQX g → Rn xs xl 64 mm_OneSidedLaw_law 1231 [some (.inr (.inr (-2))), some (.inr (.inr 1)), some (.inr (.inr 182)), some (.inl v3)] [] g Q) : Rn xs xl 64 mm_OneSidedLaw_law 651 [some (.inr (.inr (-2))), some (.inr (.inr 1)), some (.inr (.inr 182)), some (.inl v3)] [] h Q := by
  have S : ∀ (r : Int) (g : LH), INV g → EQX g → Rn xs xl 64 mm_OneSidedLaw_law 660 [some (.inr (.inr (-2))), some (.inr (.inr 1)), some (.inr (.inr 182)), some (.inl v3)] [.inl r] g Q := by
    intro r g gI EG
    exact B_law_660 (RF_of gI.1) (by omega) ⟨by omega, 63, by decide, root_iX TR_reach (as := [.inr (.inr 182), .inl (xs (v3 + 1).toNat)]) rfl (Nat.le_of_ble_eq_true rfl) gI (gAr_c (g_ref 182) (gAr_c (g_i (hxs _)) gAr_n)) rfl (Nat.le_of_ble_eq_true rfl) rfl rfl rfl (by decide +kernel) (by decide +kernel) (by decide +kernel) (by decide +kernel) EG (fun r2 g2 i2 E2 => B_law_670 (RF_of i2.1) (by omega) (k g2 i2 E2))⟩
  exact B_law_651 (RF_of hI.1) (by omega) ⟨by omega, 63, by decide, root_iX TC_reach (as := [.inr (.inr 1), .inl (xs (v3 + 1).toNat)]) rfl (Nat.le_of_ble_eq_true rfl) hI (gAr_c (g_ref 1) (gAr_c (g_i (hxs _)) gAr_n)) rfl (Nat.le_of_ble_eq_true rfl) rfl rfl rfl (by decide +kernel) (by decide +kernel) (by decide +kernel) (by decide +kernel) hE (fun r g gI EG => S r g gI EG)⟩
theorem LW_14 {v3 : Int} (hxs : ∀ j, i32 (xs j)) (h0 : 0 ≤ v3) (h1 : v3 + 7 ≤ (xl : Int)) (hx : xl ≤ 3584) (hI : INV h) (hE : EQX h) (k : ∀ g, INV g → EQX g → Rn xs xl 64 mm_OneSidedLaw_law 1231 [some (.inr (.inr (-2))), some (.inr (.inr 1)), some (.inr (.inr 182)), some (.inl v3)] [] g Q) : Rn xs xl 64 mm_OneSidedLaw_law 674 [some (.inr (.inr (-2))), some (.inr (.inr 1)), some (.inr (.inr 182)), some (.inl v3)] [] h Q := by
  have S : ∀ (r : Int) (g : LH), INV g → EQX g → Rn xs xl 64 mm_OneSidedLaw_law 678 [some (.inr (.inr (-2))), some (.inr (.inr 1)), some (.inr (.inr 182)), some (.inl v3)] [.inl r] g Q := by
    intro r g gI EG
    exact B_law_678 (RF_of gI.1) (by omega) ⟨63, by decide, root_iX TR_stuck (as := [.inr (.inr 182)]) rfl (Nat.le_of_ble_eq_true rfl) gI (gAr_c (g_ref 182) gAr_n) rfl (Nat.le_of_ble_eq_true rfl) rfl rfl rfl (by decide +kernel) (by decide +kernel) (by decide +kernel) (by decide +kernel) EG (fun r2 g2 i2 E2 => B_law_683 (RF_of i2.1) (by omega) (k g2 i2 E2))⟩
  exact B_law_674 (RF_of hI.1) (by omega) ⟨63, by decide, root_iX TC_stuck (as := [.inr (.inr 1)]) rfl (Nat.le_of_ble_eq_true rfl) hI (gAr_c (g_ref 1) gAr_n) rfl (Nat.le_of_ble_eq_true rfl) rfl rfl rfl (by decide +kernel) (by decide +kernel) (by decide +kernel) (by decide +kernel) hE (fun r g gI EG => S r g gI EG)⟩
theorem LW_15 {v3 : Int} (hxs : ∀ j, i32 (xs j)) (h0 : 0 ≤ v3) (h1 : v3 + 7 ≤ (xl : Int)) (hx : xl ≤ 3584) (hI : INV h) (hE : EQX h) (k : ∀ g, INV g → EQX g → Rn xs xl 64 mm_OneSidedLaw_law 1231 [some (.inr (.inr (-2))), some (.inr (.inr 1)), some (.inr (.inr 182)), some (.inl v3)] [] g Q) : Rn xs xl 64 mm_OneSidedLaw_law 687 [some (.inr (.inr (-2))), some (.inr (.inr 1)), some (.inr (.inr 182)), some (.inl v3)] [] h Q := by
  have S : ∀ (r : Int) (g : LH), INV g → EQX g → Rn xs xl 64 mm_OneSidedLaw_law 706 [some (.inr (.inr (-2))), some (.inr (.inr 1)), some (.inr (.inr 182)), some (.inl v3)] [.inl r] g Q := by
    intro r g gI EG
    exact B_law_706 (RF_of gI.1) (by omega) ⟨by omega, by omega, by omega, 63, by decide, root_iX TR_ring (as := [.inr (.inr 182), .inl (xs (v3 + 1).toNat), .inl (xs (v3 + 2).toNat), .inl (xs (v3 + 3).toNat)]) rfl (Nat.le_of_ble_eq_true rfl) gI (gAr_c (g_ref 182) (gAr_c (g_i (hxs _)) (gAr_c (g_i (hxs _)) (gAr_c (g_i (hxs _)) gAr_n)))) rfl (Nat.le_of_ble_eq_true rfl) rfl rfl rfl (by decide +kernel) (by decide +kernel) (by decide +kernel) (by decide +kernel) EG (fun r2 g2 i2 E2 => B_law_726 (RF_of i2.1) (by omega) (k g2 i2 E2))⟩
  exact B_law_687 (RF_of hI.1) (by omega) ⟨by omega, by omega, by omega, 63, by decide, root_iX TC_ring (as := [.inr (.inr 1), .inl (xs (v3 + 1).toNat), .inl (xs (v3 + 2).toNat), .inl (xs (v3 + 3).toNat)]) rfl (Nat.le_of_ble_eq_true rfl) hI (gAr_c (g_ref 1) (gAr_c (g_i (hxs _)) (gAr_c (g_i (hxs _)) (gAr_c (g_i (hxs _)) gAr_n)))) rfl (Nat.le_of_ble_eq_true rfl) rfl rfl rfl (by decide +kernel) (by decide +kernel) (by decide +kernel) (by decide +kernel) hE (fun r g gI EG => S r g gI EG)⟩
theorem LW_16 {v3 : Int} (hxs : ∀ j, i32 (xs j)) (h0 : 0 ≤ v3) (h1 : v3 + 7 ≤ (xl : Int)) (hx : xl ≤ 3584) (hI : INV h) (hE : EQX h) (k : ∀ g, INV g → EQX g → Rn xs xl 64 mm_OneSidedLaw_law 1231 [some (.inr (.inr (-2))), some (.inr (.inr 1)), some (.inr (.inr 182)), some (.inl v3)] [] g Q) : Rn xs xl 64 mm_OneSidedLaw_law 730 [some (.inr (.inr (-2))), some (.inr (.inr 1)), some (.inr (.inr 182)), some (.inl v3)] [] h Q := by
  have S : ∀ (r : Int) (g : LH), INV g → EQX g → Rn xs xl 64 mm_OneSidedLaw_law 749 [some (.inr (.inr (-2))), some (.inr (.inr 1)), some (.inr (.inr 182)), some (.inl v3)] [.inl r] g Q := by
    intro r g gI EG
    exact B_law_749 (RF_of gI.1) (by omega) ⟨by omega, by omega, by omega, 63, by decide, root_iX TR_homeless (as := [.inr (.inr 182), .inl (xs (v3 + 1).toNat), .inl (xs (v3 + 2).toNat), .inl (xs (v3 + 3).toNat)]) rfl (Nat.le_of_ble_eq_true rfl) gI (gAr_c (g_ref 182) (gAr_c (g_i (hxs _)) (gAr_c (g_i (hxs _)) (gAr_c (g_i (hxs _)) gAr_n)))) rfl (Nat.le_of_ble_eq_true rfl) rfl rfl rfl (by decide +kernel) (by decide +kernel) (by decide +kernel) (by decide +kernel) EG (fun r2 g2 i2 E2 => B_law_769 (RF_of i2.1) (by omega) (k g2 i2 E2))⟩
  exact B_law_730 (RF_of hI.1) (by omega) ⟨by omega, by omega, by omega, 63, by decide, root_iX TC_homeless (as := [.inr (.inr 1), .inl (xs (v3 + 1).toNat), .inl (xs (v3 + 2).toNat), .inl (xs (v3 + 3).toNat)]) rfl (Nat.le_of_ble_eq_true rfl) hI (gAr_c (g_ref 1) (gAr_c (g_i (hxs _)) (gAr_c (g_i (hxs _)) (gAr_c (g_i (hxs _)) gAr_n)))) rfl (Nat.le_of_ble_eq_true rfl) rfl rfl rfl (by decide +kernel) (by decide +kernel) (by decide +kernel) (by decide +kernel) hE (fun r g gI EG => S r g gI EG)⟩
theorem LW_17 {v3 : Int} (hxs : ∀ j, i32 (xs j)) (h0 : 0 ≤ v3) (h1 : v3 + 7 ≤ (xl : Int)) (hx : xl ≤ 3584) (hI : INV h) (hE : EQX h) (k : ∀ g, INV g → EQX g → Rn xs xl 64 mm_OneSidedLaw_law 1231 [some (.inr (.inr (-2))), some (.inr (.inr 1)), some (.inr (.inr 182)), some (.inl v3)] [] g Q) : Rn xs xl 64 mm_OneSidedLaw_law 773 [some (.inr (.inr (-2))), some (.inr (.inr 1)), some (.inr (.inr 182)), some (.inl v3)] [] h Q := by
  have S : ∀ (r : Int) (g : LH), INV g → EQX g → Rn xs xl 64 mm_OneSidedLaw_law 787 [some (.inr (.inr (-2))), some (.inr (.inr 1)), some (.inr (.inr 182)), some (.inl v3)] [.inl r] g Q := by
    intro r g gI EG
    exact B_law_787 (RF_of gI.1) (by omega) ⟨by omega, by omega, 63, by decide, root_iX TR_add (as := [.inr (.inr 182), .inl (xs (v3 + 1).toNat), .inl (xs (v3 + 2).toNat)]) rfl (Nat.le_of_ble_eq_true rfl) gI (gAr_c (g_ref 182) (gAr_c (g_i (hxs _)) (gAr_c (g_i (hxs _)) gAr_n))) rfl (Nat.le_of_ble_eq_true rfl) rfl rfl rfl (by decide +kernel) (by decide +kernel) (by decide +kernel) (by decide +kernel) EG (fun r2 g2 i2 E2 => B_law_802 (RF_of i2.1) (by omega) (k g2 i2 E2))⟩
  exact B_law_773 (RF_of hI.1) (by omega) ⟨by omega, by omega, 63, by decide, root_iX TC_add (as := [.inr (.inr 1), .inl (xs (v3 + 1).toNat), .inl (xs (v3 + 2).toNat)]) rfl (Nat.le_of_ble_eq_true rfl) hI (gAr_c (g_ref 1) (gAr_c (g_i (hxs _)) (gAr_c (g_i (hxs _)) gAr_n))) rfl (Nat.le_of_ble_eq_true rfl) rfl rfl rfl (by decide +kernel) (by decide +kernel) (by decide +kernel) (by decide +kernel) hE (fun r g gI EG => S r g gI EG)⟩
theorem LW_18 {v3 : Int} (hxs : ∀ j, i32 (xs j)) (h0 : 0 ≤ v3) (h1 : v3 + 7 ≤ (xl : Int)) (hx : xl ≤ 3584) (hI : INV h) (hE : EQX h) (k : ∀ g, INV g → EQX g → Rn xs xl 64 mm_OneSidedLaw_law 1231 [some (.inr (.inr (-2))), some (.inr (.inr 1)), some (.inr (.inr 182)), some (.inl v3)] [] g Q) : Rn xs xl 64 mm_OneSidedLaw_law 806 [some (.inr (.inr (-2))), some (.inr (.inr 1)), some (.inr (.inr 182)), some (.inl v3)] [] h Q := by
  have S : ∀ (r : Int) (g : LH), INV g → EQX g → Rn xs xl 64 mm_OneSidedLaw_law 820 [some (.inr (.inr (-2))), some (.inr (.inr 1)), some (.inr (.inr 182)), some (.inl v3)] [.inl r] g Q := by
    intro r g gI EG
    exact B_law_820 (RF_of gI.1) (by omega) ⟨by omega, by omega, 63, by decide, root_iX TR_turn (as := [.inr (.inr 182), .inl (xs (v3 + 1).toNat), .inl (xs (v3 + 2).toNat)]) rfl (Nat.le_of_ble_eq_true rfl) gI (gAr_c (g_ref 182) (gAr_c (g_i (hxs _)) (gAr_c (g_i (hxs _)) gAr_n))) rfl (Nat.le_of_ble_eq_true rfl) rfl rfl rfl (by decide +kernel) (by decide +kernel) (by decide +kernel) (by decide +kernel) EG (fun r2 g2 i2 E2 => B_law_835 (RF_of i2.1) (by omega) (k g2 i2 E2))⟩
  exact B_law_806 (RF_of hI.1) (by omega) ⟨by omega, by omega, 63, by decide, root_iX TC_turn (as := [.inr (.inr 1), .inl (xs (v3 + 1).toNat), .inl (xs (v3 + 2).toNat)]) rfl (Nat.le_of_ble_eq_true rfl) hI (gAr_c (g_ref 1) (gAr_c (g_i (hxs _)) (gAr_c (g_i (hxs _)) gAr_n))) rfl (Nat.le_of_ble_eq_true rfl) rfl rfl rfl (by decide +kernel) (by decide +kernel) (by decide +kernel) (by decide +kernel) hE (fun r g gI EG => S r g gI EG)⟩
theorem LW_19 {v3 : Int} (hxs : ∀ j, i32 (xs j)) (h0 : 0 ≤ v3) (h1 : v3 + 7 ≤ (xl : Int)) (hx : xl ≤ 3584) (hI : INV h) (hE : EQX h) (k : ∀ g, INV g → EQX g → Rn xs xl 64 mm_OneSidedLaw_law 1231 [some (.inr (.inr (-2))), some (.inr (.inr 1)), some (.inr (.inr 182)), some (.inl v3)] [] g Q) : Rn xs xl 64 mm_OneSidedLaw_law 839 [some (.inr (.inr (-2))), some (.inr (.inr 1)), some (.inr (.inr 182)), some (.inl v3)] [] h Q := by
  have S : ∀ (r : Int) (g : LH), INV g → EQX g → Rn xs xl 64 mm_OneSidedLaw_law 863 [some (.inr (.inr (-2))), some (.inr (.inr 1)), some (.inr (.inr 182)), some (.inl v3)] [.inl r] g Q := by
    intro r g gI EG
    exact B_law_863 (RF_of gI.1) (by omega) ⟨by omega, by omega, by omega, by omega, 63, by decide, root_iX TR_cut (as := [.inr (.inr 182), .inl (xs (v3 + 1).toNat), .inl (xs (v3 + 2).toNat), .inl (xs (v3 + 3).toNat), .inl (xs (v3 + 4).toNat)]) rfl (Nat.le_of_ble_eq_true rfl) gI (gAr_c (g_ref 182) (gAr_c (g_i (hxs _)) (gAr_c (g_i (hxs _)) (gAr_c (g_i (hxs _)) (gAr_c (g_i (hxs _)) gAr_n))))) rfl (Nat.le_of_ble_eq_true rfl) rfl rfl rfl (by decide +kernel) (by decide +kernel) (by decide +kernel) (by decide +kernel) EG (fun r2 g2 i2 E2 => B_law_888 (RF_of i2.1) (by omega) (k g2 i2 E2))⟩
  exact B_law_839 (RF_of hI.1) (by omega) ⟨by omega, by omega, by omega, by omega, 63, by decide, root_iX TC_cut (as := [.inr (.inr 1), .inl (xs (v3 + 1).toNat), .inl (xs (v3 + 2).toNat), .inl (xs (v3 + 3).toNat), .inl (xs (v3 + 4).toNat)]) rfl (Nat.le_of_ble_eq_true rfl) hI (gAr_c (g_ref 1) (gAr_c (g_i (hxs _)) (gAr_c (g_i (hxs _)) (gAr_c (g_i (hxs _)) (gAr_c (g_i (hxs _)) gAr_n))))) rfl (Nat.le_of_ble_eq_true rfl) rfl rfl rfl (by decide +kernel) (by decide +kernel) (by decide +kernel) (by decide +kernel) hE (fun r g gI EG => S r g gI EG)⟩
theorem LW_20 {v3 : Int} (hxs : ∀ j, i32 (xs j)) (h0 : 0 ≤ v3) (h1 : v3 + 7 ≤ (xl : Int)) (hx : xl ≤ 3584) (hI : INV h) (hE : EQX h) (k : ∀ g, INV g → EQX g → Rn xs xl 64 mm_OneSidedLaw_law 1231 [some (.inr (.inr (-2))), some (.inr (.inr 1)), some (.inr (.inr 182)), some (.inl v3)] [] g Q) : Rn xs xl 64 mm_OneSidedLaw_law 892 [some (.inr (.inr (-2))), some (.inr (.inr 1)), some (.inr (.inr 182)), some (.inl v3)] [] h Q := by
  have S : ∀ (r : Int) (g : LH), INV g → EQX g → Rn xs xl 64 mm_OneSidedLaw_law 911 [some (.inr (.inr (-2))), some (.inr (.inr 1)), some (.inr (.inr 182)), some (.inl v3)] [.inl r] g Q := by
    intro r g gI EG
    exact B_law_911 (RF_of gI.1) (by omega) ⟨by omega, by omega, by omega, 63, by decide, D_crowd (by decide) gI (fun r2 g2 i2 f2 => B_law_931 (RF_of i2.1) (by omega) (k g2 i2 (EQX_fr gI EG (f2 2 0 (by decide) (by decide) (by decide) (by decide) (by decide) (by decide) (by decide) (by decide)) (f2 182 2 (by decide) (by decide) (by decide) (by decide) (by decide) (by decide) (by decide) (by decide)) (fun a i ha => by rcases ha with ha | ha; (obtain ⟨y1, y2, y3, -⟩ := inK_p ha; exact f2 a i (by omega) (by omega) (by omega) (by omega) (by omega) (by omega) (by omega) (by omega)); (obtain ⟨y1, y2, -, -, -, y6, y7, y8, y9⟩ := inX_p ha; exact f2 a i (by omega) (by omega) (by omega) (by omega) (by omega) (by omega) (by omega) (by omega))))))⟩
  exact B_law_892 (RF_of hI.1) (by omega) ⟨by omega, by omega, by omega, 63, by decide, E_crowd (by decide) hI (fun r g gI gf => S r g gI (EQX_fr hI hE (gf 2 0 (by decide) (by decide) (by decide) (by decide) (by decide) (by decide)) (gf 182 2 (by decide) (by decide) (by decide) (by decide) (by decide) (by decide)) (fun a i ha => by rcases ha with ha | ha; (obtain ⟨y1, -⟩ := inK_p ha; exact gf a i (by omega) (by omega) (by omega) (by omega) (by omega) (by omega)); (obtain ⟨y1, -⟩ := inX_p ha; exact gf a i (by omega) (by omega) (by omega) (by omega) (by omega) (by omega)))))⟩
theorem LW_21 {v3 : Int} (hxs : ∀ j, i32 (xs j)) (h0 : 0 ≤ v3) (h1 : v3 + 7 ≤ (xl : Int)) (hx : xl ≤ 3584) (hI : INV h) (hE : EQX h) (k : ∀ g, INV g → EQX g → Rn xs xl 64 mm_OneSidedLaw_law 1231 [some (.inr (.inr (-2))), some (.inr (.inr 1)), some (.inr (.inr 182)), some (.inl v3)] [] g Q) : Rn xs xl 64 mm_OneSidedLaw_law 935 [some (.inr (.inr (-2))), some (.inr (.inr 1)), some (.inr (.inr 182)), some (.inl v3)] [] h Q := by
  exact B_law_935 (RF_of hI.1) (by omega) ⟨by omega, by omega, by omega, fun c => ⟨63, by decide, E_toldY (by decide) hI (hxs _) (hxs _) g_z0 (fun r g gI gj => B_law_962 (RF_of gI.1) (by omega) ⟨by omega, by omega, by omega, fun _ => ⟨63, by decide, G_toldY (by decide) hI hE (hxs _) (hxs _) g_z0 gI gj (fun g2 i2 E2 => B_law_990 (RF_of i2.1) (by omega) (k g2 i2 E2))⟩, fun z => absurd c z⟩)⟩, fun c => ⟨63, by decide, E_toldY (by decide) hI (hxs _) (hxs _) g_z1 (fun r g gI gj => B_law_962 (RF_of gI.1) (by omega) ⟨by omega, by omega, by omega, fun z => absurd z c, fun _ => ⟨63, by decide, G_toldY (by decide) hI hE (hxs _) (hxs _) g_z1 gI gj (fun g2 i2 E2 => B_law_990 (RF_of i2.1) (by omega) (k g2 i2 E2))⟩⟩)⟩⟩
theorem LW_22 {v3 : Int} (hxs : ∀ j, i32 (xs j)) (h0 : 0 ≤ v3) (h1 : v3 + 7 ≤ (xl : Int)) (hx : xl ≤ 3584) (hI : INV h) (hE : EQX h) (k : ∀ g, INV g → EQX g → Rn xs xl 64 mm_OneSidedLaw_law 1231 [some (.inr (.inr (-2))), some (.inr (.inr 1)), some (.inr (.inr 182)), some (.inl v3)] [] g Q) : Rn xs xl 64 mm_OneSidedLaw_law 994 [some (.inr (.inr (-2))), some (.inr (.inr 1)), some (.inr (.inr 182)), some (.inl v3)] [] h Q := by
  exact B_law_994 (RF_of hI.1) (by omega) ⟨by omega, 63, by decide, E_foundY (by decide) hI hE (hxs _) (fun r g gI gj => B_law_1003 (RF_of gI.1) (by omega) ⟨by omega, 63, by decide, G_foundY (by decide) hI hE gI gj (fun g2 i2 E2 => B_law_1012 (RF_of i2.1) (by omega) ⟨fun _ => k g2 i2 E2, fun z => absurd rfl z⟩)⟩)⟩
theorem LW_23 {v3 : Int} (hxs : ∀ j, i32 (xs j)) (h0 : 0 ≤ v3) (h1 : v3 + 7 ≤ (xl : Int)) (hx : xl ≤ 3584) (hI : INV h) (hE : EQX h) (k : ∀ g, INV g → EQX g → Rn xs xl 64 mm_OneSidedLaw_law 1231 [some (.inr (.inr (-2))), some (.inr (.inr 1)), some (.inr (.inr 182)), some (.inl v3)] [] g Q) : Rn xs xl 64 mm_OneSidedLaw_law 1017 [some (.inr (.inr (-2))), some (.inr (.inr 1)), some (.inr (.inr 182)), some (.inl v3)] [] h Q := by
  have S : ∀ (r : Int) (g : LH), INV g → EQX g → Rn xs xl 64 mm_OneSidedLaw_law 1036 [some (.inr (.inr (-2))), some (.inr (.inr 1)), some (.inr (.inr 182)), some (.inl v3)] [.inl r] g Q := by
    intro r g gI EG
    exact B_law_1036 (RF_of gI.1) (by omega) ⟨by omega, by omega, by omega, 63, by decide, root_restsX (by decide) gI EG (hxs _) (hxs _) (hxs _) (fun r2 g2 i2 E2 => B_law_1056 (RF_of i2.1) (by omega) (k g2 i2 E2))⟩
  exact B_law_1017 (RF_of hI.1) (by omega) ⟨by omega, by omega, by omega, 63, by decide, root_iX TC_rests (as := [.inr (.inr 1), .inl (xs (v3 + 1).toNat), .inl (xs (v3 + 2).toNat), .inl (xs (v3 + 3).toNat)]) rfl (Nat.le_of_ble_eq_true rfl) hI (gAr_c (g_ref 1) (gAr_c (g_i (hxs _)) (gAr_c (g_i (hxs _)) (gAr_c (g_i (hxs _)) gAr_n)))) rfl (Nat.le_of_ble_eq_true rfl) rfl rfl rfl (by decide +kernel) (by decide +kernel) (by decide +kernel) (by decide +kernel) hE (fun r g gI EG => S r g gI EG)⟩
theorem LW_24 {v3 : Int} (hxs : ∀ j, i32 (xs j)) (h0 : 0 ≤ v3) (h1 : v3 + 7 ≤ (xl : Int)) (hx : xl ≤ 3584) (hI : INV h) (hE : EQX h) (k : ∀ g, INV g → EQX g → Rn xs xl 64 mm_OneSidedLaw_law 1231 [some (.inr (.inr (-2))), some (.inr (.inr 1)), some (.inr (.inr 182)), some (.inl v3)] [] g Q) : Rn xs xl 64 mm_OneSidedLaw_law 1060 [some (.inr (.inr (-2))), some (.inr (.inr 1)), some (.inr (.inr 182)), some (.inl v3)] [] h Q := by
  have S : ∀ (r : Int) (g : LH), INV g → EQX g → Rn xs xl 64 mm_OneSidedLaw_law 1074 [some (.inr (.inr (-2))), some (.inr (.inr 1)), some (.inr (.inr 182)), some (.inl v3)] [.inl r] g Q := by
    intro r g gI EG
    exact B_law_1074 (RF_of gI.1) (by omega) ⟨by omega, by omega, 63, by decide, root_iX TR_chase (as := [.inr (.inr 182), .inl (xs (v3 + 1).toNat), .inl (xs (v3 + 2).toNat)]) rfl (Nat.le_of_ble_eq_true rfl) gI (gAr_c (g_ref 182) (gAr_c (g_i (hxs _)) (gAr_c (g_i (hxs _)) gAr_n))) rfl (Nat.le_of_ble_eq_true rfl) rfl rfl rfl (by decide +kernel) (by decide +kernel) (by decide +kernel) (by decide +kernel) EG (fun r2 g2 i2 E2 => B_law_1089 (RF_of i2.1) (by omega) (k g2 i2 E2))⟩
  exact B_law_1060 (RF_of hI.1) (by omega) ⟨by omega, by omega, 63, by decide, root_iX TC_chase (as := [.inr (.inr 1), .inl (xs (v3 + 1).toNat), .inl (xs (v3 + 2).toNat)]) rfl (Nat.le_of_ble_eq_true rfl) hI (gAr_c (g_ref 1) (gAr_c (g_i (hxs _)) (gAr_c (g_i (hxs _)) gAr_n))) rfl (Nat.le_of_ble_eq_true rfl) rfl rfl rfl (by decide +kernel) (by decide +kernel) (by decide +kernel) (by decide +kernel) hE (fun r g gI EG => S r g gI EG)⟩
theorem LW_25 {v3 : Int} (hxs : ∀ j, i32 (xs j)) (h0 : 0 ≤ v3) (h1 : v3 + 7 ≤ (xl : Int)) (hx : xl ≤ 3584) (hI : INV h) (hE : EQX h) (k : ∀ g, INV g → EQX g → Rn xs xl 64 mm_OneSidedLaw_law 1231 [some (.inr (.inr (-2))), some (.inr (.inr 1)), some (.inr (.inr 182)), some (.inl v3)] [] g Q) : Rn xs xl 64 mm_OneSidedLaw_law 1093 [some (.inr (.inr (-2))), some (.inr (.inr 1)), some (.inr (.inr 182)), some (.inl v3)] [] h Q := by
  have S : ∀ (r : Int) (g : LH), INV g → EQX g → Rn xs xl 64 mm_OneSidedLaw_law 1102 [some (.inr (.inr (-2))), some (.inr (.inr 1)), some (.inr (.inr 182)), some (.inl v3)] [.inl r] g Q := by
    intro r g gI EG
    exact B_law_1102 (RF_of gI.1) (by omega) ⟨by omega, 63, by decide, D_run (by decide) gI (fun r2 g2 i2 f2 => B_law_1112 (RF_of i2.1) (by omega) (k g2 i2 (EQX_fr gI EG ((f2 2 0 (by decide) (by decide) (by decide) (by decide) (by decide) (by decide)).trans (rdw_ne (by decide))) ((f2 182 2 (by decide) (by decide) (by decide) (by decide) (by decide) (by decide)).trans (rdw_nei (by decide))) (fun a i ha => by rcases ha with ha | ha; (obtain ⟨y1, y2, y3, -⟩ := inK_p ha; exact (f2 a i (by omega) (by omega) (by omega) (by omega) (fun z => by omega) (by omega)).trans (by rw [rd_wr, if_neg (by omega)])); (obtain ⟨y1, y2, -, -, -, y6, y7, y8, y9⟩ := inX_p ha; exact (f2 a i (by omega) (by omega) (by omega) (by omega) (fun z => by omega) (by omega)).trans (by rw [rd_wr, if_neg (by omega)]))))))⟩
  exact B_law_1093 (RF_of hI.1) (by omega) ⟨by omega, 63, by decide, root_iX TC_run (as := [.inr (.inr 1), .inl (xs (v3 + 1).toNat)]) rfl (Nat.le_of_ble_eq_true rfl) hI (gAr_c (g_ref 1) (gAr_c (g_i (hxs _)) gAr_n)) rfl (Nat.le_of_ble_eq_true rfl) rfl rfl rfl (by decide +kernel) (by decide +kernel) (by decide +kernel) (by decide +kernel) hE (fun r g gI EG => S r g gI EG)⟩
theorem LW_26 {v3 : Int} (hxs : ∀ j, i32 (xs j)) (h0 : 0 ≤ v3) (h1 : v3 + 7 ≤ (xl : Int)) (hx : xl ≤ 3584) (hI : INV h) (hE : EQX h) (k : ∀ g, INV g → EQX g → Rn xs xl 64 mm_OneSidedLaw_law 1231 [some (.inr (.inr (-2))), some (.inr (.inr 1)), some (.inr (.inr 182)), some (.inl v3)] [] g Q) : Rn xs xl 64 mm_OneSidedLaw_law 1116 [some (.inr (.inr (-2))), some (.inr (.inr 1)), some (.inr (.inr 182)), some (.inl v3)] [] h Q := by
  have S : ∀ (r : Int) (g : LH), INV g → EQX g → Rn xs xl 64 mm_OneSidedLaw_law 1135 [some (.inr (.inr (-2))), some (.inr (.inr 1)), some (.inr (.inr 182)), some (.inl v3)] [.inl r] g Q := by
    intro r g gI EG
    exact B_law_1135 (RF_of gI.1) (by omega) ⟨by omega, by omega, by omega, 63, by decide, root_iX TR_years (as := [.inr (.inr 182), .inl (xs (v3 + 1).toNat), .inl (xs (v3 + 2).toNat), .inl (xs (v3 + 3).toNat)]) rfl (Nat.le_of_ble_eq_true rfl) gI (gAr_c (g_ref 182) (gAr_c (g_i (hxs _)) (gAr_c (g_i (hxs _)) (gAr_c (g_i (hxs _)) gAr_n)))) rfl (Nat.le_of_ble_eq_true rfl) rfl rfl rfl (by decide +kernel) (by decide +kernel) (by decide +kernel) (by decide +kernel) EG (fun r2 g2 i2 E2 => B_law_1155 (RF_of i2.1) (by omega) (k g2 i2 E2))⟩
  exact B_law_1116 (RF_of hI.1) (by omega) ⟨by omega, by omega, by omega, 63, by decide, root_iX TC_years (as := [.inr (.inr 1), .inl (xs (v3 + 1).toNat), .inl (xs (v3 + 2).toNat), .inl (xs (v3 + 3).toNat)]) rfl (Nat.le_of_ble_eq_true rfl) hI (gAr_c (g_ref 1) (gAr_c (g_i (hxs _)) (gAr_c (g_i (hxs _)) (gAr_c (g_i (hxs _)) gAr_n)))) rfl (Nat.le_of_ble_eq_true rfl) rfl rfl rfl (by decide +kernel) (by decide +kernel) (by decide +kernel) (by decide +kernel) hE (fun r g gI EG => S r g gI EG)⟩
theorem LW_27 {v3 : Int} (hxs : ∀ j, i32 (xs j)) (h0 : 0 ≤ v3) (h1 : v3 + 7 ≤ (xl : Int)) (hx : xl ≤ 3584) (hI : INV h) (hE : EQX h) (k : ∀ g, INV g → EQX g → Rn xs xl 64 mm_OneSidedLaw_law 1231 [some (.inr (.inr (-2))), some (.inr (.inr 1)), some (.inr (.inr 182)), some (.inl v3)] [] g Q) : Rn xs xl 64 mm_OneSidedLaw_law 1159 [some (.inr (.inr (-2))), some (.inr (.inr 1)), some (.inr (.inr 182)), some (.inl v3)] [] h Q := by
  exact B_law_1159 (RF_of hI.1) (by omega) ⟨by omega, by omega, fun c => ⟨63, by decide, E_markS (by decide) hI hE.1 (hxs _) g_z0 (fun r g gI gj => B_law_1181 (RF_of gI.1) (by omega) ⟨by omega, by omega, fun _ => ⟨63, by decide, G_markY (by decide) hI hE gI gj (fun g2 i2 E2 => B_law_1204 (RF_of i2.1) (by omega) (k g2 i2 E2))⟩, fun z => absurd c z⟩)⟩, fun c => ⟨63, by decide, E_markS (by decide) hI hE.1 (hxs _) g_z1 (fun r g gI gj => B_law_1181 (RF_of gI.1) (by omega) ⟨by omega, by omega, fun z => absurd z c, fun _ => ⟨63, by decide, G_markY (by decide) hI hE gI gj (fun g2 i2 E2 => B_law_1204 (RF_of i2.1) (by omega) (k g2 i2 E2))⟩⟩)⟩⟩
theorem LW_28 {v3 : Int} (hxs : ∀ j, i32 (xs j)) (h0 : 0 ≤ v3) (h1 : v3 + 7 ≤ (xl : Int)) (hx : xl ≤ 3584) (hI : INV h) (hE : EQX h) (k : ∀ g, INV g → EQX g → Rn xs xl 64 mm_OneSidedLaw_law 1231 [some (.inr (.inr (-2))), some (.inr (.inr 1)), some (.inr (.inr 182)), some (.inl v3)] [] g Q) : Rn xs xl 64 mm_OneSidedLaw_law 1208 [some (.inr (.inr (-2))), some (.inr (.inr 1)), some (.inr (.inr 182)), some (.inl v3)] [] h Q := by
  have S : ∀ (r : Int) (g : LH), INV g → EQX g → Rn xs xl 64 mm_OneSidedLaw_law 1217 [some (.inr (.inr (-2))), some (.inr (.inr 1)), some (.inr (.inr 182)), some (.inl v3)] [.inl r] g Q := by
    intro r g gI EG
    exact B_law_1217 (RF_of gI.1) (by omega) ⟨by omega, 63, by decide, root_iX TR_count (as := [.inr (.inr 182), .inl (xs (v3 + 1).toNat)]) rfl (Nat.le_of_ble_eq_true rfl) gI (gAr_c (g_ref 182) (gAr_c (g_i (hxs _)) gAr_n)) rfl (Nat.le_of_ble_eq_true rfl) rfl rfl rfl (by decide +kernel) (by decide +kernel) (by decide +kernel) (by decide +kernel) EG (fun r2 g2 i2 E2 => B_law_1227 (RF_of i2.1) (by omega) (k g2 i2 E2))⟩
  exact B_law_1208 (RF_of hI.1) (by omega) ⟨by omega, 63, by decide, root_iX TC_count (as := [.inr (.inr 1), .inl (xs (v3 + 1).toNat)]) rfl (Nat.le_of_ble_eq_true rfl) hI (gAr_c (g_ref 1) (gAr_c (g_i (hxs _)) gAr_n)) rfl (Nat.le_of_ble_eq_true rfl) rfl rfl rfl (by decide +kernel) (by decide +kernel) (by decide +kernel) (by decide +kernel) hE (fun r g gI EG => S r g gI EG)⟩
theorem law_loop (hxs : ∀ j, i32 (xs j)) (hx : xl ≤ 3584) (kq : ∀ g, INV g → Q (some (.inl 1)) g) : ∀ (m : Nat) (v3 : Int) (h : LH), 0 ≤ v3 → v3 ≤ (xl : Int) → ((xl : Int) - v3).toNat ≤ m → INV h → EQX h → Rn xs xl 64 mm_OneSidedLaw_law 18 [some (.inr (.inr (-2))), some (.inr (.inr 1)), some (.inr (.inr 182)), some (.inl v3)] [] h Q := by
  intro m
  induction m with
  | zero =>
    intro v3 h h0 h1 hm hI hE
    exact B_law_18 (RF_of hI.1) (by omega) ⟨by omega, fun _ => kq h hI, fun z => absurd z (by omega)⟩
  | succ m ih =>
    intro v3 h h0 h1 hm hI hE
    refine B_law_18 (RF_of hI.1) (by omega) ⟨by omega, fun _ => kq h hI, fun z => ?_⟩
    have z7 : v3 + 7 ≤ (xl : Int) := by omega
    have K : ∀ g, INV g → EQX g → Rn xs xl 64 mm_OneSidedLaw_law 1231 [some (.inr (.inr (-2))), some (.inr (.inr 1)), some (.inr (.inr 182)), some (.inl v3)] [] g Q := fun g gI gE => B_law_1231 (RF_of gI.1) (by omega) (ih (v3 + 7) g (by omega) (by omega) (by omega) gI gE)
    exact ⟨by omega, fun _ => LW_0 hxs h0 z7 hx hI hE K, fun _ => LW_1 hxs h0 z7 hx hI hE K, fun _ => LW_2 hxs h0 z7 hx hI hE K, fun _ => LW_3 hxs h0 z7 hx hI hE K, fun _ => LW_4 hxs h0 z7 hx hI hE K, fun _ => LW_5 hxs h0 z7 hx hI hE K, fun _ => LW_6 hxs h0 z7 hx hI hE K, fun _ => LW_7 hxs h0 z7 hx hI hE K, fun _ => LW_8 hxs h0 z7 hx hI hE K, fun _ => LW_9 hxs h0 z7 hx hI hE K, fun _ => LW_10 hxs h0 z7 hx hI hE K, fun _ => LW_11 hxs h0 z7 hx hI hE K, fun _ => LW_12 hxs h0 z7 hx hI hE K, fun _ => LW_13 hxs h0 z7 hx hI hE K, fun _ => LW_14 hxs h0 z7 hx hI hE K, fun _ => LW_15 hxs h0 z7 hx hI hE K, fun _ => LW_16 hxs h0 z7 hx hI hE K, fun _ => LW_17 hxs h0 z7 hx hI hE K, fun _ => LW_18 hxs h0 z7 hx hI hE K, fun _ => LW_19 hxs h0 z7 hx hI hE K, fun _ => LW_20 hxs h0 z7 hx hI hE K, fun _ => LW_21 hxs h0 z7 hx hI hE K, fun _ => LW_22 hxs h0 z7 hx hI hE K, fun _ => LW_23 hxs h0 z7 hx hI hE K, fun _ => LW_24 hxs h0 z7 hx hI hE K, fun _ => LW_25 hxs h0 z7 hx hI hE K, fun _ => LW_26 hxs h0 z7 hx hI hE K, fun _ => LW_27 hxs h0 z7 hx hI hE K, fun _ => LW_28 hxs h0 z7 hx hI hE K, fun _ => K h hI hE⟩
end LA
end
section
/-! LM, part 9d: the first heap; the law's run from its entry -/
def gVb (a : AV) (v : LV) : Bool := match v with
  | .inl x => a.1 == 0 && decide (-2147483648 ≤ x) && decide (x ≤ 2147483647) && decide (a.2.1 ≤ x) && decide (x ≤ a.2.2.1) && decide ((x - a.2.1) % ((a.2.2.2 : Nat) : Int) = 0)
  | .inr (.inl x) => a.1 == 1 && decide (-9223372036854775808 ≤ x) && decide (x ≤ 9223372036854775807) && decide (a.2.1 ≤ x) && decide (x ≤ a.2.2.1) && decide ((x - a.2.1) % ((a.2.2.2 : Nat) : Int) = 0)
  | .inr (.inr x) => a.1 == 2 && decide (a.2.1 ≤ x) && decide (x ≤ a.2.2.1) && decide ((x - a.2.1) % ((a.2.2.2 : Nat) : Int) = 0)
theorem gVb_ok {a : AV} {v : LV} (h : gVb a v = true) : gV a v := by
  rcases v with x | x | x
  · simp only [gVb, Bool.and_eq_true, decide_eq_true_eq, beq_iff_eq] at h
    obtain ⟨⟨⟨⟨⟨h1, h2⟩, h3⟩, h4⟩, h5⟩, h6⟩ := h
    exact ⟨h1, ⟨h2, h3⟩, h4, h5, Int.dvd_of_emod_eq_zero h6⟩
  · simp only [gVb, Bool.and_eq_true, decide_eq_true_eq, beq_iff_eq] at h
    obtain ⟨⟨⟨⟨⟨h1, h2⟩, h3⟩, h4⟩, h5⟩, h6⟩ := h
    exact ⟨h1, ⟨h2, h3⟩, h4, h5, Int.dvd_of_emod_eq_zero h6⟩
  · simp only [gVb, Bool.and_eq_true, decide_eq_true_eq, beq_iff_eq] at h
    obtain ⟨⟨⟨h1, h4⟩, h5⟩, h6⟩ := h
    exact ⟨h1, h4, h5, Int.dvd_of_emod_eq_zero h6⟩
theorem rd_mem : ∀ (h : LH) (a i : Int), (a, i, rd h a i) ∈ h ∨ (rd h a i = 0 ∧ ∀ v, (a, i, v) ∉ h)
  | [], a, i => Or.inr ⟨rfl, fun v q => by cases q⟩
  | (b, j, v) :: t, a, i => by
    by_cases c : b = a ∧ j = i
    · obtain ⟨rfl, rfl⟩ := c
      left
      show (b, j, if b = b ∧ j = j then v else rd t b j) ∈ _
      rw [if_pos ⟨rfl, rfl⟩]
      exact List.mem_cons_self
    · have e : rd ((b, j, v) :: t) a i = rd t a i := if_neg c
      rw [e]
      rcases rd_mem t a i with q | ⟨q1, q2⟩
      · exact Or.inl (List.mem_cons_of_mem _ q)
      · refine Or.inr ⟨q1, fun w hw => ?_⟩
        rcases List.mem_cons.mp hw with z | z
        · cases z
          exact c ⟨rfl, rfl⟩
        · exact q2 w z
theorem rd_none {h : LH} {a i : Int} (hn : ∀ e ∈ h, ¬ (e.1 = a ∧ e.2.1 = i)) : rd h a i = 0 := by
  rcases rd_mem h a i with q | q
  · exact absurd ⟨rfl, rfl⟩ (hn _ q)
  · exact q.1
def chkZ (h : LH) (a : Nat) : Bool :=
  if (lay a).1 = 1 ∨ (lay a).1 = 2 ∨ (lay a).1 = 3 ∨ (lay a).1 = 4 then (match RGL[a]? with
    | some L => decide (0 < L.length) && L.all (fun av => gVb av (mkv (if (lay a).1 = 2 then 1 else 0) 0))
    | none => false)
  else (List.range (lay a).2.2).all (fun i => gVb (hav a i) (mkv (lkd a i) 0) || h.any (fun e => e.1 == (a : Int) && e.2.1 == (i : Int)))
def chkR (h : LH) : Bool := h.all (fun e => gVb (hav e.1 e.2.1) (mkv (lkd e.1 e.2.1) e.2.2)) && (List.range (NC + 1)).all (chkZ h)
theorem chkR_ok {h : LH} (hc : chkR h = true) : RNG h := by
  unfold chkR at hc
  rw [Bool.and_eq_true, List.all_eq_true, List.all_eq_true] at hc
  obtain ⟨c1, c2⟩ := hc
  intro a i hv
  obtain ⟨v1, v2, v3, v4⟩ := hv
  unfold hval
  rcases rd_mem h a i with q | ⟨q1, q2⟩
  · exact gVb_ok (c1 _ q)
  · rw [q1]
    have z := c2 a.toNat (List.mem_range.mpr (by omega))
    have ea : ((a.toNat : Nat) : Int) = a := Int.toNat_of_nonneg (by omega)
    unfold chkZ at z
    by_cases k : (lay a.toNat).1 = 1 ∨ (lay a.toNat).1 = 2 ∨ (lay a.toNat).1 = 3 ∨ (lay a.toNat).1 = 4
    · rw [if_pos k] at z
      split at z
      · next L hL =>
        rw [Bool.and_eq_true, decide_eq_true_eq, List.all_eq_true] at z
        have e1 : hav a i = L.getD (i.toNat % L.length) top0 := by
          unfold hav
          rw [hL]
        have lt : i.toNat % L.length < L.length := Nat.mod_lt _ z.1
        have e2 : L.getD (i.toNat % L.length) top0 ∈ L := by
          rw [List.getD_eq_getElem?_getD, List.getElem?_eq_getElem lt]
          exact List.getElem_mem lt
        have e3 : lkd a i = if (lay a.toNat).1 = 2 then 1 else 0 := by
          rcases k with k | k | k | k
          · rw [lkd_1 k, k]; rfl
          · rw [lkd_2 k, k]; rfl
          · rw [lkd_3 k, k]; rfl
          · rw [lkd_4 k, k]; rfl
        rw [e1, e3]
        exact gVb_ok (z.2 _ e2)
      · cases z
    · rw [if_neg k, List.all_eq_true] at z
      have y := z i.toNat (List.mem_range.mpr (by omega))
      rw [ea, Int.toNat_of_nonneg v3, Bool.or_eq_true] at y
      rcases y with y | y
      · exact gVb_ok y
      · rw [List.any_eq_true] at y
        obtain ⟨e, e1, e2⟩ := y
        rw [Bool.and_eq_true, beq_iff_eq, beq_iff_eq] at e2
        obtain ⟨x, y2, w⟩ := e
        obtain ⟨rfl, rfl⟩ := e2
        exact absurd e1 (q2 w)
theorem rng0 : chkR hc_556 = true := by decide +kernel
theorem noE0 : (hc_556.all (fun e => !(e.1 == 64) && !(e.1 == 72) && !(e.1 == 107) && !(e.1 == 115) && !(e.1 == 123) && !(e.1 == 131) && !(e.1 == 184) && !(e.1 == 200) && (!(e.1 == 195) || e.2.1 == 0))) = true := by decide +kernel
theorem val0 : rd hc_556 188 3 = -1 ∧ rd hc_556 188 1 = 0 ∧ rd hc_556 188 2 = 0 ∧ rd hc_556 2 0 = rd hc_556 182 2 := ⟨by decide +kernel, by decide +kernel, by decide +kernel, by decide +kernel⟩
theorem inv0 : INV hc_556 := by
  have n := List.all_eq_true.mp noE0
  obtain ⟨v1, v2, v3, -⟩ := val0
  have c : ∀ a, (a = 64 ∨ a = 72 ∨ a = 107 ∨ a = 115 ∨ a = 123 ∨ a = 131 ∨ a = 184 ∨ a = 200) → ∀ i, rd hc_556 a i = 0 := by
    intro a ha i
    refine rd_none (fun e he q => ?_)
    have x := n e he
    simp only [Bool.and_eq_true, Bool.not_eq_true', beq_eq_false_iff_ne] at x
    omega
  have d : ∀ i, i ≠ 0 → rd hc_556 195 i = 0 := by
    intro i hi
    refine rd_none (fun e he q => ?_)
    have x := n e he
    simp only [Bool.and_eq_true, Bool.not_eq_true', beq_eq_false_iff_ne, Bool.or_eq_true, beq_iff_eq] at x
    omega
  refine ⟨chkR_ok rng0, ⟨?_, ?_, ?_, ?_, ?_, ?_, ?_, ?_⟩, ?_, ?_, ?_, ?_⟩
  · intro i _; rw [c 64 (by omega)]; omega
  · intro i _; rw [c 72 (by omega)]; omega
  · intro i _; rw [c 107 (by omega)]; omega
  · intro i _; rw [c 115 (by omega)]; omega
  · intro i _; rw [c 123 (by omega)]; omega
  · intro i _; rw [c 131 (by omega)]; omega
  · intro k k0 k1 _; rw [d _ (by omega)]; omega
  · intro m m0 m1 k k0 k1 _; rw [c 200 (by omega)]; omega
  · intro q; rw [v1] at q; omega
  · exact c 184 (by omega) 1000
  · refine ⟨fun d d0 d1 d2 => ?_, fun p p0 p1 p2 => ?_⟩
    · rw [v2] at d2; omega
    · rw [v3] at p2; omega
  · refine ⟨fun p p0 p1 p2 => ?_, fun m m0 m1 _ p p0 p1 p2 => ?_, fun j j0 j1 _ p p0 p1 p2 => ?_⟩ <;> (rw [v3] at p2; omega)
theorem mkr_chk : (∀ m : Nat, m < 4 → rd hc_556 75 (m : Int) = 102 + 8 * (m : Int) ∧ rd hc_556 199 (m : Int) = 0) ∧ rd hc_556 1 6 = 0 := ⟨by decide +kernel, by decide +kernel⟩
theorem mkr0 : MKR hc_556 := by
  obtain ⟨c1, c2⟩ := mkr_chk
  refine ⟨fun m h0 h1 => ?_, by rw [c2]; decide, fun m h0 h1 => ?_⟩
  · have y := (c1 m.toNat (by omega)).1
    rw [show ((m.toNat : Nat) : Int) = m by omega] at y
    exact y
  · have y := (c1 m.toNat (by omega)).2
    rw [show ((m.toNat : Nat) : Int) = m by omega] at y
    have z := mbit_0 m.toNat (by omega)
    rw [show ((m.toNat : Nat) : Int) = m by omega] at z
    rw [y, c2, z]
theorem scr_chk : rd hc_556 1 1 = 5 ∧ rd hc_556 5 0 = rd hc_556 188 0 ∧ rd hc_556 5 2 = 0 ∧ rd hc_556 5 4 = 0 ∧ rd hc_556 5 6 = 0 ∧ rd hc_556 182 28 = -1 ∧ rd hc_556 182 29 = -1 ∧ rd hc_556 60 0 = rd hc_556 198 0 ∧ rd hc_556 60 1 = rd hc_556 198 1 ∧ rd hc_556 60 3 = 0 ∧ rd hc_556 1 8 = 0 ∧ rd hc_556 1 9 = 0 ∧ rd hc_556 182 25 = 0 := ⟨by decide +kernel, by decide +kernel, by decide +kernel, by decide +kernel, by decide +kernel, by decide +kernel, by decide +kernel, by decide +kernel, by decide +kernel, by decide +kernel, by decide +kernel, by decide +kernel, by decide +kernel⟩
theorem scr_chk2 : (∀ d : Nat, d < 14 → rd hc_556 62 (d : Int) = 0 ∧ rd hc_556 198 ((d : Int) + 20) = 0) ∧ (∀ i : Nat, i < 16 → rd hc_556 76 (i : Int) = 134 + 3 * (i : Int)) := ⟨by decide +kernel, by decide +kernel⟩
theorem noE1 : (hc_556.all (fun e => !(e.1 == 10) && !(e.1 == 11))) = true := by decide +kernel
theorem scr0 : SCR hc_556 := by
  obtain ⟨s1, s2, s3, s4, s5, s6, s7, s8, s9, sa, sb, sc, sd⟩ := scr_chk
  obtain ⟨-, v2, v3, -⟩ := val0
  have n := List.all_eq_true.mp noE1
  have z : ∀ a, (a = 10 ∨ a = 11) → ∀ i, rd hc_556 a i = 0 := by
    intro a ha i
    refine rd_none (fun e he q => ?_)
    have x := n e he
    simp only [Bool.and_eq_true, Bool.not_eq_true', beq_eq_false_iff_ne] at x
    omega
  have st : ∀ s hr, stl hc_556 5 [] hc_556 s hr := fun s hr => by
    refine ⟨fun j j0 j1 => ?_, fun j j0 j1 => ?_⟩
    · show bitZ (rd hc_556 10 (24 * s + hr)) j ↔ (j < rd hc_556 5 2 ∧ _)
      rw [z 10 (Or.inl rfl), s3]
      exact ⟨fun y => absurd y bit_zero, fun y => by omega⟩
    · show bitZ (rd hc_556 11 (24 * s + hr)) j ↔ (j < rd hc_556 5 2 ∧ _)
      rw [z 11 (Or.inr rfl), s3]
      exact ⟨fun y => absurd y bit_zero, fun y => by omega⟩
  refine ⟨?_, ⟨[], ?_, ?_⟩, s6, s7, ⟨s8, s9, fun p p0 p1 => by omega, fun d d0 d1 => ?_, fun p p0 p1 => by rw [sa]; exact bit_zero⟩, ?_, fun m h0 h1 hm => ?_, fun i i0 i1 => ?_⟩
  · unfold QFR
    rw [s1]
    exact ⟨s2, s3.trans v2.symm, s4.trans v3.symm, fun i j hi _ => by omega, fun i j hi _ => by omega, fun _ => by rw [val0.1]; decide, fun y => by omega, by omega⟩
  · rw [s1]
    exact ⟨s5, fun i hi => absurd hi (Nat.not_lt_zero i), Nat.zero_le _, trivial, fun y => absurd y (by decide), fun c hc => absurd hc List.not_mem_nil⟩
  · rw [s1]
    exact fun s hr _ _ _ _ => st s hr
  · have y := scr_chk2.1 d.toNat (by omega)
    rw [Int.toNat_of_nonneg d0] at y
    rw [show (0 : Int) + d + 20 = d + 20 by omega, y.2]
    exact ⟨y.1, by decide, by decide⟩
  · unfold UN
    rw [sb, sc]
    exact ⟨by decide, by decide, sd, fun k k0 k1 => by omega⟩
  · have y := (mkr_chk.1 m.toNat (by omega)).2
    rw [show ((m.toNat : Nat) : Int) = m by omega] at y
    exact absurd y hm
  · have y := scr_chk2.2 i.toNat (by omega)
    rw [Int.toNat_of_nonneg i0] at y
    exact y
theorem eql0 : EQL hc_556 := ⟨val0.2.2.2, fun i i0 i1 => by rw [show rd hc_556 2 0 = 0 by decide +kernel] at i1; omega, pt0, rfl, rfl, by decide +kernel, mkr0, scr0⟩
theorem nmr_chk : rd hc_556 1 1 = 5 ∧ rd hc_556 5 2 = 0 ∧ rd hc_556 5 4 = 0 ∧ rd hc_556 182 18 = 0 := ⟨by decide +kernel, by decide +kernel, by decide +kernel, by decide +kernel⟩
theorem nmr0 : NMR hc_556 := by
  obtain ⟨c1, c2, c3, c4⟩ := nmr_chk
  unfold NMR
  rw [c1, c2, c3, c4]
  exact ⟨by decide, by decide, fun k hk => by omega, fun j hj => by omega, fun j hj => by omega, fun k k' hk => by omega⟩
theorem xs_chk : ∀ i : Nat, i < 16 → rd hc_556 (134 + 3 * (i : Int)) 1 = 0 := by decide +kernel
theorem xs_chk2 : ∀ m : Nat, m < 4 → rd hc_556 (103 + 8 * (m : Int)) 1 = 0 := by decide +kernel
theorem eqx0 : EQX hc_556 := by
  refine ⟨eql0, ⟨nmr0, ⟨by decide +kernel, by decide +kernel, fun k k0 k1 => ?_⟩, ⟨by decide +kernel, by decide +kernel, fun k k0 k1 => ?_⟩, fun m h0 h1 hm => ?_⟩, ?_, fun m h0 h1 => ?_, fun i h0 h1 => ?_⟩
  · rw [show rd hc_556 59 1 = 0 by decide +kernel] at k1; omega
  · rw [show rd hc_556 59 4 = 0 by decide +kernel] at k1; omega
  · have y := (mkr_chk.1 m.toNat (by omega)).2
    rw [show ((m.toNat : Nat) : Int) = m by omega] at y
    exact absurd y hm
  · rw [show rd hc_556 60 1 = 0 by decide +kernel]
    exact hb_zero
  · have y := xs_chk2 m.toNat (by omega)
    rw [Int.toNat_of_nonneg h0] at y
    rw [y]
    exact hb_zero
  · have y := xs_chk i.toNat (by omega)
    rw [Int.toNat_of_nonneg h0] at y
    rw [y]
    exact hb_zero
theorem gl_0 : lmGoZ 9 2 64 mm_OneSidedLaw_law 0 [some (.inr (.inr (-2))), none, none, none] [] 0 [] = some (4, [some (.inr (.inr (-2))), none, none, none], [.inr (.inr 1), .inr (.inr 1)], 1, []) := goOk_ok (by decide +kernel)
theorem gl_7 : lmGoZ 9 3 64 mm_OneSidedLaw_law 7 [some (.inr (.inr (-2))), none, none, none] [.inr (.inr 1)] 181 hc_302 = some (12, [some (.inr (.inr (-2))), some (.inr (.inr 1)), none, none], [.inr (.inr 182), .inr (.inr 182)], 182, hc_302) := goOk_ok (by decide +kernel)
theorem gl_15 : lmGoZ 9 3 64 mm_OneSidedLaw_law 15 [some (.inr (.inr (-2))), some (.inr (.inr 1)), none, none] [.inr (.inr 182)] 212 hc_556 = some (18, [some (.inr (.inr (-2))), some (.inr (.inr 1)), some (.inr (.inr 182)), some (.inl 0)], [], 212, hc_556) := goOk_ok (by decide +kernel)
theorem dl_4 : decode mm_OneSidedLaw_law.2.1 4 = .ok (.invokespecial 9, 3) := by decide +kernel
theorem dl_12 : decode mm_OneSidedLaw_law.2.1 12 = .ok (.invokespecial 12, 3) := by decide +kernel
theorem kl_4 : lmK mm_OneSidedLaw_law.2.2.2.2.1 1 (.invokespecial 9) [.inr (.inr 1), .inr (.inr 1)] = some (0, [.inr (.inr 1)], [.inr (.inr 1)]) := callOk_ok (by decide +kernel)
theorem kl_12 : lmK mm_OneSidedLaw_law.2.2.2.2.1 182 (.invokespecial 12) [.inr (.inr 182), .inr (.inr 182)] = some (157, [.inr (.inr 182)], [.inr (.inr 182)]) := callOk_ok (by decide +kernel)
theorem run_law {xs : Nat → Int} {xl : Nat} (hxs : ∀ j, i32 (xs j)) (hx : xl ≤ 3584) : ∃ (f : Nat) (h' : LH), lmRun xs xl f 64 mm_OneSidedLaw_law 0 [some (.inr (.inr (-2))), none, none, none] [] 0 [] = some (some (.inl 1), 212, h') := by
  obtain ⟨f, r, h', q1, q2⟩ := law_loop (Q := fun r _ => r = some (.inl 1)) hxs hx (fun _ _ => rfl) xl 0 hc_556 (by omega) (by omega) (by omega) inv0 eqx0
  subst q2
  have g : ∃ f, lmRun xs xl f 64 mm_OneSidedLaw_law 0 [some (.inr (.inr (-2))), none, none, none] [] 0 [] = some (some (.inl 1), 212, h') := by
    refine lmGoZ_ok _ _ _ _ _ _ _ _ _ _ _ _ _ _ gl_0 ?_
    refine run_call (d := 63) (r := none) (n' := 181) (h' := hc_302) (M' := mm_OneSided_init) dl_4 rfl rfl kl_4 rfl (by obtain ⟨f, hf⟩ := run_ini (xs := xs) (xl := xl); exact ⟨f, lmRun_le f f 8 63 _ _ _ _ _ _ _ (Nat.le_refl _) (by decide) hf⟩) ?_
    refine lmGoZ_ok _ _ _ _ _ _ _ _ _ _ _ _ _ _ gl_7 ?_
    refine run_call (d := 63) (r := none) (n' := 212) (h' := hc_556) (M' := mm_init) dl_12 rfl rfl kl_12 rfl (by obtain ⟨f, hf⟩ := run_mod (xs := xs) (xl := xl); exact ⟨f, lmRun_le f f 8 63 _ _ _ _ _ _ _ (Nat.le_refl _) (by decide) hf⟩) ?_
    refine lmGoZ_ok _ _ _ _ _ _ _ _ _ _ _ _ _ _ gl_15 ?_
    exact ⟨f, q1⟩
  obtain ⟨f2, hf2⟩ := g
  exact ⟨f2, h', hf2⟩
end
