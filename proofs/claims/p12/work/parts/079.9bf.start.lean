/-! LM, part 9d: the first heap; the law's run from its entry -/
def gVb (a : AV) (v : LV) : Bool := match v with
  | .inl x => a.1 == 0 && decide (-2147483648 ≤ x) && decide (x ≤ 2147483647) && decide (a.2.1 ≤ x) && decide (x ≤ a.2.2.1) && decide ((x - a.2.1) % ((a.2.2.2 : Nat) : Int) = 0)
  | .inr (.inl x) => a.1 == 1 && decide (-9223372036854775808 ≤ x) && decide (x ≤ 9223372036854775807) && decide (a.2.1 ≤ x) && decide (x ≤ a.2.2.1) && decide ((x - a.2.1) % ((a.2.2.2 : Nat) : Int) = 0)
  | .inr (.inr x) => a.1 == 2 && decide (a.2.1 ≤ x) && decide (x ≤ a.2.2.1) && decide ((x - a.2.1) % ((a.2.2.2 : Nat) : Int) = 0)
theorem gVb_ok {a : AV} {v : LV} (h : gVb a v = true) : gV a v := by
  rcases v with x | x | x
  · simp only [gVb, Bool.and_eq_true, decide_eq_true_eq, beq_iff_eq] at h
    obtain ⟨⟨⟨⟨⟨h1, h2⟩, h3⟩, h4⟩, h5⟩, h6⟩ := h
    exact ⟨h1, ⟨h2, h3⟩, h4, h5, Int.dvd_of_emod_eq_zero h6⟩
  · simp only [gVb, Bool.and_eq_true, decide_eq_true_eq, beq_iff_eq] at h
    obtain ⟨⟨⟨⟨⟨h1, h2⟩, h3⟩, h4⟩, h5⟩, h6⟩ := h
    exact ⟨h1, ⟨h2, h3⟩, h4, h5, Int.dvd_of_emod_eq_zero h6⟩
  · simp only [gVb, Bool.and_eq_true, decide_eq_true_eq, beq_iff_eq] at h
    obtain ⟨⟨⟨h1, h4⟩, h5⟩, h6⟩ := h
    exact ⟨h1, h4, h5, Int.dvd_of_emod_eq_zero h6⟩
theorem rd_mem : ∀ (h : LH) (a i : Int), (a, i, rd h a i) ∈ h ∨ (rd h a i = 0 ∧ ∀ v, (a, i, v) ∉ h)
  | [], a, i => Or.inr ⟨rfl, fun v q => by cases q⟩
  | (b, j, v) :: t, a, i => by
    by_cases c : b = a ∧ j = i
    · obtain ⟨rfl, rfl⟩ := c
      left
      show (b, j, if b = b ∧ j = j then v else rd t b j) ∈ _
      rw [if_pos ⟨rfl, rfl⟩]
      exact List.mem_cons_self
    · have e : rd ((b, j, v) :: t) a i = rd t a i := if_neg c
      rw [e]
      rcases rd_mem t a i with q | ⟨q1, q2⟩
      · exact Or.inl (List.mem_cons_of_mem _ q)
      · refine Or.inr ⟨q1, fun w hw => ?_⟩
        rcases List.mem_cons.mp hw with z | z
        · cases z
          exact c ⟨rfl, rfl⟩
        · exact q2 w z
theorem rd_none {h : LH} {a i : Int} (hn : ∀ e ∈ h, ¬ (e.1 = a ∧ e.2.1 = i)) : rd h a i = 0 := by
  rcases rd_mem h a i with q | q
  · exact absurd ⟨rfl, rfl⟩ (hn _ q)
  · exact q.1
def chkZ (h : LH) (a : Nat) : Bool :=
  if (lay a).1 = 1 ∨ (lay a).1 = 2 ∨ (lay a).1 = 3 ∨ (lay a).1 = 4 then (match RGL[a]? with
    | some L => decide (0 < L.length) && L.all (fun av => gVb av (mkv (if (lay a).1 = 2 then 1 else 0) 0))
    | none => false)
  else (List.range (lay a).2.2).all (fun i => gVb (hav a i) (mkv (lkd a i) 0) || h.any (fun e => e.1 == (a : Int) && e.2.1 == (i : Int)))
def chkR (h : LH) : Bool := h.all (fun e => gVb (hav e.1 e.2.1) (mkv (lkd e.1 e.2.1) e.2.2)) && (List.range (NC + 1)).all (chkZ h)
theorem chkR_ok {h : LH} (hc : chkR h = true) : RNG h := by
  unfold chkR at hc
  rw [Bool.and_eq_true, List.all_eq_true, List.all_eq_true] at hc
  obtain ⟨c1, c2⟩ := hc
  intro a i hv
  obtain ⟨v1, v2, v3, v4⟩ := hv
  unfold hval
  rcases rd_mem h a i with q | ⟨q1, q2⟩
  · exact gVb_ok (c1 _ q)
  · rw [q1]
    have z := c2 a.toNat (List.mem_range.mpr (by omega))
    have ea : ((a.toNat : Nat) : Int) = a := Int.toNat_of_nonneg (by omega)
    unfold chkZ at z
    by_cases k : (lay a.toNat).1 = 1 ∨ (lay a.toNat).1 = 2 ∨ (lay a.toNat).1 = 3 ∨ (lay a.toNat).1 = 4
    · rw [if_pos k] at z
      split at z
      · next L hL =>
        rw [Bool.and_eq_true, decide_eq_true_eq, List.all_eq_true] at z
        have e1 : hav a i = L.getD (i.toNat % L.length) top0 := by
          unfold hav
          rw [hL]
        have lt : i.toNat % L.length < L.length := Nat.mod_lt _ z.1
        have e2 : L.getD (i.toNat % L.length) top0 ∈ L := by
          rw [List.getD_eq_getElem?_getD, List.getElem?_eq_getElem lt]
          exact List.getElem_mem lt
        have e3 : lkd a i = if (lay a.toNat).1 = 2 then 1 else 0 := by
          rcases k with k | k | k | k
          · rw [lkd_1 k, k]; rfl
          · rw [lkd_2 k, k]; rfl
          · rw [lkd_3 k, k]; rfl
          · rw [lkd_4 k, k]; rfl
        rw [e1, e3]
        exact gVb_ok (z.2 _ e2)
      · cases z
    · rw [if_neg k, List.all_eq_true] at z
      have y := z i.toNat (List.mem_range.mpr (by omega))
      rw [ea, Int.toNat_of_nonneg v3, Bool.or_eq_true] at y
      rcases y with y | y
      · exact gVb_ok y
      · rw [List.any_eq_true] at y
        obtain ⟨e, e1, e2⟩ := y
        rw [Bool.and_eq_true, beq_iff_eq, beq_iff_eq] at e2
        obtain ⟨x, y2, w⟩ := e
        obtain ⟨rfl, rfl⟩ := e2
        exact absurd e1 (q2 w)
theorem rng0 : chkR hc_556 = true := by decide +kernel
theorem noE0 : (hc_556.all (fun e => !(e.1 == 64) && !(e.1 == 72) && !(e.1 == 107) && !(e.1 == 115) && !(e.1 == 123) && !(e.1 == 131) && !(e.1 == 184) && !(e.1 == 200) && (!(e.1 == 195) || e.2.1 == 0))) = true := by decide +kernel
theorem val0 : rd hc_556 188 3 = -1 ∧ rd hc_556 188 1 = 0 ∧ rd hc_556 188 2 = 0 ∧ rd hc_556 2 0 = rd hc_556 182 2 := ⟨by decide +kernel, by decide +kernel, by decide +kernel, by decide +kernel⟩
theorem inv0 : INV hc_556 := by
  have n := List.all_eq_true.mp noE0
  obtain ⟨v1, v2, v3, -⟩ := val0
  have c : ∀ a, (a = 64 ∨ a = 72 ∨ a = 107 ∨ a = 115 ∨ a = 123 ∨ a = 131 ∨ a = 184 ∨ a = 200) → ∀ i, rd hc_556 a i = 0 := by
    intro a ha i
    refine rd_none (fun e he q => ?_)
    have x := n e he
    simp only [Bool.and_eq_true, Bool.not_eq_true', beq_eq_false_iff_ne] at x
    omega
  have d : ∀ i, i ≠ 0 → rd hc_556 195 i = 0 := by
    intro i hi
    refine rd_none (fun e he q => ?_)
    have x := n e he
    simp only [Bool.and_eq_true, Bool.not_eq_true', beq_eq_false_iff_ne, Bool.or_eq_true, beq_iff_eq] at x
    omega
  refine ⟨chkR_ok rng0, ⟨?_, ?_, ?_, ?_, ?_, ?_, ?_, ?_⟩, ?_, ?_, ?_, ?_⟩
  · intro i _; rw [c 64 (by omega)]; omega
  · intro i _; rw [c 72 (by omega)]; omega
  · intro i _; rw [c 107 (by omega)]; omega
  · intro i _; rw [c 115 (by omega)]; omega
  · intro i _; rw [c 123 (by omega)]; omega
  · intro i _; rw [c 131 (by omega)]; omega
  · intro k k0 k1 _; rw [d _ (by omega)]; omega
  · intro m m0 m1 k k0 k1 _; rw [c 200 (by omega)]; omega
  · intro q; rw [v1] at q; omega
  · exact c 184 (by omega) 1000
  · refine ⟨fun d d0 d1 d2 => ?_, fun p p0 p1 p2 => ?_⟩
    · rw [v2] at d2; omega
    · rw [v3] at p2; omega
  · refine ⟨fun p p0 p1 p2 => ?_, fun m m0 m1 _ p p0 p1 p2 => ?_, fun j j0 j1 _ p p0 p1 p2 => ?_⟩ <;> (rw [v3] at p2; omega)
theorem mkr_chk : (∀ m : Nat, m < 4 → rd hc_556 75 (m : Int) = 102 + 8 * (m : Int) ∧ rd hc_556 199 (m : Int) = 0) ∧ rd hc_556 1 6 = 0 := ⟨by decide +kernel, by decide +kernel⟩
theorem mkr0 : MKR hc_556 := by
  obtain ⟨c1, c2⟩ := mkr_chk
  refine ⟨fun m h0 h1 => ?_, by rw [c2]; decide, fun m h0 h1 => ?_⟩
  · have y := (c1 m.toNat (by omega)).1
    rw [show ((m.toNat : Nat) : Int) = m by omega] at y
    exact y
  · have y := (c1 m.toNat (by omega)).2
    rw [show ((m.toNat : Nat) : Int) = m by omega] at y
    have z := mbit_0 m.toNat (by omega)
    rw [show ((m.toNat : Nat) : Int) = m by omega] at z
    rw [y, c2, z]
theorem scr_chk : rd hc_556 1 1 = 5 ∧ rd hc_556 5 0 = rd hc_556 188 0 ∧ rd hc_556 5 2 = 0 ∧ rd hc_556 5 4 = 0 ∧ rd hc_556 5 6 = 0 ∧ rd hc_556 182 28 = -1 ∧ rd hc_556 182 29 = -1 ∧ rd hc_556 60 0 = rd hc_556 198 0 ∧ rd hc_556 60 1 = rd hc_556 198 1 ∧ rd hc_556 60 3 = 0 ∧ rd hc_556 1 8 = 0 ∧ rd hc_556 1 9 = 0 ∧ rd hc_556 182 25 = 0 := ⟨by decide +kernel, by decide +kernel, by decide +kernel, by decide +kernel, by decide +kernel, by decide +kernel, by decide +kernel, by decide +kernel, by decide +kernel, by decide +kernel, by decide +kernel, by decide +kernel, by decide +kernel⟩
theorem scr_chk2 : (∀ d : Nat, d < 14 → rd hc_556 62 (d : Int) = 0 ∧ rd hc_556 198 ((d : Int) + 20) = 0) ∧ (∀ i : Nat, i < 16 → rd hc_556 76 (i : Int) = 134 + 3 * (i : Int)) := ⟨by decide +kernel, by decide +kernel⟩
theorem noE1 : (hc_556.all (fun e => !(e.1 == 10) && !(e.1 == 11))) = true := by decide +kernel
theorem scr0 : SCR hc_556 := by
  obtain ⟨s1, s2, s3, s4, s5, s6, s7, s8, s9, sa, sb, sc, sd⟩ := scr_chk
  obtain ⟨-, v2, v3, -⟩ := val0
  have n := List.all_eq_true.mp noE1
  have z : ∀ a, (a = 10 ∨ a = 11) → ∀ i, rd hc_556 a i = 0 := by
    intro a ha i
    refine rd_none (fun e he q => ?_)
    have x := n e he
    simp only [Bool.and_eq_true, Bool.not_eq_true', beq_eq_false_iff_ne] at x
    omega
  have st : ∀ s hr, stl hc_556 5 [] hc_556 s hr := fun s hr => by
    refine ⟨fun j j0 j1 => ?_, fun j j0 j1 => ?_⟩
    · show bitZ (rd hc_556 10 (24 * s + hr)) j ↔ (j < rd hc_556 5 2 ∧ _)
      rw [z 10 (Or.inl rfl), s3]
      exact ⟨fun y => absurd y bit_zero, fun y => by omega⟩
    · show bitZ (rd hc_556 11 (24 * s + hr)) j ↔ (j < rd hc_556 5 2 ∧ _)
      rw [z 11 (Or.inr rfl), s3]
      exact ⟨fun y => absurd y bit_zero, fun y => by omega⟩
  refine ⟨?_, ⟨[], ?_, ?_⟩, s6, s7, ⟨s8, s9, fun p p0 p1 => by omega, fun d d0 d1 => ?_, fun p p0 p1 => by rw [sa]; exact bit_zero⟩, ?_, fun m h0 h1 hm => ?_, fun i i0 i1 => ?_⟩
  · unfold QFR
    rw [s1]
    exact ⟨s2, s3.trans v2.symm, s4.trans v3.symm, fun i j hi _ => by omega, fun i j hi _ => by omega, fun _ => by rw [val0.1]; decide, fun y => by omega, by omega⟩
  · rw [s1]
    exact ⟨s5, fun i hi => absurd hi (Nat.not_lt_zero i), Nat.zero_le _, trivial, fun y => absurd y (by decide), fun c hc => absurd hc List.not_mem_nil⟩
  · rw [s1]
    exact fun s hr _ _ _ _ => st s hr
  · have y := scr_chk2.1 d.toNat (by omega)
    rw [Int.toNat_of_nonneg d0] at y
    rw [show (0 : Int) + d + 20 = d + 20 by omega, y.2]
    exact ⟨y.1, by decide, by decide⟩
  · unfold UN
    rw [sb, sc]
    exact ⟨by decide, by decide, sd, fun k k0 k1 => by omega⟩
  · have y := (mkr_chk.1 m.toNat (by omega)).2
    rw [show ((m.toNat : Nat) : Int) = m by omega] at y
    exact absurd y hm
  · have y := scr_chk2.2 i.toNat (by omega)
    rw [Int.toNat_of_nonneg i0] at y
    exact y
theorem eql0 : EQL hc_556 := ⟨val0.2.2.2, fun i i0 i1 => by rw [show rd hc_556 2 0 = 0 by decide +kernel] at i1; omega, pt0, rfl, rfl, by decide +kernel, mkr0, scr0⟩
theorem nmr_chk : rd hc_556 1 1 = 5 ∧ rd hc_556 5 2 = 0 ∧ rd hc_556 5 4 = 0 ∧ rd hc_556 182 18 = 0 := ⟨by decide +kernel, by decide +kernel, by decide +kernel, by decide +kernel⟩
theorem nmr0 : NMR hc_556 := by
  obtain ⟨c1, c2, c3, c4⟩ := nmr_chk
  unfold NMR
  rw [c1, c2, c3, c4]
  exact ⟨by decide, by decide, fun k hk => by omega, fun j hj => by omega, fun j hj => by omega, fun k k' hk => by omega⟩
theorem xs_chk : ∀ i : Nat, i < 16 → rd hc_556 (134 + 3 * (i : Int)) 1 = 0 := by decide +kernel
theorem xs_chk2 : ∀ m : Nat, m < 4 → rd hc_556 (103 + 8 * (m : Int)) 1 = 0 := by decide +kernel
theorem eqx0 : EQX hc_556 := by
  refine ⟨eql0, ⟨nmr0, ⟨by decide +kernel, by decide +kernel, fun k k0 k1 => ?_⟩, ⟨by decide +kernel, by decide +kernel, fun k k0 k1 => ?_⟩, fun m h0 h1 hm => ?_⟩, ?_, fun m h0 h1 => ?_, fun i h0 h1 => ?_⟩
  · rw [show rd hc_556 59 1 = 0 by decide +kernel] at k1; omega
  · rw [show rd hc_556 59 4 = 0 by decide +kernel] at k1; omega
  · have y := (mkr_chk.1 m.toNat (by omega)).2
    rw [show ((m.toNat : Nat) : Int) = m by omega] at y
    exact absurd y hm
  · rw [show rd hc_556 60 1 = 0 by decide +kernel]
    exact hb_zero
  · have y := xs_chk2 m.toNat (by omega)
    rw [Int.toNat_of_nonneg h0] at y
    rw [y]
    exact hb_zero
  · have y := xs_chk i.toNat (by omega)
    rw [Int.toNat_of_nonneg h0] at y
    rw [y]
    exact hb_zero
theorem gl_0 : lmGoZ 9 2 64 mm_OneSidedLaw_law 0 [some (.inr (.inr (-2))), none, none, none] [] 0 [] = some (4, [some (.inr (.inr (-2))), none, none, none], [.inr (.inr 1), .inr (.inr 1)], 1, []) := goOk_ok (by decide +kernel)
theorem gl_7 : lmGoZ 9 3 64 mm_OneSidedLaw_law 7 [some (.inr (.inr (-2))), none, none, none] [.inr (.inr 1)] 181 hc_302 = some (12, [some (.inr (.inr (-2))), some (.inr (.inr 1)), none, none], [.inr (.inr 182), .inr (.inr 182)], 182, hc_302) := goOk_ok (by decide +kernel)
theorem gl_15 : lmGoZ 9 3 64 mm_OneSidedLaw_law 15 [some (.inr (.inr (-2))), some (.inr (.inr 1)), none, none] [.inr (.inr 182)] 212 hc_556 = some (18, [some (.inr (.inr (-2))), some (.inr (.inr 1)), some (.inr (.inr 182)), some (.inl 0)], [], 212, hc_556) := goOk_ok (by decide +kernel)
theorem dl_4 : decode mm_OneSidedLaw_law.2.1 4 = .ok (.invokespecial 9, 3) := by decide +kernel
theorem dl_12 : decode mm_OneSidedLaw_law.2.1 12 = .ok (.invokespecial 12, 3) := by decide +kernel
theorem kl_4 : lmK mm_OneSidedLaw_law.2.2.2.2.1 1 (.invokespecial 9) [.inr (.inr 1), .inr (.inr 1)] = some (0, [.inr (.inr 1)], [.inr (.inr 1)]) := callOk_ok (by decide +kernel)
theorem kl_12 : lmK mm_OneSidedLaw_law.2.2.2.2.1 182 (.invokespecial 12) [.inr (.inr 182), .inr (.inr 182)] = some (157, [.inr (.inr 182)], [.inr (.inr 182)]) := callOk_ok (by decide +kernel)
theorem run_law {xs : Nat → Int} {xl : Nat} (hxs : ∀ j, i32 (xs j)) (hx : xl ≤ 3584) : ∃ (f : Nat) (h' : LH), lmRun xs xl f 64 mm_OneSidedLaw_law 0 [some (.inr (.inr (-2))), none, none, none] [] 0 [] = some (some (.inl 1), 212, h') := by
  obtain ⟨f, r, h', q1, q2⟩ := law_loop (Q := fun r _ => r = some (.inl 1)) hxs hx (fun _ _ => rfl) xl 0 hc_556 (by omega) (by omega) (by omega) inv0 eqx0
  subst q2
  have g : ∃ f, lmRun xs xl f 64 mm_OneSidedLaw_law 0 [some (.inr (.inr (-2))), none, none, none] [] 0 [] = some (some (.inl 1), 212, h') := by
    refine lmGoZ_ok _ _ _ _ _ _ _ _ _ _ _ _ _ _ gl_0 ?_
    refine run_call (d := 63) (r := none) (n' := 181) (h' := hc_302) (M' := mm_OneSided_init) dl_4 rfl rfl kl_4 rfl (by obtain ⟨f, hf⟩ := run_ini (xs := xs) (xl := xl); exact ⟨f, lmRun_le f f 8 63 _ _ _ _ _ _ _ (Nat.le_refl _) (by decide) hf⟩) ?_
    refine lmGoZ_ok _ _ _ _ _ _ _ _ _ _ _ _ _ _ gl_7 ?_
    refine run_call (d := 63) (r := none) (n' := 212) (h' := hc_556) (M' := mm_init) dl_12 rfl rfl kl_12 rfl (by obtain ⟨f, hf⟩ := run_mod (xs := xs) (xl := xl); exact ⟨f, lmRun_le f f 8 63 _ _ _ _ _ _ _ (Nat.le_refl _) (by decide) hf⟩) ?_
    refine lmGoZ_ok _ _ _ _ _ _ _ _ _ _ _ _ _ _ gl_15 ?_
    exact ⟨f, q1⟩
  obtain ⟨f2, hf2⟩ := g
  exact ⟨f2, h', hf2⟩
