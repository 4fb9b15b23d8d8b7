/-! LM, part 73: contracts by hand in the form of the table -/
theorem ar_nil {as : List LV} (h : gAr [] as) : as = [] := by
  cases as with
  | nil => rfl
  | cons v vs => exact absurd h id
theorem ar_ref {n : Int} {l : List AV} {as : List LV} (h : gAr ((2, n, n, 0) :: l) as) : ∃ bs, as = .inr (.inr n) :: bs ∧ gAr l bs := by
  cases as with
  | nil => exact absurd h id
  | cons v vs =>
    obtain ⟨h1, h2⟩ := h
    refine ⟨vs, ?_, h2⟩
    rcases v with x | x | x
    · exact absurd h1.1 (fun q => by cases q)
    · exact absurd h1.1 (fun q => by cases q)
    · have a : n ≤ x := h1.2.1
      have b : x ≤ n := h1.2.2.1
      rw [show x = n by omega]
theorem ar_int {lo hi : Int} {s : Nat} {l : List AV} {as : List LV} (h : gAr ((0, lo, hi, s) :: l) as) : ∃ x bs, as = .inl x :: bs ∧ lo ≤ x ∧ x ≤ hi ∧ gAr l bs := by
  cases as with
  | nil => exact absurd h id
  | cons v vs =>
    obtain ⟨h1, h2⟩ := h
    rcases v with x | x | x
    · exact ⟨x, vs, rfl, h1.2.2.1, h1.2.2.2.1, h2⟩
    · exact absurd h1.1 (fun q => by cases q)
    · exact absurd h1.1 (fun q => by cases q)
theorem in1 {lo hi x : Int} (h0 : lo ≤ x) (h1 : x ≤ hi) (i0 : i32 x) : gV (0, lo, hi, 1) (.inl x) := ⟨rfl, i0, h0, h1, by
  show ((1 : Nat) : Int) ∣ (x - lo)
  exact ⟨x - lo, by omega⟩⟩
def SMclosure : SM := (235, 1, [(2, 182, 182, 0), (0, 0, 9, 1)], [(some (0, 1, 1023, 1), pv0, [], [])], [], [])
theorem ok_closure {xs : Nat → Int} {xl : Nat} : SMok xs xl INV SMclosure := by
  intro M as h hM hI ha hf hl
  have e : M = mm_closure := by
    have q : MTB 235 = some mm_closure := by rfl
    exact Option.some.inj (hM.symm.trans q)
  subst e
  obtain ⟨bs, rfl, hb⟩ := ar_ref ha
  obtain ⟨x, cs, rfl, x0, x1, hc⟩ := ar_int hb
  have := ar_nil hc
  subst this
  exact D_closure (by decide) hI ⟨x0, x1⟩ (fun r r0 r1 => ⟨hI, fun _ _ _ => rfl, _, List.mem_singleton.mpr rfl, ⟨in1 r0 r1 (by unfold i32; omega), Or.inl rfl⟩, (fun q hq => absurd hq (List.not_mem_nil)), (fun q hq => absurd hq (List.not_mem_nil))⟩)
def SMkeeps : SM := (215, 1, [(2, 182, 182, 0)], [(none, pv0, [], [])], [(198, 198, 350, 1433), (182, 182, 25, 25)], [])
theorem ok_keeps {xs : Nat → Int} {xl : Nat} : SMok xs xl INV SMkeeps := by
  intro M as h hM hI ha hf hl
  have e : M = mm_keeps := by
    have q : MTB 215 = some mm_keeps := by rfl
    exact Option.some.inj (hM.symm.trans q)
  subst e
  obtain ⟨bs, rfl, hb⟩ := ar_ref ha
  have := ar_nil hb
  subst this
  refine D_keeps (by decide) hI (fun g gI gf => ⟨gI, fun a i q => ?_, _, List.mem_singleton.mpr rfl, trivial, (fun q hq => absurd hq (List.not_mem_nil)), (fun q hq => absurd hq (List.not_mem_nil))⟩)
  have q' : inBx [(198, 198, 350, 1433), (182, 182, 25, 25)] a i = false := q
  unfold inBx at q'
  simp only [List.any_cons, List.any_nil, Bool.or_false, Bool.or_eq_false_iff, Bool.and_eq_false_iff, decide_eq_false_iff_not] at q'
  exact gf a i (by omega) (by omega)
