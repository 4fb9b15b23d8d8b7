/-! LM, part 79: goesBy in the form of the table -/
def SMgoesBy : SM := (255, 5, [(2, 182, 182, 0), (0, 0, 5, 1)], [(some (0, -2147483648, 2147483647, 1), pv0, [], [])], [(196, 196, 0, 3), (197, 197, 0, 1099), (210, 210, 0, 9)], [])
theorem ok_goesBy {xs : Nat → Int} {xl : Nat} : SMok xs xl INV SMgoesBy := by
  intro M as h hM hI ha hf hl
  have e : M = mm_goesBy := by
    have q : MTB 255 = some mm_goesBy := by rfl
    exact Option.some.inj (hM.symm.trans q)
  subst e
  obtain ⟨b0, rfl, ha1⟩ := ar_ref ha
  obtain ⟨x, b1, rfl, x0, x1, ha2⟩ := ar_int ha1
  have := ar_nil ha2
  subst this
  have R := D_goesBy (xs := xs) (xl := xl) (e := 5) (p := x) (K := key h) (S := rd h 198) (Q := fun r h' => ∃ z, r = some (.inl z) ∧ i32 z ∧ INV h' ∧ frC h h') (by omega) ⟨hI, rfl, rfl⟩ ⟨x0, x1⟩ (fun r h' iz w f => ⟨r, rfl, iz, w.1, f⟩)
  refine R.out.mono (fun r h' q => ?_)
  obtain ⟨⟨z, rfl, iz, q1, q2⟩, q4⟩ := q
  refine ⟨q1, fun a i q => ?_, _, List.mem_singleton.mpr rfl, ⟨in1 iz.1 iz.2 iz, Or.inl rfl⟩, (fun q hq => absurd hq (List.not_mem_nil)), (fun q hq => absurd hq (List.not_mem_nil))⟩
  have q' : inBx [(196, 196, 0, 3), (197, 197, 0, 1099), (210, 210, 0, 9)] a i = false := q
  unfold inBx at q'
  simp only [List.any_cons, List.any_nil, Bool.or_false, Bool.or_eq_false_iff, Bool.and_eq_false_iff, decide_eq_false_iff_not] at q'
  by_cases c1 : a = 196
  · subst c1
    exact q4 196 i (outA_mk (n := 4) (by decide +kernel) (by decide +kernel) (by omega))
  · by_cases c2 : a = 197
    · subst c2
      exact q4 197 i (outA_mk (n := 1100) (by decide +kernel) (by decide +kernel) (by omega))
    · by_cases c3 : a = 210
      · subst c3
        exact q4 210 i (outA_mk (n := 10) (by decide +kernel) (by decide +kernel) (by omega))
      · exact q2 a i c1 c2 c3
