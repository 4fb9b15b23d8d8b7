/-! LM, part 78: startsDay in the form of the table -/
def SMstarts : SM := (160, 1, [(2, 182, 182, 0), (0, 1540, 1540, 0)], [(none, pv0, [], [])], [(198, 198, 1540, 1573)], [])
theorem ok_starts {xs : Nat → Int} {xl : Nat} : SMok xs xl INV SMstarts := by
  intro M as h hM hI ha hf hl
  have e : M = mm_startsDay := by
    have q : MTB 160 = some mm_startsDay := by rfl
    exact Option.some.inj (hM.symm.trans q)
  subst e
  obtain ⟨b0, rfl, ha1⟩ := ar_ref ha
  obtain ⟨x, b1, rfl, x0, x1, ha2⟩ := ar_int ha1
  have := ar_nil ha2
  subst this
  have hx : x = 1540 := by omega
  subst hx
  refine D_startsDay (by decide) hI.1 (by omega) (by omega) (by omega) (fun g gr _ gf => ⟨INV_far hI gr (fun a i n _ _ => gf a i (by omega)), fun a i q => ?_, _, List.mem_singleton.mpr rfl, trivial, (fun q hq => absurd hq (List.not_mem_nil)), (fun q hq => absurd hq (List.not_mem_nil))⟩)
  have q' : inBx [(198, 198, 1540, 1573)] a i = false := q
  unfold inBx at q'
  simp only [List.any_cons, List.any_nil, Bool.or_false, Bool.and_eq_false_iff, decide_eq_false_iff_not] at q'
  exact gf a i (by omega)
