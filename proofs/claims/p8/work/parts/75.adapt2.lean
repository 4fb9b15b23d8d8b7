/-! LM, part 75: leadsTo in the form of the table -/
theorem outA_mk {c : Int} {n : Nat} (hk : (lay c.toNat).1 ≠ 0) (hn : (lay c.toNat).2.2 = n) {i : Int} (hi : ¬ (0 ≤ i ∧ i < (n : Int))) : outA c i := by
  refine ⟨hk, ?_⟩
  unfold inA
  rw [hn]
  simp only [Bool.and_eq_false_iff, decide_eq_false_iff_not]
  omega
def SMleadsTo : SM := (207, 3, [(2, 182, 182, 0), (0, 0, 13, 1), (0, 0, 3, 1), (0, 0, 9, 1), (0, 0, 25, 1), (0, -2147483648, 2147483647, 1), (0, -2147483648, 2147483647, 1)], [(some (0, -1, 9, 1), pv0, [], [])], [(196, 196, 0, 3), (197, 197, 0, 1099)], [])
theorem ok_leadsTo {xs : Nat → Int} {xl : Nat} : SMok xs xl INV SMleadsTo := by
  intro M as h hM hI ha hf hl
  have e : M = mm_leadsTo := by
    have q : MTB 207 = some mm_leadsTo := by rfl
    exact Option.some.inj (hM.symm.trans q)
  subst e
  obtain ⟨b0, rfl, ha1⟩ := ar_ref ha
  obtain ⟨d, b1, rfl, d0, d1, ha2⟩ := ar_int ha1
  obtain ⟨s, b2, rfl, s0, s1, ha3⟩ := ar_int ha2
  obtain ⟨room, b3, rfl, r0, r1, ha4⟩ := ar_int ha3
  obtain ⟨hr, b4, rfl, h0, h1, ha5⟩ := ar_int ha4
  obtain ⟨sh, b5, rfl, _, _, ha6⟩ := ar_int ha5
  obtain ⟨tu, b6, rfl, _, _, ha7⟩ := ar_int ha6
  have := ar_nil ha7
  subst this
  obtain ⟨rb, _, _, run⟩ := LF_ok (key h) sh tu ⟨d0, d1⟩ ⟨s0, s1⟩ ⟨r0, r1⟩ ⟨h0, h1⟩
  have R := run xs xl 3 h (fun r h' => INV h' ∧ frL h h' ∧ r = some (.inl (LF (key h) d s room hr sh tu))) (by omega) hI rfl (fun h' i f => ⟨i, f, rfl⟩)
  refine R.out.mono (fun r h' q => ?_)
  obtain ⟨⟨q1, q2, q3⟩, q4⟩ := q
  subst q3
  refine ⟨q1, fun a i q => ?_, _, List.mem_singleton.mpr rfl, ⟨in1 rb.1 rb.2 (by unfold i32; omega), Or.inl rfl⟩, (fun q hq => absurd hq (List.not_mem_nil)), (fun q hq => absurd hq (List.not_mem_nil))⟩
  have q' : inBx [(196, 196, 0, 3), (197, 197, 0, 1099)] a i = false := q
  unfold inBx at q'
  simp only [List.any_cons, List.any_nil, Bool.or_false, Bool.or_eq_false_iff, Bool.and_eq_false_iff, decide_eq_false_iff_not] at q'
  by_cases c1 : a = 196
  · subst c1
    exact q4 196 i (outA_mk (n := 4) (by decide +kernel) (by decide +kernel) (by omega))
  · by_cases c2 : a = 197
    · subst c2
      exact q4 197 i (outA_mk (n := 1100) (by decide +kernel) (by decide +kernel) (by omega))
    · exact q2 a i c1 c2
