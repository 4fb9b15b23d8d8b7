/-! LM, part 89: contracts of the table in the form of the methods by hand -/
section US
variable {xs : Nat → Int} {xl e : Nat} {h : LH} {Q : Option LV → LH → Prop}
theorem use_sm {S : SM} (ok : SMok xs xl INV S) {M : LM_M} {as : List LV} {ls0 : LL} (hM : MTB S.1 = some M) (he : S.2.1 ≤ e) (hI : INV h) (ha : gAr S.2.2.1 as) (hf : S.2.2.2.2.2 = []) (hl : (lent as).length ≤ M.2.2.1) (hp : lpad M.2.2.1 (lent as) = ls0) (k : ∀ r h', INV h' → frm S.2.2.2.2.1 h h' → (∃ c ∈ S.2.2.2.1, resOk c r h' as) → Q r h') : Rn xs xl e M 0 ls0 [] h Q := by
  subst hp
  exact ((ok M as h hM hI ha (by rw [hf]; exact fun q hq => absurd hq (List.not_mem_nil)) hl).deep he).mono (fun r h' q => k r h' q.1 q.2.1 q.2.2)
theorem res_int {a : AV} {p : PV} {l : List (Nat × AV)} {f : FA} {r : Option LV} {as : List LV} (hq : ∃ c ∈ ([(some a, p, l, f)] : List CS), resOk c r h as) (hk : a.1 = 0) : ∃ x, r = some (.inl x) ∧ a.2.1 ≤ x ∧ x ≤ a.2.2.1 ∧ i32 x := by
  obtain ⟨c, hc, q1, q2, q3⟩ := hq
  rw [List.mem_singleton] at hc
  subst hc
  cases r with
  | none => exact absurd q1 id
  | some v =>
    obtain ⟨x, rfl, x1, x2⟩ := gV_i q1.1 hk
    exact ⟨x, rfl, x2.1, x2.2.1, x1⟩
theorem res_none {p : PV} {l : List (Nat × AV)} {f : FA} {r : Option LV} {as : List LV} (hq : ∃ c ∈ ([(none, p, l, f)] : List CS), resOk c r h as) : r = none := by
  obtain ⟨c, hc, q1, q2, q3⟩ := hq
  rw [List.mem_singleton] at hc
  subst hc
  cases r with
  | none => rfl
  | some v => exact absurd q1 id
theorem res_bool {a b : AV} {p p' : PV} {l l' : List (Nat × AV)} {f f' : FA} {r : Option LV} {as : List LV} (hq : ∃ c ∈ ([(some a, p, l, f), (some b, p', l', f')] : List CS), resOk c r h as) (hk : a.1 = 0) (hk' : b.1 = 0) : ∃ x, r = some (.inl x) := by
  obtain ⟨c, hc, q1, q2, q3⟩ := hq
  rw [List.mem_cons, List.mem_singleton] at hc
  rcases hc with hc | hc
  · subst hc
    cases r with
    | none => exact absurd q1 id
    | some v =>
      obtain ⟨x, rfl, x1, x2⟩ := gV_i q1.1 hk
      exact ⟨x, rfl⟩
  · subst hc
    cases r with
    | none => exact absurd q1 id
    | some v =>
      obtain ⟨x, rfl, x1, x2⟩ := gV_i q1.1 hk'
      exact ⟨x, rfl⟩
theorem g_ref (n : Int) : gV (2, n, n, 0) (.inr (.inr n)) := ⟨rfl, Int.le_refl _, Int.le_refl _, by show ((0 : Nat) : Int) ∣ n - n; rw [Int.sub_self]; exact Int.dvd_refl _⟩
theorem g_pt (n : Int) (hi : i32 n) : gV (0, n, n, 0) (.inl n) := ⟨rfl, hi, Int.le_refl _, Int.le_refl _, by show ((0 : Nat) : Int) ∣ n - n; rw [Int.sub_self]; exact Int.dvd_refl _⟩
theorem g_lng {n : Int} (hi : i64 n) : gV (1, -9223372036854775808, 9223372036854775807, 1) (.inr (.inl n)) := ⟨rfl, hi, hi.1, hi.2, Int.one_dvd _⟩
theorem ar_q {l : List AV} {as : List LV} (h : gAr ((2, 5, 32, 27) :: l) as) : ∃ q bs, as = .inr (.inr q) :: bs ∧ (q = 5 ∨ q = 32) ∧ gAr l bs := by
  cases as with
  | nil => exact absurd h id
  | cons v vs =>
    obtain ⟨h1, h2⟩ := h
    rcases v with x | x | x
    · exact absurd h1.1 (fun q => by cases q)
    · exact absurd h1.1 (fun q => by cases q)
    · have a : 5 ≤ x := h1.2.1
      have b : x ≤ 32 := h1.2.2.1
      have c : (27 : Int) ∣ (x - 5) := h1.2.2.2
      exact ⟨x, vs, rfl, by omega, h2⟩
theorem rJ {h : LH} (hr : RNG h) {a i : Int} (hv : valid a i) (hk : lkd a i = 1) (hh : (hav a i).1 = 1) : i64 (rd h a i) := by
  have g := hr a i hv
  obtain ⟨x, x1, x2, x3⟩ := gV_l g hh
  have e : hval h a i = .inr (.inl (rd h a i)) := by
    unfold hval
    rw [hk]
    rfl
  rw [e] at x1
  cases x1
  exact x2
theorem rQf {h : LH} (hr : RNG h) : rd h 1 ((1 : Nat) : Int) = 5 ∨ rd h 1 ((1 : Nat) : Int) = 32 := by
  have g := hr 1 1 (vB_ok (by decide +kernel))
  have e : hval h 1 1 = .inr (.inr (rd h 1 1)) := by
    unfold hval
    rw [show lkd 1 1 = 2 by decide +kernel]
    rfl
  rw [e, show hav 1 1 = (2, 5, 32, 27) by decide +kernel] at g
  have a : 5 ≤ rd h 1 1 := g.2.1
  have b : rd h 1 1 ≤ 32 := g.2.2.1
  have c : (27 : Int) ∣ (rd h 1 1 - 5) := g.2.2.2
  show rd h 1 1 = 5 ∨ rd h 1 1 = 32
  omega
end US
