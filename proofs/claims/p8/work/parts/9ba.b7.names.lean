/-! p3, part b7: the reference's names -/
theorem any_ix {N : List Nat} {P : Nat → Bool} : N.any P = true ↔ ∃ i : Nat, i < N.length ∧ P (N.getD i 0) = true := by
  rw [List.any_eq_true]
  constructor
  · rintro ⟨x, hx, hp⟩
    obtain ⟨i, hi, e⟩ := List.mem_iff_getElem.mp hx
    refine ⟨i, hi, ?_⟩
    rw [List.getD_eq_getElem?_getD, List.getElem?_eq_getElem hi]
    show P N[i] = true
    rw [e]; exact hp
  · rintro ⟨i, hi, hp⟩
    rw [List.getD_eq_getElem?_getD, List.getElem?_eq_getElem hi] at hp
    exact ⟨N[i], List.getElem_mem hi, hp⟩
/-- the reference's names so far, as tokens -/
def NRK (T : Int → Int) (n : Int) (h : LH) (N : List Nat) : Prop := rd h 182 19 = N.length ∧ ∀ i : Nat, i < N.length → rd h 192 i = tV T n 37 (N.getD i 0) ∧ 0 ≤ rd h 194 i
section CI
variable {xs : Nat → Int} {xl e : Nat} {h : LH} {Q : Option LV → LH → Prop} {v1 v2 v3 : Int} {T : Int → Int} {n : Int} {V : Int → Int} {m : Nat} {s : Int × Nat} {N : List Nat}
theorem G_find (hs : RSK T n V m h s) (hz : s.1 = 0) (ho : tO T n s.2 = 1) (hN : NRK T n h N) (hl : N.length ≤ 20) (k : ∀ r : Int, (0 ≤ r ↔ N.any (fun j => decide (tV T n 37 j = tV T n 37 s.2)) = true) → Q (some (.inl r)) h) : Rn xs xl e mm_find 0 [some (.inr (.inr 182)), some (.inl 1), none] [] h Q := by
  have hF := hs.1.1
  have a7 := hs.2.2.2.1
  have ev := RS_v hs hz (by omega) (by omega)
  have loop : ∀ (d b : Nat), N.length - b ≤ d → b ≤ N.length → (∀ i : Nat, i < b → ¬ tV T n 37 (N.getD i 0) = tV T n 37 s.2) → Rn xs xl e mm_find 2 [some (.inr (.inr 182)), some (.inl 1), some (.inl (b : Int))] [] h Q := by
    intro d
    induction d with
    | zero =>
      intro b hd hb no
      refine B_find_2 hF ⟨fun c => absurd c (by decide), fun _ => ⟨fun _ => k (-1) ⟨fun c => by omega, fun c => ?_⟩, fun c => ?_⟩⟩
      · obtain ⟨i, i1, i2⟩ := any_ix.mp c
        exact absurd (of_decide_eq_true i2) (no i (by omega))
      · have := hN.1; omega
    | succ d ih =>
      intro b hd hb no
      refine B_find_2 hF ⟨fun c => absurd c (by decide), fun _ => ⟨fun _ => k (-1) ⟨fun c => by omega, fun c => ?_⟩, fun c => ⟨fun y => absurd y (by decide), fun _ => ⟨?_, by omega, fun c2 => ⟨by omega, ?_⟩, fun c2 => ⟨fun y => absurd y (by decide), fun _ => ⟨?_, k _ ?_⟩⟩⟩⟩⟩⟩
      · obtain ⟨i, i1, i2⟩ := any_ix.mp c
        have := hN.1
        exact absurd (of_decide_eq_true i2) (no i (by omega))
      · have := hN.1; omega
      · have l := hN.1
        have := ih (b + 1) (by omega) (by omega) (fun i hi => ?_)
        · rw [show ((b + 1 : Nat) : Int) = (b : Int) + 1 by omega] at this
          exact this
        · by_cases eb : i = b
          · rw [eb]
            intro z
            apply c2
            rw [lcmp0, (hN.2 b (by omega)).1, ev]
            exact z
          · exact no i (by omega)
      · have := hN.1; omega
      · have l := hN.1
        have q := hN.2 b (by omega)
        refine ⟨fun _ => any_ix.mpr ⟨b, by omega, decide_eq_true ?_⟩, fun _ => q.2⟩
        rw [lcmp0, q.1, ev] at c2
        exact c2
  exact B_find_0 hF (loop N.length 0 (by omega) (by omega) (fun i hi => by omega))
def muNK (a i : Int) : Prop := (a = 182 ∧ (i = 7 ∨ i = 8 ∨ i = 19)) ∨ a = 192 ∨ a = 194
theorem hav_N {a : Int} (ha : a = 192 ∨ a = 194) (i : Int) : (hav a i).1 ≠ 2 := by
  have key : ∀ L : List AV, (∀ q ∈ L, q.1 ≠ 2) → ∀ j : Nat, (L.getD j top0).1 ≠ 2 := by
    intro L hL j
    rw [List.getD_eq_getElem?_getD]
    rcases Nat.lt_or_ge j L.length with z | z
    · rw [List.getElem?_eq_getElem z]
      exact hL _ (List.getElem_mem z)
    · rw [List.getElem?_eq_none z]
      decide
  unfold hav
  rcases ha with rfl | rfl
  · split
    · next L hL =>
      refine key L ?_ _
      have : (RGL[(192 : Int).toNat]?).all (fun L => L.all (fun q => decide (q.1 ≠ 2))) = true := by decide +kernel
      rw [hL] at this
      intro q hq
      exact of_decide_eq_true (List.all_eq_true.mp this q hq)
    · decide
  · split
    · next L hL =>
      refine key L ?_ _
      have : (RGL[(194 : Int).toNat]?).all (fun L => L.all (fun q => decide (q.1 ≠ 2))) = true := by decide +kernel
      rw [hL] at this
      intro q hq
      exact of_decide_eq_true (List.all_eq_true.mp this q hq)
    · decide
theorem RF_fn {h' : LH} (hF : RF h) (hf : ∀ a i, ¬ muNK a i → rd h' a i = rd h a i) : RF h' := by
  intro a j c hv he
  by_cases z : muNK a j
  · exfalso
    rcases z with ⟨rfl, z⟩ | z | z
    · have key : (hav 182 (j : Int)).1 ≠ 2 := by
        rcases (show j = 7 ∨ j = 8 ∨ j = 19 by omega) with rfl | rfl | rfl <;> decide +kernel
      rw [he] at key
      exact absurd rfl key
    · have key := hav_N (Or.inl z) (j : Int)
      rw [he] at key
      exact absurd rfl key
    · have key := hav_N (Or.inr z) (j : Int)
      rw [he] at key
      exact absurd rfl key
  · rw [hf a j z]
    exact hF a j c hv he
end CI
