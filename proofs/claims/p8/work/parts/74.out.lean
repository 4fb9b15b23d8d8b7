/-! LM, part 74: no run writes beside a row -/
def outA (a i : Int) : Prop := (lay a.toNat).1 ≠ 0 ∧ inA a i = false
theorem out_wr {h : LH} {a i b j v : Int} (ho : outA a i) (hw : inA b j = true) : rd (wr h b j v) a i = rd h a i := by
  rw [rd_wr, if_neg]
  rintro ⟨rfl, rfl⟩
  rw [ho.2] at hw
  cases hw
theorem out_cpy {h g : LH} {a sp b dp x i : Int} (ho : outA x i) : ∀ k : Nat, 0 ≤ dp → dp + k ≤ ((lay b.toNat).2.2 : Int) → rd (cpyL g a sp b dp k ++ h) x i = rd h x i
  | 0, _, _ => rfl
  | k + 1, h0, h1 => by
    have ih := out_cpy (h := h) (g := g) (a := a) (sp := sp) (b := b) (dp := dp) ho k h0 (by omega)
    have e := out_wr (h := cpyL g a sp b dp k ++ h) (b := b) (j := dp + k) (v := rd g a (sp + k)) ho (by
      unfold inA
      rw [decide_eq_true (show 0 ≤ dp + (k : Int) by omega), decide_eq_true (show dp + (k : Int) < ((lay b.toNat).2.2 : Int) by omega)]
      rfl)
    exact e.trans ih
theorem lmP_out {o n : Nat} {ini : Bool} {ins : Instr} {st st' : List LV} {h h' : LH} {a i : Int} (hp : lmP o n ini ins st h = some (st', h')) (ho : outA a i) : rd h' a i = rd h a i := by
  unfold lmP at hp
  split at hp
  · split at hp
    · split at hp
      · split at hp
        · next c =>
          rw [Option.map_eq_some_iff] at hp
          obtain ⟨z, _, e⟩ := hp
          cases e
          rw [rd_wr, if_neg]
          rintro ⟨rfl, _⟩
          rw [Bool.and_eq_true] at c
          have q := c.1
          unfold isO at q
          simp only [Bool.and_eq_true, beq_iff_eq] at q
          exact ho.1 q.1.2
        · cases hp
      · cases hp
    · cases hp
  · split at hp
    · split at hp
      · next c =>
        cases hp
        rw [Bool.and_eq_true] at c
        exact out_wr ho c.2
      · cases hp
    · cases hp
  · split at hp
    · split at hp
      · next c =>
        cases hp
        rw [Bool.and_eq_true] at c
        exact out_wr ho c.2
      · cases hp
    · cases hp
  · split at hp
    · split at hp
      · next c =>
        cases hp
        rw [Bool.and_eq_true] at c
        exact out_wr ho c.1
      · cases hp
    · cases hp
  · split at hp
    · split at hp
      · next c =>
        cases hp
        rw [Bool.and_eq_true, Bool.and_eq_true] at c
        exact out_wr ho c.1.2
      · cases hp
    · cases hp
  · cases hp
theorem lmQ_out {o n : Nat} {ins : Instr} {st st' : List LV} {h h' : LH} {a i : Int} (hp : lmQ o n ins st h = some (st', h')) (ho : outA a i) : rd h' a i = rd h a i := by
  unfold lmQ at hp
  split at hp
  · split at hp
    · split at hp
      · split at hp
        · split at hp
          · cases hp
            rfl
          · cases hp
        · cases hp
      · cases hp
    · cases hp
  · split at hp
    · split at hp
      · split at hp
        · split at hp
          · next c =>
            cases hp
            simp only [Bool.and_eq_true, decide_eq_true_eq] at c
            exact out_cpy ho _ (by omega) (by omega)
          · cases hp
        · cases hp
      · cases hp
    · cases hp
  · cases hp
theorem lmI_out {o n pc len pc' n' : Nat} {ini : Bool} {xs : Nat → Int} {xl : Nat} {ins : Instr} {ls ls' : LL} {st st' : List LV} {h h' : LH} {a i : Int} (hp : lmI o n ini xs xl ins pc len ls st h = some (pc', ls', st', n', h')) (ho : outA a i) : rd h' a i = rd h a i := by
  unfold lmI at hp
  split at hp
  · cases hp; rfl
  split at hp
  · cases hp; rfl
  split at hp
  · cases hp; rfl
  split at hp
  · split at hp
    · cases hp; rfl
    · cases hp
  split at hp
  · cases hp; rfl
  split at hp
  · next q => cases hp; exact lmP_out q ho
  split at hp
  · cases hp; rfl
  split at hp
  · next q => cases hp; exact lmQ_out q ho
  split at hp
  · cases hp; rfl
  split at hp
  · cases hp; rfl
  split at hp
  · split at hp
    · split at hp
      · split at hp
        · cases hp; rfl
        · cases hp
      · split at hp
        · cases hp; rfl
        · cases hp
    · cases hp
  · cases hp
theorem lmRun_out {xs : Nat → Int} {xl : Nat} {a i : Int} (ho : outA a i) : ∀ (f d : Nat) (M : LM_M) (pc : Nat) (ls : LL) (st : List LV) (n : Nat) (h : LH) (r : Option LV) (n' : Nat) (h' : LH), lmRun xs xl f d M pc ls st n h = some (r, n', h') → rd h' a i = rd h a i := by
  intro f
  induction f with
  | zero =>
    intro d M pc ls st n h r n' h' q
    unfold lmRun at q
    cases q
  | succ f ih =>
    intro d M pc ls st n h r n' h' q
    unfold lmRun at q
    split at q
    · cases q
    split at q
    · cases q
    split at q
    · cases q; rfl
    split at q
    · split at q
      · cases q
      split at q
      · cases q
      split at q
      · cases q
      · next q1 => exact (ih _ _ _ _ _ _ _ _ _ _ q).trans (ih _ _ _ _ _ _ _ _ _ _ q1)
    · split at q
      · cases q
      · next q1 => exact (ih _ _ _ _ _ _ _ _ _ _ q).trans (lmI_out q1 ho)
theorem Rn.out {xs : Nat → Int} {xl d : Nat} {M : LM_M} {pc : Nat} {ls : LL} {st : List LV} {h : LH} {Q : Option LV → LH → Prop} (hr : Rn xs xl d M pc ls st h Q) : Rn xs xl d M pc ls st h (fun r h' => Q r h' ∧ ∀ a i, outA a i → rd h' a i = rd h a i) := by
  obtain ⟨f, r, h', h1, h2⟩ := hr
  exact ⟨f, r, h', h1, h2, fun a i ho => lmRun_out ho f _ _ _ _ _ _ _ _ _ _ h1⟩
