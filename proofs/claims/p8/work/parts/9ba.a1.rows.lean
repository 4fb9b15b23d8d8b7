/-! p3, part a1: rows for answers that are long; two sayings of one run -/
section RW4
variable {xs : Nat → Int} {xl d : Nat} {M : LM_M} {pc : Nat} {ls : LL} {st : List LV} {h : LH} {Q : Option LV → LH → Prop}
theorem R_lret {x : Int} (hd : decode M.2.1 pc = .ok (.lreturn, 1)) (hr : M.2.2.2.1 = some .long) (k : Q (some (.inr (.inl x))) h) : Rn xs xl d M pc ls [.inr (.inl x)] h Q :=
  Rn.ret hd rfl (by simp only [lmR]; rw [if_pos hr]) k
theorem Rn.and {d' : Nat} {Q' : Option LV → LH → Prop} (h1 : Rn xs xl d M pc ls st h Q) (h2 : Rn xs xl d' M pc ls st h Q') : Rn xs xl d M pc ls st h (fun r h' => Q r h' ∧ Q' r h') := by
  obtain ⟨f, r, g, a1, a2⟩ := h1
  obtain ⟨f', r', g', b1, b2⟩ := h2
  have c1 := lmRun_le f (max f f') d (max d d') _ _ _ _ _ _ _ (Nat.le_max_left _ _) (Nat.le_max_left _ _) a1
  have c2 := lmRun_le f' (max f f') d' (max d d') _ _ _ _ _ _ _ (Nat.le_max_right _ _) (Nat.le_max_right _ _) b1
  rw [c1] at c2
  cases c2
  exact ⟨f, r, g, a1, a2, b2⟩
end RW4
theorem i2c_id {c : Int} (h0 : 0 ≤ c) (h1 : c ≤ 127) : (((Int32.ofInt c).toUInt32 % 65536).toInt32.toInt) = c := by
  have key : ∀ m : Nat, m < 128 → (((Int32.ofInt (m : Int)).toUInt32 % 65536).toInt32.toInt) = (m : Int) := by decide +kernel
  have := key c.toNat (by omega)
  rw [show ((c.toNat : Nat) : Int) = c by omega] at this
  exact this
/-- what the class's reader changes as it steps on -/
def muR (a i : Int) : Prop := a = 2 ∧ 3 ≤ i ∧ i ≤ 8
theorem hav_R {j : Nat} (h0 : 3 ≤ j) (h1 : j ≤ 8) : (hav 2 (j : Int)).1 ≠ 2 := by
  have key : ∀ m : Nat, m < 9 → 3 ≤ m → (hav 2 (m : Int)).1 ≠ 2 := by decide +kernel
  exact key j (by omega) h0
theorem RF_fr {h h' : LH} (hF : RF h) (hf : ∀ a i, ¬ muR a i → rd h' a i = rd h a i) : RF h' := by
  intro a j c hv he
  by_cases q : muR a j
  · obtain ⟨rfl, q1, q2⟩ := q
    have := hav_R (j := j) (by omega) (by omega)
    rw [he] at this
    exact absurd rfl this
  · rw [hf a j q]
    exact hF a j c hv he
theorem RF_w2 {h : LH} (hF : RF h) {i v : Int} (h0 : 3 ≤ i) (h1 : i ≤ 8) : RF (wr h 2 i v) := by
  refine RF_fr hF (fun a j hn => ?_)
  rw [rd_wr, if_neg]
  rintro ⟨rfl, rfl⟩
  exact hn ⟨rfl, h0, h1⟩
