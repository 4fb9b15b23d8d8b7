/-! LM, part 17: runs by rules. Rn: from here the method returns, with Q of its answer and the heap; no cell is made any more -/
theorem lmRun_le {xs : Nat → Int} {xl : Nat} : ∀ (f f' d d' : Nat) (M : LM_M) (pc : Nat) (ls : LL) (st : List LV) (n : Nat) (h : LH) (x : Option LV × Nat × LH), f ≤ f' → d ≤ d' → lmRun xs xl f d M pc ls st n h = some x → lmRun xs xl f' d' M pc ls st n h = some x
  | 0, f', d, d', M, pc, ls, st, n, h, x, hf, hd, hr => by cases hr
  | f + 1, 0, d, d', M, pc, ls, st, n, h, x, hf, hd, hr => by omega
  | f + 1, f' + 1, d, d', M, pc, ls, st, n, h, x, hf, hd, hr => by
    have ih := fun d d' M pc ls st n h x => lmRun_le (xs := xs) (xl := xl) f f' d d' M pc ls st n h x (by omega)
    unfold lmRun at hr ⊢
    split at hr
    · cases hr
    · next i len hdec =>
      (try rw [hdec])
      (try simp only)
      by_cases hlen : ilen i len = false
      · rw [if_pos hlen] at hr
        cases hr
      · rw [if_neg hlen] at hr ⊢
        split at hr
        · next r h1 =>
          (try rw [h1])
          exact hr
        · next h1 =>
          (try rw [h1])
          (try simp only)
          split at hr
          · next k as rest hk =>
            (try rw [hk])
            (try simp only)
            split at hr
            · cases hr
            · next d1 =>
              match d', hd with
              | d2 + 1, hd =>
                (try simp only)
                split at hr
                · cases hr
                · next M' hM =>
                  (try rw [hM])
                  (try simp only)
                  split at hr
                  · cases hr
                  · next r n' h' h2 =>
                    rw [ih d1 d2 _ _ _ _ _ _ _ (by omega) h2]
                    exact ih _ _ _ _ _ _ _ _ _ hd hr
          · next hk =>
            (try rw [hk])
            (try simp only)
            split at hr
            · cases hr
            · next pc' ls' st' n' h' hI =>
              (try rw [hI])
              exact ih _ _ _ _ _ _ _ _ _ hd hr
def Rn (xs : Nat → Int) (xl d : Nat) (M : LM_M) (pc : Nat) (ls : LL) (st : List LV) (h : LH) (Q : Option LV → LH → Prop) : Prop := ∃ (f : Nat) (r : Option LV) (h' : LH), lmRun xs xl f d M pc ls st NC h = some (r, NC, h') ∧ Q r h'
section RN
variable {xs : Nat → Int} {xl d : Nat} {M : LM_M} {pc : Nat} {ls : LL} {st : List LV} {h : LH} {Q : Option LV → LH → Prop}
theorem Rn.mono {Q' : Option LV → LH → Prop} (hr : Rn xs xl d M pc ls st h Q) (hq : ∀ r h', Q r h' → Q' r h') : Rn xs xl d M pc ls st h Q' := by
  obtain ⟨f, r, h', h1, h2⟩ := hr
  exact ⟨f, r, h', h1, hq r h' h2⟩
theorem Rn.deep {d' : Nat} (hr : Rn xs xl d M pc ls st h Q) (hd : d ≤ d') : Rn xs xl d' M pc ls st h Q := by
  obtain ⟨f, r, h', h1, h2⟩ := hr
  exact ⟨f, r, h', lmRun_le f f d d' _ _ _ _ _ _ _ (Nat.le_refl _) hd h1, h2⟩
theorem Rn.step {i : Instr} {len : Nat} (hdec : decode M.2.1 pc = .ok (i, len)) (hlen : ilen i len = true) (hR : lmR M.2.2.2.1 i st = none) (hK : lmK M.2.2.2.2.1 NC i st = none) {pc' : Nat} {ls' : LL} {st' : List LV} {h' : LH} (hI : lmI M.2.2.2.2.1 NC (M.1.name == "<init>") xs xl i pc len ls st h = some (pc', ls', st', NC, h'))
    (k : Rn xs xl d M pc' ls' st' h' Q) : Rn xs xl d M pc ls st h Q := by
  obtain ⟨f, r, h2, h3, h4⟩ := k
  refine ⟨f + 1, r, h2, ?_, h4⟩
  unfold lmRun
  rw [hdec]
  simp only
  rw [if_neg (by rw [hlen]; decide), hR]
  simp only
  rw [hK]
  simp only
  rw [hI]
  exact h3
theorem Rn.ret {i : Instr} {len : Nat} (hdec : decode M.2.1 pc = .ok (i, len)) (hlen : ilen i len = true) {r : Option LV} (hR : lmR M.2.2.2.1 i st = some r) (hq : Q r h) : Rn xs xl d M pc ls st h Q := by
  refine ⟨1, r, h, ?_, hq⟩
  unfold lmRun
  rw [hdec]
  simp only
  rw [if_neg (by rw [hlen]; decide), hR]
theorem Rn.call {i : Instr} {len : Nat} (hdec : decode M.2.1 pc = .ok (i, len)) (hlen : ilen i len = true) (hR : lmR M.2.2.2.1 i st = none) {k : Nat} {as rest : List LV} (hK : lmK M.2.2.2.2.1 NC i st = some (k, as, rest)) {M' : LM_M} (hM : MTB k = some M') {Q1 : Option LV → LH → Prop} (hc : Rn xs xl d M' 0 (lpad M'.2.2.1 (lent as)) [] h Q1)
    (kk : ∀ r h', Q1 r h' → Rn xs xl (d + 1) M (pc + 3) ls (r.toList ++ rest) h' Q) : Rn xs xl (d + 1) M pc ls st h Q := by
  obtain ⟨f, r, h1, h2, h3⟩ := hc
  obtain ⟨f2, r2, h4, h5, h6⟩ := kk r h1 h3
  refine ⟨max f f2 + 1, r2, h4, ?_, h6⟩
  unfold lmRun
  rw [hdec]
  simp only
  rw [if_neg (by rw [hlen]; decide), hR]
  simp only
  rw [hK]
  simp only
  rw [hM]
  simp only
  rw [lmRun_le f (max f f2) d d _ _ _ _ _ _ _ (Nat.le_max_left _ _) (Nat.le_refl _) h2]
  exact lmRun_le f2 (max f f2) (d + 1) (d + 1) _ _ _ _ _ _ _ (Nat.le_max_right _ _) (Nat.le_refl _) h5
end RN
