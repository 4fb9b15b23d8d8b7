/-! LM, part 33: the invariant of both objects: every place within its bounds, and what the protected places say together -/
/-- places that the invariant tells together: goer, goneBy of the class's six memories; the reference's end of the tokens, quarter, law, lines, marks, undos, where all are -/
def sens (b j : Int) : Prop := b = 63 ∨ b = 64 ∨ b = 71 ∨ b = 72 ∨ b = 106 ∨ b = 107 ∨ b = 114 ∨ b = 115 ∨ b = 122 ∨ b = 123 ∨ b = 130 ∨ b = 131 ∨ (b = 184 ∧ j = 1000) ∨ (b = 188 ∧ 0 ≤ j ∧ j < 150) ∨ (b = 189 ∧ j ≤ 1000) ∨ (b = 190 ∧ j ≤ 1000) ∨ (b = 195 ∧ 1 ≤ j ∧ j ≤ 48) ∨ b = 199 ∨ b = 200 ∨ (b = 182 ∧ j = 25) ∨ (b = 198 ∧ 0 ≤ j ∧ j ≤ 1407 ∧ 2 ≤ j % 70 ∧ j % 70 ≤ 7)
/-- whether one of the places lo .. hi of a cell is protected -/
def prot (a lo hi : Int) : Bool := [63, 64, 71, 72, 106, 107, 114, 115, 122, 123, 130, 131, 184, 188, 189, 190, 195, 199, 200].any (fun b => b == a) || (a == 182 && decide (lo ≤ 25) && decide (25 ≤ hi)) || (a == 198 && (List.range 21).any (fun k => decide (lo ≤ 70 * (k : Int) + 7) && decide (70 * (k : Int) + 2 ≤ hi)))
theorem prot_sub {a lo hi i : Int} (h : prot a lo hi = false) (h0 : lo ≤ i) (h1 : i ≤ hi) : prot a i i = false := by
  unfold prot at h ⊢
  simp only [Bool.or_eq_false_iff, Bool.and_eq_false_iff, decide_eq_false_iff_not, List.any_eq_false, Bool.and_eq_true, decide_eq_true_eq] at h ⊢
  refine ⟨⟨h.1.1, ?_⟩, ?_⟩
  · rcases h.1.2 with (q | q) | q
    · exact Or.inl (Or.inl q)
    · exact Or.inl (Or.inr (by omega))
    · exact Or.inr (by omega)
  · rcases h.2 with q | q
    · exact Or.inl q
    · exact Or.inr (fun k hk => by have := q k hk; omega)
theorem sens_prot {b j : Int} (h : sens b j) : prot b j j = true := by
  cases hq : prot b j j with
  | true => rfl
  | false =>
    exfalso
    unfold prot at hq
    simp only [Bool.or_eq_false_iff, Bool.and_eq_false_iff, decide_eq_false_iff_not, List.any_eq_false, Bool.and_eq_true, decide_eq_true_eq, beq_iff_eq, beq_eq_false_iff_ne, List.mem_cons, List.not_mem_nil, or_false, forall_eq_or_imp, forall_eq, ne_eq] at hq
    unfold sens at h
    obtain ⟨⟨q1, q2⟩, q3⟩ := hq
    by_cases e : b = 198 ∧ 0 ≤ j ∧ j ≤ 1407 ∧ 2 ≤ j % 70 ∧ j % 70 ≤ 7
    · rcases q3 with q3 | q3
      · exact q3 e.1
      · have := q3 (j / 70).toNat (List.mem_range.mpr (by omega))
        omega
    · omega
def RNG (h : LH) : Prop := ∀ a i, valid a i → gV (hav a i) (hval h a i)
theorem RNG_wr {h : LH} (hr : RNG h) {a i v : Int} (hv : gV (hav a i) (mkv (lkd a i) v)) : RNG (wr h a i v) := by
  intro b j hb
  unfold hval
  rw [rd_wr]
  split
  · next e =>
    obtain ⟨rfl, rfl⟩ := e
    exact hv
  · exact hr b j hb
/-- the day's lines: who goes goes by a door -/
def linesOk (h : LH) (a b : Int) : Prop := ∀ i : Int, 0 ≤ rd h a i → 0 ≤ rd h b i
/-- the reference's lines: pairs from place o on -/
def pairsOk (h : LH) (a o : Int) : Prop := ∀ k : Int, 0 ≤ k → k < 24 → 0 ≤ rd h a (o + 2 * k) → 0 ≤ rd h a (o + 2 * k + 1)
def SPlines (h : LH) : Prop := linesOk h 63 64 ∧ linesOk h 71 72 ∧ linesOk h 106 107 ∧ linesOk h 114 115 ∧ linesOk h 122 123 ∧ linesOk h 130 131 ∧ pairsOk h 195 1 ∧ ∀ m : Int, 0 ≤ m → m < 4 → pairsOk h 200 (50 * m + 1)
/-- the reference's law: a row of codes that is one expression, from place i to place j -/
def seg (op ar : Int → Int) (i j : Int) : Prop := ∀ R : Int → Int → Prop, (∀ p, op p = 1 → R p (p + 1)) → (∀ p, op p = 2 → 0 ≤ ar p → ar p ≤ 3 → R p (p + 1)) → (∀ p q, R p q → op q = 3 → R p (q + 1)) → (∀ p q r, R p q → R q r → 4 ≤ op r → op r ≤ 10 → R p (r + 1)) → R i j
theorem seg_num {op ar : Int → Int} {p : Int} (h : op p = 1) : seg op ar p (p + 1) := fun R r1 _ _ _ => r1 p h
theorem seg_fact {op ar : Int → Int} {p : Int} (h : op p = 2) (h0 : 0 ≤ ar p) (h1 : ar p ≤ 3) : seg op ar p (p + 1) := fun R _ r2 _ _ => r2 p h h0 h1
theorem seg_not {op ar : Int → Int} {p q : Int} (h : seg op ar p q) (h1 : op q = 3) : seg op ar p (q + 1) := fun R r1 r2 r3 r4 => r3 p q (h R r1 r2 r3 r4) h1
theorem seg_bin {op ar : Int → Int} {p q r : Int} (h : seg op ar p q) (h2 : seg op ar q r) (h0 : 4 ≤ op r) (h1 : op r ≤ 10) : seg op ar p (r + 1) := fun R r1 r2 r3 r4 => r4 p q r (h R r1 r2 r3 r4) (h2 R r1 r2 r3 r4) h0 h1
theorem seg_lt {op ar : Int → Int} {p q : Int} (h : seg op ar p q) : p < q := h (fun i j => i < j) (fun p _ => by omega) (fun p _ _ _ => by omega) (fun p q h _ => by omega) (fun p q r h1 h2 _ _ => by omega)
/-- it lies within its own places -/
theorem seg_of {op ar op' ar' : Int → Int} {i j d : Int} (h : seg op ar i j) (e : ∀ k, i ≤ k → k < j → op' (k + d) = op k ∧ ar' (k + d) = ar k) : seg op' ar' (i + d) (j + d) := by
  have key := h (fun i j => i < j ∧ ((∀ k, i ≤ k → k < j → op' (k + d) = op k ∧ ar' (k + d) = ar k) → seg op' ar' (i + d) (j + d)))
    (fun p hp => ⟨by omega, fun e => by rw [show p + 1 + d = p + d + 1 by omega]; exact seg_num ((e p (by omega) (by omega)).1.trans hp)⟩)
    (fun p hp h0 h1 => ⟨by omega, fun e => by rw [show p + 1 + d = p + d + 1 by omega]; have q := e p (by omega) (by omega); exact seg_fact (q.1.trans hp) (by rw [q.2]; exact h0) (by rw [q.2]; exact h1)⟩)
    (fun p q hq h1 => ⟨by omega, fun e => by rw [show q + 1 + d = q + d + 1 by omega]; exact seg_not (hq.2 (fun k k1 k2 => e k k1 (by omega))) ((e q (by omega) (by omega)).1.trans h1)⟩)
    (fun p q r hq hr h0 h1 => ⟨by omega, fun e => by rw [show r + 1 + d = r + d + 1 by omega]; have x := (e r (by omega) (by omega)).1; exact seg_bin (hq.2 (fun k k1 k2 => e k k1 (by omega))) (hr.2 (fun k k1 k2 => e k (by omega) (by omega))) (by rw [x]; exact h0) (by rw [x]; exact h1)⟩)
  exact key.2 e
def lawOk (op ar : Int → Int) : Prop := ∃ n, n ≤ 1000 ∧ seg op ar 0 n ∧ op n = 0
def SPlaw (h : LH) : Prop := rd h 188 3 = 0 → lawOk (rd h 189) (rd h 190)
/-- the tokens end -/
def SPtok (h : LH) : Prop := rd h 184 1000 = 0
/-- doors lead to rooms, homes are rooms -/
def SPq (h : LH) : Prop := (∀ d, 0 ≤ d → d ≤ 13 → d < rd h 188 1 → rd h 188 (5 + 8 * d) < rd h 188 0 ∧ rd h 188 (6 + 8 * d) < rd h 188 0) ∧ ∀ p, 0 ≤ p → p ≤ 5 → p < rd h 188 2 → rd h 188 (117 + 4 * p) < rd h 188 0
/-- all are in rooms, in the state from place b on -/
def wOk (h : LH) (b : Int) : Prop := ∀ p, 0 ≤ p → p ≤ 5 → p < rd h 188 2 → rd h 198 (b + 2 + p) < rd h 188 0
def SPw (h : LH) : Prop := wOk h 0 ∧ (∀ m, 0 ≤ m → m < 4 → rd h 199 m = 1 → wOk h (70 * (1 + m))) ∧ ∀ j, 0 ≤ j → j ≤ 15 → j < rd h 182 25 → wOk h (70 * (5 + j))
def SP (h : LH) : Prop := SPlines h ∧ SPlaw h ∧ SPtok h ∧ SPq h ∧ SPw h
theorem seg_same {op ar op' ar' : Int → Int} {i j : Int} (h : seg op ar i j) (e : ∀ k, i ≤ k → k < j → op' k = op k ∧ ar' k = ar k) : seg op' ar' i j := by
  have := seg_of (d := 0) h (fun k k1 k2 => by rw [Int.add_zero]; exact e k k1 k2)
  rw [Int.add_zero, Int.add_zero] at this
  exact this
theorem lines_same {h h' : LH} {a b : Int} (ea : ∀ j, rd h' a j = rd h a j) (eb : ∀ j, rd h' b j = rd h b j) (hl : linesOk h a b) : linesOk h' a b := by
  intro k h1
  rw [ea] at h1
  rw [eb]
  exact hl k h1
theorem wOk_same {h h' : LH} {b : Int} (e0 : rd h' 188 0 = rd h 188 0) (e2 : rd h' 188 2 = rd h 188 2) (e : ∀ p, 0 ≤ p → p ≤ 5 → rd h' 198 (b + 2 + p) = rd h 198 (b + 2 + p)) (hw : wOk h b) : wOk h' b := by
  intro p p0 p1 p2
  rw [e2] at p2
  rw [e p p0 p1, e0]
  exact hw p p0 p1 p2
theorem sens_c {b j : Int} (hb : b = 63 ∨ b = 64 ∨ b = 71 ∨ b = 72 ∨ b = 106 ∨ b = 107 ∨ b = 114 ∨ b = 115 ∨ b = 122 ∨ b = 123 ∨ b = 130 ∨ b = 131 ∨ b = 200) : sens b j := by
  rcases hb with rfl | rfl | rfl | rfl | rfl | rfl | rfl | rfl | rfl | rfl | rfl | rfl | rfl <;> (unfold sens; simp)
theorem SP_of {h h' : LH} (e : ∀ b j, sens b j → rd h' b j = rd h b j) (hs : SP h) : SP h' := by
  obtain ⟨⟨h1, h2, h3, h4, h5, h6, h7, h8⟩, hl, ht, hq, hw⟩ := hs
  have c : ∀ b j, (b = 63 ∨ b = 64 ∨ b = 71 ∨ b = 72 ∨ b = 106 ∨ b = 107 ∨ b = 114 ∨ b = 115 ∨ b = 122 ∨ b = 123 ∨ b = 130 ∨ b = 131 ∨ b = 200) → rd h' b j = rd h b j := fun b j hb => e b j (sens_c hb)
  have e0 : ∀ j, 0 ≤ j → j < 150 → rd h' 188 j = rd h 188 j := fun j j0 j1 => e 188 j (by unfold sens; omega)
  refine ⟨⟨lines_same (fun j => c _ j (by omega)) (fun j => c _ j (by omega)) h1, lines_same (fun j => c _ j (by omega)) (fun j => c _ j (by omega)) h2, lines_same (fun j => c _ j (by omega)) (fun j => c _ j (by omega)) h3, lines_same (fun j => c _ j (by omega)) (fun j => c _ j (by omega)) h4, lines_same (fun j => c _ j (by omega)) (fun j => c _ j (by omega)) h5, lines_same (fun j => c _ j (by omega)) (fun j => c _ j (by omega)) h6, ?_, ?_⟩, ?_, ?_, ?_, ?_⟩
  · intro k k0 k1 q
    rw [e 195 _ (by unfold sens; omega)] at q ⊢
    exact h7 k k0 k1 q
  · intro m m0 m1 k k0 k1 q
    rw [c 200 _ (by omega)] at q ⊢
    exact h8 m m0 m1 k k0 k1 q
  · intro q
    rw [e0 3 (by decide) (by decide)] at q
    obtain ⟨n, n1, n2, n3⟩ := hl q
    exact ⟨n, n1, seg_same n2 (fun k k1 k2 => ⟨e 189 k (by unfold sens; omega), e 190 k (by unfold sens; omega)⟩), by rw [e 189 n (by unfold sens; omega)]; exact n3⟩
  · unfold SPtok
    rw [e 184 1000 (by unfold sens; omega)]
    exact ht
  · refine ⟨fun d d0 d1 d2 => ?_, fun p p0 p1 p2 => ?_⟩
    · rw [e0 1 (by decide) (by decide)] at d2
      rw [e0 (5 + 8 * d) (by omega) (by omega), e0 (6 + 8 * d) (by omega) (by omega), e0 0 (by decide) (by decide)]
      exact hq.1 d d0 d1 d2
    · rw [e0 2 (by decide) (by decide)] at p2
      rw [e0 (117 + 4 * p) (by omega) (by omega), e0 0 (by decide) (by decide)]
      exact hq.2 p p0 p1 p2
  · obtain ⟨w1, w2, w3⟩ := hw
    have x0 := e0 0 (by decide) (by decide)
    have x2 := e0 2 (by decide) (by decide)
    refine ⟨wOk_same x0 x2 (fun p p0 p1 => e 198 _ (by unfold sens; omega)) w1, fun m m0 m1 q => ?_, fun j j0 j1 q => ?_⟩
    · rw [e 199 m (by unfold sens; omega)] at q
      exact wOk_same x0 x2 (fun p p0 p1 => e 198 _ (by unfold sens; omega)) (w2 m m0 m1 q)
    · rw [e 182 25 (by unfold sens; omega)] at q
      exact wOk_same x0 x2 (fun p p0 p1 => e 198 _ (by unfold sens; omega)) (w3 j j0 j1 q)
def INV (h : LH) : Prop := RNG h ∧ SP h
/-- a put within bounds, elsewhere -/
theorem INV_wr {h : LH} (hI : INV h) {a i v : Int} (hn : ¬ sens a i) (hv : gV (hav a i) (mkv (lkd a i) v)) : INV (wr h a i v) := by
  refine ⟨RNG_wr hI.1 hv, SP_of (fun b j hb => ?_) hI.2⟩
  rw [rd_wr, if_neg]
  rintro ⟨rfl, rfl⟩
  exact hn hb
theorem INV_ok : INVok INV prot := by
  refine ⟨fun h hh => hh.1, fun h hh a i v _ hp hv => INV_wr hh (fun q => ?_) hv, fun a lo hi i h1 h2 h3 => prot_sub h1 h2 h3⟩
  rw [sens_prot q] at hp
  cases hp
