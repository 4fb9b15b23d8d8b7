/-! LM, part 33: the invariant of both objects: every place within its bounds, and what the protected cells say together -/
/-- protected: goer, goneBy of the class's six memories; the reference's sort, quarters, op, arg, lines, markedLines -/
def prot (a : Int) : Bool := [63, 64, 71, 72, 106, 107, 114, 115, 122, 123, 130, 131, 184, 188, 189, 190, 195, 200].any (fun b => b == a)
def RNG (h : LH) : Prop := ∀ a i, valid a i → gV (hav a i) (hval h a i)
theorem RNG_wr {h : LH} (hr : RNG h) {a i v : Int} (hv : gV (hav a i) (mkv (lkd a i) v)) : RNG (wr h a i v) := by
  intro b j hb
  unfold hval
  rw [rd_wr]
  split
  · next e =>
    obtain ⟨rfl, rfl⟩ := e
    exact hv
  · exact hr b j hb
/-- a saying of the protected cells alone -/
def protOnly (SP : LH → Prop) : Prop := ∀ h h' : LH, (∀ b j, prot b = true → rd h' b j = rd h b j) → SP h → SP h'
theorem INV_mk {SP : LH → Prop} (hs : protOnly SP) : INVok (fun h => RNG h ∧ SP h) prot := by
  refine ⟨fun h hh => hh.1, fun h hh a i v _ hp hv => ⟨RNG_wr hh.1 hv, hs h _ (fun b j hb => ?_) hh.2⟩⟩
  rw [rd_wr, if_neg]
  rintro ⟨rfl, -⟩
  rw [hp] at hb
  cases hb
/-- the day's lines: who goes goes by a door -/
def linesOk (h : LH) (a b : Int) : Prop := ∀ i : Int, 0 ≤ rd h a i → 0 ≤ rd h b i
/-- the reference's lines: pairs from place o on -/
def pairsOk (h : LH) (a o : Int) : Prop := ∀ k : Int, 0 ≤ k → k < 24 → 0 ≤ rd h a (o + 2 * k) → 0 ≤ rd h a (o + 2 * k + 1)
def SPlines (h : LH) : Prop := linesOk h 63 64 ∧ linesOk h 71 72 ∧ linesOk h 106 107 ∧ linesOk h 114 115 ∧ linesOk h 122 123 ∧ linesOk h 130 131 ∧ pairsOk h 195 1 ∧ ∀ m : Int, 0 ≤ m → m < 4 → pairsOk h 200 (50 * m + 1)
theorem linesOk_of {h h' : LH} {a b : Int} (ha : prot a = true) (hb : prot b = true) (e : ∀ b j, prot b = true → rd h' b j = rd h b j) (hl : linesOk h a b) : linesOk h' a b := by
  intro i h1
  rw [e a i ha] at h1
  rw [e b i hb]
  exact hl i h1
theorem pairsOk_of {h h' : LH} {a o : Int} (ha : prot a = true) (e : ∀ b j, prot b = true → rd h' b j = rd h b j) (hl : pairsOk h a o) : pairsOk h' a o := by
  intro k k1 k2 h1
  rw [e a _ ha] at h1
  rw [e a _ ha]
  exact hl k k1 k2 h1
theorem SPlines_of : protOnly SPlines := by
  intro h h' e ⟨h1, h2, h3, h4, h5, h6, h7, h8⟩
  exact ⟨linesOk_of rfl rfl e h1, linesOk_of rfl rfl e h2, linesOk_of rfl rfl e h3, linesOk_of rfl rfl e h4, linesOk_of rfl rfl e h5, linesOk_of rfl rfl e h6, pairsOk_of rfl e h7, fun m m1 m2 => pairsOk_of rfl e (h8 m m1 m2)⟩
/-- the reference's law: a row of codes that is one expression, from place i to place j -/
def seg (op ar : Int → Int) (i j : Int) : Prop := ∀ R : Int → Int → Prop, (∀ p, op p = 1 → R p (p + 1)) → (∀ p, op p = 2 → 0 ≤ ar p → ar p ≤ 3 → R p (p + 1)) → (∀ p q, R p q → op q = 3 → R p (q + 1)) → (∀ p q r, R p q → R q r → 4 ≤ op r → op r ≤ 10 → R p (r + 1)) → R i j
theorem seg_num {op ar : Int → Int} {p : Int} (h : op p = 1) : seg op ar p (p + 1) := fun R r1 _ _ _ => r1 p h
theorem seg_fact {op ar : Int → Int} {p : Int} (h : op p = 2) (h0 : 0 ≤ ar p) (h1 : ar p ≤ 3) : seg op ar p (p + 1) := fun R _ r2 _ _ => r2 p h h0 h1
theorem seg_not {op ar : Int → Int} {p q : Int} (h : seg op ar p q) (h1 : op q = 3) : seg op ar p (q + 1) := fun R r1 r2 r3 r4 => r3 p q (h R r1 r2 r3 r4) h1
theorem seg_bin {op ar : Int → Int} {p q r : Int} (h : seg op ar p q) (h2 : seg op ar q r) (h0 : 4 ≤ op r) (h1 : op r ≤ 10) : seg op ar p (r + 1) := fun R r1 r2 r3 r4 => r4 p q r (h R r1 r2 r3 r4) (h2 R r1 r2 r3 r4) h0 h1
theorem seg_lt {op ar : Int → Int} {p q : Int} (h : seg op ar p q) : p < q := h (fun i j => i < j) (fun p _ => by omega) (fun p _ _ _ => by omega) (fun p q h _ => by omega) (fun p q r h1 h2 _ _ => by omega)
/-- it lies within its own places -/
theorem seg_of {op ar op' ar' : Int → Int} {i j d : Int} (h : seg op ar i j) (e : ∀ k, i ≤ k → k < j → op' (k + d) = op k ∧ ar' (k + d) = ar k) : seg op' ar' (i + d) (j + d) := by
  have key := h (fun i j => i < j ∧ ((∀ k, i ≤ k → k < j → op' (k + d) = op k ∧ ar' (k + d) = ar k) → seg op' ar' (i + d) (j + d)))
    (fun p hp => ⟨by omega, fun e => by rw [show p + 1 + d = p + d + 1 by omega]; exact seg_num ((e p (by omega) (by omega)).1.trans hp)⟩)
    (fun p hp h0 h1 => ⟨by omega, fun e => by rw [show p + 1 + d = p + d + 1 by omega]; have q := e p (by omega) (by omega); exact seg_fact (q.1.trans hp) (by rw [q.2]; exact h0) (by rw [q.2]; exact h1)⟩)
    (fun p q hq h1 => ⟨by omega, fun e => by rw [show q + 1 + d = q + d + 1 by omega]; exact seg_not (hq.2 (fun k k1 k2 => e k k1 (by omega))) ((e q (by omega) (by omega)).1.trans h1)⟩)
    (fun p q r hq hr h0 h1 => ⟨by omega, fun e => by rw [show r + 1 + d = r + d + 1 by omega]; have x := (e r (by omega) (by omega)).1; exact seg_bin (hq.2 (fun k k1 k2 => e k k1 (by omega))) (hr.2 (fun k k1 k2 => e k (by omega) (by omega))) (by rw [x]; exact h0) (by rw [x]; exact h1)⟩)
  exact key.2 e
def lawOk (op ar : Int → Int) : Prop := ∃ n, n ≤ 1000 ∧ seg op ar 0 n ∧ op n = 0
def SPlaw (h : LH) : Prop := rd h 188 3 = 0 → lawOk (rd h 189) (rd h 190)
/-- the tokens end -/
def SPtok (h : LH) : Prop := rd h 184 1000 = 0
def SP (h : LH) : Prop := SPlines h ∧ SPlaw h ∧ SPtok h
theorem SP_of : protOnly SP := by
  intro h h' e ⟨h1, h2, h3⟩
  refine ⟨SPlines_of h h' e h1, ?_, ?_⟩
  · intro h0
    rw [e 188 3 rfl] at h0
    rw [show rd h' 189 = rd h 189 from funext (fun j => e 189 j rfl), show rd h' 190 = rd h 190 from funext (fun j => e 190 j rfl)]
    exact h2 h0
  · unfold SPtok
    rw [e 184 1000 rfl]
    exact h3
def INV (h : LH) : Prop := RNG h ∧ SP h
theorem INV_ok : INVok INV prot := INV_mk SP_of
