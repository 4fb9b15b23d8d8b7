/-! LM, part 33: the invariant of both objects: every place within its bounds, and what the protected cells say together -/
/-- protected: goer, goneBy of the class's six memories; the reference's quarters, op, arg, lines, markedLines -/
def prot (a : Int) : Bool := [63, 64, 71, 72, 106, 107, 114, 115, 122, 123, 130, 131, 188, 189, 190, 195, 200].any (fun b => b == a)
def RNG (h : LH) : Prop := ∀ a i, valid a i → gV (hav a i) (hval h a i)
theorem RNG_wr {h : LH} (hr : RNG h) {a i v : Int} (hv : gV (hav a i) (mkv (lkd a i) v)) : RNG (wr h a i v) := by
  intro b j hb
  unfold hval
  rw [rd_wr]
  split
  · next e =>
    obtain ⟨rfl, rfl⟩ := e
    exact hv
  · exact hr b j hb
/-- a saying of the protected cells alone -/
def protOnly (SP : LH → Prop) : Prop := ∀ h h' : LH, (∀ b j, prot b = true → rd h' b j = rd h b j) → SP h → SP h'
theorem INV_mk {SP : LH → Prop} (hs : protOnly SP) : INVok (fun h => RNG h ∧ SP h) prot := by
  refine ⟨fun h hh => hh.1, fun h hh a i v _ hp hv => ⟨RNG_wr hh.1 hv, hs h _ (fun b j hb => ?_) hh.2⟩⟩
  rw [rd_wr, if_neg]
  rintro ⟨rfl, -⟩
  rw [hp] at hb
  cases hb
/-- the day's lines: who goes goes by a door -/
def linesOk (h : LH) (a b : Int) : Prop := ∀ i : Int, 0 ≤ rd h a i → 0 ≤ rd h b i
/-- the reference's lines: pairs from place o on -/
def pairsOk (h : LH) (a o : Int) : Prop := ∀ k : Int, 0 ≤ k → k < 24 → 0 ≤ rd h a (o + 2 * k) → 0 ≤ rd h a (o + 2 * k + 1)
def SPlines (h : LH) : Prop := linesOk h 63 64 ∧ linesOk h 71 72 ∧ linesOk h 106 107 ∧ linesOk h 114 115 ∧ linesOk h 122 123 ∧ linesOk h 130 131 ∧ pairsOk h 195 1 ∧ ∀ m : Int, 0 ≤ m → m < 4 → pairsOk h 200 (50 * m + 1)
theorem linesOk_of {h h' : LH} {a b : Int} (ha : prot a = true) (hb : prot b = true) (e : ∀ b j, prot b = true → rd h' b j = rd h b j) (hl : linesOk h a b) : linesOk h' a b := by
  intro i h1
  rw [e a i ha] at h1
  rw [e b i hb]
  exact hl i h1
theorem pairsOk_of {h h' : LH} {a o : Int} (ha : prot a = true) (e : ∀ b j, prot b = true → rd h' b j = rd h b j) (hl : pairsOk h a o) : pairsOk h' a o := by
  intro k k1 k2 h1
  rw [e a _ ha] at h1
  rw [e a _ ha]
  exact hl k k1 k2 h1
theorem SPlines_of : protOnly SPlines := by
  intro h h' e ⟨h1, h2, h3, h4, h5, h6, h7, h8⟩
  exact ⟨linesOk_of rfl rfl e h1, linesOk_of rfl rfl e h2, linesOk_of rfl rfl e h3, linesOk_of rfl rfl e h4, linesOk_of rfl rfl e h5, linesOk_of rfl rfl e h6, pairsOk_of rfl e h7, fun m m1 m2 => pairsOk_of rfl e (h8 m m1 m2)⟩
