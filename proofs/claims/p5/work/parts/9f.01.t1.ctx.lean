/-! plans, part t1: what both know of doors and people; bits -/
theorem bit_ext {x y : Int} (hx : i32 x) (hy : i32 y) (h : ∀ k, 0 ≤ k → k < 32 → (bitZ x k ↔ bitZ y k)) : x = y := by
  have e : (Int32.ofInt x).toBitVec = (Int32.ofInt y).toBitVec := by
    refine BitVec.eq_of_getLsbD_eq (fun i hi => ?_)
    have q := h (i : Int) (by omega) (by omega)
    rw [bitZ_iff (by omega) (by omega), bitZ_iff (by omega) (by omega), Int.toNat_natCast] at q
    exact Bool.eq_iff_iff.mpr q
  have e2 : Int32.ofInt x = Int32.ofInt y := Int32.toBitVec_inj.mp e
  rw [← x_of hx, ← x_of hy, e2]
theorem zor_i (a b : Int) : i32 (zor a b) := x_in _
theorem zand_i (a b : Int) : i32 (zand a b) := x_in _
theorem zshl_i (a b : Int) : i32 (zshl a b) := x_in _
theorem zxor_i (a b : Int) : i32 (zxor a b) := x_in _
/-- two sets meet -/
theorem zand_ne {a b : Int} : zand a b ≠ 0 ↔ ∃ k, 0 ≤ k ∧ k < 32 ∧ bitZ a k ∧ bitZ b k := by
  constructor
  · intro h
    refine Classical.byContradiction (fun n => h ?_)
    refine bit_ext (zand_i a b) z32 (fun k k0 k1 => ?_)
    rw [bit_and k0 k1]
    exact ⟨fun z => absurd ⟨k, k0, k1, z⟩ n, fun z => absurd z bit_zero⟩
  · rintro ⟨k, k0, k1, ha, hb⟩ e
    have q := (bit_and (a := a) (b := b) k0 k1).mpr ⟨ha, hb⟩
    rw [e] at q
    exact bit_zero q
theorem bitZ_n {a k : Int} : ¬ bitZ a k ↔ zand (zshr a k) 1 = 0 := by
  have := bitZ_01 a k
  unfold bitZ
  omega
/-- what is told, within its bounds -/
def KR (K : KEY) : Prop := (0 ≤ K.1 0 ∧ K.1 0 ≤ 10) ∧ (0 ≤ K.1 1 ∧ K.1 1 ≤ 14) ∧ (0 ≤ K.1 2 ∧ K.1 2 ≤ 6) ∧ (∀ d, 0 ≤ d → d < K.1 1 → (0 ≤ K.1 (8 * d + 5) ∧ K.1 (8 * d + 5) < K.1 0) ∧ (0 ≤ K.1 (8 * d + 6) ∧ K.1 (8 * d + 6) < K.1 0) ∧ (0 ≤ K.1 (8 * d + 8) ∧ K.1 (8 * d + 8) ≤ 24) ∧ (0 ≤ K.1 (8 * d + 10) ∧ K.1 (8 * d + 10) ≤ 9) ∧ (0 ≤ K.1 (8 * d + 11) ∧ K.1 (8 * d + 11) ≤ 9)) ∧ ∀ p, 0 ≤ p → p < K.1 2 → (0 ≤ K.1 (4 * p + 116) ∧ K.1 (4 * p + 116) ≤ 3) ∧ (0 ≤ K.1 (4 * p + 117) ∧ K.1 (4 * p + 117) < K.1 0) ∧ (0 ≤ K.1 (4 * p + 118) ∧ K.1 (4 * p + 118) ≤ 9) ∧ (0 ≤ K.1 (4 * p + 119) ∧ K.1 (4 * p + 119) ≤ 24)
/-- the class's quarter q, settled under the law L, is what K tells -/
def CXq (h : LH) (K : KEY) (q : Int) (L : List Int) : Prop := RF h ∧ PT h ∧ (q = 5 ∨ q = 32) ∧ rd h 1 1 = q ∧ (rd h q 0 = K.1 0 ∧ rd h q 2 = K.1 1 ∧ rd h q 4 = K.1 2) ∧ (∀ d, 0 ≤ d → d < K.1 1 → ∀ j : Nat, j < 8 → rd h (q + 7 + d) ((j : Int) + 1) = K.1 (8 * d + 4 + (j : Int))) ∧ (∀ p, 0 ≤ p → p < K.1 2 → ∀ j : Nat, j < 4 → rd h (q + 21 + p) ((j : Int) + 1) = K.1 (116 + 4 * p + (j : Int))) ∧ (∀ s hr, 0 ≤ s → s ≤ 3 → 0 ≤ hr → hr ≤ 23 → stl h q L h s hr) ∧ ∀ d s a hr sh, 0 ≤ d → d < K.1 1 → 0 ≤ s → s ≤ 3 → 0 ≤ a → a ≤ 9 → 0 ≤ hr → hr ≤ 23 → LF K d s a hr sh 0 = inF (rd h (q + 7 + d)) L s a hr sh d
section PL1
variable {xs : Nat → Int} {xl e : Nat} {h g : LH} {Q : Option LV → LH → Prop} {K : KEY} {q : Int} {L : List Int}
theorem KR_of (hI : INV h) : KR (key h) := by
  have r0 := rq_rooms hI.1
  have r1 := rq_doors hI.1
  have r2 := rq_people hI.1
  have sp := (INV4 hI).2.2.2
  refine ⟨r0, r1, r2, fun d d0 d1 => ?_, fun p p0 p1 => ?_⟩
  · have d1' : d < rd h 188 1 := d1
    have a := rq_d1 hI.1 (i := 8 * d + 5) (d := d) (by omega) d0 (by omega)
    have b := rq_d2 hI.1 (i := 8 * d + 6) (d := d) (by omega) d0 (by omega)
    have c := rq_d4 hI.1 (i := 8 * d + 8) (d := d) (by omega) d0 (by omega)
    have f := rq_d6 hI.1 (i := 8 * d + 10) (d := d) (by omega) d0 (by omega)
    have g := rq_d7 hI.1 (i := 8 * d + 11) (d := d) (by omega) d0 (by omega)
    have s := sp.1 d d0 (by omega) d1'
    rw [show 5 + 8 * d = 8 * d + 5 by omega, show 6 + 8 * d = 8 * d + 6 by omega] at s
    exact ⟨⟨a.1, s.1⟩, ⟨b.1, s.2⟩, c, f, g⟩
  · have p1' : p < rd h 188 2 := p1
    have a := rq_p0 hI.1 (i := 4 * p + 116) (d := p) (by omega) p0 (by omega)
    have b := rq_p1 hI.1 (i := 4 * p + 117) (d := p) (by omega) p0 (by omega)
    have c := rq_p2 hI.1 (i := 4 * p + 118) (d := p) (by omega) p0 (by omega)
    have f := rq_p3 hI.1 (i := 4 * p + 119) (d := p) (by omega) p0 (by omega)
    have s := sp.2 p p0 (by omega) p1'
    rw [show 117 + 4 * p = 4 * p + 117 by omega] at s
    exact ⟨a, ⟨b.1, s⟩, c, f⟩
theorem CXq_of (hI : INV h) (hE : EQL h) : ∃ L, CXq h (key h) (rd h 1 1) L := by
  obtain ⟨-, -, hP, -, -, -, -, ⟨k1, ⟨L, l1, l2⟩, p28, p29, -⟩⟩ := id hE
  have hq : rd h 1 1 = 5 ∨ rd h 1 1 = 32 := rQf hI.1
  have lr := LRQ_of hI k1 l1
  have kr := KR_of hI
  refine ⟨L, RF_of hI.1, hP, hq, rfl, ⟨k1.1, k1.2.1, k1.2.2.1⟩, fun d d0 d1 j hj => ?_, fun p p0 p1 j hj => ?_, l2, fun d s a hr sh d0 d1 s0 s1 a0 a1 h0 h1 => ?_⟩
  · exact fdD k1 rfl d0 d1 j hj
  · exact fdP k1 rfl p0 p1 j hj
  · have d1' : d < rd h 188 1 := d1
    have nd := rq_doors hI.1
    have fd := fdD (v1 := d) k1 rfl d0 d1'
    have f2 : rd h (rd h 1 1 + 7 + d) 2 = rd h 188 (8 * d + 4 + 1) := fd 1 (by decide)
    have f3 : rd h (rd h 1 1 + 7 + d) 3 = rd h 188 (8 * d + 4 + 2) := fd 2 (by decide)
    have f6 : rd h (rd h 1 1 + 7 + d) 6 = rd h 188 (8 * d + 4 + 5) := fd 5 (by decide)
    have r2 := rq_d1 hI.1 (i := 8 * d + 4 + 1) (d := d) (by omega) d0 (by omega)
    have r3 := rq_d2 hI.1 (i := 8 * d + 4 + 2) (d := d) (by omega) d0 (by omega)
    have r6 := rq_d5 hI.1 (i := 8 * d + 4 + 5) (d := d) (by omega) d0 (by omega)
    exact LF_in hI ⟨d0, by omega⟩ ⟨s0, s1⟩ ⟨a0, a1⟩ ⟨h0, by omega⟩ fd (by omega) (by omega) (by omega) p28 p29 lr
theorem CXq_fr (hc : CXq h K q L) (hK : KR K) (hF : RF g) (f : ∀ a i, (a = 1 ∧ i = 1) ∨ a = 6 ∨ a = 7 ∨ a = 33 ∨ a = 34 ∨ a = q ∨ a = q + 5 ∨ a = q + 6 ∨ (q + 7 ≤ a ∧ a ≤ q + 26) → rd g a i = rd h a i) : CXq g K q L := by
  obtain ⟨-, c2, c3, c4, ⟨c5, c6, c7⟩, c8, c9, ca, cb⟩ := hc
  obtain ⟨-, n1, n2, -⟩ := hK
  refine ⟨hF, PT_fr c2 (fun a i ha => f a i (by omega)), c3, (f 1 1 (by omega)).trans c4, ⟨(f q 0 (by omega)).trans c5, (f q 2 (by omega)).trans c6, (f q 4 (by omega)).trans c7⟩, fun d d0 d1 j hj => ?_, fun p p0 p1 j hj => ?_, fun s hr s0 s1 h0 h1 => stl_frs (ca s hr s0 s1 h0 h1) (f _ _ (by omega)) (fun j j0 j1 => funext (fun i => f _ _ (by omega))) (fun i => f _ _ (by omega)) (fun i => f _ _ (by omega)), fun d s a hr sh d0 d1 s0 s1 a0 a1 h0 h1 => ?_⟩
  · rw [f _ _ (by omega)]; exact c8 d d0 d1 j hj
  · rw [f _ _ (by omega)]; exact c9 p p0 p1 j hj
  · rw [show rd g (q + 7 + d) = rd h (q + 7 + d) from funext (fun i => f _ _ (by omega))]
    exact cb d s a hr sh d0 d1 s0 s1 a0 a1 h0 h1
end PL1
