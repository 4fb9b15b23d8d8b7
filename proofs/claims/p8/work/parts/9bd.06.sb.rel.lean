/-! the scene, part sb: what the law's loop keeps -/
theorem g_i {x : Int} (h : i32 x) : gV (0, -2147483648, 2147483647, 1) (.inl x) := in1 h.1 h.2 h
theorem g_z0 : gV (0, 0, 1, 1) (.inl 0) := in1 (by decide) (by decide) (by unfold i32; omega)
theorem g_z1 : gV (0, 0, 1, 1) (.inl 1) := in1 (by decide) (by decide) (by unfold i32; omega)
/-- places that hold what is kept: cells from .. to, all their entries or some -/
def kB : List (Int × Int × Bool × Int × Int) := [(1, 1, false, 1, 2), (1, 1, false, 6, 6), (1, 1, false, 8, 9), (3, 8, true, 0, 0), (10, 35, true, 0, 0), (37, 58, true, 0, 0), (60, 62, true, 0, 0), (75, 76, true, 0, 0), (103, 105, true, 0, 0), (111, 113, true, 0, 0), (119, 121, true, 0, 0), (127, 129, true, 0, 0), (134, 181, true, 0, 0), (182, 182, false, 25, 25), (182, 182, false, 28, 29), (183, 183, true, 0, 0), (187, 187, true, 0, 0), (188, 188, false, 0, 149), (189, 190, false, 0, 1099), (198, 198, false, 0, 33), (198, 198, false, 70, 1433), (199, 199, true, 0, 0)]
def inK (a i : Int) : Prop := ∃ b ∈ kB, b.1 ≤ a ∧ a ≤ b.2.1 ∧ (b.2.2.1 = true ∨ (b.2.2.2.1 ≤ i ∧ i ≤ b.2.2.2.2))
def dsj (bs : BX) : Bool := bs.all (fun x => kB.all (fun b => decide (x.2.1 < b.1) || decide (b.2.1 < x.1) || (!b.2.2.1 && (decide (x.2.2.2 < b.2.2.2.1) || decide (b.2.2.2.2 < x.2.2.1)))))
theorem dsj_ok {bs : BX} (hb : dsj bs = true) {a i : Int} (ha : inK a i) : inBx bs a i = false := by
  refine inBx_f (fun x hm q => ?_)
  obtain ⟨b, b0, b1, b2, b3⟩ := ha
  unfold dsj at hb
  have z := List.all_eq_true.mp (List.all_eq_true.mp hb x hm) b b0
  simp only [Bool.or_eq_true, Bool.and_eq_true, Bool.not_eq_true', decide_eq_true_eq] at z
  rcases z with (z | z) | ⟨z, w⟩
  · omega
  · omega
  · rcases b3 with b3 | b3
    · rw [b3] at z; cases z
    · omega
theorem inK_all {lo hi a i : Int} (hb : (lo, hi, true, 0, 0) ∈ kB) (h1 : lo ≤ a) (h2 : a ≤ hi) : inK a i := ⟨_, hb, h1, h2, Or.inl rfl⟩
theorem inK_i {lo hi l u a i : Int} (hb : (lo, hi, false, l, u) ∈ kB) (h1 : lo ≤ a) (h2 : a ≤ hi) (h3 : l ≤ i) (h4 : i ≤ u) : inK a i := ⟨_, hb, h1, h2, Or.inr ⟨h3, h4⟩⟩
/-- what isn't kept -/
theorem inK_p {a i : Int} (h : inK a i) : ((a = 1 ∧ (i = 1 ∨ i = 2 ∨ i = 6 ∨ i = 8 ∨ i = 9)) ∨ (3 ≤ a ∧ a ≤ 58) ∨ (60 ≤ a ∧ a ≤ 62) ∨ (75 ≤ a ∧ a ≤ 76) ∨ (103 ≤ a ∧ a ≤ 129) ∨ (134 ≤ a ∧ a ≤ 183) ∨ (187 ≤ a ∧ a ≤ 190) ∨ a = 198 ∨ a = 199) ∧ (a = 182 → i = 25 ∨ i = 28 ∨ i = 29) ∧ (a = 198 → (0 ≤ i ∧ i ≤ 33) ∨ (70 ≤ i ∧ i ≤ 1433)) ∧ (a = 188 → 0 ≤ i ∧ i < 150) ∧ (a = 189 ∨ a = 190 → 0 ≤ i ∧ i < 1100) := by
  obtain ⟨b, b0, b1, b2, b3⟩ := h
  unfold kB at b0
  simp only [List.mem_cons, List.not_mem_nil, or_false] at b0
  rcases b0 with rfl | rfl | rfl | rfl | rfl | rfl | rfl | rfl | rfl | rfl | rfl | rfl | rfl | rfl | rfl | rfl | rfl | rfl | rfl | rfl | rfl | rfl <;> simp only [Bool.false_eq_true, false_or, true_or] at b1 b2 b3 <;> exact ⟨by omega, by omega, by omega, by omega, by omega⟩
/-- the doors as settled -/
def QST (h : LH) : Prop := ∃ L, LWQ h (rd h 1 1) L ∧ ∀ s hr, 0 ≤ s → s ≤ 3 → 0 ≤ hr → hr ≤ 23 → stl h (rd h 1 1) L h s hr
/-- both scenes, quarters, what can be undone, marks -/
def SCR (h : LH) : Prop := QFR h ∧ QST h ∧ rd h 182 28 = -1 ∧ rd h 182 29 = -1 ∧ SR h 60 0 ∧ UN h ∧ MKS h ∧ PK h
def EQS (h : LH) : Prop := PT h ∧ rd h 4 = rd hc_556 4 ∧ rd h 187 = rd hc_556 187 ∧ rd h 1 1 + rd h 1 2 = 37 ∧ MKR h ∧ SCR h
def EQL (h : LH) : Prop := rd h 2 0 = rd h 182 2 ∧ (∀ i, 0 ≤ i → i < rd h 2 0 → rd h 3 i = rd h 183 i) ∧ EQS h
section SCc
variable {xs : Nat → Int} {xl e : Nat} {h g : LH} {Q : Option LV → LH → Prop} {q : Int}
theorem QFR_fr (hI : INV h) (hq : rd h 1 1 = q) (q5 : q = 5 ∨ q = 32) (hf : QFR h) (e1 : rd g 1 1 = rd h 1 1) (fq : ∀ a i, a = q ∨ a = q + 3 ∨ (q + 7 ≤ a ∧ a ≤ q + 26) → rd g a i = rd h a i) (f8 : ∀ i, 0 ≤ i → i < 150 → rd g 188 i = rd h 188 i) (f9 : ∀ i, 0 ≤ i → i < 1100 → rd g 189 i = rd h 189 i ∧ rd g 190 i = rd h 190 i) : QFR g := by
  obtain ⟨a1, a2, a3, a4, a5, a6, a7, a8⟩ := hf
  rw [hq] at a1 a2 a3 a4 a5 a6 a7 a8
  have d1 := rq_doors hI.1
  have d2 := rq_people hI.1
  have d6 := rG_q6 q5 hI.1
  have t1 := f8 1 (by decide) (by decide)
  have t2 := f8 2 (by decide) (by decide)
  have t6 := fq q 6 (Or.inl rfl)
  unfold QFR
  rw [e1, hq]
  refine ⟨?_, ?_, ?_, fun i j hi hj => ?_, fun i j hi hj => ?_, fun z => ?_, fun z => ?_, ?_⟩
  · rw [fq q 0 (Or.inl rfl), f8 0 (by decide) (by decide)]; exact a1
  · rw [fq q 2 (Or.inl rfl), t1]; exact a2
  · rw [fq q 4 (Or.inl rfl), t2]; exact a3
  · rw [t1] at hi
    rw [fq _ _ (by omega), f8 _ (by omega) (by omega)]
    exact a4 i j hi hj
  · rw [t2] at hi
    rw [fq _ _ (by omega), f8 _ (by omega) (by omega)]
    exact a5 i j hi hj
  · rw [t6] at z
    rw [f8 3 (by decide) (by decide)]
    exact a6 z
  · rw [t6] at z ⊢
    obtain ⟨b1, b2, b3⟩ := a7 z
    refine ⟨by rw [f8 3 (by decide) (by decide)]; exact b1, by rw [(f9 _ (by omega) (by omega)).1]; exact b2, fun i hi => ?_⟩
    rw [(f9 _ (by omega) (by omega)).1, (f9 _ (by omega) (by omega)).2, fq _ _ (Or.inr (Or.inl rfl))]
    exact b3 i hi
  · rw [t6]; exact a8
theorem QST_fr (hq : rd h 1 1 = q) (hs : QST h) (e1 : rd g 1 1 = rd h 1 1) (fq : ∀ a i, a = q ∨ a = q + 3 ∨ a = q + 5 ∨ a = q + 6 ∨ (q + 7 ≤ a ∧ a ≤ q + 26) → rd g a i = rd h a i) : QST g := by
  obtain ⟨L, a, b⟩ := hs
  rw [hq] at a b
  refine ⟨L, ?_, ?_⟩
  · rw [e1, hq]
    exact LWQ_frs a (fun a i ha => fq a i (by omega))
  · rw [e1, hq]
    exact fun s hr s0 s1 h0 h1 => stl_frs (b s hr s0 s1 h0 h1) (fq _ _ (Or.inl rfl)) (fun j j0 j1 => funext (fun i => fq _ _ (by omega))) (fun i => fq _ _ (by omega)) (fun i => fq _ _ (by omega))
theorem UN_fr (hp : 0 ≤ rd h 188 2 ∧ rd h 188 2 ≤ 6) (hu : UN h) (e2 : rd g 188 2 = rd h 188 2) (e8 : rd g 1 8 = rd h 1 8) (e9 : rd g 1 9 = rd h 1 9) (e25 : rd g 182 25 = rd h 182 25) (fs : ∀ a i, 134 ≤ a → a ≤ 181 → rd g a i = rd h a i) (fb : ∀ i, 350 ≤ i → i ≤ 1433 → rd g 198 i = rd h 198 i) : UN g := by
  obtain ⟨a, b, c, d⟩ := hu
  unfold UN
  rw [e8, e9, e25]
  exact ⟨a, b, c, fun k k0 k1 => SR_fr (d k k0 k1) (fun a i ha => fs a i (by omega) (by omega)) (fun i i0 i1 => fb i (by omega) (by omega)) e2 hp⟩
theorem MKS_fr (hp : 0 ≤ rd h 188 2 ∧ rd h 188 2 ≤ 6) (hm : MKS h) (e2 : rd g 188 2 = rd h 188 2) (f9 : ∀ i, rd g 199 i = rd h 199 i) (fs : ∀ m, 0 ≤ m → m < 4 → ∀ a i, 103 + 8 * m ≤ a → a ≤ 105 + 8 * m → rd g a i = rd h a i) (fb : ∀ i, 70 ≤ i → i ≤ 349 → rd g 198 i = rd h 198 i) : MKS g := by
  intro m m0 m1 hm'
  rw [f9] at hm'
  exact SR_fr (hm m m0 m1 hm') (fun a i ha => fs m m0 m1 a i (by omega) (by omega)) (fun i i0 i1 => fb i (by omega) (by omega)) e2 hp
theorem inK_m {m a i : Int} (m0 : 0 ≤ m) (m1 : m < 4) (h1 : 103 + 8 * m ≤ a) (h2 : a ≤ 105 + 8 * m) : inK a i := by
  rcases (show m = 0 ∨ m = 1 ∨ m = 2 ∨ m = 3 by omega) with rfl | rfl | rfl | rfl
  · exact inK_all (lo := 103) (hi := 105) (by decide) (by omega) (by omega)
  · exact inK_all (lo := 111) (hi := 113) (by decide) (by omega) (by omega)
  · exact inK_all (lo := 119) (hi := 121) (by decide) (by omega) (by omega)
  · exact inK_all (lo := 127) (hi := 129) (by decide) (by omega) (by omega)
theorem inK_q {a i : Int} (q5 : q = 5 ∨ q = 32) (h : a = q ∨ a = q + 1 ∨ a = q + 2 ∨ a = q + 3 ∨ a = q + 5 ∨ a = q + 6 ∨ (q + 7 ≤ a ∧ a ≤ q + 26)) : inK a i := by
  by_cases c1 : a ≤ 8
  · exact inK_all (lo := 3) (hi := 8) (by decide) (by omega) (by omega)
  · by_cases c2 : a ≤ 35
    · exact inK_all (lo := 10) (hi := 35) (by decide) (by omega) (by omega)
    · exact inK_all (lo := 37) (hi := 58) (by decide) (by omega) (by omega)
/-- of the quarters the current one must be left alone -/
def kq (q a : Int) : Prop := a = 6 ∨ a = 7 ∨ a = 33 ∨ a = 34 ∨ a < 5 ∨ 58 < a ∨ (q ≤ a ∧ a ≤ q + 26)
theorem EQS_fr (hI : INV h) (hE : EQS h) (f : ∀ a i, inK a i → a ≠ 3 → a ≠ 183 → kq (rd h 1 1) a → rd g a i = rd h a i) : EQS g := by
  obtain ⟨p, w, v, s, m, ⟨k1, k2, k3, k4, k5, k6, k7, k8⟩⟩ := hE
  have hq : rd h 1 1 = 5 ∨ rd h 1 1 = 32 := rQf hI.1
  have hp := rq_people hI.1
  have fl : ∀ a i, inK a i → a ≠ 3 → a ≠ 183 → (a < 5 ∨ 58 < a) → rd g a i = rd h a i := fun a i ha n1 n2 hb => f a i ha n1 n2 (by unfold kq; omega)
  have e11 : rd g 1 1 = rd h 1 1 := fl 1 1 (inK_i (lo := 1) (hi := 1) (l := 1) (u := 2) (by decide) (by decide) (by decide) (by decide) (by decide)) (by decide) (by decide) (by decide)
  have e12 : rd g 1 2 = rd h 1 2 := fl 1 2 (inK_i (lo := 1) (hi := 1) (l := 1) (u := 2) (by decide) (by decide) (by decide) (by decide) (by decide)) (by decide) (by decide) (by decide)
  have e16 : rd g 1 6 = rd h 1 6 := fl 1 6 (inK_i (lo := 1) (hi := 1) (l := 6) (u := 6) (by decide) (by decide) (by decide) (by decide) (by decide)) (by decide) (by decide) (by decide)
  have e18 : rd g 1 8 = rd h 1 8 := fl 1 8 (inK_i (lo := 1) (hi := 1) (l := 8) (u := 9) (by decide) (by decide) (by decide) (by decide) (by decide)) (by decide) (by decide) (by decide)
  have e19 : rd g 1 9 = rd h 1 9 := fl 1 9 (inK_i (lo := 1) (hi := 1) (l := 8) (u := 9) (by decide) (by decide) (by decide) (by decide) (by decide)) (by decide) (by decide) (by decide)
  have e25 : rd g 182 25 = rd h 182 25 := fl 182 25 (inK_i (lo := 182) (hi := 182) (l := 25) (u := 25) (by decide) (by decide) (by decide) (by decide) (by decide)) (by decide) (by decide) (by decide)
  have e28 : rd g 182 28 = rd h 182 28 := fl 182 28 (inK_i (lo := 182) (hi := 182) (l := 28) (u := 29) (by decide) (by decide) (by decide) (by decide) (by decide)) (by decide) (by decide) (by decide)
  have e29 : rd g 182 29 = rd h 182 29 := fl 182 29 (inK_i (lo := 182) (hi := 182) (l := 28) (u := 29) (by decide) (by decide) (by decide) (by decide) (by decide)) (by decide) (by decide) (by decide)
  have f188 : ∀ i, 0 ≤ i → i < 150 → rd g 188 i = rd h 188 i := fun i i0 i1 => fl 188 i (inK_i (lo := 188) (hi := 188) (l := 0) (u := 149) (by decide) (by decide) (by decide) (by omega) (by omega)) (by decide) (by decide) (by decide)
  have f189 : ∀ i, 0 ≤ i → i < 1100 → rd g 189 i = rd h 189 i ∧ rd g 190 i = rd h 190 i := fun i i0 i1 => ⟨fl 189 i (inK_i (lo := 189) (hi := 190) (l := 0) (u := 1099) (by decide) (by decide) (by decide) (by omega) (by omega)) (by decide) (by decide) (by decide), fl 190 i (inK_i (lo := 189) (hi := 190) (l := 0) (u := 1099) (by decide) (by decide) (by decide) (by omega) (by omega)) (by decide) (by decide) (by decide)⟩
  have f198 : ∀ i, 0 ≤ i → i ≤ 33 → rd g 198 i = rd h 198 i := fun i i0 i1 => fl 198 i (inK_i (lo := 198) (hi := 198) (l := 0) (u := 33) (by decide) (by decide) (by decide) i0 i1) (by decide) (by decide) (by decide)
  have f198b : ∀ i, 70 ≤ i → i ≤ 1433 → rd g 198 i = rd h 198 i := fun i i0 i1 => fl 198 i (inK_i (lo := 198) (hi := 198) (l := 70) (u := 1433) (by decide) (by decide) (by decide) i0 i1) (by decide) (by decide) (by decide)
  have fpq : ∀ a i, a = rd h 1 1 ∨ a = rd h 1 1 + 3 ∨ a = rd h 1 1 + 5 ∨ a = rd h 1 1 + 6 ∨ (rd h 1 1 + 7 ≤ a ∧ a ≤ rd h 1 1 + 26) → rd g a i = rd h a i := fun a i ha => f a i (inK_q hq (by omega)) (by omega) (by omega) (by unfold kq; omega)
  have fpt : ∀ a i, (a = 6 ∨ a = 7 ∨ a = 33 ∨ a = 34) → rd g a i = rd h a i := fun a i ha => f a i (by
    by_cases c : a ≤ 8
    · exact inK_all (lo := 3) (hi := 8) (by decide) (by omega) (by omega)
    · exact inK_all (lo := 10) (hi := 35) (by decide) (by omega) (by omega)) (by omega) (by omega) (by unfold kq; omega)
  have f60 : ∀ a i, (a = 60 ∨ a = 60 + 1 ∨ a = 60 + 2) → rd g a i = rd h a i := fun a i ha => fl a i (inK_all (lo := 60) (hi := 62) (by decide) (by omega) (by omega)) (by omega) (by omega) (by omega)
  have fpa : ∀ a i, 134 ≤ a → a ≤ 181 → rd g a i = rd h a i := fun a i h1 h2 => fl a i (inK_all (lo := 134) (hi := 181) (by decide) h1 h2) (by omega) (by omega) (by omega)
  have fmm : ∀ m, 0 ≤ m → m < 4 → ∀ a i, 103 + 8 * m ≤ a → a ≤ 105 + 8 * m → rd g a i = rd h a i := fun m m0 m1 a i h1 h2 => fl a i (inK_m m0 m1 h1 h2) (by omega) (by omega) (by omega)
  have f199 : ∀ i, rd g 199 i = rd h 199 i := fun i => fl 199 i (inK_all (lo := 199) (hi := 199) (by decide) (by decide) (by decide)) (by decide) (by decide) (by decide)
  have f75 : ∀ i, rd g 75 i = rd h 75 i := fun i => fl 75 i (inK_all (lo := 75) (hi := 76) (by decide) (by decide) (by decide)) (by decide) (by decide) (by decide)
  have f76 : ∀ i, rd g 76 i = rd h 76 i := fun i => fl 76 i (inK_all (lo := 75) (hi := 76) (by decide) (by decide) (by decide)) (by decide) (by decide) (by decide)
  have f4 : ∀ i, rd g 4 i = rd h 4 i := fun i => fl 4 i (inK_all (lo := 3) (hi := 8) (by decide) (by decide) (by decide)) (by decide) (by decide) (by decide)
  have f187 : ∀ i, rd g 187 i = rd h 187 i := fun i => fl 187 i (inK_all (lo := 187) (hi := 187) (by decide) (by decide) (by decide)) (by decide) (by decide) (by decide)
  clear f fl
  have t2 := f188 2 (by decide) (by decide)
  refine ⟨PT_fr p fpt, ?_, ?_, by rw [e11, e12]; exact s, MKR_fr m e16 (fun a i ha => ?_), QFR_fr hI rfl hq k1 e11 (fun a i ha => fpq a i (by omega)) f188 f189, QST_fr rfl k2 e11 fpq, by rw [e28]; exact k3, by rw [e29]; exact k4, SR_fr k5 f60 (fun i i0 i1 => f198 i i0 (by omega)) t2 hp, UN_fr hp k6 t2 e18 e19 e25 fpa (fun i i0 i1 => f198b i (by omega) i1), MKS_fr hp k7 t2 f199 fmm (fun i i0 i1 => f198b i i0 (by omega)), fun i i0 i1 => by rw [f76]; exact k8 i i0 i1⟩
  · rw [← w]; exact funext f4
  · rw [← v]; exact funext f187
  · rcases ha with rfl | rfl
    · exact f75 i
    · exact f199 i
theorem EQL_fr (hI : INV h) (hE : EQL h) (e1 : rd g 2 0 = rd h 2 0) (e2 : rd g 182 2 = rd h 182 2) (f : ∀ a i, inK a i → rd g a i = rd h a i) : EQL g := by
  refine ⟨by rw [e1, e2]; exact hE.1, fun i i0 i1 => ?_, EQS_fr hI hE.2.2 (fun a i ha _ _ _ => f a i ha)⟩
  rw [e1] at i1
  rw [f 3 i (inK_all (lo := 3) (hi := 8) (by decide) (by decide) (by decide)), f 183 i (inK_all (lo := 183) (hi := 183) (by decide) (by decide) (by decide))]
  exact hE.2.1 i i0 i1
theorem EQL_0 (e1 : rd g 2 0 = 0) (e2 : rd g 182 2 = 0) (p : EQS g) : EQL g := by
  refine ⟨by rw [e1, e2], fun i i0 i1 => ?_, p⟩
  rw [e1] at i1
  omega
theorem root_i {S : SM} {a : AV} {p : PV} {l : List (Nat × AV)} {f : FA} (ok : SMok xs xl INV S) {M : LM_M} {as : List LV} {ls0 : LL} (hM : MTB S.1 = some M) (he : S.2.1 ≤ e) (hI : INV h) (ha : gAr S.2.2.1 as) (hf : S.2.2.2.2.2 = []) (hl : (lent as).length ≤ M.2.2.1) (hp : lpad M.2.2.1 (lent as) = ls0) (hc : S.2.2.2.1 = [(some a, p, l, f)]) (hk : a.1 = 0) (b1 : inBx S.2.2.2.2.1 2 0 = false) (b2 : inBx S.2.2.2.2.1 182 2 = false) (b3 : dsj S.2.2.2.2.1 = true) (hE : EQL h) (k : ∀ r g, INV g → EQL g → Q (some (.inl r)) g) : Rn xs xl e M 0 ls0 [] h Q :=
  use_sm ok hM he hI ha hf hl hp (fun r g gI gf gq => by
    rw [hc] at gq
    obtain ⟨x, rfl, _⟩ := res_int gq hk
    exact k x g gI (EQL_fr hI hE (gf 2 0 b1) (gf 182 2 b2) (fun a i ha => gf a i (dsj_ok b3 ha))))
theorem root_b {S : SM} {a b : AV} {p p' : PV} {l l' : List (Nat × AV)} {f f' : FA} (ok : SMok xs xl INV S) {M : LM_M} {as : List LV} {ls0 : LL} (hM : MTB S.1 = some M) (he : S.2.1 ≤ e) (hI : INV h) (ha : gAr S.2.2.1 as) (hf : S.2.2.2.2.2 = []) (hl : (lent as).length ≤ M.2.2.1) (hp : lpad M.2.2.1 (lent as) = ls0) (hc : S.2.2.2.1 = [(some a, p, l, f), (some b, p', l', f')]) (hk : a.1 = 0) (hk' : b.1 = 0) (b1 : inBx S.2.2.2.2.1 2 0 = false) (b2 : inBx S.2.2.2.2.1 182 2 = false) (b3 : dsj S.2.2.2.2.1 = true) (hE : EQL h) (k : ∀ r g, INV g → EQL g → Q (some (.inl r)) g) : Rn xs xl e M 0 ls0 [] h Q :=
  use_sm ok hM he hI ha hf hl hp (fun r g gI gf gq => by
    rw [hc] at gq
    obtain ⟨x, rfl⟩ := res_bool gq hk hk'
    exact k x g gI (EQL_fr hI hE (gf 2 0 b1) (gf 182 2 b2) (fun a i ha => gf a i (dsj_ok b3 ha))))
theorem root_0 {S : SM} {a : AV} {p : PV} {l : List (Nat × AV)} (ok : SMok xs xl INV S) {M : LM_M} {as : List LV} {ls0 : LL} (hM : MTB S.1 = some M) (he : S.2.1 ≤ e) (hI : INV h) (ha : gAr S.2.2.1 as) (hf : S.2.2.2.2.2 = []) (hl : (lent as).length ≤ M.2.2.1) (hp : lpad M.2.2.1 (lent as) = ls0) (hc : S.2.2.2.1 = [(some a, p, l, [(2, 0, (0, 0, 0, 0))])]) (hk : a.1 = 0) (k : ∀ r g, INV g → rd g 2 0 = 0 → frm S.2.2.2.2.1 h g → Q (some (.inl r)) g) : Rn xs xl e M 0 ls0 [] h Q :=
  use_sm ok hM he hI ha hf hl hp (fun r g gI gf gq => by
    rw [hc] at gq
    have gq2 := gq
    obtain ⟨x, rfl, _⟩ := res_int gq hk
    refine k x g gI ?_ gf
    obtain ⟨c, hc, -, -, q3⟩ := gq2
    rw [List.mem_singleton] at hc
    subst hc
    have v := q3 _ (List.mem_singleton.mpr rfl)
    have e : hval g 2 0 = .inl (rd g 2 0) := by
      unfold hval
      rw [show lkd 2 0 = 0 by decide +kernel]
      rfl
    rw [e] at v
    exact inV_c v.2.2 rfl)
end SCc
