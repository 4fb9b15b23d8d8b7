/-! walks, part w5: what the law's loop keeps, and each call under it -/
section WF5
variable {xs : Nat → Int} {xl e : Nat} {h g : LH} {Q : Option LV → LH → Prop} {v1 v2 v3 r : Int}
theorem g_i {x : Int} (h : i32 x) : gV (0, -2147483648, 2147483647, 1) (.inl x) := in1 h.1 h.2 h
theorem g_z0 : gV (0, 0, 1, 1) (.inl 0) := in1 (by decide) (by decide) (by unfold i32; omega)
theorem g_z1 : gV (0, 0, 1, 1) (.inl 1) := in1 (by decide) (by decide) (by unfold i32; omega)
def kc (a : Int) : Prop := a = 3 ∨ a = 4 ∨ a = 6 ∨ a = 7 ∨ a = 33 ∨ a = 34 ∨ a = 75 ∨ a = 183 ∨ a = 187 ∨ a = 199
/-- places that hold what is kept -/
def kl (a i : Int) : Prop := kc a ∨ (a = 1 ∧ (i = 1 ∨ i = 2 ∨ i = 6)) ∨ (a = 5 ∧ i = 0) ∨ (a = 32 ∧ i = 0) ∨ (a = 59 ∧ i = 4) ∨ ((a = 102 ∨ a = 110 ∨ a = 118 ∨ a = 126) ∧ i = 4) ∨ (a = 188 ∧ i = 0) ∨ (a = 198 ∧ ms i)
def klq (q a i : Int) : Prop := kc a ∨ (a = 1 ∧ (i = 1 ∨ i = 2 ∨ i = 6)) ∨ (a = q ∧ i = 0) ∨ (a = 59 ∧ i = 4) ∨ ((a = 102 ∨ a = 110 ∨ a = 118 ∨ a = 126) ∧ i = 4) ∨ (a = 188 ∧ i = 0) ∨ (a = 198 ∧ ms i)
def KF (h g : LH) : Prop := ∀ a i, klq (rd h 1 1) a i → rd g a i = rd h a i
theorem kl_of {q a i : Int} (hq : q = 5 ∨ q = 32) (h : klq q a i) : kl a i := by
  unfold klq at h
  unfold kl
  rcases h with h | h | h | h
  · exact Or.inl h
  · exact Or.inr (Or.inl h)
  · rcases hq with rfl | rfl
    · exact Or.inr (Or.inr (Or.inl h))
    · exact Or.inr (Or.inr (Or.inr (Or.inl h)))
  · exact Or.inr (Or.inr (Or.inr (Or.inr h)))
theorem kq_c {q a i : Int} (h : kc a) : klq q a i := Or.inl h
theorem kq_11 {q : Int} : klq q 1 1 := Or.inr (Or.inl ⟨rfl, Or.inl rfl⟩)
theorem kq_12 {q : Int} : klq q 1 2 := Or.inr (Or.inl ⟨rfl, Or.inr (Or.inl rfl)⟩)
theorem kq_16 {q : Int} : klq q 1 6 := Or.inr (Or.inl ⟨rfl, Or.inr (Or.inr rfl)⟩)
theorem kq_q {q : Int} : klq q q 0 := Or.inr (Or.inr (Or.inl ⟨rfl, rfl⟩))
theorem kq_59 {q : Int} : klq q 59 4 := Or.inr (Or.inr (Or.inr (Or.inl ⟨rfl, rfl⟩)))
theorem kq_mm {q m : Int} (h0 : 0 ≤ m) (h1 : m < 4) : klq q (102 + 8 * m) 4 := Or.inr (Or.inr (Or.inr (Or.inr (Or.inl ⟨by omega, rfl⟩))))
theorem kq_188 {q : Int} : klq q 188 0 := Or.inr (Or.inr (Or.inr (Or.inr (Or.inr (Or.inl ⟨rfl, rfl⟩)))))
theorem kq_34 {q : Int} : klq q 198 34 := Or.inr (Or.inr (Or.inr (Or.inr (Or.inr (Or.inr ⟨rfl, Or.inl rfl⟩)))))
theorem kq_m {q m : Int} (h0 : 0 ≤ m) (h1 : m < 4) : klq q 198 (70 * m + 104) := Or.inr (Or.inr (Or.inr (Or.inr (Or.inr (Or.inr ⟨rfl, by unfold ms; omega⟩)))))
theorem kc_p {a : Int} (h : a = 6 ∨ a = 7 ∨ a = 33 ∨ a = 34) : kc a := by unfold kc; omega
theorem kc_k {a : Int} (h : a = 75 ∨ a = 199) : kc a := by unfold kc; omega
theorem kc_3 : kc 3 := Or.inl rfl
theorem kc_4 : kc 4 := Or.inr (Or.inl rfl)
theorem kc_183 : kc 183 := by unfold kc; omega
theorem kc_187 : kc 187 := by unfold kc; omega
theorem kc_199 : kc 199 := by unfold kc; omega
theorem kc_75 : kc 75 := by unfold kc; omega
theorem kc_lo {a : Int} (h : kc a) (h1 : a ≠ 183) (h2 : a ≠ 187) (h3 : a ≠ 199) : a < 182 := by unfold kc at h; omega
theorem kc_n {a i : Int} (h : kc a) : ¬ (a = 59 ∧ i = 4) ∧ ¬ (a = 198 ∧ i = 34) := by unfold kc at h; omega
def kcb (bs : BX) : Bool := bs.all (fun b => ([3, 4, 6, 7, 33, 34, 75, 183, 187, 199] : List Int).all (fun c => !(decide (b.1 ≤ c) && decide (c ≤ b.2.1))))
def rcb (bs : BX) (L : List (Int × Int)) : Bool := bs.all (fun b => L.all (fun c => !(decide (b.1 ≤ c.1) && decide (c.1 ≤ b.2.1) && decide (b.2.2.1 ≤ c.2) && decide (c.2 ≤ b.2.2.2))))
theorem kc_bx {bs : BX} (hb : kcb bs = true) {a i : Int} (ha : kc a) : inBx bs a i = false := by
  refine inBx_f (fun b hm q => ?_)
  unfold kcb at hb
  have z := List.all_eq_true.mp hb b hm
  rw [List.all_eq_true] at z
  have m : a ∈ ([3, 4, 6, 7, 33, 34, 75, 183, 187, 199] : List Int) := by
    unfold kc at ha
    simp only [List.mem_cons, List.not_mem_nil, or_false]
    exact ha
  have y := z a m
  rw [decide_eq_true q.1, decide_eq_true q.2.1] at y
  cases y
theorem rc_bx {bs : BX} {L : List (Int × Int)} (hb : rcb bs L = true) {a i : Int} (ha : (a, i) ∈ L) : inBx bs a i = false := by
  refine inBx_f (fun b hm q => ?_)
  unfold rcb at hb
  have z := List.all_eq_true.mp hb b hm
  rw [List.all_eq_true] at z
  have y := z (a, i) ha
  simp only [Bool.not_eq_true', Bool.and_eq_false_iff, decide_eq_false_iff_not] at y
  omega
/-- places of the class; of the reference -/
def PLc : List (Int × Int) := [(1, 1), (1, 2), (1, 6), (5, 0), (32, 0), (59, 4), (102, 4), (110, 4), (118, 4), (126, 4)]
def PLr : List (Int × Int) := [(188, 0), (198, 34), (198, 104), (198, 174), (198, 244), (198, 314)]
theorem kl_mem {a i : Int} (ha : kl a i) : kc a ∨ (a, i) ∈ PLc ∨ (a, i) ∈ PLr := by
  unfold kl ms at ha
  rcases ha with h | ⟨rfl, rfl | rfl | rfl⟩ | ⟨rfl, rfl⟩ | ⟨rfl, rfl⟩ | ⟨rfl, rfl⟩ | ⟨rfl | rfl | rfl | rfl, rfl⟩ | ⟨rfl, rfl⟩ | ⟨rfl, rfl | rfl | rfl | rfl | rfl⟩
  · exact Or.inl h
  all_goals first | exact Or.inr (Or.inl (by decide)) | exact Or.inr (Or.inr (by decide))
theorem kl_bx {bs : BX} (h1 : kcb bs = true) (h2 : rcb bs PLc = true) (h3 : rcb bs PLr = true) {a i : Int} (ha : kl a i) : inBx bs a i = false := by
  rcases kl_mem ha with q | q | q
  · exact kc_bx h1 q
  · exact rc_bx h2 q
  · exact rc_bx h3 q
theorem plc_9 {a i : Int} (q : (a, i) ∈ PLc) (hn : ¬ (a = 59 ∧ i = 4)) : (a, i) ∈ ([(1, 1), (1, 2), (1, 6), (5, 0), (32, 0), (102, 4), (110, 4), (118, 4), (126, 4)] : List (Int × Int)) := by
  unfold PLc at q
  simp only [List.mem_cons, List.not_mem_nil, or_false, Prod.mk.injEq] at q
  rcases q with ⟨rfl, rfl⟩ | ⟨rfl, rfl⟩ | ⟨rfl, rfl⟩ | ⟨rfl, rfl⟩ | ⟨rfl, rfl⟩ | ⟨rfl, rfl⟩ | ⟨rfl, rfl⟩ | ⟨rfl, rfl⟩ | ⟨rfl, rfl⟩ | ⟨rfl, rfl⟩
  all_goals first | decide | exact absurd ⟨rfl, rfl⟩ hn
theorem plr_5 {a i : Int} (q : (a, i) ∈ PLr) (hn : ¬ (a = 198 ∧ i = 34)) : (a, i) ∈ ([(188, 0), (198, 104), (198, 174), (198, 244), (198, 314)] : List (Int × Int)) := by
  unfold PLr at q
  simp only [List.mem_cons, List.not_mem_nil, or_false, Prod.mk.injEq] at q
  rcases q with ⟨rfl, rfl⟩ | ⟨rfl, rfl⟩ | ⟨rfl, rfl⟩ | ⟨rfl, rfl⟩ | ⟨rfl, rfl⟩ | ⟨rfl, rfl⟩
  all_goals first | decide | exact absurd ⟨rfl, rfl⟩ hn
/-- rooms and walks -/
def WKR (h : LH) : Prop := rd h (rd h 1 1) 0 = rd h 188 0 ∧ rd h 59 4 = rd h 198 34 ∧ ∀ m, 0 ≤ m → m < 4 → rd h 199 m ≠ 0 → rd h (102 + 8 * m) 4 = rd h 198 (70 * m + 104)
def EQW (h : LH) : Prop := PT h ∧ rd h 4 = rd hc_556 4 ∧ rd h 187 = rd hc_556 187 ∧ rd h 1 1 + rd h 1 2 = 37 ∧ MKR h ∧ WKR h
def EQL (h : LH) : Prop := rd h 2 0 = rd h 182 2 ∧ (∀ i, 0 ≤ i → i < rd h 2 0 → rd h 3 i = rd h 183 i) ∧ EQW h
theorem EQW_fr (hq : rd h 1 1 = 5 ∨ rd h 1 1 = 32) (hE : EQW h) (f : ∀ a i, a ≠ 3 → a ≠ 183 → klq (rd h 1 1) a i → rd g a i = rd h a i) : EQW g := by
  obtain ⟨p, w, v, s, m, ⟨k1, k2, k3⟩⟩ := hE
  have e11 : rd g 1 1 = rd h 1 1 := f 1 1 (by decide) (by decide) kq_11
  have e12 : rd g 1 2 = rd h 1 2 := f 1 2 (by decide) (by decide) kq_12
  have e16 : rd g 1 6 = rd h 1 6 := f 1 6 (by decide) (by decide) kq_16
  have eq0 : rd g (rd h 1 1) 0 = rd h (rd h 1 1) 0 := f _ 0 (by omega) (by omega) kq_q
  have er : rd g 188 0 = rd h 188 0 := f 188 0 (by decide) (by decide) kq_188
  have ew : rd g 59 4 = rd h 59 4 := f 59 4 (by decide) (by decide) kq_59
  have e34 : rd g 198 34 = rd h 198 34 := f 198 34 (by decide) (by decide) kq_34
  have eC : ∀ a i, kc a → a ≠ 3 → a ≠ 183 → rd g a i = rd h a i := fun a i ha h1 h2 => f a i h1 h2 (kq_c ha)
  have em : ∀ m, 0 ≤ m → m < 4 → rd g (102 + 8 * m) 4 = rd h (102 + 8 * m) 4 ∧ rd g 198 (70 * m + 104) = rd h 198 (70 * m + 104) := fun m h0 h1 => ⟨f _ 4 (by omega) (by omega) (kq_mm h0 h1), f 198 _ (by decide) (by decide) (kq_m h0 h1)⟩
  clear f
  refine ⟨PT_fr p (fun a i ha => eC a i (kc_p ha) (by omega) (by omega)), ?_, ?_, ?_, MKR_fr m e16 (fun a i ha => eC a i (kc_k ha) (by omega) (by omega)), ?_, ?_, fun m h0 h1 hm => ?_⟩
  · rw [← w]; funext i; exact eC 4 i kc_4 (by decide) (by decide)
  · rw [← v]; funext i; exact eC 187 i kc_187 (by decide) (by decide)
  · rw [e11, e12]; exact s
  · rw [e11, eq0, er]; exact k1
  · rw [ew, e34]; exact k2
  · rw [eC 199 m kc_199 (by decide) (by decide)] at hm
    rw [(em m h0 h1).1, (em m h0 h1).2]
    exact k3 m h0 h1 hm
theorem EQL_fr (hI : INV h) (hE : EQL h) (e1 : rd g 2 0 = rd h 2 0) (e2 : rd g 182 2 = rd h 182 2) (f : KF h g) : EQL g := by
  refine ⟨by rw [e1, e2]; exact hE.1, fun i i0 i1 => ?_, EQW_fr (rQf hI.1) hE.2.2 (fun a i _ _ ha => f a i ha)⟩
  rw [e1] at i1
  rw [f 3 i (kq_c kc_3), f 183 i (kq_c kc_183)]
  exact hE.2.1 i i0 i1
theorem EQL_0 (e1 : rd g 2 0 = 0) (e2 : rd g 182 2 = 0) (p : EQW g) : EQL g := by
  refine ⟨by rw [e1, e2], fun i i0 i1 => ?_, p⟩
  rw [e1] at i1
  omega
theorem root_i {S : SM} {a : AV} {p : PV} {l : List (Nat × AV)} {f : FA} (ok : SMok xs xl INV S) {M : LM_M} {as : List LV} {ls0 : LL} (hM : MTB S.1 = some M) (he : S.2.1 ≤ e) (hI : INV h) (ha : gAr S.2.2.1 as) (hf : S.2.2.2.2.2 = []) (hl : (lent as).length ≤ M.2.2.1) (hp : lpad M.2.2.1 (lent as) = ls0) (hc : S.2.2.2.1 = [(some a, p, l, f)]) (hk : a.1 = 0) (b1 : inBx S.2.2.2.2.1 2 0 = false) (b2 : inBx S.2.2.2.2.1 182 2 = false) (b3 : kcb S.2.2.2.2.1 = true) (b4 : rcb S.2.2.2.2.1 PLc = true) (b5 : rcb S.2.2.2.2.1 PLr = true) (hE : EQL h) (k : ∀ r g, INV g → EQL g → Q (some (.inl r)) g) : Rn xs xl e M 0 ls0 [] h Q :=
  use_sm ok hM he hI ha hf hl hp (fun r g gI gf gq => by
    rw [hc] at gq
    obtain ⟨x, rfl, _⟩ := res_int gq hk
    exact k x g gI (EQL_fr hI hE (gf 2 0 b1) (gf 182 2 b2) (fun a i ha => gf a i (kl_bx b3 b4 b5 (kl_of (rQf hI.1) ha)))))
theorem root_b {S : SM} {a b : AV} {p p' : PV} {l l' : List (Nat × AV)} {f f' : FA} (ok : SMok xs xl INV S) {M : LM_M} {as : List LV} {ls0 : LL} (hM : MTB S.1 = some M) (he : S.2.1 ≤ e) (hI : INV h) (ha : gAr S.2.2.1 as) (hf : S.2.2.2.2.2 = []) (hl : (lent as).length ≤ M.2.2.1) (hp : lpad M.2.2.1 (lent as) = ls0) (hc : S.2.2.2.1 = [(some a, p, l, f), (some b, p', l', f')]) (hk : a.1 = 0) (hk' : b.1 = 0) (b1 : inBx S.2.2.2.2.1 2 0 = false) (b2 : inBx S.2.2.2.2.1 182 2 = false) (b3 : kcb S.2.2.2.2.1 = true) (b4 : rcb S.2.2.2.2.1 PLc = true) (b5 : rcb S.2.2.2.2.1 PLr = true) (hE : EQL h) (k : ∀ r g, INV g → EQL g → Q (some (.inl r)) g) : Rn xs xl e M 0 ls0 [] h Q :=
  use_sm ok hM he hI ha hf hl hp (fun r g gI gf gq => by
    rw [hc] at gq
    obtain ⟨x, rfl⟩ := res_bool gq hk hk'
    exact k x g gI (EQL_fr hI hE (gf 2 0 b1) (gf 182 2 b2) (fun a i ha => gf a i (kl_bx b3 b4 b5 (kl_of (rQf hI.1) ha)))))
theorem root_0 {S : SM} {a : AV} {p : PV} {l : List (Nat × AV)} (ok : SMok xs xl INV S) {M : LM_M} {as : List LV} {ls0 : LL} (hM : MTB S.1 = some M) (he : S.2.1 ≤ e) (hI : INV h) (ha : gAr S.2.2.1 as) (hf : S.2.2.2.2.2 = []) (hl : (lent as).length ≤ M.2.2.1) (hp : lpad M.2.2.1 (lent as) = ls0) (hc : S.2.2.2.1 = [(some a, p, l, [(2, 0, (0, 0, 0, 0))])]) (hk : a.1 = 0) (k : ∀ r g, INV g → rd g 2 0 = 0 → frm S.2.2.2.2.1 h g → Q (some (.inl r)) g) : Rn xs xl e M 0 ls0 [] h Q :=
  use_sm ok hM he hI ha hf hl hp (fun r g gI gf gq => by
    rw [hc] at gq
    have gq2 := gq
    obtain ⟨x, rfl, _⟩ := res_int gq hk
    refine k x g gI ?_ gf
    obtain ⟨c, hc, -, -, q3⟩ := gq2
    rw [List.mem_singleton] at hc
    subst hc
    have v := q3 _ (List.mem_singleton.mpr rfl)
    have e : hval g 2 0 = .inl (rd g 2 0) := by
      unfold hval
      rw [show lkd 2 0 = 0 by decide +kernel]
      rfl
    rw [e] at v
    exact inV_c v.2.2 rfl)
/-- a place that is kept is not one of the spare quarter -/
theorem kq_sp (hq : rd h 1 1 = 5 ∨ rd h 1 1 = 32) (sq : rd h 1 1 + rd h 1 2 = 37) (gf : ∀ a i, kc a → rd g a i = rd h a i) (a1 : ∀ a i, a ≠ 2 → ¬ (rd h 1 2 ≤ a ∧ a ≤ rd h 1 2 + 26) → rd g a i = rd h a i) {a i : Int} (ha : klq (rd h 1 1) a i) : rd g a i = rd h a i := by
  rcases ha with ha | ⟨rfl, -⟩ | ⟨rfl, -⟩ | ⟨rfl, -⟩ | ⟨ha, -⟩ | ⟨rfl, -⟩ | ⟨rfl, -⟩
  · exact gf a i ha
  · exact a1 1 i (by decide) (by omega)
  · exact a1 _ i (by omega) (by omega)
  · exact a1 59 i (by decide) (by omega)
  · exact a1 a i (by omega) (by omega)
  · exact a1 188 i (by decide) (by omega)
  · exact a1 198 i (by decide) (by omega)
theorem kq_pq {q a i : Int} (hq : q = 5 ∨ q = 32) (ha : klq q a i) : pq a i := by
  unfold pq
  rcases ha with ha | ⟨rfl, -⟩ | ⟨rfl, -⟩ | ⟨rfl, -⟩ | ⟨ha, -⟩ | ⟨rfl, h2⟩ | ⟨rfl, -⟩
  · unfold kc at ha; omega
  · omega
  · omega
  · omega
  · omega
  · omega
  · omega
/-- the text that lies on the tapes, read as a quarter -/
def txQ (h : LH) : QY := qF (tO (rd h 3) (rd h 2 0)) (tV (rd h 3) (rd h 2 0) 37) (tW (rd h 3) (rd h 2 0) 37 (rd hc_556 187)) (tP (rd h 3) (rd h 2 0))
def txR (h : LH) : Int := qR (tV (rd h 3) (rd h 2 0) 37) (tW (rd h 3) (rd h 2 0) 37 (rd hc_556 187)) (tP (rd h 3) (rd h 2 0))
/-- between both quarters -/
def QJ (h g : LH) : Prop := rd g 2 0 = 0 ∧ rd g 182 2 = rd h 182 2 ∧ (∀ a i, kc a → rd g a i = rd h a i) ∧ (∀ a i, (a, i) ∈ PLr → rd g a i = rd h a i) ∧ ((txQ h).1.1 ≠ 0 → KF h g) ∧ ((txQ h).1.1 = 0 → rd g 1 1 = rd h 1 2 ∧ rd g 1 2 = rd h 1 1 ∧ rd g (rd h 1 2) 0 = txR h ∧ rd g 59 4 = 0 ∧ rd g 1 6 = 0)
theorem E_quarterJ (he : 42 ≤ e) (hI : INV h) (hE : EQL h) (k : ∀ g, INV g → QJ h g → Q (some (.inl (txQ h).1.1)) g) : Rn xs xl e mm_OneSided_quarter 0 [some (.inr (.inr 1)), none, none] [] h Q := by
  have n0 := rG_2_0 hI.1
  obtain ⟨-, -, hP, hW4, hV, sq, hM, hK⟩ := id hE
  have same : qF (tO (rd h 3) (rd h 2 0)) (tV (rd h 3) (rd h 2 0) 32) (tW (rd h 3) (rd h 2 0) 32 (rd hc_556 4)) (tP (rd h 3) (rd h 2 0)) = txQ h := qF_same n0.2 n0.1 sameW0
  have A : Rn xs xl e mm_OneSided_quarter 0 [some (.inr (.inr 1)), none, none] [] h (fun r g => r = some (.inl (txQ h).1.1) ∧ ((txQ h).1.1 ≠ 0 → ∀ a i, a ≠ 2 → ¬ (rd h 1 2 ≤ a ∧ a ≤ rd h 1 2 + 26) → rd g a i = rd h a i) ∧ ((txQ h).1.1 = 0 → rd g 1 1 = rd h 1 2 ∧ rd g 1 2 = rd h 1 1 ∧ rd g (rd h 1 2) 0 = txR h ∧ rd g 59 4 = 0 ∧ rd g 1 6 = 0)) := by
    refine E_quarterW he hI hP ⟨rfl, fun _ _ _ => rfl, n0.1, n0.2⟩ hW4 ?_
    rw [same]
    intro h' a b
    refine ⟨rfl, a, fun z => ?_⟩
    obtain ⟨b1, b2, b3, b4, b5⟩ := b z
    exact ⟨b1, b2, b3.trans (qR_same n0.2 n0.1 sameW0 z), b4, b5⟩
  have B : Rn xs xl e mm_OneSided_quarter 0 [some (.inr (.inr 1)), none, none] [] h (fun r g => INV g ∧ rd g 2 0 = 0 ∧ rd g 182 2 = rd h 182 2 ∧ (∀ a i, kc a → rd g a i = rd h a i) ∧ (∀ a i, (a, i) ∈ PLr → rd g a i = rd h a i)) := root_0 TC_quarter (as := [.inr (.inr 1)]) rfl (Nat.le_trans (Nat.le_of_ble_eq_true rfl) he) hI (gAr_c (g_ref 1) gAr_n) rfl (Nat.le_of_ble_eq_true rfl) rfl rfl rfl (fun r g gI g0 gf => ⟨gI, g0, gf 182 2 (by decide +kernel), fun a i ha => gf a i (kc_bx (by decide +kernel) ha), fun a i ha => gf a i (rc_bx (L := PLr) (by decide +kernel) ha)⟩)
  refine (A.and B).mono (fun r g q => ?_)
  obtain ⟨⟨rfl, a1, a2⟩, gI, g0, g2, gf, gr⟩ := q
  refine k g gI ⟨g0, g2, gf, gr, fun z a i ha => ?_, a2⟩
  exact kq_sp (rQf hI.1) sq gf (a1 z) ha
theorem G_quarterJ (he : 42 ≤ e) (hI : INV h) (hE : EQL h) (gI : INV g) (hj : QJ h g) (k : ∀ g', INV g' → EQL g' → Q (some (.inl (txQ h).1.1)) g') : Rn xs xl e mm_quarter 0 [some (.inr (.inr 182)), none] [] g Q := by
  have n0 := rG_2_0 hI.1
  obtain ⟨g0, g2, gf, gr, m1, m2⟩ := hj
  obtain ⟨-, -, hP, hW4, hV, sq, hM, hK⟩ := id hE
  have hv : rd g 187 = rd hc_556 187 := by
    rw [← hV]; funext i; exact gf 187 i kc_187
  have A : Rn xs xl e mm_quarter 0 [some (.inr (.inr 182)), none] [] g (fun r g' => r = some (.inl (txQ h).1.1) ∧ rd g' 187 = rd hc_556 187 ∧ ((txQ h).1.1 ≠ 0 → ∀ a i, pq a i → rd g' a i = rd g a i) ∧ ((txQ h).1.1 = 0 → rd g' 188 0 = txR h ∧ (∀ m, 0 ≤ m → m < 4 → rd g' 199 m = 0) ∧ rd g' 198 34 = 0)) := by
    refine G_quarter2 (T := rd h 3) (n := rd h 2 0) (V := rd hc_556 187) (by omega) gI (g2.trans hE.1.symm) n0.1 n0.2 (fun i i0 i1 => ?_) hv vinj0 (fun h' a b c => ⟨rfl, a, b, c⟩)
    rw [gf 183 i kc_183]
    exact (hE.2.1 i i0 i1).symm
  have B : Rn xs xl e mm_quarter 0 [some (.inr (.inr 182)), none] [] g (fun r g' => INV g' ∧ rd g' 182 2 = 0 ∧ (∀ a i, a < 182 → rd g' a i = rd g a i)) := D_quarter (by omega) gI (fun r h' a b c => ⟨a, b, c⟩)
  refine (A.and B).mono (fun r g' q => ?_)
  obtain ⟨⟨rfl, v', c1, c2⟩, gI', e2, fr⟩ := q
  refine k g' gI' (EQL_0 ((fr 2 0 (by decide)).trans g0) e2 ?_)
  by_cases z : (txQ h).1.1 = 0
  · obtain ⟨a1, a2, a3, a4, a5⟩ := m2 z
    obtain ⟨b1, b2, b3⟩ := c2 z
    have hS : rd h 1 2 = 5 ∨ rd h 1 2 = 32 := rSf hI.1
    have e6 : rd g' 1 6 = 0 := (fr 1 6 (by decide)).trans a5
    have e11 : rd g' 1 1 = rd h 1 2 := (fr 1 1 (by decide)).trans a1
    refine ⟨PT_fr hP (fun a i ha => (fr a i (by omega)).trans (gf a i (kc_p ha))), ?_, v', ?_, ⟨fun m h0 h1 => ?_, by rw [e6]; decide, fun m h0 h1 => ?_⟩, ?_, ?_, fun m h0 h1 hm => absurd (b2 m h0 h1) hm⟩
    · rw [← hW4]; funext i; exact (fr 4 i (by decide)).trans (gf 4 i kc_4)
    · rw [e11, fr 1 2 (by decide), a2]; omega
    · rw [fr 75 m (by decide), gf 75 m kc_75]; exact hM.1 m h0 h1
    · rw [b2 m h0 h1, e6]
      have y := mbit_0 m.toNat (by omega)
      rw [show ((m.toNat : Nat) : Int) = m by omega] at y
      exact y.symm
    · rw [e11, fr _ 0 (by omega), a3, b1]
    · rw [fr 59 4 (by decide), a4, b3]
  · have hq : rd h 1 1 = 5 ∨ rd h 1 1 = 32 := rQf hI.1
    refine EQW_fr hq hE.2.2 (fun a i _ _ ha => ?_)
    rw [c1 z a i (kq_pq hq ha)]
    exact m1 z a i ha
theorem EQL_t (hq : rd h 1 1 = 5 ∨ rd h 1 1 = 32) (hE : EQL h) (t1 : rd g 2 0 = rd h 2 0) (t2 : rd g 182 2 = rd h 182 2) (F : ∀ a i, klq (rd h 1 1) a i → ¬ (a = 59 ∧ i = 4) → ¬ (a = 198 ∧ i = 34) → rd g a i = rd h a i) (ew : rd g 59 4 = rd g 198 34) : EQL g := by
  obtain ⟨c1, c2, hP, hW4, hV, sq, hM, ⟨w1, w2, w3⟩⟩ := hE
  have FC : ∀ a i, kc a → rd g a i = rd h a i := fun a i ha => F a i (kq_c ha) (kc_n ha).1 (kc_n ha).2
  have e11 : rd g 1 1 = rd h 1 1 := F 1 1 kq_11 (by decide) (by decide)
  have e12 : rd g 1 2 = rd h 1 2 := F 1 2 kq_12 (by decide) (by decide)
  have e16 : rd g 1 6 = rd h 1 6 := F 1 6 kq_16 (by decide) (by decide)
  have eq0 : rd g (rd h 1 1) 0 = rd h (rd h 1 1) 0 := F (rd h 1 1) 0 kq_q (by omega) (by omega)
  have er : rd g 188 0 = rd h 188 0 := F 188 0 kq_188 (by decide) (by decide)
  have em : ∀ m, 0 ≤ m → m < 4 → rd g (102 + 8 * m) 4 = rd h (102 + 8 * m) 4 ∧ rd g 198 (70 * m + 104) = rd h 198 (70 * m + 104) := fun m h0 h1 => ⟨F _ 4 (kq_mm h0 h1) (by omega) (by omega), F 198 _ (kq_m h0 h1) (by omega) (by omega)⟩
  clear F
  refine ⟨by rw [t1, t2]; exact c1, fun i i0 i1 => ?_, PT_fr hP (fun a i ha => FC a i (kc_p ha)), ?_, ?_, ?_, MKR_fr hM e16 (fun a i ha => FC a i (kc_k ha)), ?_, ew, fun m h0 h1 hm => ?_⟩
  · rw [t1] at i1
    rw [FC 3 i kc_3, FC 183 i kc_183]
    exact c2 i i0 i1
  · rw [← hW4]; funext i; exact FC 4 i kc_4
  · rw [← hV]; funext i; exact FC 187 i kc_187
  · rw [e11, e12]; exact sq
  · rw [e11, eq0, er]; exact w1
  · rw [FC 199 m kc_199] at hm
    rw [(em m h0 h1).1, (em m h0 h1).2]
    exact w3 m h0 h1 hm
/-- between both told -/
def TJ (h g : LH) (v1 v2 r : Int) : Prop := rd g 2 0 = rd h 2 0 ∧ rd g 182 2 = rd h 182 2 ∧ (∀ a i, klq (rd h 1 1) a i → ¬ (a = 59 ∧ i = 4) → rd g a i = rd h a i) ∧ ((tdA (rd h (rd h 1 1) 0) (rd h 59 4) v1 v2 ∧ r = 1 ∧ rd g 59 4 = rd h 59 4 + 1) ∨ (¬ tdA (rd h (rd h 1 1) 0) (rd h 59 4) v1 v2 ∧ r = 0 ∧ rd g 59 4 = rd h 59 4))
theorem E_toldJ (he : 8 ≤ e) (hI : INV h) (h1 : i32 v1) (h2 : i32 v2) (h3 : gV (0, 0, 1, 1) (.inl v3)) (k : ∀ r g, INV g → TJ h g v1 v2 r → Q (some (.inl r)) g) : Rn xs xl e mm_OneSided_told 0 [some (.inr (.inr 1)), some (.inl v1), some (.inl v2), some (.inl v3)] [] h Q := by
  have A : Rn xs xl e mm_OneSided_told 0 [some (.inr (.inr 1)), some (.inl v1), some (.inl v2), some (.inl v3)] [] h (fun r g => ∃ x, r = some (.inl x) ∧ ((tdA (rd h (rd h 1 1) 0) (rd h 59 4) v1 v2 ∧ x = 1 ∧ rd g 59 4 = rd h 59 4 + 1) ∨ (¬ tdA (rd h (rd h 1 1) 0) (rd h 59 4) v1 v2 ∧ x = 0 ∧ rd g 59 4 = rd h 59 4))) := E_toldX (by omega) hI (fun g a b => ⟨1, rfl, Or.inl ⟨a, rfl, b⟩⟩) (fun a => ⟨0, rfl, Or.inr ⟨a, rfl, rfl⟩⟩)
  have B : Rn xs xl e mm_OneSided_told 0 [some (.inr (.inr 1)), some (.inl v1), some (.inl v2), some (.inl v3)] [] h (fun r g => INV g ∧ rd g 2 0 = rd h 2 0 ∧ rd g 182 2 = rd h 182 2 ∧ (∀ a i, klq (rd h 1 1) a i → ¬ (a = 59 ∧ i = 4) → rd g a i = rd h a i)) := use_sm TC_told (as := [.inr (.inr 1), .inl v1, .inl v2, .inl v3]) rfl (Nat.le_trans (Nat.le_of_ble_eq_true rfl) he) hI (gAr_c (g_ref 1) (gAr_c (g_i h1) (gAr_c (g_i h2) (gAr_c h3 gAr_n)))) rfl (Nat.le_of_ble_eq_true rfl) rfl (fun r g gI gf gq => ⟨gI, gf 2 0 (by decide +kernel), gf 182 2 (by decide +kernel), fun a i ha hn => by
    rcases kl_mem (kl_of (rQf hI.1) ha) with q | q | q
    · exact gf a i (kc_bx (by decide +kernel) q)
    · refine gf a i (rc_bx (L := [(1, 1), (1, 2), (1, 6), (5, 0), (32, 0), (102, 4), (110, 4), (118, 4), (126, 4)]) (by decide +kernel) ?_)
      exact plc_9 q hn
    · exact gf a i (rc_bx (L := PLr) (by decide +kernel) q)⟩)
  refine (A.and B).mono (fun r g q => ?_)
  obtain ⟨⟨x, rfl, a⟩, gI, b1, b2, b3⟩ := q
  exact k x g gI ⟨b1, b2, b3, a⟩
theorem G_toldJ (he : 8 ≤ e) (hI : INV h) (hE : EQL h) (gI : INV g) (h1 : i32 v1) (h2 : i32 v2) (h3 : gV (0, 0, 1, 1) (.inl v3)) (hj : TJ h g v1 v2 r) (k : ∀ g', INV g' → EQL g' → Q (some (.inl r)) g') : Rn xs xl e mm_told 0 [some (.inr (.inr 182)), some (.inl v1), some (.inl v2), some (.inl v3), none] [] g Q := by
  obtain ⟨e1, e2, gf, hc⟩ := hj
  obtain ⟨-, -, hP, hW4, hV, sq, hM, ⟨w1, w2, w3⟩⟩ := id hE
  have hq : rd h 1 1 = 5 ∨ rd h 1 1 = 32 := rQf hI.1
  have q0 : rd g 188 0 = rd h (rd h 1 1) 0 := (gf 188 0 kq_188 (by decide)).trans w1.symm
  have q34 : rd g 198 34 = rd h 59 4 := (gf 198 34 kq_34 (by decide)).trans w2.symm
  have rw' := rG_59_4 hI.1
  have A : Rn xs xl e mm_told 0 [some (.inr (.inr 182)), some (.inl v1), some (.inl v2), some (.inl v3), none] [] g (fun q g' => (q = some (.inl 1) ∧ tdA (rd h (rd h 1 1) 0) (rd h 59 4) v1 v2 ∧ rd g' 198 34 = rd h 59 4 + 1) ∨ (q = some (.inl 0) ∧ ¬ tdA (rd h (rd h 1 1) 0) (rd h 59 4) v1 v2 ∧ rd g' 198 34 = rd h 59 4)) := by
    refine G_toldX (by omega) gI (by omega) (fun g' a b => Or.inl ⟨rfl, ?_, by rw [b, q34]⟩) (fun g' a b => Or.inr ⟨rfl, ?_, by rw [b, q34]⟩)
    · rw [q0, q34] at a; exact a
    · rw [q0, q34] at a; exact a
  have B : Rn xs xl e mm_told 0 [some (.inr (.inr 182)), some (.inl v1), some (.inl v2), some (.inl v3), none] [] g (fun q g' => INV g' ∧ rd g' 2 0 = rd g 2 0 ∧ rd g' 182 2 = rd g 182 2 ∧ (∀ a i, kl a i → ¬ (a = 198 ∧ i = 34) → rd g' a i = rd g a i)) := use_sm TR_told (as := [.inr (.inr 182), .inl v1, .inl v2, .inl v3]) rfl (Nat.le_trans (Nat.le_of_ble_eq_true rfl) he) gI (gAr_c (g_ref 182) (gAr_c (g_i h1) (gAr_c (g_i h2) (gAr_c h3 gAr_n)))) rfl (Nat.le_of_ble_eq_true rfl) rfl (fun r g' gI' f gq => ⟨gI', f 2 0 (by decide +kernel), f 182 2 (by decide +kernel), fun a i ha hn => by
    rcases kl_mem ha with q | q | q
    · exact f a i (kc_bx (by decide +kernel) q)
    · exact f a i (rc_bx (L := PLc) (by decide +kernel) q)
    · refine f a i (rc_bx (L := [(188, 0), (198, 104), (198, 174), (198, 244), (198, 314)]) (by decide +kernel) ?_)
      exact plr_5 q hn⟩)
  refine (A.and B).mono (fun q g' z => ?_)
  obtain ⟨z1, gI', t1, t2, f'⟩ := z
  have F : ∀ a i, klq (rd h 1 1) a i → ¬ (a = 59 ∧ i = 4) → ¬ (a = 198 ∧ i = 34) → rd g' a i = rd h a i := fun a i ha n1 n2 => (f' a i (kl_of hq ha) n2).trans (gf a i ha n1)
  have t59 : rd g' 59 4 = rd g 59 4 := f' 59 4 (Or.inr (Or.inr (Or.inr (Or.inr (Or.inl ⟨rfl, rfl⟩))))) (by decide)
  have fin : rd g' 59 4 = rd g' 198 34 → EQL g' := EQL_t hq hE (t1.trans e1) (t2.trans e2) F
  rcases z1 with ⟨rfl, a1, c1⟩ | ⟨rfl, a0, c0⟩
  · rcases hc with ⟨b1, rfl, b3⟩ | ⟨b1, -, -⟩
    · exact k g' gI' (fin (by rw [t59, b3, c1]))
    · exact absurd a1 b1
  · rcases hc with ⟨b1, -, -⟩ | ⟨b1, rfl, b3⟩
    · exact absurd b1 a0
    · exact k g' gI' (fin (by rw [t59, b3, c0]))
end WF5
