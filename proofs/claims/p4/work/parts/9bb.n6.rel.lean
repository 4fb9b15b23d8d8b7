/-! days, part n6: what the law's loop keeps, and each call under it -/
section NG6
variable {xs : Nat → Int} {xl e : Nat} {h g : LH} {Q : Option LV → LH → Prop} {v1 v2 r : Int}
theorem g_i {x : Int} (h : i32 x) : gV (0, -2147483648, 2147483647, 1) (.inl x) := in1 h.1 h.2 h
theorem g_z0 : gV (0, 0, 1, 1) (.inl 0) := in1 (by decide) (by decide) (by unfold i32; omega)
theorem g_z1 : gV (0, 0, 1, 1) (.inl 1) := in1 (by decide) (by decide) (by unfold i32; omega)
/-- cells that only feed and quarter change -/
def kc (a : Int) : Prop := a = 3 ∨ a = 4 ∨ a = 6 ∨ a = 7 ∨ a = 33 ∨ a = 34 ∨ a = 183 ∨ a = 187 ∨ a = 191 ∨ a = 193
/-- places that only feed and quarter change -/
def kl (a i : Int) : Prop := kc a ∨ (a = 1 ∧ 1 ≤ i ∧ i ≤ 2) ∨ (a = 5 ∧ 2 ≤ i ∧ i ≤ 4) ∨ (a = 32 ∧ 2 ≤ i ∧ i ≤ 4) ∨ (12 ≤ a ∧ a ≤ 31 ∧ i = 0) ∨ (39 ≤ a ∧ a ≤ 58 ∧ i = 0) ∨ (a = 182 ∧ i = 18)
/-- those of one quarter -/
def klq (q a i : Int) : Prop := kc a ∨ (a = 1 ∧ 1 ≤ i ∧ i ≤ 2) ∨ (a = q ∧ 2 ≤ i ∧ i ≤ 4) ∨ (q + 7 ≤ a ∧ a ≤ q + 26 ∧ i = 0) ∨ (a = 182 ∧ i = 18)
def KF (h g : LH) : Prop := ∀ a i, klq (rd h 1 1) a i → rd g a i = rd h a i
theorem kl_of {q a i : Int} (hq : q = 5 ∨ q = 32) (h : klq q a i) : kl a i := by
  unfold klq at h
  unfold kl
  rcases h with h | h
  · exact Or.inl h
  · refine Or.inr ?_
    omega
def kcb (bs : BX) : Bool := bs.all (fun b => ([3, 4, 6, 7, 33, 34, 183, 187, 191, 193] : List Int).all (fun c => !(decide (b.1 ≤ c) && decide (c ≤ b.2.1))))
def klb (bs : BX) : Bool := kcb bs && bs.all (fun b => ([(1, 1, 1, 2), (5, 5, 2, 4), (32, 32, 2, 4), (12, 31, 0, 0), (39, 58, 0, 0), (182, 182, 18, 18)] : List (Int × Int × Int × Int)).all (fun c => !(decide (b.1 ≤ c.2.1) && decide (c.1 ≤ b.2.1) && decide (b.2.2.1 ≤ c.2.2.2) && decide (c.2.2.1 ≤ b.2.2.2))))
theorem kc_bx {bs : BX} (hb : kcb bs = true) {a i : Int} (ha : kc a) : inBx bs a i = false := by
  refine inBx_f (fun b hm q => ?_)
  unfold kcb at hb
  have z := List.all_eq_true.mp hb b hm
  rw [List.all_eq_true] at z
  have m : a ∈ ([3, 4, 6, 7, 33, 34, 183, 187, 191, 193] : List Int) := by
    unfold kc at ha
    simp only [List.mem_cons, List.not_mem_nil, or_false]
    exact ha
  have y := z a m
  rw [decide_eq_true q.1, decide_eq_true q.2.1] at y
  cases y
theorem kl_bx {bs : BX} (hb : klb bs = true) {a i : Int} (ha : kl a i) : inBx bs a i = false := by
  unfold klb at hb
  rw [Bool.and_eq_true] at hb
  rcases ha with ha | ha
  · exact kc_bx hb.1 ha
  · refine inBx_f (fun b hm q => ?_)
    have z := List.all_eq_true.mp hb.2 b hm
    simp only [List.all_cons, List.all_nil, Bool.and_true, Bool.and_eq_true, Bool.not_eq_true', Bool.and_eq_false_iff, decide_eq_false_iff_not] at z
    omega
/-- both tapes hold the same; words, doors and people stand as they were made; the names -/
def EQL (h : LH) : Prop := rd h 2 0 = rd h 182 2 ∧ (∀ i, 0 ≤ i → i < rd h 2 0 → rd h 3 i = rd h 183 i) ∧ PT h ∧ rd h 4 = rd hc_556 4 ∧ rd h 187 = rd hc_556 187 ∧ rd h 1 1 + rd h 1 2 = 37 ∧ NMR h
theorem NMR_kl (hq : rd h 1 1 = 5 ∨ rd h 1 1 = 32) (hN : NMR h) (f : ∀ a i, a ≠ 3 → a ≠ 183 → klq (rd h 1 1) a i → rd g a i = rd h a i) : NMR g := by
  obtain ⟨n1, n2, n3, n4, n5, n6⟩ := hN
  have e1 : rd g 1 1 = rd h 1 1 := f 1 1 (by omega) (by omega) (by unfold klq; omega)
  have e2 : rd g 182 18 = rd h 182 18 := f 182 18 (by omega) (by omega) (by unfold klq; omega)
  have e3 : rd g (rd h 1 1) 2 = rd h (rd h 1 1) 2 := f _ 2 (by omega) (by omega) (by unfold klq; omega)
  have e4 : rd g (rd h 1 1) 4 = rd h (rd h 1 1) 4 := f _ 4 (by omega) (by omega) (by unfold klq; omega)
  have f1 : ∀ k, rd g 191 k = rd h 191 k := fun k => f _ _ (by omega) (by omega) (by unfold klq kc; omega)
  have f3 : ∀ k, rd g 193 k = rd h 193 k := fun k => f _ _ (by omega) (by omega) (by unfold klq kc; omega)
  unfold NMR
  rw [e1, e2, e3, e4]
  refine ⟨n1, n2, fun k hk => ?_, fun j hj => ?_, fun j hj => ?_, fun k k' hk hk' q => ?_⟩
  · rw [f3 k, f1 k]
    rcases n3 k hk with ⟨j, j1, j2, j3⟩ | ⟨j, j1, j2, j3⟩
    · exact Or.inl ⟨j, j1, j2, by rw [f _ 0 (by omega) (by omega) (by unfold klq; omega)]; exact j3⟩
    · exact Or.inr ⟨j, j1, j2, by rw [f _ 0 (by omega) (by omega) (by unfold klq; omega)]; exact j3⟩
  · obtain ⟨k, k1, k2⟩ := n4 j hj
    exact ⟨k, k1, by rw [f3 k]; exact k2⟩
  · obtain ⟨k, k1, k2⟩ := n5 j hj
    exact ⟨k, k1, by rw [f3 k]; exact k2⟩
  · rw [f1 k, f1 k'] at q
    exact n6 k k' hk hk' q
/-- all but the tapes -/
def EQN (h : LH) : Prop := PT h ∧ rd h 4 = rd hc_556 4 ∧ rd h 187 = rd hc_556 187 ∧ rd h 1 1 + rd h 1 2 = 37 ∧ NMR h
theorem EQN_fr (hI : INV h) (hE : EQN h) (f : ∀ a i, a ≠ 3 → a ≠ 183 → klq (rd h 1 1) a i → rd g a i = rd h a i) : EQN g := by
  obtain ⟨p, w, v, s, m⟩ := hE
  refine ⟨PT_fr p (fun a i ha => f a i (by omega) (by omega) (by unfold klq kc; omega)), ?_, ?_, ?_, NMR_kl (rQf hI.1) m f⟩
  · rw [← w]; funext i; exact f 4 i (by omega) (by omega) (by unfold klq kc; omega)
  · rw [← v]; funext i; exact f 187 i (by omega) (by omega) (by unfold klq kc; omega)
  · rw [f 1 1 (by omega) (by omega) (by unfold klq; omega), f 1 2 (by omega) (by omega) (by unfold klq; omega)]; exact s
theorem EQL_fr (hI : INV h) (hE : EQL h) (e1 : rd g 2 0 = rd h 2 0) (e2 : rd g 182 2 = rd h 182 2) (f : KF h g) : EQL g := by
  obtain ⟨p, w, v, s, m⟩ := EQN_fr hI hE.2.2 (fun a i _ _ ha => f a i ha)
  refine ⟨by rw [e1, e2]; exact hE.1, fun i i0 i1 => ?_, p, w, v, s, m⟩
  rw [e1] at i1
  rw [f 3 i (by unfold klq kc; omega), f 183 i (by unfold klq kc; omega)]
  exact hE.2.1 i i0 i1
theorem EQL_0 (e1 : rd g 2 0 = 0) (e2 : rd g 182 2 = 0) (p : EQN g) : EQL g := by
  refine ⟨by rw [e1, e2], fun i i0 i1 => ?_, p⟩
  rw [e1] at i1
  omega
theorem root_i {S : SM} {a : AV} {p : PV} {l : List (Nat × AV)} {f : FA} (ok : SMok xs xl INV S) {M : LM_M} {as : List LV} {ls0 : LL} (hM : MTB S.1 = some M) (he : S.2.1 ≤ e) (hI : INV h) (ha : gAr S.2.2.1 as) (hf : S.2.2.2.2.2 = []) (hl : (lent as).length ≤ M.2.2.1) (hp : lpad M.2.2.1 (lent as) = ls0) (hc : S.2.2.2.1 = [(some a, p, l, f)]) (hk : a.1 = 0) (b1 : inBx S.2.2.2.2.1 2 0 = false) (b2 : inBx S.2.2.2.2.1 182 2 = false) (b3 : klb S.2.2.2.2.1 = true) (hE : EQL h) (k : ∀ r g, INV g → EQL g → Q (some (.inl r)) g) : Rn xs xl e M 0 ls0 [] h Q :=
  use_sm ok hM he hI ha hf hl hp (fun r g gI gf gq => by
    rw [hc] at gq
    obtain ⟨x, rfl, _⟩ := res_int gq hk
    exact k x g gI (EQL_fr hI hE (gf 2 0 b1) (gf 182 2 b2) (fun a i ha => gf a i (kl_bx b3 (kl_of (rQf hI.1) ha)))))
theorem root_b {S : SM} {a b : AV} {p p' : PV} {l l' : List (Nat × AV)} {f f' : FA} (ok : SMok xs xl INV S) {M : LM_M} {as : List LV} {ls0 : LL} (hM : MTB S.1 = some M) (he : S.2.1 ≤ e) (hI : INV h) (ha : gAr S.2.2.1 as) (hf : S.2.2.2.2.2 = []) (hl : (lent as).length ≤ M.2.2.1) (hp : lpad M.2.2.1 (lent as) = ls0) (hc : S.2.2.2.1 = [(some a, p, l, f), (some b, p', l', f')]) (hk : a.1 = 0) (hk' : b.1 = 0) (b1 : inBx S.2.2.2.2.1 2 0 = false) (b2 : inBx S.2.2.2.2.1 182 2 = false) (b3 : klb S.2.2.2.2.1 = true) (hE : EQL h) (k : ∀ r g, INV g → EQL g → Q (some (.inl r)) g) : Rn xs xl e M 0 ls0 [] h Q :=
  use_sm ok hM he hI ha hf hl hp (fun r g gI gf gq => by
    rw [hc] at gq
    obtain ⟨x, rfl⟩ := res_bool gq hk hk'
    exact k x g gI (EQL_fr hI hE (gf 2 0 b1) (gf 182 2 b2) (fun a i ha => gf a i (kl_bx b3 (kl_of (rQf hI.1) ha)))))
/-- the class's tape is empty then -/
theorem root_0 {S : SM} {a : AV} {p : PV} {l : List (Nat × AV)} (ok : SMok xs xl INV S) {M : LM_M} {as : List LV} {ls0 : LL} (hM : MTB S.1 = some M) (he : S.2.1 ≤ e) (hI : INV h) (ha : gAr S.2.2.1 as) (hf : S.2.2.2.2.2 = []) (hl : (lent as).length ≤ M.2.2.1) (hp : lpad M.2.2.1 (lent as) = ls0) (hc : S.2.2.2.1 = [(some a, p, l, [(2, 0, (0, 0, 0, 0))])]) (hk : a.1 = 0) (k : ∀ r g, INV g → rd g 2 0 = 0 → frm S.2.2.2.2.1 h g → Q (some (.inl r)) g) : Rn xs xl e M 0 ls0 [] h Q :=
  use_sm ok hM he hI ha hf hl hp (fun r g gI gf gq => by
    rw [hc] at gq
    have gq2 := gq
    obtain ⟨x, rfl, _⟩ := res_int gq hk
    refine k x g gI ?_ gf
    obtain ⟨c, hc, -, -, q3⟩ := gq2
    rw [List.mem_singleton] at hc
    subst hc
    have v := q3 _ (List.mem_singleton.mpr rfl)
    have e : hval g 2 0 = .inl (rd g 2 0) := by
      unfold hval
      rw [show lkd 2 0 = 0 by decide +kernel]
      rfl
    rw [e] at v
    exact inV_c v.2.2 rfl)
/-- the text that lies on the tapes, read as a quarter -/
def txQ (h : LH) : QY := qF (tO (rd h 3) (rd h 2 0)) (tV (rd h 3) (rd h 2 0) 37) (tW (rd h 3) (rd h 2 0) 37 (rd hc_556 187)) (tP (rd h 3) (rd h 2 0))
theorem E_quarterJ (he : 42 ≤ e) (hI : INV h) (hE : EQL h) (k : ∀ g, INV g → rd g 2 0 = 0 → rd g 182 2 = rd h 182 2 → (∀ a i, kc a ∨ (a = 182 ∧ i = 18) → rd g a i = rd h a i) → ((txQ h).1.1 ≠ 0 → KF h g) → ((txQ h).1.1 = 0 → rd g 1 1 = rd h 1 2 ∧ rd g 1 2 = rd h 1 1 ∧ NCK (rd h 3) (rd h 2 0) g (rd h 1 2) (txQ h).2.2.1 (txQ h).2.2.2.1) → Q (some (.inl (txQ h).1.1)) g) : Rn xs xl e mm_OneSided_quarter 0 [some (.inr (.inr 1)), none, none] [] h Q := by
  have n0 := rG_2_0 hI.1
  have same : qF (tO (rd h 3) (rd h 2 0)) (tV (rd h 3) (rd h 2 0) 32) (tW (rd h 3) (rd h 2 0) 32 (rd hc_556 4)) (tP (rd h 3) (rd h 2 0)) = txQ h := qF_same n0.2 n0.1 sameW0
  have A : Rn xs xl e mm_OneSided_quarter 0 [some (.inr (.inr 1)), none, none] [] h (fun r g => r = some (.inl (txQ h).1.1) ∧ ((txQ h).1.1 ≠ 0 → ∀ a i, a ≠ 2 → ¬ (rd h 1 2 ≤ a ∧ a ≤ rd h 1 2 + 26) → rd g a i = rd h a i) ∧ ((txQ h).1.1 = 0 → rd g 1 1 = rd h 1 2 ∧ rd g 1 2 = rd h 1 1 ∧ NCK (rd h 3) (rd h 2 0) g (rd h 1 2) (txQ h).2.2.1 (txQ h).2.2.2.1)) := by
    refine E_quarterN he hI hE.2.2.1 ⟨rfl, fun _ _ _ => rfl, n0.1, n0.2⟩ hE.2.2.2.1 ?_
    rw [same]
    exact fun h' a b => ⟨rfl, a, b⟩
  have B : Rn xs xl e mm_OneSided_quarter 0 [some (.inr (.inr 1)), none, none] [] h (fun r g => INV g ∧ rd g 2 0 = 0 ∧ rd g 182 2 = rd h 182 2 ∧ (∀ a i, kc a ∨ (a = 182 ∧ i = 18) → rd g a i = rd h a i)) := root_0 TC_quarter (as := [.inr (.inr 1)]) rfl (Nat.le_trans (Nat.le_of_ble_eq_true rfl) he) hI (gAr_c (g_ref 1) gAr_n) rfl (Nat.le_of_ble_eq_true rfl) rfl rfl rfl (fun r g gI g0 gf => ⟨gI, g0, gf 182 2 (by decide +kernel), fun a i ha => by
    rcases ha with ha | ⟨rfl, rfl⟩
    · exact gf a i (kc_bx (by decide +kernel) ha)
    · exact gf 182 18 (by decide +kernel)⟩)
  refine (A.and B).mono (fun r g q => ?_)
  obtain ⟨⟨rfl, a1, a2⟩, gI, g0, g2, gf⟩ := q
  refine k g gI g0 g2 gf (fun z a i ha => ?_) a2
  have sq := hE.2.2.2.2.2.1
  have hq : rd h 1 1 = 5 ∨ rd h 1 1 = 32 := rQf hI.1
  unfold klq at ha
  rcases ha with ha | ha
  · exact gf a i (Or.inl ha)
  · exact a1 z a i (by omega) (by omega)
theorem G_quarterJ (he : 42 ≤ e) (hI : INV h) (hE : EQL h) (gI : INV g) (g0 : rd g 2 0 = 0) (g2 : rd g 182 2 = rd h 182 2) (gf : ∀ a i, kc a ∨ (a = 182 ∧ i = 18) → rd g a i = rd h a i) (m1 : (txQ h).1.1 ≠ 0 → KF h g) (m2 : (txQ h).1.1 = 0 → rd g 1 1 = rd h 1 2 ∧ rd g 1 2 = rd h 1 1 ∧ NCK (rd h 3) (rd h 2 0) g (rd h 1 2) (txQ h).2.2.1 (txQ h).2.2.2.1) (k : ∀ g', INV g' → EQL g' → Q (some (.inl (txQ h).1.1)) g') : Rn xs xl e mm_quarter 0 [some (.inr (.inr 182)), none] [] g Q := by
  have n0 := rG_2_0 hI.1
  have hv : rd g 187 = rd hc_556 187 := by
    rw [← hE.2.2.2.2.1]; funext i; exact gf 187 i (by unfold kc; omega)
  have A : Rn xs xl e mm_quarter 0 [some (.inr (.inr 182)), none] [] g (fun r g' => r = some (.inl (txQ h).1.1) ∧ rd g' 187 = rd hc_556 187 ∧ ((txQ h).1.1 ≠ 0 → ∀ a i, pq a i → rd g' a i = rd g a i) ∧ ((txQ h).1.1 = 0 → NMK (rd h 3) (rd h 2 0) g' (txQ h))) := by
    refine G_quarter3 (T := rd h 3) (n := rd h 2 0) (V := rd hc_556 187) (by omega) gI (g2.trans hE.1.symm) n0.1 n0.2 (fun i i0 i1 => ?_) hv vinj0 (fun h' a b c => ⟨rfl, a, b, fun z => (c z).2.2.2⟩)
    rw [gf 183 i (by unfold kc; omega)]
    exact (hE.2.1 i i0 i1).symm
  have B : Rn xs xl e mm_quarter 0 [some (.inr (.inr 182)), none] [] g (fun r g' => INV g' ∧ rd g' 182 2 = 0 ∧ (∀ a i, a < 182 → rd g' a i = rd g a i)) := D_quarter (by omega) gI (fun r h' a b c => ⟨a, b, c⟩)
  refine (A.and B).mono (fun r g' q => ?_)
  obtain ⟨⟨rfl, v', c1, c2⟩, gI', e2, fr⟩ := q
  refine k g' gI' (EQL_0 ((fr 2 0 (by decide)).trans g0) e2 ?_)
  by_cases z : (txQ h).1.1 = 0
  · obtain ⟨a1, a2, a3⟩ := m2 z
    have s37 := hE.2.2.2.2.2.1
    have hS : rd h 1 2 = 5 ∨ rd h 1 2 = 32 := rSf hI.1
    have l14 := a3.2.2.1
    have a3' : NCK (rd h 3) (rd h 2 0) g' (rd h 1 2) (txQ h).2.2.1 (txQ h).2.2.2.1 := NCK_fr a3 (fun a i ha => fr a i (by omega))
    refine ⟨PT_fr hE.2.2.1 (fun a i ha => (fr a i (by omega)).trans (gf a i (by unfold kc; omega))), ?_, v', ?_, ?_⟩
    · rw [← hE.2.2.2.1]; funext i; exact (fr 4 i (by decide)).trans (gf 4 i (by unfold kc; omega))
    · rw [fr 1 1 (by decide), fr 1 2 (by decide), a1, a2]; omega
    · exact NMR_of (V := rd hc_556 187) n0.2 n0.1 ((fr 1 1 (by decide)).trans a1) z a3' (c2 z)
  · refine EQN_fr hI hE.2.2 (fun a i _ _ ha => ?_)
    have hq : rd h 1 1 = 5 ∨ rd h 1 1 = 32 := rQf hI.1
    rw [c1 z a i (by unfold klq kc at ha; unfold pq; omega)]
    exact m1 z a i ha
/-- between both days -/
def DJ (h g : LH) (r : Int) : Prop := rd g 2 0 = 0 ∧ rd g 182 2 = rd h 182 2 ∧ KF h g ∧ r = (dF (tO (rd h 3) (rd h 2 0)) (tV (rd h 3) (rd h 2 0) 37) (tW (rd h 3) (rd h 2 0) 37 (rd hc_556 187)) (tP (rd h 3) (rd h 2 0)) (kR h (rd h 3) (rd h 2 0) 20 6) (kR h (rd h 3) (rd h 2 0) 0 14)).1.1
theorem K_readDay {q : Int} (he : 6 ≤ e) (hq : q = 5 ∨ q = 32) (hI : INV h) (k : ∀ r h', INV h' → Q r h') : Rn xs xl e mm_Reader_readDay 0 [some (.inr (.inr 2)), some (.inr (.inr q)), some (.inr (.inr 67)), none] [] h Q := by
  rcases hq with rfl | rfl
  · exact use_sm (tabD (j := 9) rfl) (as := [.inr (.inr 2), .inr (.inr 5), .inr (.inr 67)]) rfl he hI (gAr_c (g_ref 2) (gAr_c (g_ref 5) (gAr_c (g_ref 67) gAr_n))) rfl (Nat.le_of_ble_eq_true rfl) rfl (fun r h' i' f q => k r h' i')
  · exact use_sm (tabD (j := 10) rfl) (as := [.inr (.inr 2), .inr (.inr 32), .inr (.inr 67)]) rfl he hI (gAr_c (g_ref 2) (gAr_c (g_ref 32) (gAr_c (g_ref 67) gAr_n))) rfl (Nat.le_of_ble_eq_true rfl) rfl (fun r h' i' f q => k r h' i')
theorem E_dayJ (he : 8 ≤ e) (hI : INV h) (hE : EQL h) (k : ∀ r g, INV g → DJ h g r → Q (some (.inl r)) g) : Rn xs xl e mm_OneSided_day 0 [some (.inr (.inr 1)), none] [] h Q := by
  have n0 := rG_2_0 hI.1
  have hq : rd h 1 ((1 : Nat) : Int) = 5 ∨ rd h 1 ((1 : Nat) : Int) = 32 := rQf hI.1
  have b18 := rF_namesMany hI.1
  obtain ⟨c1, c2, c3, c4, c5, c6, hN⟩ := id hE
  have kp : ∀ j, tO (rd h 3) (rd h 2 0) j = 1 → nmC (fun i => rd h (rd h 1 1 + 21 + i) 0) (rd h (rd h 1 1) 4).toNat (tV (rd h 3) (rd h 2 0) 32 j) = kR h (rd h 3) (rd h 2 0) 20 6 j := fun j ho => kn_p hN n0.2 n0.1 b18.1 ho
  have kd : ∀ j, tO (rd h 3) (rd h 2 0) j = 1 → nmC (fun i => rd h (rd h 1 1 + 7 + i) 0) (rd h (rd h 1 1) 2).toNat (tV (rd h 3) (rd h 2 0) 32 j) = kR h (rd h 3) (rd h 2 0) 0 14 j := fun j ho => kn_d hN n0.2 n0.1 b18.1 ho
  have hW : tW (rd h 3) (rd h 2 0) 32 (rd hc_556 4) = tW (rd h 3) (rd h 2 0) 37 (rd hc_556 187) := funext (fun j => tW_b n0.2 n0.1 sameW0 j)
  have same := dF_b (w := tW (rd h 3) (rd h 2 0) 37 (rd hc_556 187)) (tV_sm (T := rd h 3) n0.2 n0.1) kp kd
  generalize eF : (dF (tO (rd h 3) (rd h 2 0)) (tV (rd h 3) (rd h 2 0) 37) (tW (rd h 3) (rd h 2 0) 37 (rd hc_556 187)) (tP (rd h 3) (rd h 2 0)) (kR h (rd h 3) (rd h 2 0) 20 6) (kR h (rd h 3) (rd h 2 0) 0 14)).1.1 = F
  have A0 : Rn xs xl 6 mm_Reader_readDay 0 [some (.inr (.inr 2)), some (.inr (.inr (rd h 1 ((1 : Nat) : Int)))), some (.inr (.inr 67)), none] [] h (fun r g => r = some (.inl F)) := by
    refine F_readDay (T := rd h 3) (n := rd h 2 0) (W := rd hc_556 4) (by omega) hq c3 ⟨RF_of hI.1, ⟨rfl, fun _ _ _ => rfl, n0.1, n0.2⟩, c4⟩ hN.1 hN.2.1 (fun h' => ?_)
    rw [hW]
    have e : (dF (tO (rd h 3) (rd h 2 0)) (tV (rd h 3) (rd h 2 0) 32) (tW (rd h 3) (rd h 2 0) 37 (rd hc_556 187)) (tP (rd h 3) (rd h 2 0)) (fun j => nmC (fun i => rd h (rd h 1 1 + 21 + i) 0) (rd h (rd h 1 1) 4).toNat (tV (rd h 3) (rd h 2 0) 32 j)) (fun j => nmC (fun i => rd h (rd h 1 1 + 7 + i) 0) (rd h (rd h 1 1) 2).toNat (tV (rd h 3) (rd h 2 0) 32 j))).1.1 = F := by
      rw [same, eF]
    exact congrArg (fun x : Int => some (Sum.inl x : LV)) e
  have B0 : Rn xs xl 6 mm_Reader_readDay 0 [some (.inr (.inr 2)), some (.inr (.inr (rd h 1 ((1 : Nat) : Int)))), some (.inr (.inr 67)), none] [] h (fun r g => INV g) := K_readDay (by omega) hq hI (fun r h' i' => i')
  have A : Rn xs xl e mm_OneSided_day 0 [some (.inr (.inr 1)), none] [] h (fun r g => r = some (.inl F)) := by
    refine B_OneSided_day_0 (rSf hI.1) hq rfl rfl (RF_of hI.1) ⟨6, by omega, (A0.and B0).mono (fun r g q => ?_)⟩
    obtain ⟨rfl, gI⟩ := q
    exact B_OneSided_day_15 (rSf gI.1) (rQf gI.1) rfl rfl (RF_of gI.1) ⟨fun _ => B_OneSided_day_31 (rSf gI.1) (rQf gI.1) rfl rfl (RF_of gI.1) rfl, fun _ => ⟨0, by omega, D_copyDay_59_67 gI (fun g2 i2 _ => B_OneSided_day_31 (rSf i2.1) (rQf i2.1) rfl rfl (RF_of i2.1) rfl)⟩⟩
  have B : Rn xs xl e mm_OneSided_day 0 [some (.inr (.inr 1)), none] [] h (fun r g => INV g ∧ rd g 2 0 = 0 ∧ rd g 182 2 = rd h 182 2 ∧ KF h g) := root_0 TD_day (as := [.inr (.inr 1)]) rfl (Nat.le_trans (Nat.le_of_ble_eq_true rfl) he) hI (gAr_c (g_ref 1) gAr_n) rfl (Nat.le_of_ble_eq_true rfl) rfl rfl rfl (fun r g gI g0 gf => ⟨gI, g0, gf 182 2 (by decide +kernel), fun a i ha => gf a i (kl_bx (by decide +kernel) (kl_of (rQf hI.1) ha))⟩)
  refine (A.and B).mono (fun r g q => ?_)
  obtain ⟨rfl, gI, g0, g2, gf⟩ := q
  exact k F g gI ⟨g0, g2, gf, eF.symm⟩
theorem G_dayJ (he : 8 ≤ e) (hI : INV h) (hE : EQL h) (gI : INV g) (hd : DJ h g r) (k : ∀ g', INV g' → EQL g' → Q (some (.inl r)) g') : Rn xs xl e mm_day 0 [some (.inr (.inr 182)), none] [] g Q := by
  have n0 := rG_2_0 hI.1
  obtain ⟨g0, g2, gf, rfl⟩ := hd
  have EG := EQN_fr hI hE.2.2 (fun a i _ _ ha => gf a i ha)
  have e1 : (fun i : Nat => rd g 191 (i : Int)) = (fun i : Nat => rd h 191 (i : Int)) := funext (fun i => gf _ _ (by unfold klq kc; omega))
  have e3 : (fun i : Nat => rd g 193 (i : Int)) = (fun i : Nat => rd h 193 (i : Int)) := funext (fun i => gf _ _ (by unfold klq kc; omega))
  have e18 : rd g 182 18 = rd h 182 18 := gf _ _ (by unfold klq; omega)
  have k1 : ∀ a b, kR g (rd h 3) (rd h 2 0) a b = kR h (rd h 3) (rd h 2 0) a b := by
    intro a b
    unfold kR
    rw [e1, e3, e18]
  have A : Rn xs xl e mm_day 0 [some (.inr (.inr 182)), none] [] g (fun q g' => q = some (.inl (dF (tO (rd h 3) (rd h 2 0)) (tV (rd h 3) (rd h 2 0) 37) (tW (rd h 3) (rd h 2 0) 37 (rd hc_556 187)) (tP (rd h 3) (rd h 2 0)) (kR h (rd h 3) (rd h 2 0) 20 6) (kR h (rd h 3) (rd h 2 0) 0 14)).1.1)) := by
    refine G_day (T := rd h 3) (n := rd h 2 0) (V := rd hc_556 187) (by omega) (RF_of gI.1) (rF_namesMany gI.1) (fun i i0 i1 => rA_nameOf gI.1 ⟨i0, i1⟩) (g2.trans hE.1.symm) n0.1 n0.2 (fun i i0 i1 => ?_) EG.2.2.1 vinj0 (fun h' => ?_)
    · rw [gf 183 i (by unfold klq kc; omega)]
      exact (hE.2.1 i i0 i1).symm
    · rw [k1, k1]
  have B : Rn xs xl e mm_day 0 [some (.inr (.inr 182)), none] [] g (fun q g' => INV g' ∧ rd g' 182 2 = 0 ∧ (∀ a i, ¬ muY a i → rd g' a i = rd g a i)) := D_day (by omega) gI (fun r h' a b c => ⟨a, b, c⟩)
  refine (A.and B).mono (fun q g' z => ?_)
  obtain ⟨rfl, i', z2, f'⟩ := z
  have hq : rd g 1 1 = 5 ∨ rd g 1 1 = 32 := rQf gI.1
  exact k g' i' (EQL_0 ((f' 2 0 (by unfold muY; omega)).trans g0) z2 (EQN_fr gI EG (fun a i _ _ ha => f' a i (by unfold klq kc at ha; unfold muY; omega))))
theorem r64 (a b : Int) : i64 (lor_ a b) := y_in _
end NG6
