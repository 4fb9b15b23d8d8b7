/-! marks and walks, part m4: what the law's loop keeps, and each call under it -/
section ME
variable {xs : Nat → Int} {xl e : Nat} {h g : LH} {Q : Option LV → LH → Prop} {v1 v2 r : Int}
theorem g_i {x : Int} (h : i32 x) : gV (0, -2147483648, 2147483647, 1) (.inl x) := in1 h.1 h.2 h
theorem g_z0 : gV (0, 0, 1, 1) (.inl 0) := in1 (by decide) (by decide) (by unfold i32; omega)
theorem g_z1 : gV (0, 0, 1, 1) (.inl 1) := in1 (by decide) (by decide) (by unfold i32; omega)
/-- cells that no call but feed, quarter and mark changes -/
def kc (a : Int) : Prop := a = 3 ∨ a = 4 ∨ a = 6 ∨ a = 7 ∨ a = 33 ∨ a = 34 ∨ a = 75 ∨ a = 183 ∨ a = 187 ∨ a = 199
def KF (h g : LH) : Prop := ∀ a i, kc a → rd g a i = rd h a i
def kcb (bs : BX) : Bool := bs.all (fun b => ([3, 4, 6, 7, 33, 34, 75, 183, 187, 199] : List Int).all (fun c => !(decide (b.1 ≤ c) && decide (c ≤ b.2.1))))
theorem kc_bx {bs : BX} (hb : kcb bs = true) {a i : Int} (ha : kc a) : inBx bs a i = false := by
  refine inBx_f (fun b hm q => ?_)
  unfold kcb at hb
  have z := List.all_eq_true.mp hb b hm
  rw [List.all_eq_true] at z
  have m : a ∈ ([3, 4, 6, 7, 33, 34, 75, 183, 187, 199] : List Int) := by
    unfold kc at ha
    simp only [List.mem_cons, List.not_mem_nil, or_false]
    exact ha
  have y := z a m
  rw [decide_eq_true q.1, decide_eq_true q.2.1] at y
  cases y
/-- both tapes hold the same; words, doors and people stand as they were made; the marks -/
def EQL (h : LH) : Prop := rd h 2 0 = rd h 182 2 ∧ (∀ i, 0 ≤ i → i < rd h 2 0 → rd h 3 i = rd h 183 i) ∧ PT h ∧ rd h 4 = rd hc_556 4 ∧ rd h 187 = rd hc_556 187 ∧ MKR h
theorem EQL_k (hE : EQL h) (f : KF h g) : PT g ∧ rd g 4 = rd hc_556 4 ∧ rd g 187 = rd hc_556 187 := by
  obtain ⟨-, -, p, w, v, -⟩ := hE
  refine ⟨PT_fr p (fun a i ha => f a i (by unfold kc; omega)), ?_, ?_⟩
  · rw [← w]; funext i; exact f 4 i (by unfold kc; omega)
  · rw [← v]; funext i; exact f 187 i (by unfold kc; omega)
theorem EQL_m (hE : EQL h) (e6 : rd g 1 6 = rd h 1 6) (f : KF h g) : MKR g := MKR_fr hE.2.2.2.2.2 e6 (fun a i ha => f a i (by unfold kc; omega))
theorem EQL_fr (hE : EQL h) (e1 : rd g 2 0 = rd h 2 0) (e2 : rd g 182 2 = rd h 182 2) (e6 : rd g 1 6 = rd h 1 6) (f : KF h g) : EQL g := by
  obtain ⟨p, w, v⟩ := EQL_k hE f
  refine ⟨by rw [e1, e2]; exact hE.1, fun i i0 i1 => ?_, p, w, v, EQL_m hE e6 f⟩
  rw [e1] at i1
  rw [f 3 i (by unfold kc; omega), f 183 i (by unfold kc; omega)]
  exact hE.2.1 i i0 i1
theorem EQL_0 (e1 : rd g 2 0 = 0) (e2 : rd g 182 2 = 0) (p : PT g ∧ rd g 4 = rd hc_556 4 ∧ rd g 187 = rd hc_556 187) (m : MKR g) : EQL g := by
  refine ⟨by rw [e1, e2], fun i i0 i1 => ?_, p.1, p.2.1, p.2.2, m⟩
  rw [e1] at i1
  omega
theorem root_i {S : SM} {a : AV} {p : PV} {l : List (Nat × AV)} {f : FA} (ok : SMok xs xl INV S) {M : LM_M} {as : List LV} {ls0 : LL} (hM : MTB S.1 = some M) (he : S.2.1 ≤ e) (hI : INV h) (ha : gAr S.2.2.1 as) (hf : S.2.2.2.2.2 = []) (hl : (lent as).length ≤ M.2.2.1) (hp : lpad M.2.2.1 (lent as) = ls0) (hc : S.2.2.2.1 = [(some a, p, l, f)]) (hk : a.1 = 0) (b1 : inBx S.2.2.2.2.1 2 0 = false) (b2 : inBx S.2.2.2.2.1 182 2 = false) (b6 : inBx S.2.2.2.2.1 1 6 = false) (b3 : kcb S.2.2.2.2.1 = true) (hE : EQL h) (k : ∀ r g, INV g → EQL g → Q (some (.inl r)) g) : Rn xs xl e M 0 ls0 [] h Q :=
  use_sm ok hM he hI ha hf hl hp (fun r g gI gf gq => by
    rw [hc] at gq
    obtain ⟨x, rfl, _⟩ := res_int gq hk
    exact k x g gI (EQL_fr hE (gf 2 0 b1) (gf 182 2 b2) (gf 1 6 b6) (fun a i ha => gf a i (kc_bx b3 ha))))
theorem root_b {S : SM} {a b : AV} {p p' : PV} {l l' : List (Nat × AV)} {f f' : FA} (ok : SMok xs xl INV S) {M : LM_M} {as : List LV} {ls0 : LL} (hM : MTB S.1 = some M) (he : S.2.1 ≤ e) (hI : INV h) (ha : gAr S.2.2.1 as) (hf : S.2.2.2.2.2 = []) (hl : (lent as).length ≤ M.2.2.1) (hp : lpad M.2.2.1 (lent as) = ls0) (hc : S.2.2.2.1 = [(some a, p, l, f), (some b, p', l', f')]) (hk : a.1 = 0) (hk' : b.1 = 0) (b1 : inBx S.2.2.2.2.1 2 0 = false) (b2 : inBx S.2.2.2.2.1 182 2 = false) (b6 : inBx S.2.2.2.2.1 1 6 = false) (b3 : kcb S.2.2.2.2.1 = true) (hE : EQL h) (k : ∀ r g, INV g → EQL g → Q (some (.inl r)) g) : Rn xs xl e M 0 ls0 [] h Q :=
  use_sm ok hM he hI ha hf hl hp (fun r g gI gf gq => by
    rw [hc] at gq
    obtain ⟨x, rfl⟩ := res_bool gq hk hk'
    exact k x g gI (EQL_fr hE (gf 2 0 b1) (gf 182 2 b2) (gf 1 6 b6) (fun a i ha => gf a i (kc_bx b3 ha))))
/-- the class's tape is empty then -/
theorem root_0 {S : SM} {a : AV} {p : PV} {l : List (Nat × AV)} (ok : SMok xs xl INV S) {M : LM_M} {as : List LV} {ls0 : LL} (hM : MTB S.1 = some M) (he : S.2.1 ≤ e) (hI : INV h) (ha : gAr S.2.2.1 as) (hf : S.2.2.2.2.2 = []) (hl : (lent as).length ≤ M.2.2.1) (hp : lpad M.2.2.1 (lent as) = ls0) (hc : S.2.2.2.1 = [(some a, p, l, [(2, 0, (0, 0, 0, 0))])]) (hk : a.1 = 0) (k : ∀ r g, INV g → rd g 2 0 = 0 → frm S.2.2.2.2.1 h g → Q (some (.inl r)) g) : Rn xs xl e M 0 ls0 [] h Q :=
  use_sm ok hM he hI ha hf hl hp (fun r g gI gf gq => by
    rw [hc] at gq
    have gq2 := gq
    obtain ⟨x, rfl, _⟩ := res_int gq hk
    refine k x g gI ?_ gf
    obtain ⟨c, hc, -, -, q3⟩ := gq2
    rw [List.mem_singleton] at hc
    subst hc
    have v := q3 _ (List.mem_singleton.mpr rfl)
    have e : hval g 2 0 = .inl (rd g 2 0) := by
      unfold hval
      rw [show lkd 2 0 = 0 by decide +kernel]
      rfl
    rw [e] at v
    exact inV_c v.2.2 rfl)
/-- the fault of the text that lies on the tapes -/
def txF (h : LH) : Int := (qF (tO (rd h 3) (rd h 2 0)) (tV (rd h 3) (rd h 2 0) 37) (tW (rd h 3) (rd h 2 0) 37 (rd hc_556 187)) (tP (rd h 3) (rd h 2 0))).1.1
theorem E_quarterJ (he : 42 ≤ e) (hI : INV h) (hE : EQL h) (k : ∀ g, INV g → rd g 2 0 = 0 → rd g 182 2 = rd h 182 2 → KF h g → (txF h ≠ 0 → rd g 1 6 = rd h 1 6) → (txF h = 0 → rd g 1 6 = 0) → Q (some (.inl (txF h))) g) : Rn xs xl e mm_OneSided_quarter 0 [some (.inr (.inr 1)), none, none] [] h Q := by
  have n0 := rG_2_0 hI.1
  have same : (qF (tO (rd h 3) (rd h 2 0)) (tV (rd h 3) (rd h 2 0) 32) (tW (rd h 3) (rd h 2 0) 32 (rd hc_556 4)) (tP (rd h 3) (rd h 2 0))).1.1 = txF h := by
    unfold txF
    rw [qF_same n0.2 n0.1 sameW0]
  have A : Rn xs xl e mm_OneSided_quarter 0 [some (.inr (.inr 1)), none, none] [] h (fun r g => r = some (.inl (txF h)) ∧ (txF h ≠ 0 → rd g 1 6 = rd h 1 6) ∧ (txF h = 0 → rd g 1 6 = 0)) := by
    refine E_quarterM he hI hE.2.2.1 ⟨rfl, fun _ _ _ => rfl, n0.1, n0.2⟩ hE.2.2.2.1 ?_
    rw [same]
    exact fun h' a b => ⟨rfl, a, b⟩
  have B : Rn xs xl e mm_OneSided_quarter 0 [some (.inr (.inr 1)), none, none] [] h (fun r g => INV g ∧ rd g 2 0 = 0 ∧ rd g 182 2 = rd h 182 2 ∧ KF h g) := root_0 TC_quarter (as := [.inr (.inr 1)]) rfl (Nat.le_trans (Nat.le_of_ble_eq_true rfl) he) hI (gAr_c (g_ref 1) gAr_n) rfl (Nat.le_of_ble_eq_true rfl) rfl rfl rfl (fun r g gI g0 gf => ⟨gI, g0, gf 182 2 (by decide +kernel), fun a i ha => gf a i (kc_bx (by decide +kernel) ha)⟩)
  refine (A.and B).mono (fun r g q => ?_)
  obtain ⟨⟨rfl, a1, a2⟩, gI, g0, g2, gf⟩ := q
  exact k g gI g0 g2 gf a1 a2
theorem G_quarterJ (he : 42 ≤ e) (hI : INV h) (hE : EQL h) (gI : INV g) (g0 : rd g 2 0 = 0) (g2 : rd g 182 2 = rd h 182 2) (gf : KF h g) (m1 : txF h ≠ 0 → rd g 1 6 = rd h 1 6) (m2 : txF h = 0 → rd g 1 6 = 0) (k : ∀ g', INV g' → EQL g' → Q (some (.inl (txF h))) g') : Rn xs xl e mm_quarter 0 [some (.inr (.inr 182)), none] [] g Q := by
  have n0 := rG_2_0 hI.1
  obtain ⟨p, w, v⟩ := EQL_k hE gf
  have A : Rn xs xl e mm_quarter 0 [some (.inr (.inr 182)), none] [] g (fun r g' => r = some (.inl (txF h)) ∧ rd g' 187 = rd hc_556 187 ∧ (txF h ≠ 0 → ∀ a i, pq a i → rd g' a i = rd g a i) ∧ (txF h = 0 → ∀ m, 0 ≤ m → m < 4 → rd g' 199 m = 0)) := by
    refine G_quarter2 (T := rd h 3) (n := rd h 2 0) (V := rd hc_556 187) (by omega) gI (g2.trans hE.1.symm) n0.1 n0.2 (fun i i0 i1 => ?_) v vinj0 (fun h' a b c => ⟨rfl, a, b, fun z => (c z).2.1⟩)
    rw [gf 183 i (by unfold kc; omega)]
    exact (hE.2.1 i i0 i1).symm
  have B : Rn xs xl e mm_quarter 0 [some (.inr (.inr 182)), none] [] g (fun r g' => INV g' ∧ rd g' 182 2 = 0 ∧ (∀ a i, a < 182 → rd g' a i = rd g a i)) := D_quarter (by omega) gI (fun r h' a b c => ⟨a, b, c⟩)
  refine (A.and B).mono (fun r g' q => ?_)
  obtain ⟨⟨rfl, v', n1, n2⟩, gI', e2, fr⟩ := q
  refine k g' gI' (EQL_0 ((fr 2 0 (by decide)).trans g0) e2 ⟨PT_fr p (fun a i ha => fr a i (by omega)), ?_, v'⟩ ?_)
  · rw [← w]; funext i; exact fr 4 i (by decide)
  · obtain ⟨k1, k2, k3⟩ := hE.2.2.2.2.2
    have h75 : ∀ m, 0 ≤ m → m < 4 → rd g' 75 m = 102 + 8 * m := fun m h0 h1 => by rw [fr 75 m (by decide), gf 75 m (by unfold kc; omega)]; exact k1 m h0 h1
    by_cases z : txF h = 0
    · have e6 : rd g' 1 6 = 0 := (fr 1 6 (by decide)).trans (m2 z)
      refine ⟨h75, by rw [e6]; decide, fun m h0 h1 => ?_⟩
      rw [n2 z m h0 h1, e6]
      have y := mbit_0 m.toNat (by omega)
      rw [show ((m.toNat : Nat) : Int) = m by omega] at y
      exact y.symm
    · have e6 : rd g' 1 6 = rd h 1 6 := (fr 1 6 (by decide)).trans (m1 z)
      refine ⟨h75, by rw [e6]; exact k2, fun m h0 h1 => ?_⟩
      rw [n1 z 199 m (by unfold pq; omega), gf 199 m (by unfold kc; omega), e6]
      exact k3 m h0 h1
theorem day_E (hE : EQL h) (gz : rd h 2 0 = 0) (e2 : rd g 182 2 = 0) (f2 : ∀ a i, ¬ muY a i → rd g a i = rd h a i) : EQL g := by
  have f : KF h g := fun a i ha => f2 a i (by unfold kc at ha; unfold muY; omega)
  exact EQL_0 ((f2 2 0 (by unfold muY; omega)).trans gz) e2 (EQL_k hE f) (EQL_m hE (f2 1 6 (by unfold muY; omega)) f)
/-- between both marks -/
def MJ (h g : LH) (v1 v2 r : Int) : Prop := rd g 2 0 = rd h 2 0 ∧ rd g 182 2 = rd h 182 2 ∧ KF h g ∧ ((mrkA (rd h 1 6) v1 v2 ∧ r = 1 ∧ rd g 1 6 = (if v2 = 0 then zor (rd h 1 6) (zshl 1 v1) else rd h 1 6)) ∨ (¬ mrkA (rd h 1 6) v1 v2 ∧ r = 0 ∧ rd g 1 6 = rd h 1 6))
theorem E_markJ (he : 8 ≤ e) (hI : INV h) (hE : EQL h) (h1 : i32 v1) (h2 : gV (0, 0, 1, 1) (.inl v2)) (k : ∀ r g, INV g → MJ h g v1 v2 r → Q (some (.inl r)) g) : Rn xs xl e mm_OneSided_mark 0 [some (.inr (.inr 1)), some (.inl v1), some (.inl v2)] [] h Q := by
  have A : Rn xs xl e mm_OneSided_mark 0 [some (.inr (.inr 1)), some (.inl v1), some (.inl v2)] [] h (fun r g => ∃ x, r = some (.inl x) ∧ ((mrkA (rd h 1 6) v1 v2 ∧ x = 1 ∧ rd g 1 6 = (if v2 = 0 then zor (rd h 1 6) (zshl 1 v1) else rd h 1 6)) ∨ (¬ mrkA (rd h 1 6) v1 v2 ∧ x = 0 ∧ rd g 1 6 = rd h 1 6))) := E_markX (by omega) hI hE.2.2.2.2.2 (fun g a b => ⟨1, rfl, Or.inl ⟨a, rfl, b⟩⟩) (fun a => ⟨0, rfl, Or.inr ⟨a, rfl, rfl⟩⟩)
  have B : Rn xs xl e mm_OneSided_mark 0 [some (.inr (.inr 1)), some (.inl v1), some (.inl v2)] [] h (fun r g => INV g ∧ rd g 2 0 = rd h 2 0 ∧ rd g 182 2 = rd h 182 2 ∧ KF h g) := use_sm TD_mark (as := [.inr (.inr 1), .inl v1, .inl v2]) rfl (Nat.le_trans (Nat.le_of_ble_eq_true rfl) he) hI (gAr_c (g_ref 1) (gAr_c (g_i h1) (gAr_c h2 gAr_n))) rfl (Nat.le_of_ble_eq_true rfl) rfl (fun r g gI gf gq => ⟨gI, gf 2 0 (by decide +kernel), gf 182 2 (by decide +kernel), fun a i ha => gf a i (kc_bx (by decide +kernel) ha)⟩)
  refine (A.and B).mono (fun r g q => ?_)
  obtain ⟨⟨x, rfl, a⟩, gI, b1, b2, b3⟩ := q
  exact k x g gI ⟨b1, b2, b3, a⟩
theorem G_markJ (he : 8 ≤ e) (hE : EQL h) (gI : INV g) (hm : MJ h g v1 v2 r) (k : ∀ g', INV g' → EQL g' → Q (some (.inl r)) g') : Rn xs xl e mm_mark 0 [some (.inr (.inr 182)), some (.inl v1), some (.inl v2), none] [] g Q := by
  obtain ⟨e1, e2, gf, hc⟩ := hm
  obtain ⟨k1, k2, k3⟩ := hE.2.2.2.2.2
  obtain ⟨p, w, v⟩ := EQL_k hE gf
  have g9 : ∀ i, rd g 199 i = rd h 199 i := fun i => gf 199 i (by unfold kc; omega)
  have iff : ((0 ≤ v1 ∧ v1 < 4) ∧ (v2 = 0 ∨ rd g 199 v1 ≠ 0)) ↔ mrkA (rd h 1 6) v1 v2 := by
    unfold mrkA
    constructor
    · rintro ⟨a, b⟩
      rw [g9, k3 v1 a.1 a.2] at b
      exact ⟨a, b⟩
    · rintro ⟨a, b⟩
      rw [g9, k3 v1 a.1 a.2]
      exact ⟨a, b⟩
  have A : Rn xs xl e mm_mark 0 [some (.inr (.inr 182)), some (.inl v1), some (.inl v2), none] [] g (fun q g' => (q = some (.inl 1) ∧ mrkA (rd h 1 6) v1 v2 ∧ ∀ i, rd g' 199 i = if i = v1 then 1 else rd h 199 i) ∨ (q = some (.inl 0) ∧ ¬ mrkA (rd h 1 6) v1 v2 ∧ ∀ i, rd g' 199 i = rd h 199 i)) := G_markX (by omega) gI (fun g' a b c => Or.inl ⟨rfl, iff.mp ⟨a, b⟩, fun i => by rw [c i, g9]⟩) (fun g' a c => Or.inr ⟨rfl, fun z => a (iff.mpr z), fun i => (c i).trans (g9 i)⟩)
  have B : Rn xs xl e mm_mark 0 [some (.inr (.inr 182)), some (.inl v1), some (.inl v2), none] [] g (fun q g' => INV g' ∧ (∀ a i, a ≠ 195 → a ≠ 198 → a ≠ 199 → a ≠ 200 → ¬ (a = 182 ∧ (i = 0 ∨ i = 25)) → rd g' a i = rd g a i)) := D_mark (by omega) gI (fun r g' a b => ⟨a, b⟩)
  refine (A.and B).mono (fun q g' z => ?_)
  obtain ⟨z1, i', f'⟩ := z
  have t1 : rd g' 2 0 = rd h 2 0 := (f' 2 0 (by decide) (by decide) (by decide) (by decide) (by decide)).trans e1
  have t2 : rd g' 182 2 = rd h 182 2 := (f' 182 2 (by decide) (by decide) (by decide) (by decide) (by decide)).trans e2
  have t3 : rd g' 3 = rd h 3 := funext (fun i => (f' 3 i (by decide) (by decide) (by decide) (by decide) (by omega)).trans (gf 3 i (by unfold kc; omega)))
  have t4 : rd g' 183 = rd h 183 := funext (fun i => (f' 183 i (by decide) (by decide) (by decide) (by decide) (by omega)).trans (gf 183 i (by unfold kc; omega)))
  have P' : PT g' := PT_fr p (fun a i ha => f' a i (by omega) (by omega) (by omega) (by omega) (by omega))
  have W' : rd g' 4 = rd hc_556 4 := by rw [← w]; funext i; exact f' 4 i (by decide) (by decide) (by decide) (by decide) (by omega)
  have V' : rd g' 187 = rd hc_556 187 := by rw [← v]; funext i; exact f' 187 i (by decide) (by decide) (by decide) (by decide) (by omega)
  have h75 : ∀ m, 0 ≤ m → m < 4 → rd g' 75 m = 102 + 8 * m := fun m h0 h1 => by rw [f' 75 m (by decide) (by decide) (by decide) (by decide) (by omega), gf 75 m (by unfold kc; omega)]; exact k1 m h0 h1
  have t6 : rd g' 1 6 = rd g 1 6 := f' 1 6 (by decide) (by decide) (by decide) (by decide) (by decide)
  have fin : MKR g' → EQL g' := fun m' => ⟨by rw [t1, t2]; exact hE.1, fun i i0 i1 => by rw [t1] at i1; rw [t3, t4]; exact hE.2.1 i i0 i1, P', W', V', m'⟩
  rcases z1 with ⟨rfl, a1, c1⟩ | ⟨rfl, a0, c0⟩
  · rcases hc with ⟨b1, rfl, b3⟩ | ⟨b1, -, -⟩
    · refine k g' i' (fin ⟨h75, ?_, fun m h0 h1 => ?_⟩)
      · rw [t6, b3]
        split
        · exact mbit_in k2 b1.1
        · exact k2
      · rw [c1 m, t6, b3]
        by_cases z : v2 = 0
        · rw [if_pos z, mbit_or k2 b1.1 ⟨h0, h1⟩, k3 m h0 h1]
        · rw [if_neg z]
          by_cases y : m = v1
          · rw [if_pos y, y]
            have nz := b1.2.resolve_left z
            have o := mbit_01 (rd h 1 6).toNat (by omega) v1.toNat (by omega)
            rw [show (((rd h 1 6).toNat : Nat) : Int) = rd h 1 6 by omega, show ((v1.toNat : Nat) : Int) = v1 by omega] at o
            omega
          · rw [if_neg y]; exact k3 m h0 h1
    · exact absurd a1 b1
  · rcases hc with ⟨b1, -, -⟩ | ⟨b1, rfl, b3⟩
    · exact absurd b1 a0
    · refine k g' i' (fin ⟨h75, by rw [t6, b3]; exact k2, fun m h0 h1 => ?_⟩)
      rw [c0 m, t6, b3]
      exact k3 m h0 h1
theorem r64 (a b : Int) : i64 (lor_ a b) := y_in _
end ME
