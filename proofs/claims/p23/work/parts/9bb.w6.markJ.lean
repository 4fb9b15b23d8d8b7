/-! walks, part w6: mark under the relation -/
section WG6
variable {xs : Nat → Int} {xl e : Nat} {h g g' : LH} {Q : Option LV → LH → Prop} {v1 v2 r : Int}
/-- what mark leaves alone in the class -/
def mkF (h g : LH) : Prop := rd g 2 0 = rd h 2 0 ∧ rd g 182 2 = rd h 182 2 ∧ (∀ a i, kc a → rd g a i = rd h a i) ∧ (∀ a i, (a, i) ∈ PLr → rd g a i = rd h a i) ∧ rd g 1 1 = rd h 1 1 ∧ rd g 1 2 = rd h 1 2 ∧ rd g (rd h 1 1) 0 = rd h (rd h 1 1) 0
def MJ (h g : LH) (v1 v2 r : Int) : Prop := mkF h g ∧ ((mrkA (rd h 1 6) v1 v2 ∧ r = 1 ∧ rd g 1 6 = (if v2 = 0 then zor (rd h 1 6) (zshl 1 v1) else rd h 1 6) ∧ (v2 = 0 → cpTo h g v1) ∧ (v2 ≠ 0 → cpFr h g v1)) ∨ (¬ mrkA (rd h 1 6) v1 v2 ∧ r = 0 ∧ ∀ a i, rd g a i = rd h a i))
theorem E_markJ (he : 8 ≤ e) (hI : INV h) (hE : EQL h) (h1 : i32 v1) (h2 : gV (0, 0, 1, 1) (.inl v2)) (k : ∀ r g, INV g → MJ h g v1 v2 r → Q (some (.inl r)) g) : Rn xs xl e mm_OneSided_mark 0 [some (.inr (.inr 1)), some (.inl v1), some (.inl v2)] [] h Q := by
  have hM := hE.2.2.2.2.2.2.1
  have A : Rn xs xl e mm_OneSided_mark 0 [some (.inr (.inr 1)), some (.inl v1), some (.inl v2)] [] h (fun r g => ∃ x, r = some (.inl x) ∧ ((mrkA (rd h 1 6) v1 v2 ∧ x = 1 ∧ rd g 1 6 = (if v2 = 0 then zor (rd h 1 6) (zshl 1 v1) else rd h 1 6) ∧ (v2 = 0 → cpTo h g v1) ∧ (v2 ≠ 0 → cpFr h g v1)) ∨ (¬ mrkA (rd h 1 6) v1 v2 ∧ x = 0 ∧ ∀ a i, rd g a i = rd h a i))) := E_markW (by omega) hI hM (fun g a b c d => ⟨1, rfl, Or.inl ⟨a, rfl, b, c, d⟩⟩) (fun a => ⟨0, rfl, Or.inr ⟨a, rfl, fun _ _ => rfl⟩⟩)
  have B : Rn xs xl e mm_OneSided_mark 0 [some (.inr (.inr 1)), some (.inl v1), some (.inl v2)] [] h (fun r g => INV g ∧ mkF h g) := use_sm TD_mark (as := [.inr (.inr 1), .inl v1, .inl v2]) rfl (Nat.le_trans (Nat.le_of_ble_eq_true rfl) he) hI (gAr_c (g_ref 1) (gAr_c (g_i h1) (gAr_c h2 gAr_n))) rfl (Nat.le_of_ble_eq_true rfl) rfl (fun r g gI gf gq => ⟨gI, gf 2 0 (by decide +kernel), gf 182 2 (by decide +kernel), fun a i ha => gf a i (kc_bx (by decide +kernel) ha), fun a i ha => gf a i (rc_bx (L := PLr) (by decide +kernel) ha), gf 1 1 (by decide +kernel), gf 1 2 (by decide +kernel), by
    rcases (show rd h 1 1 = 5 ∨ rd h 1 1 = 32 from rQf hI.1) with q | q
    · rw [q]; exact gf 5 0 (by decide +kernel)
    · rw [q]; exact gf 32 0 (by decide +kernel)⟩)
  refine (A.and B).mono (fun r g q => ?_)
  obtain ⟨⟨x, rfl, a⟩, gI, b⟩ := q
  exact k x g gI ⟨b, a⟩
/-- all but marks and walks stays -/
theorem EQL_m (hE : EQL h) (t1 : rd g 2 0 = rd h 2 0) (t2 : rd g 182 2 = rd h 182 2) (FC : ∀ a i, kc a → a ≠ 199 → rd g a i = rd h a i) (e11 : rd g 1 1 = rd h 1 1) (e12 : rd g 1 2 = rd h 1 2) (eq0 : rd g (rd h 1 1) 0 = rd h (rd h 1 1) 0) (er : rd g 188 0 = rd h 188 0) (m2 : 0 ≤ rd g 1 6 ∧ rd g 1 6 ≤ 15) (m3 : ∀ m, 0 ≤ m → m < 4 → rd g 199 m = zand (zshr (rd g 1 6) m) 1) (w2 : rd g 59 4 = rd g 198 34) (w3 : ∀ m, 0 ≤ m → m < 4 → rd g 199 m ≠ 0 → rd g (102 + 8 * m) 4 = rd g 198 (70 * m + 104)) : EQL g := by
  obtain ⟨c1, c2, hP, hW4, hV, sq, ⟨k1, -, -⟩, ⟨w1, -, -⟩⟩ := hE
  refine ⟨by rw [t1, t2]; exact c1, fun i i0 i1 => ?_, PT_fr hP (fun a i ha => FC a i (kc_p ha) (by omega)), ?_, ?_, ?_, ⟨fun m h0 h1 => ?_, m2, m3⟩, ?_, w2, w3⟩
  · rw [t1] at i1
    rw [FC 3 i kc_3 (by decide), FC 183 i kc_183 (by decide)]
    exact c2 i i0 i1
  · rw [← hW4]; funext i; exact FC 4 i kc_4 (by decide)
  · rw [← hV]; funext i; exact FC 187 i kc_187 (by decide)
  · rw [e11, e12]; exact sq
  · rw [FC 75 m kc_75 (by decide)]; exact k1 m h0 h1
  · rw [e11, eq0, er]; exact w1
theorem kc_x {a : Int} (h : kc a) : a ≠ 195 ∧ a ≠ 198 ∧ a ≠ 200 ∧ a ≠ 182 := by unfold kc at h; omega
theorem plr_34 : ((198 : Int), (34 : Int)) ∈ PLr := by decide
theorem plr_188 : ((188 : Int), (0 : Int)) ∈ PLr := by decide
theorem plr_m {m : Int} (h0 : 0 ≤ m) (h1 : m < 4) : ((198 : Int), 70 * m + 104) ∈ PLr := by
  rcases (show m = 0 ∨ m = 1 ∨ m = 2 ∨ m = 3 by omega) with rfl | rfl | rfl | rfl <;> decide
theorem G_markJ (he : 8 ≤ e) (hI : INV h) (hE : EQL h) (gI : INV g) (hm : MJ h g v1 v2 r) (k : ∀ g', INV g' → EQL g' → Q (some (.inl r)) g') : Rn xs xl e mm_mark 0 [some (.inr (.inr 182)), some (.inl v1), some (.inl v2), none] [] g Q := by
  obtain ⟨⟨e1, e2, gc, gr, e11, e12, eq0⟩, hc⟩ := hm
  obtain ⟨-, -, -, -, -, -, ⟨k1, k2, k3⟩, ⟨w1, w2, w3⟩⟩ := id hE
  have hq : rd h 1 1 = 5 ∨ rd h 1 1 = 32 := rQf hI.1
  have g9 : ∀ i, rd g 199 i = rd h 199 i := fun i => gc 199 i kc_199
  have g34 : rd g 198 34 = rd h 198 34 := gr _ _ plr_34
  have gm : ∀ m, 0 ≤ m → m < 4 → rd g 198 (70 * m + 104) = rd h 198 (70 * m + 104) := fun m h0 h1 => gr _ _ (plr_m h0 h1)
  have iff : ((0 ≤ v1 ∧ v1 < 4) ∧ (v2 = 0 ∨ rd g 199 v1 ≠ 0)) ↔ mrkA (rd h 1 6) v1 v2 := by
    unfold mrkA
    constructor
    · rintro ⟨a, b⟩
      rw [g9, k3 v1 a.1 a.2] at b
      exact ⟨a, b⟩
    · rintro ⟨a, b⟩
      rw [g9, k3 v1 a.1 a.2]
      exact ⟨a, b⟩
  have A : Rn xs xl e mm_mark 0 [some (.inr (.inr 182)), some (.inl v1), some (.inl v2), none] [] g (fun q g' => (q = some (.inl 1) ∧ mrkA (rd h 1 6) v1 v2 ∧ (∀ i, rd g' 199 i = if i = v1 then 1 else rd h 199 i) ∧ (v2 = 0 → rcTo g g' v1) ∧ (v2 ≠ 0 → rcFr g g' v1)) ∨ (q = some (.inl 0) ∧ ¬ mrkA (rd h 1 6) v1 v2 ∧ (∀ i, rd g' 199 i = rd h 199 i) ∧ (∀ i, rd g' 198 i = rd g 198 i))) := G_markW (by omega) gI (fun g' a b c d d' => Or.inl ⟨rfl, iff.mp ⟨a, b⟩, fun i => by rw [c i, g9], d, d'⟩) (fun g' a c d => Or.inr ⟨rfl, fun z => a (iff.mpr z), fun i => (c i).trans (g9 i), d⟩)
  have B : Rn xs xl e mm_mark 0 [some (.inr (.inr 182)), some (.inl v1), some (.inl v2), none] [] g (fun q g' => INV g' ∧ (∀ a i, a ≠ 195 → a ≠ 198 → a ≠ 199 → a ≠ 200 → ¬ (a = 182 ∧ (i = 0 ∨ i = 25)) → rd g' a i = rd g a i)) := D_mark (by omega) gI (fun r g' a b => ⟨a, b⟩)
  refine (A.and B).mono (fun q g' z => ?_)
  obtain ⟨z1, i', f'⟩ := z
  have t1 : rd g' 2 0 = rd h 2 0 := (f' 2 0 (by decide) (by decide) (by decide) (by decide) (by decide)).trans e1
  have t2 : rd g' 182 2 = rd h 182 2 := (f' 182 2 (by decide) (by decide) (by decide) (by decide) (by decide)).trans e2
  have FC : ∀ a i, kc a → a ≠ 199 → rd g' a i = rd h a i := fun a i ha hn => (f' a i (kc_x ha).1 (kc_x ha).2.1 hn (kc_x ha).2.2.1 (fun z => (kc_x ha).2.2.2 z.1)).trans (gc a i ha)
  have t11 : rd g' 1 1 = rd h 1 1 := (f' 1 1 (by decide) (by decide) (by decide) (by decide) (by decide)).trans e11
  have t12 : rd g' 1 2 = rd h 1 2 := (f' 1 2 (by decide) (by decide) (by decide) (by decide) (by decide)).trans e12
  have t16 : rd g' 1 6 = rd g 1 6 := f' 1 6 (by decide) (by decide) (by decide) (by decide) (by decide)
  have tq0 : rd g' (rd h 1 1) 0 = rd h (rd h 1 1) 0 := by
    rcases hq with q5 | q5
    · rw [q5] at eq0 ⊢; exact (f' 5 0 (by decide) (by decide) (by decide) (by decide) (by decide)).trans eq0
    · rw [q5] at eq0 ⊢; exact (f' 32 0 (by decide) (by decide) (by decide) (by decide) (by decide)).trans eq0
  have tr : rd g' 188 0 = rd h 188 0 := (f' 188 0 (by decide) (by decide) (by decide) (by decide) (by decide)).trans (gr _ _ plr_188)
  have t59 : rd g' 59 4 = rd g 59 4 := f' 59 4 (by decide) (by decide) (by decide) (by decide) (by decide)
  have tmm : ∀ m, 0 ≤ m → m < 4 → rd g' (102 + 8 * m) 4 = rd g (102 + 8 * m) 4 := fun m h0 h1 => by
    rcases (show m = 0 ∨ m = 1 ∨ m = 2 ∨ m = 3 by omega) with rfl | rfl | rfl | rfl <;> exact f' _ 4 (by decide) (by decide) (by decide) (by decide) (by decide)
  clear f' A B
  have fin := EQL_m (g := g') hE t1 t2 FC t11 t12 tq0 tr
  clear FC gc gr
  rcases z1 with ⟨rfl, a1, c1, c2, c3⟩ | ⟨rfl, a0, c0, c8⟩
  · rcases hc with ⟨b1, rfl, b3, b4, b5⟩ | ⟨b1, -, -⟩
    · have hv := b1.1
      have nz : v2 ≠ 0 → rd h 199 v1 ≠ 0 := fun z => by rw [k3 v1 hv.1 hv.2]; exact b1.2.resolve_left z
      refine k g' i' (fin ?_ (fun m h0 h1 => ?_) ?_ (fun m h0 h1 hm => ?_))
      · rw [t16, b3]
        split
        · exact mbit_in k2 hv
        · exact k2
      · rw [c1 m, t16, b3]
        by_cases z : v2 = 0
        · rw [if_pos z, mbit_or k2 hv ⟨h0, h1⟩, k3 m h0 h1]
        · rw [if_neg z]
          by_cases y : m = v1
          · rw [if_pos y, y]
            have nz' := b1.2.resolve_left z
            have o := mbit_01 (rd h 1 6).toNat (by omega) v1.toNat (by omega)
            rw [show (((rd h 1 6).toNat : Nat) : Int) = rd h 1 6 by omega, show ((v1.toNat : Nat) : Int) = v1 by omega] at o
            exact (o.resolve_left nz').symm
          · rw [if_neg y]; exact k3 m h0 h1
      · by_cases z : v2 = 0
        · rw [t59, (b4 z).2.1, (c2 z).2.1, g34]; exact w2
        · rw [t59, (b5 z).1, (c3 z).1, gm v1 hv.1 hv.2]; exact w3 v1 hv.1 hv.2 (nz z)
      · rw [tmm m h0 h1]
        rw [c1 m] at hm
        by_cases z : v2 = 0
        · by_cases y : m = v1
          · subst y
            rw [(b4 z).1, (c2 z).1, g34]; exact w2
          · rw [if_neg y] at hm
            rw [(b4 z).2.2 m h0 h1 y, (c2 z).2.2 m h0 h1 y, gm m h0 h1]
            exact w3 m h0 h1 hm
        · rw [(b5 z).2 m h0 h1, (c3 z).2 m h0 h1, gm m h0 h1]
          by_cases y : m = v1
          · subst y; exact w3 m h0 h1 (nz z)
          · rw [if_neg y] at hm; exact w3 m h0 h1 hm
    · exact absurd a1 b1
  · rcases hc with ⟨b1, -, -⟩ | ⟨b1, rfl, b3⟩
    · exact absurd b1 a0
    · refine k g' i' (fin ?_ (fun m h0 h1 => ?_) ?_ (fun m h0 h1 hm => ?_))
      · rw [t16, b3]; exact k2
      · rw [c0 m, t16, b3]; exact k3 m h0 h1
      · rw [t59, b3, c8, g34]; exact w2
      · rw [c0 m] at hm
        rw [tmm m h0 h1, b3, c8, gm m h0 h1]
        exact w3 m h0 h1 hm
theorem r64 (a b : Int) : i64 (lor_ a b) := y_in _
end WG6
