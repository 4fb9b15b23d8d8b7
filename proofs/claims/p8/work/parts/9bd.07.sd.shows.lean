/-! the scene, part sd: door, person, leads -/
section SCd
variable {xs : Nat → Int} {xl e : Nat} {h g : LH} {Q : Option LV → LH → Prop} {v1 v2 v3 v4 q : Int} {L : List Int}
/-- thrown is put -/
theorem thr (hI : INV h) (hE : EQL h) : INV (wr h 182 0 0) ∧ EQL (wr h 182 0 0) := by
  refine ⟨wF_thrown hI (by omega) (by omega), EQL_fr hI hE (rdw_ne (by decide)) (rdw_nei (by decide)) (fun a i ha => ?_)⟩
  have z := (inK_p ha).2.1
  rw [rd_wr, if_neg (by omega)]
theorem bt_v {x p v : Int} (hb : bt x p v) : zand (zshr x p) 1 = v := by
  have := bitZ_01 x p
  unfold bt bitZ at hb
  omega
theorem LRQ_of (hI : INV h) (hf : QFR h) (hl : LWQ h (rd h 1 1) L) : LRQ h L := by
  obtain ⟨-, -, -, -, -, a6, a7, -⟩ := hf
  obtain ⟨l1, l2, l3⟩ := hl
  have z := rq_let hI.1
  refine ⟨fun n => a6 (by omega), fun n => ?_, l3⟩
  obtain ⟨b1, b2, b3⟩ := a7 (by omega)
  rw [l1] at b2
  refine ⟨by omega, b2, fun i hi => ?_⟩
  have := b3 i (by omega)
  rw [l2 i hi] at this
  exact this
theorem fdD (hf : QFR h) (eq : rd h 1 1 = q) (z0 : 0 ≤ v1) (z1 : v1 < rd h 188 1) : ∀ j : Nat, j < 8 → rd h (q + 7 + v1) ((j : Int) + 1) = rd h 188 (8 * v1 + 4 + (j : Int)) := fun j hj => by
  have := hf.2.2.2.1 v1.toNat j (by omega) hj
  rw [Int.toNat_of_nonneg z0, eq] at this
  exact this
theorem fdP (hf : QFR h) (eq : rd h 1 1 = q) (z0 : 0 ≤ v1) (z1 : v1 < rd h 188 2) : ∀ j : Nat, j < 4 → rd h (q + 21 + v1) ((j : Int) + 1) = rd h 188 (116 + 4 * v1 + (j : Int)) := fun j hj => by
  have := hf.2.2.2.2.1 v1.toNat j (by omega) hj
  rw [Int.toNat_of_nonneg z0, eq] at this
  exact this
/-- what door answers -/
def dorV (h : LH) (d w : Int) : Int := if 0 ≤ d ∧ d < rd h 188 1 ∧ 0 ≤ w ∧ w ≤ 9 then (if w < 8 then rd h 188 (8 * d + 4 + w) else if w = 8 then zand (zshr (rd h 198 1) d) 1 else rd h 198 (d + 20)) else -1
theorem E_doorS (he : 1 ≤ e) (hI : INV h) (hE : EQL h) (k : Q (some (.inl (dorV h v1 v2))) h) : Rn xs xl e mm_OneSided_door 0 [some (.inr (.inr 1)), some (.inl v1), some (.inl v2), none] [] h Q := by
  obtain ⟨-, -, hP, -, -, -, -, ⟨k1, -, -, -, k5, -⟩⟩ := id hE
  have hq : rd h 1 1 = 5 ∨ rd h 1 1 = 32 := rQf hI.1
  have d1 := rq_doors hI.1
  have a2 := k1.2.1
  generalize eq : rd h 1 1 = q at hq a2
  have fd := fdD (v1 := v1) k1 eq
  obtain ⟨s1, s2, s3, s4, s5⟩ := k5
  unfold dorV at k
  have neg : ¬ (0 ≤ v1 ∧ v1 < rd h 188 1 ∧ 0 ≤ v2 ∧ v2 ≤ 9) → Q (some (.inl (-1))) h := fun z => by
    rw [if_neg z] at k; exact k
  have pos : 0 ≤ v1 → v1 < rd h 188 1 → ∀ j : Nat, j < 8 → v2 = (j : Int) → Q (some (.inl (rd h (q + 7 + v1) ((j : Int) + 1)))) h := fun z0 z1 j hj e => by
    rw [if_pos ⟨z0, z1, by omega, by omega⟩, if_pos (by omega), e] at k
    rw [fd z0 z1 j hj]
    exact k
  refine B_OneSided_door_0 hq eq (RF_of hI.1) hP he ⟨fun c => neg (by omega), fun c => ⟨fun c2 => neg (by omega), fun c2 => ⟨by omega, fun z => pos c (by omega) 0 (by decide) z, fun z => pos c (by omega) 1 (by decide) z, fun z => pos c (by omega) 2 (by decide) z, fun z => pos c (by omega) 3 (by decide) z, fun z => pos c (by omega) 4 (by decide) z, fun z => pos c (by omega) 5 (by decide) z, fun z => pos c (by omega) 6 (by decide) z, fun z => pos c (by omega) 7 (by decide) z, fun z => ?_, fun z => ⟨by omega, ?_⟩, fun z => neg (by omega)⟩⟩⟩
  · rw [if_pos ⟨c, by omega, by omega, by omega⟩, if_neg (by omega), if_pos z] at k
    have s2' : rd h 60 1 = rd h 198 1 := s2
    rw [s2']
    exact k
  · rw [if_pos ⟨c, by omega, by omega, by omega⟩, if_neg (by omega), if_neg (by omega)] at k
    have t := (s4 v1 c (by omega)).1
    rw [show (0 : Int) + v1 + 20 = v1 + 20 by omega] at t
    have t' : rd h 62 v1 = rd h 198 (v1 + 20) := t
    rw [t']
    exact k
theorem G_doorS (he : 2 ≤ e) (hI : INV h) (hE : EQL h) (k : ∀ g, INV g → EQL g → Q (some (.inl (dorV h v1 v2))) g) : Rn xs xl e mm_door 0 [some (.inr (.inr 182)), some (.inl v1), some (.inl v2)] [] h Q := by
  obtain ⟨i1, e1⟩ := thr hI hE
  have k' := k _ i1 e1
  have d1 := rq_doors hI.1
  unfold dorV at k'
  have neg : ¬ (0 ≤ v1 ∧ v1 < rd h 188 1 ∧ 0 ≤ v2 ∧ v2 ≤ 9) → Q (some (.inl (-1))) (wr h 182 0 0) := fun z => by
    rw [if_neg z] at k'; exact k'
  refine B_door_0 (RF_of hI.1) he ⟨fun c => neg (by omega), fun c => ⟨fun c2 => neg (by omega), fun c2 => ⟨fun c3 => neg (by omega), fun c3 => ⟨fun c4 => neg (by omega), fun c4 => ⟨fun c5 => ⟨fun c6 => ⟨by omega, by omega, ?_⟩, fun c6 => ?_⟩, fun c5 => ⟨by omega, by omega, by omega, by omega, ?_⟩⟩⟩⟩⟩⟩
  · rw [if_pos ⟨c, c2, c3, c4⟩, if_neg (by omega), if_neg c6] at k'
    exact k'
  · rw [if_pos ⟨c, c2, c3, c4⟩, if_neg (by omega), if_pos c6] at k'
    exact k'
  · rw [if_pos ⟨c, c2, c3, c4⟩, if_pos c5] at k'
    rw [show 8 * v1 + v2 + 4 = 8 * v1 + 4 + v2 by omega]
    exact k'
/-- what person answers -/
def perV (h : LH) (p w : Int) : Int := if 0 ≤ p ∧ p < rd h 188 2 ∧ 0 ≤ w ∧ w ≤ 6 then (if w < 4 then rd h 188 (116 + 4 * p + w) else if w = 4 then rd h 198 (p + 2) else if w = 5 then rd h 198 (p + 8) else rd h 198 (p + 14)) else -1
theorem E_personS (he : 1 ≤ e) (hI : INV h) (hE : EQL h) (k : Q (some (.inl (perV h v1 v2))) h) : Rn xs xl e mm_OneSided_person 0 [some (.inr (.inr 1)), some (.inl v1), some (.inl v2), none] [] h Q := by
  obtain ⟨-, -, hP, -, -, -, -, ⟨k1, -, -, -, k5, -⟩⟩ := id hE
  have hq : rd h 1 1 = 5 ∨ rd h 1 1 = 32 := rQf hI.1
  have d1 := rq_people hI.1
  have a2 := k1.2.2.1
  generalize eq : rd h 1 1 = q at hq a2
  have fd := fdP (v1 := v1) k1 eq
  obtain ⟨s1, s2, s3, s4, s5⟩ := k5
  unfold perV at k
  have neg : ¬ (0 ≤ v1 ∧ v1 < rd h 188 2 ∧ 0 ≤ v2 ∧ v2 ≤ 6) → Q (some (.inl (-1))) h := fun z => by
    rw [if_neg z] at k; exact k
  have pos : 0 ≤ v1 → v1 < rd h 188 2 → ∀ j : Nat, j < 4 → v2 = (j : Int) → Q (some (.inl (rd h (q + 21 + v1) ((j : Int) + 1)))) h := fun z0 z1 j hj e => by
    rw [if_pos ⟨z0, z1, by omega, by omega⟩, if_pos (by omega), e] at k
    rw [fd z0 z1 j hj]
    exact k
  have s3' : 0 ≤ v1 → v1 < rd h 188 2 → rd h 61 v1 = rd h 198 (v1 + 2) ∧ zand (zshr (rd h 60 3) v1) 1 = rd h 198 (v1 + 8) ∧ zand (zshr (rd h 60 2) v1) 1 = rd h 198 (v1 + 14) := fun z0 z1 => by
    obtain ⟨b1, b2, b3⟩ := s3 v1 z0 z1
    rw [show (0 : Int) + v1 + 2 = v1 + 2 by omega] at b1
    rw [show (0 : Int) + v1 + 8 = v1 + 8 by omega] at b2
    rw [show (0 : Int) + v1 + 14 = v1 + 14 by omega] at b3
    exact ⟨b1, bt_v b2, bt_v b3⟩
  refine B_OneSided_person_0 hq eq (RF_of hI.1) hP he ⟨fun c => neg (by omega), fun c => ⟨fun c2 => neg (by omega), fun c2 => ⟨by omega, fun z => pos c (by omega) 0 (by decide) z, fun z => pos c (by omega) 1 (by decide) z, fun z => pos c (by omega) 2 (by decide) z, fun z => pos c (by omega) 3 (by decide) z, fun z => ⟨by omega, ?_⟩, fun z => ?_, fun z => ?_, fun z => neg (by omega)⟩⟩⟩
  · rw [if_pos ⟨c, by omega, by omega, by omega⟩, if_neg (by omega), if_pos z] at k
    rw [(s3' c (by omega)).1]
    exact k
  · rw [if_pos ⟨c, by omega, by omega, by omega⟩, if_neg (by omega), if_neg (by omega), if_pos z] at k
    rw [(s3' c (by omega)).2.1]
    exact k
  · rw [if_pos ⟨c, by omega, by omega, by omega⟩, if_neg (by omega), if_neg (by omega), if_neg (by omega)] at k
    rw [(s3' c (by omega)).2.2]
    exact k
theorem G_personS (he : 2 ≤ e) (hI : INV h) (hE : EQL h) (k : ∀ g, INV g → EQL g → Q (some (.inl (perV h v1 v2))) g) : Rn xs xl e mm_person 0 [some (.inr (.inr 182)), some (.inl v1), some (.inl v2)] [] h Q := by
  obtain ⟨i1, e1⟩ := thr hI hE
  have k' := k _ i1 e1
  have d1 := rq_people hI.1
  unfold perV at k'
  have neg : ¬ (0 ≤ v1 ∧ v1 < rd h 188 2 ∧ 0 ≤ v2 ∧ v2 ≤ 6) → Q (some (.inl (-1))) (wr h 182 0 0) := fun z => by
    rw [if_neg z] at k'; exact k'
  refine B_person_0 (RF_of hI.1) he ⟨fun c => neg (by omega), fun c => ⟨fun c2 => neg (by omega), fun c2 => ⟨fun c3 => neg (by omega), fun c3 => ⟨fun c4 => neg (by omega), fun c4 => ⟨fun c5 => ⟨fun c6 => ⟨fun c7 => ⟨by omega, by omega, ?_⟩, fun c7 => ⟨by omega, by omega, ?_⟩⟩, fun c6 => ⟨by omega, by omega, ?_⟩⟩, fun c5 => ⟨by omega, by omega, by omega, by omega, ?_⟩⟩⟩⟩⟩⟩
  · rw [if_pos ⟨c, c2, c3, c4⟩, if_neg (by omega), if_neg c6, if_neg c7] at k'
    exact k'
  · rw [if_pos ⟨c, c2, c3, c4⟩, if_neg (by omega), if_neg c6, if_pos c7] at k'
    exact k'
  · rw [if_pos ⟨c, c2, c3, c4⟩, if_neg (by omega), if_pos c6] at k'
    exact k'
  · rw [if_pos ⟨c, c2, c3, c4⟩, if_pos c5] at k'
    rw [show 4 * v1 + v2 + 116 = 116 + 4 * v1 + v2 by omega]
    exact k'
/-- what leads answers -/
noncomputable def ledV (h : LH) (d s room hr : Int) : Int := if 0 ≤ d ∧ d < rd h 188 1 ∧ 0 ≤ s ∧ s ≤ 3 ∧ 0 ≤ room ∧ room < rd h 188 0 ∧ 0 ≤ hr ∧ hr ≤ 23 then NW (key h) (rd h 198 1) s d room hr else -1
theorem E_leadsS (he : 2 ≤ e) (hI : INV h) (hE : EQL h) (k : Q (some (.inl (ledV h v1 v2 v3 v4))) h) : Rn xs xl e mm_OneSided_leads 0 [some (.inr (.inr 1)), some (.inl v1), some (.inl v2), some (.inl v3), some (.inl v4)] [] h Q := by
  obtain ⟨-, -, hP, -, -, -, -, ⟨k1, ⟨L, l1, l2⟩, p28, p29, k5, -⟩⟩ := id hE
  have hq : rd h 1 1 = 5 ∨ rd h 1 1 = 32 := rQf hI.1
  have d1 := rq_doors hI.1
  have d0 := rq_rooms hI.1
  have lr := LRQ_of hI k1 l1
  have a2 := k1.2.1
  have a0 := k1.1
  generalize eq : rd h 1 1 = q at hq a2 a0 l1 l2
  have s2 : rd h 60 1 = rd h 198 1 := k5.2.1
  unfold ledV at k
  have neg : ¬ (0 ≤ v1 ∧ v1 < rd h 188 1 ∧ 0 ≤ v2 ∧ v2 ≤ 3 ∧ 0 ≤ v3 ∧ v3 < rd h 188 0 ∧ 0 ≤ v4 ∧ v4 ≤ 23) → Q (some (.inl (-1))) h := fun z => by
    rw [if_neg z] at k; exact k
  refine B_OneSided_leads_0 hq eq (RF_of hI.1) (by omega) ⟨fun c => neg (by omega), fun c => ⟨fun c2 => neg (by omega), fun c2 => ⟨fun c3 => neg (by omega), fun c3 => ⟨fun c4 => neg (by omega), fun c4 => ⟨fun c5 => neg (by omega), fun c5 => ⟨fun c6 => neg (by omega), fun c6 => ⟨fun c7 => neg (by omega), fun c7 => ⟨fun c8 => neg (by omega), fun c8 => ⟨1, by omega, ?_⟩⟩⟩⟩⟩⟩⟩⟩⟩
  have fd := fdD (v1 := v1) k1 eq c (by omega)
  have f5 : rd h (q + 7 + v1) 5 = rd h 188 (8 * v1 + 4 + 4) := fd 4 (by decide)
  have f2 : rd h (q + 7 + v1) 2 = rd h 188 (8 * v1 + 4 + 1) := fd 1 (by decide)
  have f3 : rd h (q + 7 + v1) 3 = rd h 188 (8 * v1 + 4 + 2) := fd 2 (by decide)
  have f6 : rd h (q + 7 + v1) 6 = rd h 188 (8 * v1 + 4 + 5) := fd 5 (by decide)
  have r5 := rq_d4 hI.1 (i := 8 * v1 + 4 + 4) (d := v1) (by omega) c (by omega)
  have r2 := rq_d1 hI.1 (i := 8 * v1 + 4 + 1) (d := v1) (by omega) c (by omega)
  have r3 := rq_d2 hI.1 (i := 8 * v1 + 4 + 2) (d := v1) (by omega) c (by omega)
  have r6 := rq_d5 hI.1 (i := 8 * v1 + 4 + 5) (d := v1) (by omega) c (by omega)
  refine F_into (L := L) (by omega) hq (by omega) c2 (by omega) (by omega) (RF_of hI.1) hP (by omega) l2 ?_
  refine B_OneSided_leads_50 (RF_of hI.1) ?_
  rw [if_pos ⟨c, by omega, by omega, by omega, by omega, by omega, by omega, by omega⟩] at k
  unfold NW at k
  rw [if_pos c8, LF_in hI (by omega) (by omega) (by omega) (by omega) fd (by omega) (by omega) (by omega) p28 p29 lr] at k
  rw [s2]
  exact k
theorem G_leadsS (he : 5 ≤ e) (hI : INV h) (hE : EQL h) (k : ∀ g, INV g → EQL g → Q (some (.inl (ledV h v1 v2 v3 v4))) g) : Rn xs xl e mm_leads 0 [some (.inr (.inr 182)), some (.inl v1), some (.inl v2), some (.inl v3), some (.inl v4)] [] h Q := by
  obtain ⟨i1, e1⟩ := thr hI hE
  have d1 := rq_doors hI.1
  have d0 := rq_rooms hI.1
  have ek : key (wr h 182 0 0) = key h := by
    unfold key
    rw [show rd (wr h 182 0 0) 188 = rd h 188 from funext (fun j => rdw_ne (by decide)), show rd (wr h 182 0 0) 189 = rd h 189 from funext (fun j => rdw_ne (by decide)), show rd (wr h 182 0 0) 190 = rd h 190 from funext (fun j => rdw_ne (by decide)), rdw_nei (by decide), rdw_nei (by decide), rdw_nei (by decide), rdw_nei (by decide)]
  have es : rd (wr h 182 0 0) 198 1 = rd h 198 1 := rdw_ne (by decide)
  have neg : ¬ (0 ≤ v1 ∧ v1 < rd h 188 1 ∧ 0 ≤ v2 ∧ v2 ≤ 3 ∧ 0 ≤ v3 ∧ v3 < rd h 188 0 ∧ 0 ≤ v4 ∧ v4 ≤ 23) → Q (some (.inl (-1))) (wr h 182 0 0) := fun z => by
    have k' := k _ i1 e1
    unfold ledV at k'
    rw [if_neg z] at k'; exact k'
  refine B_leads_0 (RF_of hI.1) (by omega) ⟨fun c => neg (by omega), fun c => ⟨fun c2 => neg (by omega), fun c2 => ⟨fun c3 => neg (by omega), fun c3 => ⟨fun c4 => neg (by omega), fun c4 => ⟨fun c5 => neg (by omega), fun c5 => ⟨fun c6 => neg (by omega), fun c6 => ⟨fun c7 => neg (by omega), fun c7 => ⟨fun c8 => neg (by omega), fun c8 => ⟨4, by omega, ?_⟩⟩⟩⟩⟩⟩⟩⟩⟩
  refine D_leadsNow (K := key (wr h 182 0 0)) (S := rd (wr h 182 0 0) 198) (by omega) ⟨i1, rfl, rfl⟩ (by omega) (by omega) (by omega) (by omega) (by omega) (fun g w gf => ?_)
  have gE : EQL g := EQL_fr i1 e1 (gf 2 0 (by decide) (by decide)) (gf 182 2 (by decide) (by decide)) (fun a i ha => gf a i (by have := (inK_p ha).1; omega) (by have := (inK_p ha).1; omega))
  have k' := k g w.1 gE
  unfold ledV at k'
  rw [if_pos ⟨c, c2, c3, c4, c5, c6, c7, c8⟩, ← ek, ← es] at k'
  exact B_leads_51 (RF_of w.1.1) k'
end SCd
