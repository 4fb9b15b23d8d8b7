/-! LM, part 44: the reference's reader: people, the law's line, lines of a day -/
def DP (b1 : Bool) (h0 : LH) (n : Int) (h : LH) : Prop := PG (muQ (266 + 4 * n) (270 + 4 * n)) h0 h ∧ rd h0 182 7 < rd h 182 7 ∧ (rd h 182 8 = 0 → rd h 182 19 = rd h0 182 19 + 1 ∧ (b1 = true → rd h 188 (267 + 4 * n) < rd h0 188 150))
section DPs
variable {b1 : Bool} {h0 h h' : LH} {n : Int}
theorem DP.pt (hd : DP b1 h0 n h) (p : PG muT h h') : DP b1 h0 n h' := by
  refine ⟨hd.1.trans (p.mono (fun x i q => muN_Q x i (muT_N x i q))), Int.lt_of_lt_of_le hd.2.1 p.2.1, fun z => ?_⟩
  have q := hd.2.2 (p.2.2.1 z)
  rw [p.2.2.2 182 19 (by unfold muT; omega), p.2.2.2 188 _ (by unfold muT; omega)]
  exact q
theorem DP.wx {i v : Int} (hd : DP b1 h0 n h) (hI : INV (wr h 188 i v)) (i0 : 266 + 4 * n ≤ i) (i1 : i < 270 + 4 * n) (n1 : i ≠ 267 + 4 * n) : DP b1 h0 n (wr h 188 i v) := by
  refine ⟨hd.1.trans (PG_q hd.1.1 hI i0 i1), ?_, fun z => ?_⟩
  · rw [rdw_ne (by decide)]
    exact hd.2.1
  · rw [rdw_ne (by decide)] at z
    rw [rdw_ne (by decide), rdw_nei n1]
    exact hd.2.2 z
theorem DP.w1 {v : Int} (hd : DP false h0 n h) (hI : INV (wr h 188 (267 + 4 * n) v)) (hv : rd h 182 8 = 0 → v < rd h0 188 150) : DP true h0 n (wr h 188 (267 + 4 * n) v) := by
  refine ⟨hd.1.trans (PG_q hd.1.1 hI (by omega) (by omega)), ?_, fun z => ?_⟩
  · rw [rdw_ne (by decide)]
    exact hd.2.1
  · rw [rdw_ne (by decide)] at z
    rw [rdw_ne (by decide), rdw_eq]
    have := hd.2.2 z
    exact ⟨this.1, fun _ => hv z⟩
theorem DP.rooms (hd : DP b1 h0 n h) (hn : 0 ≤ n) : rd h 188 150 = rd h0 188 150 ∧ rd h 188 152 = rd h0 188 152 := ⟨hd.1.2.2.2 _ _ (by unfold muQ; omega), hd.1.2.2.2 _ _ (by unfold muQ; omega)⟩
theorem PL_person (hq : NQ h0) (hd : DP true h0 n h) (en : rd h0 188 152 = n) (hn : 0 ≤ n) (h5 : n ≤ 5) (hdo : rd h0 188 151 ≤ 14) : PL h0 (wr h 188 152 (rd h 188 152 + 1)) := by
  obtain ⟨r0, r1⟩ := hd.rooms hn
  have hI : INV (wr h 188 152 (rd h 188 152 + 1)) := wq_people hd.1.inv (by omega) (by omega)
  have x7 : rd (wr h 188 152 (rd h 188 152 + 1)) 182 7 = rd h 182 7 := rdw_ne (by decide)
  have x8 : rd (wr h 188 152 (rd h 188 152 + 1)) 182 8 = rd h 182 8 := rdw_ne (by decide)
  have x13 : rd (wr h 188 152 (rd h 188 152 + 1)) 182 13 = rd h 182 13 := rdw_ne (by decide)
  have hf := hd.1.2.2.2
  refine ⟨⟨hI, trivial⟩, fun z => ⟨hd.1.2.2.1 (by rw [← x8]; exact z), by rw [x7]; exact hd.2.1⟩, fun z => ?_, fun a i hm => ?_⟩
  · rw [x8] at z
    obtain ⟨q1, q2, q3, q4, q5⟩ := hq (hd.1.2.2.1 z)
    obtain ⟨d1, d2⟩ := hd.2.2 z
    have y : ∀ i, i ≠ 152 → rd (wr h 188 152 (rd h 188 152 + 1)) 188 i = rd h 188 i := fun i hi => rdw_nei (fun q => hi q.symm)
    have y1 : rd (wr h 188 152 (rd h 188 152 + 1)) 188 152 = rd h 188 152 + 1 := rdw_eq
    have y19 : rd (wr h 188 152 (rd h 188 152 + 1)) 182 19 = rd h 182 19 := rdw_ne (by decide)
    have p2 : rd h 188 151 = rd h0 188 151 := hf _ _ (by unfold muQ; omega)
    refine ⟨by rw [y 150 (by decide), r0]; exact q1, ?_, fun d dd0 dd1 => ?_, fun p p0 p1 => ?_, ?_⟩
    · rw [y19, y1, y 151 (by decide), r1, p2]
      omega
    · rw [y 151 (by decide), p2] at dd1
      rw [y (155 + 8 * d) (by omega), y (156 + 8 * d) (by omega), y 150 (by decide), r0, hf 188 (155 + 8 * d) (by unfold muQ; omega), hf 188 (156 + 8 * d) (by unfold muQ; omega)]
      exact q3 d dd0 dd1
    · rw [y1] at p1
      rw [y (267 + 4 * p) (by omega), y 150 (by decide), r0]
      by_cases hdn : p = n
      · subst hdn
        exact d2 rfl
      · rw [hf 188 (267 + 4 * p) (by unfold muQ; omega)]
        exact q4 p p0 (by omega)
    · refine LN_same ?_ ?_ (fun i => ?_) (fun i => ?_) q5
      · rw [y 153 (by decide)]
        exact hf _ _ (by unfold muQ; omega)
      · rw [x13]
        exact hf _ _ (by unfold muQ; omega)
      · exact (rdw_ne (by decide)).trans (hf _ _ (by unfold muQ; omega))
      · exact (rdw_ne (by decide)).trans (hf _ _ (by unfold muQ; omega))
  · rw [rd_wr, if_neg]
    · exact hf a i (fun z => hm (by unfold muQ at z; unfold muA; omega))
    · rintro ⟨rfl, rfl⟩
      exact hm (by unfold muA; omega)
end DPs
section C5
variable {xs : Nat → Int} {xl e : Nat} {h : LH} {Q : Option LV → LH → Prop} {v1 v2 v3 : Int}
theorem D_readPerson (he : 4 ≤ e) (hp : PB h) (hq : NQ h) (h9 : rd h 182 7 ≤ 999) (f0 : rd h 182 8 = 0) (k : ∀ h', PL h h' → Q none h') : Rn xs xl e mm_readPerson 0 [some (.inr (.inr 182)), none, none] [] h Q := by
  have hF := RF_of hp.1.1
  have n0 := rw_people hp.1.1
  have r0 := rw_rooms hp.1.1
  have do0 := rw_doors hp.1.1
  obtain ⟨q1, q2, q3, q4, q5⟩ := hq f0
  refine B_readPerson_0 hF ⟨fun c => ⟨by omega, 3, by omega, D_readName (by omega) hp h9 (by omega) (fun _ => by omega) (fun h1 p1 lt1 m1 => ?_)⟩, fun c => ⟨0, by omega, D_wrong hp (by omega) (fun h' p1 p2 _ => B_readPerson_20 p1.rf (k h' (PL_bad p1 p2)))⟩⟩
  generalize hn : rd h 188 152 = n at *
  have d1 : DP false h n h1 := ⟨p1.mono muN_Q, lt1, fun z => ⟨m1 z, fun q => absurd q (by decide)⟩⟩
  refine B_readPerson_29 p1.rf ⟨by omega, by omega, 2, by omega, D_takeSort (by omega) p1.1 (fun r h2 p2 b2 => ?_)⟩
  rw [show (4 * n + 266 : Int) = 266 + 4 * n by omega]
  have d2 := (d1.pt p2).wx (wq_p0 p2.inv (i := 266 + 4 * n) (v := r) n rfl (by omega) (by omega) (by omega) (by omega)) (by omega) (by omega) (by omega)
  refine B_readPerson_46 p2.rf ⟨by omega, 2, by omega, D_takeWord (by omega) d2.1.1 (by omega) (fun h3 p3 => ?_)⟩
  have d3 := d2.pt p3
  refine B_readPerson_53 p3.rf ⟨by omega, 2, by omega, D_takeRoom (by omega) p3.1 (fun r h4 p4 a4 b4 => ?_)⟩
  rw [show (266 + 4 * n + 1 : Int) = 267 + 4 * n by omega]
  have d4 := (d3.pt p4).w1 (wq_p1 p4.inv (i := 267 + 4 * n) (v := r) n rfl (by omega) (by omega) (by omega) (by omega)) (fun z => by have := a4 z; have := d3.rooms (by omega); omega)
  refine B_readPerson_64 p4.rf ⟨by omega, 2, by omega, D_takeWord (by omega) d4.1.1 (by omega) (fun h5 p5 => ?_)⟩
  have d5 := d4.pt p5
  refine B_readPerson_71 p5.rf ⟨by omega, 2, by omega, D_takeRoom (by omega) p5.1 (fun r h6 p6 a6 b6 => ?_)⟩
  have d6 := (d5.pt p6).wx (wq_p2 p6.inv (i := 266 + 4 * n + 2) (v := r) n (by omega) (by omega) (by omega) (by omega) (by omega)) (by omega) (by omega) (by omega)
  refine B_readPerson_82 p6.rf ⟨by omega, by omega, 3, by omega, D_takeAfter (by omega) d6.1.1 (by omega) (by unfold i32; omega) (by unfold i32; omega) (fun r h7 p7 a7 b7 => ?_)⟩
  have rb : 0 ≤ r ∧ r ≤ 24 := by
    by_cases z : rd h7 182 8 = 0
    · have := a7 z; omega
    · have := b7 z; omega
  have d7 := (d6.pt p7).wx (wq_p3 p7.inv (i := 266 + 4 * n + 3) (v := r) n (by omega) (by omega) (by omega) (by omega) (by omega)) (by omega) (by omega) (by omega)
  have rr := d7.rooms (by omega)
  exact B_readPerson_99 p7.rf ⟨by omega, by omega, k _ (PL_person hq d7 hn (by omega) (by omega) (by omega))⟩
theorem D_readLet (he : 39 ≤ e) (hp : PB h) (hq : NQ h) (f0 : rd h 182 8 = 0) (k : ∀ h', PL h h' → Q none h') : Rn xs xl e mm_readLet 0 [some (.inr (.inr 182))] [] h Q := by
  have hF := RF_of hp.1.1
  have ha := rF_at hp.1.1
  have bad : ∀ h', PG muT h h' → rd h' 182 8 ≠ 0 → Rn xs xl e mm_readLet 33 [some (.inr (.inr 182))] [] h' Q := by
    intro h' p z
    have := rF_fault p.inv.1
    exact B_readLet_33 p.rf ⟨fun c => by omega, fun _ => k h' (PL_bad p z)⟩
  obtain ⟨q1, q2, q3, q4, q5⟩ := hq f0
  refine B_readLet_0 hF ⟨0, by omega, C_isWord hp.1 (by omega) (fun q => ?_) (fun q => ?_)⟩
  · have l9 := wd_lt hp.1 q
    refine B_readLet_6_1 hF ⟨fun c => ?_, fun c => ⟨0, by omega, D_wrong hp (by omega) (fun h' p1 p2 _ => bad h' p1 p2)⟩⟩
    have c0 : rd h 182 13 = 0 := by
      rcases q5 with z | z
      · exact z.2
      · omega
    have p1 := PS_at hp (v := rd h 182 7 + 1) (by omega) (by omega)
    have i2 : INV (wr (wr h 182 7 (rd h 182 7 + 1)) 188 153 (rd h 182 13)) := wq_let p1.inv (by omega) (by omega)
    have x7 : rd (wr (wr h 182 7 (rd h 182 7 + 1)) 188 153 (rd h 182 13)) 182 7 = rd h 182 7 + 1 := (rdw_ne (by decide)).trans rdw_eq
    have x8 : rd (wr (wr h 182 7 (rd h 182 7 + 1)) 188 153 (rd h 182 13)) 182 8 = rd h 182 8 := (rdw_ne (by decide)).trans (rdw_nei (by decide))
    have x13 : rd (wr (wr h 182 7 (rd h 182 7 + 1)) 188 153 (rd h 182 13)) 182 13 = rd h 182 13 := (rdw_ne (by decide)).trans (rdw_nei (by decide))
    have x19 : rd (wr (wr h 182 7 (rd h 182 7 + 1)) 188 153 (rd h 182 13)) 182 19 = rd h 182 19 := (rdw_ne (by decide)).trans (rdw_nei (by decide))
    have xq : ∀ i, i ≠ 153 → rd (wr (wr h 182 7 (rd h 182 7 + 1)) 188 153 (rd h 182 13)) 188 i = rd h 188 i := fun i hi => (rdw_nei (fun q => hi q.symm)).trans (rdw_ne (by decide))
    have x3 : rd (wr (wr h 182 7 (rd h 182 7 + 1)) 188 153 (rd h 182 13)) 188 153 = 0 := rdw_eq.trans c0
    have xo : ∀ a i, ¬ muA a i → rd (wr (wr h 182 7 (rd h 182 7 + 1)) 188 153 (rd h 182 13)) a i = rd h a i := by
      intro a i hn
      rw [rd_wr, if_neg, rd_wr, if_neg] <;> (rintro ⟨rfl, rfl⟩; exact hn (by unfold muA; omega))
    have pb2 : PB (wr (wr h 182 7 (rd h 182 7 + 1)) 188 153 (rd h 182 13)) := ⟨i2, trivial⟩
    refine B_readLet_33 hF ⟨fun _ => ⟨by omega, 38, by omega, C_all0 38 _ _ (by omega) pb2 (by omega) (fun h3 g3 => ?_)⟩, fun c => by omega⟩
    refine B_readLet_68 g3.1.rf ⟨0, by omega, C_emit g3.1.inv ?_⟩
    have y7 := emH_7 h3 0 0
    have y8 := emH_8 h3 0 0
    have y13 := emH_13 h3 0 0
    obtain ⟨g1, g2, g4, g5, g6, g7⟩ := g3.1
    generalize hh1 : wr (wr h 182 7 (rd h 182 7 + 1)) 188 153 (rd h 182 13) = h1 at *
    have c3 := rF_codes g1.1.1
    have a3 := rF_at g1.1.1
    have hI : INV (emH h3 0 0) := wF_codes (INV_arg (INV_op g1.1 (by omega) (by omega) (by omega)) (by omega) (by omega) (by omega)) (by omega) (by omega)
    have eo : ∀ a i, ¬ muA a i → rd (emH h3 0 0) a i = rd h3 a i := by
      intro a i hn
      unfold emH
      rw [rd_wr, if_neg, rd_wr, if_neg, rd_wr, if_neg] <;> (rintro ⟨rfl, rfl⟩; exact hn (by unfold muA; omega))
    have eq : ∀ i, rd (emH h3 0 0) 188 i = rd h1 188 i := fun i => ((rdw_ne (by decide)).trans ((rdw_ne (by decide)).trans (rdw_ne (by decide)))).trans (g7 188 i (by unfold pmut; omega))
    have e19 : rd (emH h3 0 0) 182 19 = rd h1 182 19 := ((rdw_nei (by decide)).trans ((rdw_ne (by decide)).trans (rdw_ne (by decide)))).trans (g7 182 19 (by unfold pmut; omega))
    refine B_readLet_74 (RF_of hI.1) (k _ ⟨⟨hI, trivial⟩, fun z => ⟨f0, by omega⟩, fun z => ?_, fun a i hn => ?_⟩)
    · rw [y8] at z
      refine ⟨by rw [eq, xq 150 (by decide)]; exact q1, by rw [e19, x19, eq, eq, xq 151 (by decide), xq 152 (by decide)]; exact q2, fun d d0 d1 => ?_, fun p p0 p1 => ?_, Or.inr ⟨by rw [eq]; exact x3, rd h3 182 13, by omega, ?_, emH_op h3 0 0⟩⟩
      · rw [eq, xq 151 (by decide)] at d1
        rw [eq, eq, eq, xq (155 + 8 * d) (by omega), xq (156 + 8 * d) (by omega), xq 150 (by decide)]
        exact q3 d d0 d1
      · rw [eq, xq 152 (by decide)] at p1
        rw [eq, eq, xq (267 + 4 * p) (by omega), xq 150 (by decide)]
        exact q4 p p0 p1
      · have s := g3.2 z
        rw [x13, c0] at s
        exact SegH_emH s (by omega) 0 0
    · rw [eo a i hn, g7 a i (fun z => hn (by unfold pmut at z; unfold muA; omega)), xo a i hn]
  · refine B_readLet_6_0 hF ⟨0, by omega, D_wrong hp (by omega) (fun h' p1 p2 _ => ?_)⟩
    exact B_readLet_14 p1.rf (bad h' p1 p2)
-- lines of a day
theorem D_takeTold (he : 3 ≤ e) (hp : PB h) (b1 : 0 ≤ v1 ∧ v1 ≤ 100) (b2 : 1 ≤ v2 ∧ v2 ≤ 100) (k : ∀ r h', PG muT h h' → (rd h' 182 8 = 0 → 0 ≤ r ∧ r < v2 ∧ rd h 182 7 < rd h' 182 7) → i32 r → Q (some (.inl r)) h') : Rn xs xl e mm_takeTold 0 [some (.inr (.inr 182)), some (.inl v1), some (.inl v2), none] [] h Q := by
  have hF := RF_of hp.1.1
  have t61 : ∀ (r : Int) h1, PG muT h h1 → (rd h1 182 8 = 0 → 0 ≤ r ∧ r < v2 ∧ rd h1 182 7 ≤ 999) → i32 r → Rn xs xl e mm_takeTold 61 [some (.inr (.inr 182)), some (.inl v1), some (.inl v2), some (.inl r)] [] h1 Q := by
    intro r h1 p1 c1 r32
    have a1 := rF_at p1.inv.1
    have f1 := rF_fault p1.inv.1
    have p12 := p1.2.1
    refine B_takeTold_61 p1.rf ⟨fun c => ?_, fun c => ?_⟩
    · have c1 := c1 (by omega)
      have p2 := PG_at p1.1 (v := rd h1 182 7 + 1) (by omega) (by omega)
      have e7 : rd (wr h1 182 7 (rd h1 182 7 + 1)) 182 7 = rd h1 182 7 + 1 := rdw_eq
      exact ⟨by omega, k r _ (p1.trans p2) (fun _ => ⟨c1.1, c1.2.1, by omega⟩) r32⟩
    · have p2 := PG_at p1.1 (v := rd h1 182 7) (by omega) (by omega)
      have e8 : rd (wr h1 182 7 (rd h1 182 7)) 182 8 = rd h1 182 8 := rdw_nei (by decide)
      exact ⟨by omega, k r _ (p1.trans p2) (fun z => by omega) r32⟩
  have t19 : ∀ h1, PG muT h h1 → (rd h1 182 8 = 0 → rd h1 182 7 ≤ 999) → Rn xs xl e mm_takeTold 19 [some (.inr (.inr 182)), some (.inl v1), some (.inl v2), none] [] h1 Q := by
    intro h1 p1 s1
    have a1 := rF_at p1.inv.1
    have f1 := rF_fault p1.inv.1
    have p2 := PG_at p1.1 (v := rd h1 182 7) (by omega) (by omega)
    have e8 : rd (wr h1 182 7 (rd h1 182 7)) 182 8 = rd h1 182 8 := rdw_nei (by decide)
    refine B_takeTold_19 p1.rf (by omega) ⟨fun c => ⟨0, by omega, D_find p1.inv (fun r r0 r1 => ?_)⟩, fun c => ⟨fun _ => ⟨fun _ => by omega, fun _ => ⟨by omega, k _ _ (p1.trans p2) (fun z => by omega) (by unfold i32; omega)⟩⟩, fun z => by omega⟩⟩
    have l9 := s1 (by omega)
    refine B_takeTold_35 p1.rf (by omega) ⟨by omega, fun z => by omega, fun z => ⟨by omega, fun c2 => ⟨0, by omega, D_wrong p1.1 (by omega) (fun h' p3 z3 _ => t61 _ h' (p1.trans p3) (fun z => absurd z z3) (by unfold i32; omega))⟩, fun c2 => ⟨fun c3 => ⟨0, by omega, D_wrong p1.1 (by omega) (fun h' p3 z3 _ => t61 _ h' (p1.trans p3) (fun z => absurd z z3) (by unfold i32; omega))⟩, fun c3 => t61 _ h1 p1 (fun _ => ⟨by omega, by omega, l9⟩) (by unfold i32; omega)⟩⟩⟩
  refine B_takeTold_0 hF ⟨fun c => t19 h (PG.refl hp) (fun z => absurd z c), fun c => ⟨2, by omega, D_isName (by omega) hp.1 (fun z1 z2 => ?_) ?_⟩⟩
  · exact B_takeTold_11_1 hF (t19 h (PG.refl hp) (fun _ => at_lt hp.1 (by rw [z2]; decide)))
  · refine B_takeTold_11_0 hF ⟨0, by omega, D_wrong hp (by omega) (fun h' p3 z3 _ => ?_)⟩
    exact t19 h' p3 (fun z => absurd z z3)
end C5
