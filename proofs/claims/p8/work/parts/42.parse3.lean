/-! LM, part 42: the reference's reader: numbers, names, doors, people, the law's line -/
/-- steps of the reader that change places of mu alone -/
def PG (mu : Int → Int → Prop) (h h' : LH) : Prop := PB h' ∧ rd h 182 7 ≤ rd h' 182 7 ∧ (rd h' 182 8 = 0 → rd h 182 8 = 0) ∧ ∀ a i, ¬ mu a i → rd h' a i = rd h a i
def muT (a i : Int) : Prop := a = 182 ∧ (i = 7 ∨ i = 8)
def muN (a i : Int) : Prop := (a = 182 ∧ (i = 7 ∨ i = 8 ∨ i = 19)) ∨ a = 192 ∨ a = 194
def muQ (lo hi a i : Int) : Prop := (a = 182 ∧ (i = 7 ∨ i = 8 ∨ i = 19)) ∨ a = 192 ∨ a = 194 ∨ (a = 188 ∧ lo ≤ i ∧ i < hi)
section PGs
variable {mu mu' : Int → Int → Prop} {h h1 h2 : LH}
theorem PG.refl (hp : PB h) : PG mu h h := ⟨hp, Int.le_refl _, id, fun _ _ _ => rfl⟩
theorem PG.trans (a : PG mu h h1) (b : PG mu h1 h2) : PG mu h h2 := ⟨b.1, Int.le_trans a.2.1 b.2.1, fun q => a.2.2.1 (b.2.2.1 q), fun x i hn => (b.2.2.2 x i hn).trans (a.2.2.2 x i hn)⟩
theorem PG.mono (a : PG mu h h1) (hm : ∀ x i, mu x i → mu' x i) : PG mu' h h1 := ⟨a.1, a.2.1, a.2.2.1, fun x i hn => a.2.2.2 x i (fun q => hn (hm x i q))⟩
theorem PG.inv (a : PG mu h h1) : INV h1 := a.1.1
theorem PG.rf (a : PG mu h h1) : RF h1 := RF_of a.1.1.1
theorem PG_at (hp : PB h) {v : Int} (h0 : rd h 182 7 ≤ v) (h1 : v ≤ 1000) : PG muT h (wr h 182 7 v) := by
  have p := PS_at hp h0 h1
  refine ⟨p.1, p.2.1, p.2.2.1, fun a i hn => ?_⟩
  rw [rd_wr, if_neg]
  rintro ⟨rfl, rfl⟩
  exact hn ⟨rfl, Or.inl rfl⟩
theorem PG_fault (hp : PB h) {v : Int} (h0 : 1 ≤ v) (h1 : v ≤ 16005) : PG muT h (wr h 182 8 v) := by
  have p := PS_fault hp h0 h1
  refine ⟨p.1, p.2.1, p.2.2.1, fun a i hn => ?_⟩
  rw [rd_wr, if_neg]
  rintro ⟨rfl, rfl⟩
  exact hn ⟨rfl, Or.inr rfl⟩
theorem muT_N (x i : Int) (q : muT x i) : muN x i := by unfold muT at q; unfold muN; omega
theorem muN_Q {lo hi : Int} (x i : Int) (q : muN x i) : muQ lo hi x i := by unfold muN at q; unfold muQ; omega
theorem PG_q {lo hi i v : Int} (hp : PB h) (hI : INV (wr h 188 i v)) (h0 : lo ≤ i) (h1 : i < hi) : PG (muQ lo hi) h (wr h 188 i v) := by
  have e7 : rd (wr h 188 i v) 182 7 = rd h 182 7 := rdw_ne (by decide)
  have e8 : rd (wr h 188 i v) 182 8 = rd h 182 8 := rdw_ne (by decide)
  have e13 : rd (wr h 188 i v) 182 13 = rd h 182 13 := rdw_ne (by decide)
  refine ⟨⟨hI, trivial⟩, by omega, by rw [e8]; exact id, fun a j hn => ?_⟩
  rw [rd_wr, if_neg]
  rintro ⟨rfl, rfl⟩
  exact hn (by unfold muQ; omega)
end PGs
section C3
variable {xs : Nat → Int} {xl e : Nat} {h : LH} {Q : Option LV → LH → Prop} {v1 v2 v3 : Int}
theorem D_wrong (hp : PB h) (hw : 1 ≤ v1 ∧ v1 ≤ 5) (k : ∀ h', PG muT h h' → rd h' 182 8 ≠ 0 → rd h' 182 7 = rd h 182 7 → Q none h') : Rn xs xl e mm_wrong 0 [some (.inr (.inr 182)), some (.inl v1)] [] h Q := by
  have h1 := rF_at hp.1.1
  have h2 := rA_place hp.1.1 (i := rd h 182 7) (by omega)
  refine B_wrong_0 (RF_of hp.1.1) ⟨fun c => k h (PG.refl hp) c rfl, fun c => ⟨by omega, by omega, by omega, ?_⟩⟩
  refine k _ (PG_fault hp (by omega) (by omega)) ?_ (rdw_nei (by decide))
  rw [rdw_eq]
  omega
theorem D_takeSign (he : 1 ≤ e) (hp : PB h) (k : ∀ h', PG muT h h' → (rd h' 182 8 = 0 → rd h' 182 7 = rd h 182 7 + 1) → Q none h') : Rn xs xl e mm_takeSign 0 [some (.inr (.inr 182)), some (.inl v1)] [] h Q := by
  have hF := RF_of hp.1.1
  refine B_takeSign_0 hF ⟨0, by omega, C_isSign hp.1 (fun q => ?_) (fun q => ?_)⟩
  · have h1 := sg_lt hp.1 q
    refine B_takeSign_5_1 hF ⟨by omega, k _ (PG_at hp (by omega) (by omega)) (fun _ => rdw_eq)⟩
  · refine B_takeSign_5_0 hF ⟨0, by omega, D_wrong hp (by omega) (fun h' p1 p2 p3 => ?_)⟩
    exact B_takeSign_26 p1.rf (k h' p1 (fun q => absurd q p2))
theorem D_hasWord (he : 1 ≤ e) (hp : PB h) (hw : 0 ≤ v1 ∧ v1 < 29) (k : ∀ r h', PG muT h h' → r = 0 ∨ r = 1 → Q (some (.inl r)) h') : Rn xs xl e mm_hasWord 0 [some (.inr (.inr 182)), some (.inl v1), none] [] h Q := by
  have h1 := rF_at hp.1.1
  refine C_hasWord he hp.1 hw (fun q => k 1 _ (PG_at hp (by omega) ?_) (Or.inr rfl)) (fun q => k 0 _ (PG_at hp (by omega) (by omega)) (Or.inl rfl))
  have := wd_lt hp.1 q
  omega
theorem D_takeWord (he : 2 ≤ e) (hp : PB h) (hw : 0 ≤ v1 ∧ v1 < 29) (k : ∀ h', PG muT h h' → Q none h') : Rn xs xl e mm_takeWord 0 [some (.inr (.inr 182)), some (.inl v1)] [] h Q := by
  have hF := RF_of hp.1.1
  have h1 := rF_at hp.1.1
  refine B_takeWord_0 hF ⟨1, by omega, C_hasWord (by omega) hp.1 hw (fun q => ?_) (fun q => ?_)⟩
  · have h1 := wd_lt hp.1 q
    have p := PG_at hp (v := rd h 182 7 + 1) (by omega) (by omega)
    exact B_takeWord_5_1 p.rf (k _ p)
  · have p := PG_at hp (v := rd h 182 7) (by omega) (by omega)
    refine B_takeWord_5_0 p.rf ⟨0, by omega, D_wrong p.1 (by omega) (fun h' p1 p2 p3 => ?_)⟩
    exact B_takeWord_13 p1.rf (k h' (p.trans p1))
theorem lcmp_ge {a b : Int} : 0 ≤ lcmp_ a b ↔ b ≤ a := by unfold lcmp_; omega
theorem lcmp_le {a b : Int} : lcmp_ a b ≤ 0 ↔ a ≤ b := by unfold lcmp_; omega
theorem D_takeNumber (he : 1 ≤ e) (hp : PB h) (b1 : i32 v1) (b2 : i32 v2) (k : ∀ r h', PG muT h h' → (rd h' 182 8 = 0 → v1 ≤ r ∧ r ≤ v2 ∧ rd h' 182 7 = rd h 182 7 + 1) → (rd h' 182 8 ≠ 0 → r = 0) → Q (some (.inl r)) h') : Rn xs xl e mm_takeNumber 0 [some (.inr (.inr 182)), some (.inl v1), some (.inl v2)] [] h Q := by
  have hF := RF_of hp.1.1
  have ha := rF_at hp.1.1
  have hf := rF_fault hp.1.1
  have bad : ∀ h', PG muT h h' → rd h' 182 8 ≠ 0 → Rn xs xl e mm_takeNumber 70 [some (.inr (.inr 182)), some (.inl v1), some (.inl v2)] [] h' Q := by
    intro h' p q
    have := rF_fault p.inv.1
    exact B_takeNumber_70 p.rf ⟨fun c => by omega, fun c => k 0 h' p (fun z => absurd z q) (fun _ => rfl)⟩
  have t28 : rd h 182 8 = 0 → rd h 184 (rd h 182 7) = 2 → Rn xs xl e mm_takeNumber 28 [some (.inr (.inr 182)), some (.inl v1), some (.inl v2)] [] h Q := by
    intro f0 s2
    have h9 := at_lt hp.1 (by rw [s2]; decide)
    refine B_takeNumber_28 hF ⟨fun c => absurd f0 c, fun _ => ⟨by omega, fun c => ⟨0, by omega, D_wrong hp (by omega) (fun h' p1 p2 _ => bad h' p1 p2)⟩, fun c => ⟨by omega, fun c2 => ?_, fun c2 => ⟨0, by omega, D_wrong hp (by omega) (fun h' p1 p2 _ => bad h' p1 p2)⟩⟩⟩⟩
    have g1 := lcmp_ge.mp c
    have g2 := lcmp_le.mp c2
    refine B_takeNumber_70 hF ⟨fun _ => ⟨by omega, by omega, by omega, ?_⟩, fun c => by omega⟩
    rw [show rd h 182 7 + 1 - 1 = rd h 182 7 by omega]
    have g3 : w32 (rd h 186 (rd h 182 7)) = rd h 186 (rd h 182 7) := w32_id ⟨by have := b1.1; omega, by have := b2.2; omega⟩
    rw [g3]
    refine k _ _ (PG_at hp (by omega) (by omega)) (fun _ => ⟨g1, g2, rdw_eq⟩) (fun q => absurd ?_ q)
    rw [rdw_nei (by decide)]
    exact f0
  refine B_takeNumber_0 hF ⟨fun c => ?_, fun c => ⟨by omega, fun c2 => t28 c c2, fun c2 => ⟨0, by omega, D_wrong hp (by omega) (fun h' p1 p2 _ => B_takeNumber_25 p1.rf (bad h' p1 p2))⟩⟩⟩
  exact B_takeNumber_28 hF ⟨fun _ => bad h (PG.refl hp) c, fun q => absurd q c⟩
theorem D_takeAfter (he : 3 ≤ e) (hp : PB h) (hw : 0 ≤ v1 ∧ v1 < 29) (b1 : i32 v2) (b2 : i32 v3) (k : ∀ r h', PG muT h h' → (rd h' 182 8 = 0 → v2 ≤ r ∧ r ≤ v3) → (rd h' 182 8 ≠ 0 → r = 0) → Q (some (.inl r)) h') : Rn xs xl e mm_takeAfter 0 [some (.inr (.inr 182)), some (.inl v1), some (.inl v2), some (.inl v3)] [] h Q := by
  refine B_takeAfter_0 (RF_of hp.1.1) ⟨2, by omega, D_takeWord (by omega) hp hw (fun h1 p1 => ?_)⟩
  refine B_takeAfter_5 p1.rf ⟨1, by omega, D_takeNumber (by omega) p1.1 b1 b2 (fun r h2 p2 q1 q2 => ?_)⟩
  exact B_takeAfter_11 p2.rf (k r h2 (p1.trans p2) (fun z => ⟨(q1 z).1, (q1 z).2.1⟩) q2)
theorem D_isName (he : 2 ≤ e) (hI : INV h) (k1 : rd h 182 8 = 0 → rd h 184 (rd h 182 7) = 1 → Q (some (.inl 1)) h) (k0 : Q (some (.inl 0)) h) : Rn xs xl e mm_isName 0 [some (.inr (.inr 182))] [] h Q := by
  have ha := rF_at hI.1
  refine B_isName_0 (RF_of hI.1) ⟨fun _ => k0, fun c => ⟨by omega, fun _ => k0, fun c2 => ⟨1, by omega, C_wordHere (by omega) hI (by omega) (fun r _ _ _ => ?_)⟩⟩⟩
  exact B_isName_27 (RF_of hI.1) ⟨fun _ => k0, fun _ => k1 c c2⟩
theorem D_find (hI : INV h) (k : ∀ r, -1 ≤ r → r ≤ 25 → Q (some (.inl r)) h) : Rn xs xl e mm_find 0 [some (.inr (.inr 182)), some (.inl v1), none] [] h Q := by
  have hF := RF_of hI.1
  have ha := rF_at hI.1
  have n1 := rF_namesMany hI.1
  have n2 := rF_readMany hI.1
  have loop : ∀ (n : Nat) (j : Int), 20 - j ≤ n → 0 ≤ j → Rn xs xl e mm_find 2 [some (.inr (.inr 182)), some (.inl v1), some (.inl j)] [] h Q := by
    intro n
    induction n with
    | zero =>
      intro j hn h0
      exact B_find_2 hF ⟨fun _ => ⟨fun _ => k _ (by omega) (by omega), fun c => by omega⟩, fun _ => ⟨fun _ => k _ (by omega) (by omega), fun c => by omega⟩⟩
    | succ n ih =>
      intro j hn h0
      by_cases hj : 20 ≤ j
      · exact B_find_2 hF ⟨fun _ => ⟨fun _ => k _ (by omega) (by omega), fun c => by omega⟩, fun _ => ⟨fun _ => k _ (by omega) (by omega), fun c => by omega⟩⟩
      · have x1 := rA_nameOf hI.1 (i := j) (by omega)
        have x2 := rA_readNameOf hI.1 (i := j) (by omega)
        have go := ih (j + 1) (by omega) (by omega)
        refine B_find_2 hF ⟨fun c => ⟨fun _ => k _ (by omega) (by omega), fun c1 => ⟨fun _ => ⟨by omega, by omega, fun _ => ⟨by omega, go⟩, fun _ => ⟨fun _ => ⟨by omega, k _ (by omega) (by omega)⟩, fun _ => ⟨by omega, k _ (by omega) (by omega)⟩⟩⟩, fun _ => ⟨by omega, by omega, fun _ => ⟨by omega, go⟩, fun _ => ⟨fun _ => ⟨by omega, k _ (by omega) (by omega)⟩, fun _ => ⟨by omega, k _ (by omega) (by omega)⟩⟩⟩⟩⟩, fun c => ⟨fun _ => k _ (by omega) (by omega), fun c1 => ⟨fun _ => ⟨by omega, by omega, fun _ => ⟨by omega, go⟩, fun _ => ⟨fun _ => ⟨by omega, k _ (by omega) (by omega)⟩, fun _ => ⟨by omega, k _ (by omega) (by omega)⟩⟩⟩, fun _ => ⟨by omega, by omega, fun _ => ⟨by omega, go⟩, fun _ => ⟨fun _ => ⟨by omega, k _ (by omega) (by omega)⟩, fun _ => ⟨by omega, k _ (by omega) (by omega)⟩⟩⟩⟩⟩⟩
  exact B_find_0 hF (loop 20 0 (by omega) (by omega))
theorem rd_value64 {h : LH} (hI : INV h) {i : Int} (hi : 0 ≤ i ∧ i < 1002) : i64 (rd h 186 i) := by
  have q := hI.1 186 i (vldA (n := 1002) (k := 2) (by decide +kernel) (by decide +kernel) hi)
  unfold hval at q
  rw [lkd_2 (by decide +kernel)] at q
  exact q.2.1
theorem D_readName (he : 3 ≤ e) (hp : PB h) (h9 : rd h 182 7 ≤ 999) (hv : 0 ≤ v1 ∧ v1 ≤ 25) (hm : rd h 182 8 = 0 → rd h 182 19 ≤ 19) (k : ∀ h', PG muN h h' → rd h 182 7 < rd h' 182 7 → (rd h' 182 8 = 0 → rd h' 182 19 = rd h 182 19 + 1) → Q none h') : Rn xs xl e mm_readName 0 [some (.inr (.inr 182)), some (.inl v1)] [] h Q := by
  have ha := rF_at hp.1.1
  have p := PG_at hp (v := rd h 182 7 + 1) (by omega) (by omega)
  have t38 : ∀ h1, PG muT h h1 → rd h 182 7 < rd h1 182 7 → (rd h1 182 8 = 0 → rd h1 184 (rd h1 182 7) = 1) → Rn xs xl e mm_readName 38 [some (.inr (.inr 182)), some (.inl v1)] [] h1 Q := by
    intro h1 p1 lt s1
    have a1 := rF_at p1.inv.1
    have m1 := rF_readMany p1.inv.1
    have e19 : rd h1 182 19 = rd h 182 19 := p1.2.2.2 _ _ (by unfold muT; omega)
    refine B_readName_38 p1.rf ⟨fun c => k h1 (p1.mono muT_N) lt (fun q => absurd q c), fun c => ?_⟩
    have z := hm (p1.2.2.1 c)
    have l9 := at_lt p1.inv (by rw [s1 c]; decide)
    refine ⟨by omega, by omega, by omega, by omega, by omega, ?_⟩
    have i1 : INV (wr h1 192 (rd h1 182 19) (rd h1 186 (rd h1 182 7))) := wA_readNames p1.inv (by omega) (rd_value64 p1.inv (by omega))
    have i2 := wA_readNameOf i1 (i := rd h1 182 19) (v := v1) (by omega) (by omega) (by omega)
    have i3 := wF_readMany i2 (v := rd h1 182 19 + 1) (by omega) (by omega)
    have i4 := wF_at i3 (v := rd h1 182 7 + 1) (by omega) (by omega)
    have f7 : rd (wr (wr (wr (wr h1 192 (rd h1 182 19) (rd h1 186 (rd h1 182 7))) 194 (rd h1 182 19) v1) 182 19 (rd h1 182 19 + 1)) 182 7 (rd h1 182 7 + 1)) 182 7 = rd h1 182 7 + 1 := rdw_eq
    have f8 : rd (wr (wr (wr (wr h1 192 (rd h1 182 19) (rd h1 186 (rd h1 182 7))) 194 (rd h1 182 19) v1) 182 19 (rd h1 182 19 + 1)) 182 7 (rd h1 182 7 + 1)) 182 8 = rd h1 182 8 := (rdw_nei (by decide)).trans ((rdw_nei (by decide)).trans ((rdw_ne (by decide)).trans (rdw_ne (by decide))))
    have f13 : rd (wr (wr (wr (wr h1 192 (rd h1 182 19) (rd h1 186 (rd h1 182 7))) 194 (rd h1 182 19) v1) 182 19 (rd h1 182 19 + 1)) 182 7 (rd h1 182 7 + 1)) 182 13 = rd h1 182 13 := (rdw_nei (by decide)).trans ((rdw_nei (by decide)).trans ((rdw_ne (by decide)).trans (rdw_ne (by decide))))
    have f19 : rd (wr (wr (wr (wr h1 192 (rd h1 182 19) (rd h1 186 (rd h1 182 7))) 194 (rd h1 182 19) v1) 182 19 (rd h1 182 19 + 1)) 182 7 (rd h1 182 7 + 1)) 182 19 = rd h1 182 19 + 1 := (rdw_nei (by decide)).trans rdw_eq
    refine k _ ((p1.mono muT_N).trans ⟨⟨i4, trivial⟩, by omega, by rw [f8]; exact id, fun a i hn => ?_⟩) (by omega) (fun _ => by omega)
    rw [rd_wr, if_neg, rd_wr, if_neg, rd_wr, if_neg, rd_wr, if_neg] <;> (rintro ⟨rfl, rfl⟩; exact hn (by unfold muN; omega))
  have e7 : rd (wr h 182 7 (rd h 182 7 + 1)) 182 7 = rd h 182 7 + 1 := rdw_eq
  refine B_readName_0 (RF_of hp.1.1) ⟨by omega, 2, by omega, D_isName (by omega) p.inv (fun q1 q2 => ?_) ?_⟩
  · refine B_readName_14_1 p.rf ⟨0, by omega, D_find p.inv (fun r r1 r2 => ?_)⟩
    refine B_readName_30 p.rf ⟨fun _ => t38 _ p (by omega) (fun _ => q2), fun _ => ⟨0, by omega, D_wrong p.1 (by omega) (fun h' p1 p2 p3 => t38 h' (p.trans p1) (by omega) (fun z => absurd z p2))⟩⟩
  · refine B_readName_14_0 p.rf ⟨0, by omega, D_wrong p.1 (by omega) (fun h' p1 p2 p3 => ?_)⟩
    exact B_readName_22 p1.rf (t38 h' (p.trans p1) (by omega) (fun z => absurd z p2))
theorem D_takeRoom (he : 2 ≤ e) (hp : PB h) (k : ∀ r h', PG muT h h' → (rd h' 182 8 = 0 → 0 ≤ r ∧ r < rd h 188 150 ∧ rd h' 182 7 = rd h 182 7 + 1) → (0 ≤ r ∧ r ≤ 9) → Q (some (.inl r)) h') : Rn xs xl e mm_takeRoom 0 [some (.inr (.inr 182))] [] h Q := by
  have hq := rw_rooms hp.1.1
  refine B_takeRoom_0 (RF_of hp.1.1) ⟨by omega, 1, by omega, D_takeNumber (by omega) hp (by unfold i32; omega) (by unfold i32; omega) (fun r h1 p1 q1 q2 => ?_)⟩
  refine B_takeRoom_15 p1.rf (k r h1 p1 (fun z => by have := q1 z; omega) ?_)
  by_cases z : rd h1 182 8 = 0
  · have := q1 z; omega
  · have := q2 z; omega
theorem D_takeSort (he : 2 ≤ e) (hp : PB h) (k : ∀ r h', PG muT h h' → (0 ≤ r ∧ r ≤ 3) → Q (some (.inl r)) h') : Rn xs xl e mm_takeSort 0 [some (.inr (.inr 182)), none] [] h Q := by
  have hF := RF_of hp.1.1
  have ha := rF_at hp.1.1
  have bad : ∀ w : Int, w < 0 → Rn xs xl e mm_takeSort 18 [some (.inr (.inr 182)), none] [.inl w] h Q := by
    intro w hw
    refine B_takeSort_18 hF ⟨fun c => by omega, fun _ => ⟨0, by omega, D_wrong hp (by omega) (fun h' p1 p2 _ => ?_)⟩⟩
    exact B_takeSort_28 p1.rf (k 0 h' p1 (by omega))
  refine B_takeSort_0 hF ⟨fun _ => ⟨1, by omega, C_wordHere (by omega) hp.1 (by omega) (fun r r1 r2 r3 => ?_)⟩, fun _ => bad _ (by omega)⟩
  by_cases hr : r < 0
  · exact bad r hr
  · have h9 := wd_lt hp.1 (r3 (by omega))
    exact B_takeSort_18 hF ⟨fun _ => ⟨by omega, k r _ (PG_at hp (by omega) (by omega)) (by omega)⟩, fun c => by omega⟩
end C3
