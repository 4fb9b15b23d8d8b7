/-! LM, part 38: the reference's reader: what its steps keep -/
def isSg (h : LH) (c : Int) : Prop := rd h 182 8 = 0 ∧ rd h 184 (rd h 182 7) = 3 ∧ rd h 186 (rd h 182 7) = c
def isWd (h : LH) (w : Int) : Prop := rd h 182 8 = 0 ∧ rd h 184 (rd h 182 7) = 1 ∧ rd h 186 (rd h 182 7) = rd h 187 w
theorem lcmp0 {a b : Int} : lcmp_ a b = 0 ↔ a = b := by unfold lcmp_; omega
theorem at_lt {h : LH} (hI : INV h) (hs : rd h 184 (rd h 182 7) ≠ 0) : rd h 182 7 ≤ 999 := by
  have h1 := rF_at hI.1
  have h2 : rd h 184 1000 = 0 := hI.2.2.2.1
  rcases Int.lt_or_le (rd h 182 7) 1000 with q | q
  · omega
  · rw [show rd h 182 7 = 1000 by omega] at hs
    exact absurd h2 hs
/-- what the reader may change -/
def pmut (cd a i : Int) : Prop := (a = 182 ∧ (i = 7 ∨ i = 8 ∨ i = 13)) ∨ (a = 189 ∧ 1100 + cd ≤ i) ∨ (a = 190 ∧ 1100 + cd ≤ i)
def pfr (h h' : LH) : Prop := ∀ a i, ¬ pmut (rd h 182 13) a i → rd h' a i = rd h a i
def PB (h : LH) : Prop := INV h ∧ True
def PS (h h' : LH) : Prop := PB h' ∧ rd h 182 7 ≤ rd h' 182 7 ∧ (rd h' 182 8 = 0 → rd h 182 8 = 0) ∧ rd h 182 13 ≤ rd h' 182 13 ∧ rd h' 182 13 - rd h 182 13 ≤ rd h' 182 7 - rd h 182 7 ∧ pfr h h'
theorem PS.refl {h : LH} (hp : PB h) : PS h h := ⟨hp, Int.le_refl _, id, Int.le_refl _, by omega, fun _ _ _ => rfl⟩
theorem PS.trans {h h1 h2 : LH} (a : PS h h1) (b : PS h1 h2) : PS h h2 := by
  obtain ⟨a1, a2, a3, a4, a5, a6⟩ := a
  obtain ⟨b1, b2, b3, b4, b5, b6⟩ := b
  refine ⟨b1, by omega, fun q => a3 (b3 q), by omega, by omega, fun x i hn => ?_⟩
  rw [b6 x i (fun q => hn ?_), a6 x i hn]
  unfold pmut at q ⊢
  omega
theorem PS_at {h : LH} (hp : PB h) {v : Int} (h0 : rd h 182 7 ≤ v) (h1 : v ≤ 1000) : PS h (wr h 182 7 v) := by
  have ha := rF_at hp.1.1
  have e7 : rd (wr h 182 7 v) 182 7 = v := rdw_eq
  have e8 : rd (wr h 182 7 v) 182 8 = rd h 182 8 := rdw_nei (by decide)
  have e13 : rd (wr h 182 7 v) 182 13 = rd h 182 13 := rdw_nei (by decide)
  refine ⟨⟨wF_at hp.1 (by omega) h1, trivial⟩, by omega, by rw [e8]; exact id, by omega, by omega, fun a i hn => ?_⟩
  rw [rd_wr, if_neg]
  rintro ⟨rfl, rfl⟩
  exact hn (Or.inl ⟨rfl, Or.inl rfl⟩)
theorem PS_fault {h : LH} (hp : PB h) {v : Int} (h0 : 1 ≤ v) (h1 : v ≤ 16005) : PS h (wr h 182 8 v) := by
  have e7 : rd (wr h 182 8 v) 182 7 = rd h 182 7 := rdw_nei (by decide)
  have e8 : rd (wr h 182 8 v) 182 8 = v := rdw_eq
  have e13 : rd (wr h 182 8 v) 182 13 = rd h 182 13 := rdw_nei (by decide)
  refine ⟨⟨wF_fault hp.1 (by omega) h1, trivial⟩, by omega, by omega, by omega, by omega, fun a i hn => ?_⟩
  rw [rd_wr, if_neg]
  rintro ⟨rfl, rfl⟩
  exact hn (Or.inl ⟨rfl, Or.inr (Or.inl rfl)⟩)
-- the law's codes that are being read
def opR (h : LH) : Int → Int := fun k => rd h 189 (1100 + k)
def arR (h : LH) : Int → Int := fun k => rd h 190 (1100 + k)
def SegH (h : LH) (i j : Int) : Prop := seg (opR h) (arR h) i j
theorem SegH_keep {h h' : LH} {i j : Int} (hs : SegH h i j) (hj : j ≤ rd h 182 13) (hf : pfr h h') : SegH h' i j := by
  refine seg_same hs (fun k k1 k2 => ⟨hf _ _ ?_, hf _ _ ?_⟩) <;> unfold pmut <;> omega
theorem INV_op {h : LH} (hI : INV h) {i v : Int} (hi : 1001 ≤ i) (h0 : 0 ≤ v) (h1 : v ≤ 10) : INV (wr h 189 i v) := by
  refine INV_wr hI (by unfold sens; omega) ?_
  rw [hA_op, lkd_1 (by decide +kernel)]
  exact ⟨rfl, ⟨by omega, by omega⟩, h0, h1, Int.one_dvd _⟩
theorem INV_arg {h : LH} (hI : INV h) {i v : Int} (hi : 1001 ≤ i) (h0 : -2147483648 ≤ v) (h1 : v ≤ 2147483647) : INV (wr h 190 i v) := by
  refine INV_wr hI (by unfold sens; omega) ?_
  rw [hA_arg, lkd_1 (by decide +kernel)]
  exact ⟨rfl, ⟨by omega, by omega⟩, h0, h1, Int.one_dvd _⟩
def emH (h : LH) (c a : Int) : LH := wr (wr (wr h 189 (rd h 182 13 + 1100) c) 190 (rd h 182 13 + 1100) a) 182 13 (rd h 182 13 + 1)
theorem emH_7 (h : LH) (c a : Int) : rd (emH h c a) 182 7 = rd h 182 7 := (rdw_nei (by decide)).trans ((rdw_ne (by decide)).trans (rdw_ne (by decide)))
theorem emH_8 (h : LH) (c a : Int) : rd (emH h c a) 182 8 = rd h 182 8 := (rdw_nei (by decide)).trans ((rdw_ne (by decide)).trans (rdw_ne (by decide)))
theorem emH_13 (h : LH) (c a : Int) : rd (emH h c a) 182 13 = rd h 182 13 + 1 := rdw_eq
theorem PS_emit {h0 h : LH} (hp : PS h0 h) {c a : Int} (hs : rd h 182 13 + 1 - rd h0 182 13 ≤ rd h 182 7 - rd h0 182 7) (hb : rd h0 182 13 ≤ rd h0 182 7) (c0 : 0 ≤ c) (c1 : c ≤ 10) (a0 : i32 a) : PS h0 (emH h c a) := by
  obtain ⟨p1, p2, p3, p4, p5, p6⟩ := hp
  have e7 := emH_7 h c a
  have e8 := emH_8 h c a
  have e13 := emH_13 h c a
  have hc := rF_codes p1.1.1
  have ha := rF_at p1.1.1
  have hI : INV (emH h c a) := wF_codes (INV_arg (INV_op p1.1 (by omega) c0 c1) (by omega) a0.1 a0.2) (by omega) (by omega)
  refine ⟨⟨hI, trivial⟩, by omega, by rw [e8]; exact p3, by omega, by omega, fun x i hn => ?_⟩
  rw [← p6 x i hn]
  unfold emH
  rw [rd_wr, if_neg, rd_wr, if_neg, rd_wr, if_neg] <;> (rintro ⟨rfl, rfl⟩; exact hn (by unfold pmut; omega))
theorem emH_op (h : LH) (c a : Int) : opR (emH h c a) (rd h 182 13) = c := by
  unfold opR emH
  rw [show 1100 + rd h 182 13 = rd h 182 13 + 1100 by omega]
  exact (rdw_ne (by decide)).trans ((rdw_ne (by decide)).trans rdw_eq)
theorem emH_ar (h : LH) (c a : Int) : arR (emH h c a) (rd h 182 13) = a := by
  unfold arR emH
  rw [show 1100 + rd h 182 13 = rd h 182 13 + 1100 by omega]
  exact (rdw_ne (by decide)).trans rdw_eq
theorem SegH_emH {h : LH} {i j : Int} (hs : SegH h i j) (hj : j ≤ rd h 182 13) (c a : Int) : SegH (emH h c a) i j := by
  refine seg_same hs (fun k k1 k2 => ⟨?_, ?_⟩)
  · exact (rdw_ne (by decide)).trans ((rdw_ne (by decide)).trans (rdw_nei (by omega)))
  · exact (rdw_ne (by decide)).trans ((rdw_nei (by omega)).trans (rdw_ne (by decide)))
section C1
variable {xs : Nat → Int} {xl e : Nat} {h : LH} {Q : Option LV → LH → Prop} {v1 v2 : Int}
theorem C_wrong (hp : PB h) (hw : 1 ≤ v1 ∧ v1 ≤ 5) (k : ∀ h', PS h h' → rd h' 182 8 ≠ 0 → rd h' 182 7 = rd h 182 7 → rd h' 182 13 = rd h 182 13 → Q none h') : Rn xs xl e mm_wrong 0 [some (.inr (.inr 182)), some (.inl v1)] [] h Q := by
  have hF := RF_of hp.1.1
  have h1 := rF_at hp.1.1
  have h2 := rA_place hp.1.1 (i := rd h 182 7) (by omega)
  refine B_wrong_0 hF ⟨fun c => k h (PS.refl hp) c rfl rfl, fun c => ⟨by omega, by omega, by omega, ?_⟩⟩
  refine k _ (PS_fault hp (by omega) (by omega)) ?_ (rdw_nei (by decide)) (rdw_nei (by decide))
  rw [rdw_eq]
  omega
theorem C_isSign (hI : INV h) (k1 : isSg h v1 → Q (some (.inl 1)) h) (k0 : ¬ isSg h v1 → Q (some (.inl 0)) h) : Rn xs xl e mm_isSign 0 [some (.inr (.inr 182)), some (.inl v1)] [] h Q := by
  have h1 := rF_at hI.1
  refine B_isSign_0 (RF_of hI.1) ⟨fun c => k0 (fun q => c q.1), fun c => ⟨by omega, fun c2 => k0 (fun q => c2 q.2.1), fun c2 => ⟨by omega, fun c3 => k0 (fun q => c3 (lcmp0.mpr q.2.2)), fun c3 => k1 ⟨c, c2, lcmp0.mp c3⟩⟩⟩⟩
theorem C_isWord (hI : INV h) (hw : 0 ≤ v1 ∧ v1 < 29) (k1 : isWd h v1 → Q (some (.inl 1)) h) (k0 : ¬ isWd h v1 → Q (some (.inl 0)) h) : Rn xs xl e mm_isWord 0 [some (.inr (.inr 182)), some (.inl v1)] [] h Q := by
  have h1 := rF_at hI.1
  refine B_isWord_0 (RF_of hI.1) ⟨fun c => k0 (fun q => c q.1), fun c => ⟨by omega, fun c2 => k0 (fun q => c2 q.2.1), fun c2 => ⟨by omega, hw, fun c3 => k0 (fun q => c3 (lcmp0.mpr q.2.2)), fun c3 => k1 ⟨c, c2, lcmp0.mp c3⟩⟩⟩⟩
theorem sg_lt (hI : INV h) (q : isSg h v1) : 0 ≤ rd h 182 7 ∧ rd h 182 7 ≤ 999 := ⟨(rF_at hI.1).1, at_lt hI (by rw [q.2.1]; decide)⟩
theorem wd_lt (hI : INV h) (q : isWd h v1) : 0 ≤ rd h 182 7 ∧ rd h 182 7 ≤ 999 := ⟨(rF_at hI.1).1, at_lt hI (by rw [q.2.1]; decide)⟩
theorem C_takeSign (he : 1 ≤ e) (hp : PB h) (k : ∀ h', PS h h' → (rd h' 182 8 = 0 → isSg h v1 ∧ rd h' 182 7 = rd h 182 7 + 1) → rd h' 182 13 = rd h 182 13 → Q none h') : Rn xs xl e mm_takeSign 0 [some (.inr (.inr 182)), some (.inl v1)] [] h Q := by
  have hF := RF_of hp.1.1
  refine B_takeSign_0 hF ⟨0, by omega, C_isSign hp.1 (fun q => ?_) (fun q => ?_)⟩
  · have h1 := sg_lt hp.1 q
    refine B_takeSign_5_1 hF ⟨by omega, k _ (PS_at hp (by omega) (by omega)) (fun _ => ⟨q, rdw_eq⟩) (rdw_nei (by decide))⟩
  · refine B_takeSign_5_0 hF ⟨0, by omega, C_wrong hp (by omega) (fun h' p1 p2 p3 p4 => ?_)⟩
    exact B_takeSign_26 (RF_of p1.1.1.1) (k h' p1 (fun q => absurd q p2) p4)
theorem C_hasSign (he : 1 ≤ e) (hI : INV h) (k1 : isSg h v1 → Q (some (.inl 1)) (wr h 182 7 (rd h 182 7 + 1))) (k0 : ¬ isSg h v1 → Q (some (.inl 0)) (wr h 182 7 (rd h 182 7))) : Rn xs xl e mm_hasSign 0 [some (.inr (.inr 182)), some (.inl v1), none] [] h Q := by
  have hF := RF_of hI.1
  have h1 := rF_at hI.1
  refine B_hasSign_0 hF ⟨0, by omega, C_isSign hI (fun q => ?_) (fun q => ?_)⟩
  · exact B_hasSign_5_1 hF ⟨by omega, k1 q⟩
  · exact B_hasSign_5_0 hF ⟨by omega, k0 q⟩
theorem C_hasWord (he : 1 ≤ e) (hI : INV h) (hw : 0 ≤ v1 ∧ v1 < 29) (k1 : isWd h v1 → Q (some (.inl 1)) (wr h 182 7 (rd h 182 7 + 1))) (k0 : ¬ isWd h v1 → Q (some (.inl 0)) (wr h 182 7 (rd h 182 7))) : Rn xs xl e mm_hasWord 0 [some (.inr (.inr 182)), some (.inl v1), none] [] h Q := by
  have hF := RF_of hI.1
  have h1 := rF_at hI.1
  refine B_hasWord_0 hF ⟨0, by omega, C_isWord hI hw (fun q => ?_) (fun q => ?_)⟩
  · exact B_hasWord_5_1 hF ⟨by omega, k1 q⟩
  · exact B_hasWord_5_0 hF ⟨by omega, k0 q⟩
theorem C_takeWord (he : 2 ≤ e) (hp : PB h) (hw : 0 ≤ v1 ∧ v1 < 29) (k : ∀ h', PS h h' → (rd h' 182 8 = 0 → isWd h v1 ∧ rd h' 182 7 = rd h 182 7 + 1) → rd h' 182 13 = rd h 182 13 → Q none h') : Rn xs xl e mm_takeWord 0 [some (.inr (.inr 182)), some (.inl v1)] [] h Q := by
  have hF := RF_of hp.1.1
  refine B_takeWord_0 hF ⟨1, by omega, C_hasWord (by omega) hp.1 hw (fun q => ?_) (fun q => ?_)⟩
  · have h1 := wd_lt hp.1 q
    have p := PS_at hp (v := rd h 182 7 + 1) (by omega) (by omega)
    exact B_takeWord_5_1 (RF_of p.1.1.1) (k _ p (fun _ => ⟨q, rdw_eq⟩) (rdw_nei (by decide)))
  · have h1 := rF_at hp.1.1
    have p := PS_at hp (v := rd h 182 7) (by omega) (by omega)
    refine B_takeWord_5_0 (RF_of p.1.1.1) ⟨0, by omega, C_wrong p.1 (by omega) (fun h' p1 p2 p3 p4 => ?_)⟩
    exact B_takeWord_13 (RF_of p1.1.1.1) (k h' (p.trans p1) (fun q => absurd q p2) (p4.trans (rdw_nei (by decide))))
theorem C_wordHere (he : 1 ≤ e) (hI : INV h) (hw : 0 ≤ v1 ∧ 0 ≤ v2 ∧ v1 + v2 ≤ 29) (k : ∀ r, -1 ≤ r → r < v2 ∨ r = -1 → (0 ≤ r → isWd h (v1 + r)) → Q (some (.inl r)) h) : Rn xs xl e mm_wordHere 0 [some (.inr (.inr 182)), some (.inl v1), some (.inl v2), none, none] [] h Q := by
  have hF := RF_of hI.1
  have key : ∀ (n : Nat) (a b : Int), v2 - b ≤ n → 0 ≤ b → -1 ≤ a → a < v2 ∨ a = -1 → (0 ≤ a → isWd h (v1 + a)) → Rn xs xl e mm_wordHere 5 [some (.inr (.inr 182)), some (.inl v1), some (.inl v2), some (.inl a), some (.inl b)] [] h Q := by
    intro n
    induction n with
    | zero =>
      intro a b hn hb h1 h2 h3
      exact B_wordHere_5 hF ⟨fun _ => k a h1 h2 h3, fun c => by omega⟩
    | succ n ih =>
      intro a b hn hb h1 h2 h3
      refine B_wordHere_5 hF ⟨fun _ => k a h1 h2 h3, fun c => ⟨by omega, 0, by omega, C_isWord hI (by omega) (fun q => ?_) (fun q => ?_)⟩⟩
      · exact B_wordHere_19_1 hF ⟨by omega, ih b (b + 1) (by omega) (by omega) (by omega) (by omega) (fun _ => q)⟩
      · exact B_wordHere_19_0 hF ⟨by omega, ih a (b + 1) (by omega) (by omega) (by omega) (by omega) h3⟩
  exact B_wordHere_0 hF (key v2.toNat (-1) 0 (by omega) (by omega) (by omega) (by omega) (by omega))
theorem C_emit (hI : INV h) (k : Q none (emH h v1 v2)) : Rn xs xl e mm_emit 0 [some (.inr (.inr 182)), some (.inl v1), some (.inl v2)] [] h Q := by
  have h1 := rF_codes hI.1
  exact B_emit_0 (RF_of hI.1) ⟨by omega, by omega, by omega, by omega, by omega, k⟩
end C1
