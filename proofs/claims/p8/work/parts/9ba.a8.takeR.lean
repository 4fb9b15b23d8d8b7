/-! p3, part a8: the reference's takes -/
def Vinj (V : Int → Int) : Prop := ∀ i j : Nat, i < 29 → j < 29 → V i = V j → i = j
theorem wl_get {V : Int → Int} {v : Int} : ∀ m : Nat, 0 ≤ wl V v m → ∃ j : Nat, j < m ∧ wl V v m = j ∧ V j = v
  | 0, h => by unfold wl at h; omega
  | m + 1, h => by
    unfold wl at h ⊢
    by_cases c : V m = v
    · rw [if_pos c]; exact ⟨m, by omega, rfl, c⟩
    · rw [if_neg c] at h ⊢
      obtain ⟨j, j1, j2, j3⟩ := wl_get m h
      exact ⟨j, by omega, j2, j3⟩
theorem wl_ge {V : Int → Int} {v : Int} {j : Nat} (hj : V j = v) : ∀ m : Nat, j < m → (j : Int) ≤ wl V v m
  | 0, h => by omega
  | m + 1, h => by
    unfold wl
    by_cases c : V m = v
    · rw [if_pos c]; omega
    · rw [if_neg c]
      have : j ≠ m := fun q => c (by rw [← q]; exact hj)
      exact wl_ge hj m (by omega)
theorem wl_iff {V : Int → Int} {v : Int} (hi : Vinj V) {j : Nat} (hj : j < 29) : wl V v 29 = j ↔ V j = v := by
  constructor
  · intro q
    obtain ⟨i, i1, i2, i3⟩ := wl_get 29 (show 0 ≤ wl V v 29 by omega)
    rw [show j = i by omega]; exact i3
  · intro q
    have g := wl_ge q 29 hj
    obtain ⟨i, i1, i2, i3⟩ := wl_get 29 (show 0 ≤ wl V v 29 by omega)
    have := hi i j i1 hj (i3.trans q.symm)
    omega
def muTK (a i : Int) : Prop := a = 182 ∧ (i = 7 ∨ i = 8)
def frT (h h' : LH) : Prop := ∀ a i, ¬ muTK a i → rd h' a i = rd h a i
theorem frT.refl {h : LH} : frT h h := fun _ _ _ => rfl
theorem frT.trans {h h1 h2 : LH} (a : frT h h1) (b : frT h1 h2) : frT h h2 := fun x i hn => (b x i hn).trans (a x i hn)
/-- what the reference has cut: tokens 0 .. m, its words -/
def RXK (T : Int → Int) (n : Int) (V : Int → Int) (m : Nat) (h : LH) : Prop := RF h ∧ (∀ j : Nat, j ≤ m → RTK T n h j) ∧ tO T n m = 0 ∧ (∀ j : Nat, j < m → tO T n j ≠ 0) ∧ m ≤ 1000 ∧ 0 ≤ n ∧ n ≤ 1000 ∧ rd h 187 = V ∧ Vinj V
theorem RXK_fr {T : Int → Int} {n : Int} {V : Int → Int} {m : Nat} {h h' : LH} (hx : RXK T n V m h) (hF : RF h') (hf : ∀ a i, (a = 184 ∨ a = 185 ∨ a = 186 ∨ a = 187) → rd h' a i = rd h a i) : RXK T n V m h' := by
  obtain ⟨h1, h2, h3, h4, h5, h6, h7, h8, h9⟩ := hx
  refine ⟨hF, fun j hj => ?_, h3, h4, h5, h6, h7, ?_, h9⟩
  · obtain ⟨r1, r2, r3⟩ := h2 j hj
    exact ⟨(hf _ _ (by omega)).trans r1, (hf _ _ (by omega)).trans r2, fun q1 q2 => (hf _ _ (by omega)).trans (r3 q1 q2)⟩
  · rw [← h8]; funext i; exact hf _ _ (by omega)
/-- the reference's reader is in state s -/
def RSK (T : Int → Int) (n : Int) (V : Int → Int) (m : Nat) (h : LH) (s : Int × Nat) : Prop := RXK T n V m h ∧ rd h 182 8 = s.1 ∧ 0 ≤ s.1 ∧ (0 ≤ rd h 182 7 ∧ rd h 182 7 ≤ 1000) ∧ (s.1 = 0 → rd h 182 7 = s.2 ∧ s.2 ≤ m)
section CB
variable {xs : Nat → Int} {xl e : Nat} {h : LH} {Q : Option LV → LH → Prop} {v1 v2 v3 : Int} {T : Int → Int} {n : Int} {V : Int → Int} {m : Nat} {s : Int × Nat}
theorem frT_C {h' : LH} (hf : frT h h') : ∀ a i, ¬ muC a i → rd h' a i = rd h a i := fun a i hn => hf a i (fun q => hn (by unfold muTK at q; unfold muC; omega))
theorem RXK_T {h' : LH} (hx : RXK T n V m h) (hf : frT h h') : RXK T n V m h' := RXK_fr hx (RF_fc hx.1 (frT_C hf)) (fun a i ha => hf a i (by unfold muTK; omega))
theorem fr7 {v : Int} : frT h (wr h 182 7 v) := fun a i hn => by unfold muTK at hn; rw [rd_wr, if_neg (fun q => hn (by omega))]
theorem fr8 {v : Int} : frT h (wr h 182 8 v) := fun a i hn => by unfold muTK at hn; rw [rd_wr, if_neg (fun q => hn (by omega))]
theorem RS_o (hs : RSK T n V m h s) (h0 : s.1 = 0) : rd h 184 (rd h 182 7) = tO T n s.2 := by
  obtain ⟨a, b⟩ := hs.2.2.2.2 h0
  rw [a]; exact (hs.1.2.1 s.2 b).1
theorem RS_p (hs : RSK T n V m h s) (h0 : s.1 = 0) : rd h 185 (rd h 182 7) = tP T n s.2 := by
  obtain ⟨a, b⟩ := hs.2.2.2.2 h0
  rw [a]; exact (hs.1.2.1 s.2 b).2.1
theorem RS_v (hs : RSK T n V m h s) (h0 : s.1 = 0) (h1 : 1 ≤ tO T n s.2) (h3 : tO T n s.2 ≤ 3) : rd h 186 (rd h 182 7) = tV T n 37 s.2 := by
  obtain ⟨a, b⟩ := hs.2.2.2.2 h0
  rw [a]; exact (hs.1.2.1 s.2 b).2.2 h1 h3
theorem RS_lt (hs : RSK T n V m h s) (h0 : s.1 = 0) (ho : tO T n s.2 ≠ 0) : s.2 < m := by
  obtain ⟨a, b⟩ := hs.2.2.2.2 h0
  rcases Nat.lt_or_ge s.2 m with q | q
  · exact q
  · exact absurd (by rw [show s.2 = m by omega]; exact hs.1.2.2.1) ho
/-- one on -/
theorem RS_adv (hs : RSK T n V m h s) (h0 : s.1 = 0) (ho : tO T n s.2 ≠ 0) : RSK T n V m (wr h 182 7 (rd h 182 7 + 1)) (tkA s) := by
  obtain ⟨a, b⟩ := hs.2.2.2.2 h0
  have lt := RS_lt hs h0 ho
  have m1 := hs.1.2.2.2.2.1
  rw [tkA_0 h0]
  refine ⟨RXK_T hs.1 fr7, (rdw_nei (by decide)).trans (hs.2.1.trans h0), by show (0 : Int) ≤ 0; decide, ?_, fun _ => ⟨?_, ?_⟩⟩
  · rw [rdw_eq]; omega
  · rw [rdw_eq, a]; show (s.2 : Int) + 1 = ((s.2 + 1 : Nat) : Int); omega
  · show s.2 + 1 ≤ m; omega
theorem RS_same (hs : RSK T n V m h s) : RSK T n V m (wr h 182 7 (rd h 182 7)) s := by
  have e7 : rd (wr h 182 7 (rd h 182 7)) 182 7 = rd h 182 7 := rdw_eq
  refine ⟨RXK_T hs.1 fr7, (rdw_nei (by decide)).trans hs.2.1, hs.2.2.1, by rw [e7]; exact hs.2.2.2.1, by rw [e7]; exact hs.2.2.2.2⟩
theorem G_wrong (hs : RSK T n V m h s) (hw : 1 ≤ v1 ∧ v1 ≤ 5) (k : ∀ h', RSK T n V m h' (tkE (tP T n) v1 s) → frT h h' → Q none h') : Rn xs xl e mm_wrong 0 [some (.inr (.inr 182)), some (.inl v1)] [] h Q := by
  have hF := hs.1.1
  have a7 := hs.2.2.2.1
  by_cases hz : s.1 = 0
  · have ep := RS_p hs hz
    have pin := tP_in (T := T) hs.1.2.2.2.2.2.2.1 hs.1.2.2.2.2.2.1 s.2
    have s0 := tS_in (T := T) hs.1.2.2.2.2.2.2.1 hs.1.2.2.2.2.2.1 s.2
    have n1 := hs.1.2.2.2.2.2.2.1
    refine B_wrong_0 hF ⟨fun c => absurd (hs.2.1.trans hz) c, fun _ => ⟨by omega, by omega, by omega, k _ ?_ fr8⟩⟩
    rw [tkE_0 hz, ep]
    refine ⟨RXK_T hs.1 fr8, rdw_eq, ?_, by rw [rdw_nei (by decide)]; exact a7, fun q => ?_⟩
    · show (0 : Int) ≤ v1 + 16 * tP T n s.2; omega
    · have : v1 + 16 * tP T n s.2 = 0 := q
      omega
  · exact B_wrong_0 hF ⟨fun _ => k h (by rw [tkE_f hz]; exact hs) frT.refl, fun c => absurd (hs.2.1.symm.trans c) hz⟩
theorem tkE_ne' (hs : RSK T n V m h s) (hc : 1 ≤ v1) : (tkE (tP T n) v1 s).1 ≠ 0 := by
  by_cases hz : s.1 = 0
  · rw [tkE_0 hz]
    have pin := tP_in (T := T) hs.1.2.2.2.2.2.2.1 hs.1.2.2.2.2.2.1 s.2
    have s0 := tS_in (T := T) hs.1.2.2.2.2.2.2.1 hs.1.2.2.2.2.2.1 s.2
    show v1 + 16 * tP T n s.2 ≠ 0
    omega
  · rw [tkE_f hz]; exact hz
theorem G_isSign (hs : RSK T n V m h s) (k1 : s.1 = 0 → tO T n s.2 = 3 → tV T n 37 s.2 = v1 → Q (some (.inl 1)) h) (k0 : (s.1 = 0 → ¬ (tO T n s.2 = 3 ∧ tV T n 37 s.2 = v1)) → Q (some (.inl 0)) h) : Rn xs xl e mm_isSign 0 [some (.inr (.inr 182)), some (.inl v1)] [] h Q := by
  have a7 := hs.2.2.2.1
  refine B_isSign_0 hs.1.1 ⟨fun c => k0 (fun hz => absurd (hs.2.1.trans hz) c), fun c => ?_⟩
  have hz : s.1 = 0 := hs.2.1.symm.trans c
  have eo := RS_o hs hz
  refine ⟨by omega, fun c2 => k0 (fun _ q => c2 (eo.trans q.1)), fun c2 => ?_⟩
  have o3 : tO T n s.2 = 3 := eo.symm.trans c2
  have ev := RS_v hs hz (by omega) (by omega)
  exact ⟨by omega, fun c3 => k0 (fun _ q => c3 (lcmp0.mpr (ev.trans q.2))), fun c3 => k1 hz o3 (ev.symm.trans (lcmp0.mp c3))⟩
theorem tW_iff {j : Nat} (hi : Vinj V) (hj : j < 29) {k : Nat} : tW T n 37 V k = j ↔ tO T n k = 1 ∧ V j = tV T n 37 k := by
  unfold tW
  split
  · next c => rw [wl_iff hi hj]; exact ⟨fun q => ⟨c, q⟩, fun q => q.2⟩
  · next c => exact ⟨fun q => by omega, fun q => absurd q.1 c⟩
theorem G_isWord (hs : RSK T n V m h s) (hw : 0 ≤ v1 ∧ v1 < 29) (k1 : s.1 = 0 → tW T n 37 V s.2 = v1 → Q (some (.inl 1)) h) (k0 : (s.1 = 0 → ¬ tW T n 37 V s.2 = v1) → Q (some (.inl 0)) h) : Rn xs xl e mm_isWord 0 [some (.inr (.inr 182)), some (.inl v1)] [] h Q := by
  have a7 := hs.2.2.2.1
  have iff := tW_iff (T := T) (n := n) (V := V) (j := v1.toNat) hs.1.2.2.2.2.2.2.2.2 (by omega) (k := s.2)
  rw [show ((v1.toNat : Nat) : Int) = v1 by omega] at iff
  have e8 : rd h 187 v1 = V v1 := by rw [hs.1.2.2.2.2.2.2.2.1]
  refine B_isWord_0 hs.1.1 ⟨fun c => k0 (fun hz => absurd (hs.2.1.trans hz) c), fun c => ?_⟩
  have hz : s.1 = 0 := hs.2.1.symm.trans c
  have eo := RS_o hs hz
  refine ⟨by omega, fun c2 => k0 (fun _ q => c2 (eo.trans (iff.mp q).1)), fun c2 => ?_⟩
  have o3 : tO T n s.2 = 1 := eo.symm.trans c2
  have ev := RS_v hs hz (by omega) (by omega)
  refine ⟨by omega, hw, fun c3 => k0 (fun _ q => c3 (lcmp0.mpr ?_)), fun c3 => k1 hz (iff.mpr ⟨o3, ?_⟩)⟩
  · rw [ev, e8]; exact (iff.mp q).2.symm
  · rw [← e8, ← ev]; exact (lcmp0.mp c3).symm
theorem G_takeSign (he : 1 ≤ e) (hs : RSK T n V m h s) (k : ∀ h', RSK T n V m h' (tkS (tO T n) (tV T n 37) (tP T n) v1 s) → frT h h' → Q none h') : Rn xs xl e mm_takeSign 0 [some (.inr (.inr 182)), some (.inl v1)] [] h Q := by
  have a7 := hs.2.2.2.1
  refine B_takeSign_0 hs.1.1 ⟨0, by omega, G_isSign hs (fun hz o3 ev => ?_) (fun q => ?_)⟩
  · refine B_takeSign_5_1 hs.1.1 ⟨by omega, k _ ?_ fr7⟩
    unfold tkS
    rw [if_pos ⟨o3, ev⟩]
    exact RS_adv hs hz (by omega)
  · refine B_takeSign_5_0 hs.1.1 ⟨0, by omega, G_wrong hs (by omega) (fun h' c1 c2 => B_takeSign_26 c1.1.1 (k h' ?_ c2))⟩
    by_cases hz : s.1 = 0
    · unfold tkS; rw [if_neg (q hz)]; exact c1
    · rw [tkS_f hz]; rw [tkE_f hz] at c1; exact c1
theorem G_hasSign (he : 1 ≤ e) (hs : RSK T n V m h s) (k1 : ∀ h', s.1 = 0 → tO T n s.2 = 3 → tV T n 37 s.2 = v1 → RSK T n V m h' (tkA s) → frT h h' → Q (some (.inl 1)) h') (k0 : ∀ h', (s.1 = 0 → ¬ (tO T n s.2 = 3 ∧ tV T n 37 s.2 = v1)) → RSK T n V m h' s → frT h h' → Q (some (.inl 0)) h') : Rn xs xl e mm_hasSign 0 [some (.inr (.inr 182)), some (.inl v1), none] [] h Q := by
  have a7 := hs.2.2.2.1
  refine B_hasSign_0 hs.1.1 ⟨0, by omega, G_isSign hs (fun hz o3 ev => ?_) (fun q => ?_)⟩
  · exact B_hasSign_5_1 hs.1.1 ⟨by omega, k1 _ hz o3 ev (RS_adv hs hz (by omega)) fr7⟩
  · exact B_hasSign_5_0 hs.1.1 ⟨by omega, k0 _ q (RS_same hs) fr7⟩
theorem G_hasWord (he : 1 ≤ e) (hs : RSK T n V m h s) (hw : 0 ≤ v1 ∧ v1 < 29) (k : ∀ h', RSK T n V m h' (if tkB (tW T n 37 V) v1 s = true then tkA s else s) → frT h h' → Q (some (.inl (if tkB (tW T n 37 V) v1 s = true then 1 else 0))) h') : Rn xs xl e mm_hasWord 0 [some (.inr (.inr 182)), some (.inl v1), none] [] h Q := by
  have a7 := hs.2.2.2.1
  refine B_hasWord_0 hs.1.1 ⟨0, by omega, G_isWord hs hw (fun hz q => ?_) (fun q => ?_)⟩
  · have b : tkB (tW T n 37 V) v1 s = true := by unfold tkB; rw [decide_eq_true_iff]; exact ⟨hz, q⟩
    rw [if_pos b, if_pos b] at k
    exact B_hasWord_5_1 hs.1.1 ⟨by omega, k _ (RS_adv hs hz (by rw [tW_o (W := V) (b := 37) (by omega)]; decide)) fr7⟩
  · have b : ¬ tkB (tW T n 37 V) v1 s = true := by unfold tkB; rw [decide_eq_true_iff]; exact fun z => q z.1 z.2
    rw [if_neg b, if_neg b] at k
    exact B_hasWord_5_0 hs.1.1 ⟨by omega, k _ (RS_same hs) fr7⟩
theorem G_takeWord (he : 2 ≤ e) (hs : RSK T n V m h s) (hw : 0 ≤ v1 ∧ v1 < 29) (k : ∀ h', RSK T n V m h' (tkW (tW T n 37 V) (tP T n) v1 s) → frT h h' → Q none h') : Rn xs xl e mm_takeWord 0 [some (.inr (.inr 182)), some (.inl v1)] [] h Q := by
  refine B_takeWord_0 hs.1.1 ⟨1, by omega, G_hasWord (by omega) hs hw (fun h1 c1 f1 => ?_)⟩
  by_cases b : tkB (tW T n 37 V) v1 s = true
  · rw [if_pos b] at c1 ⊢
    have b' := b
    unfold tkB at b'
    rw [decide_eq_true_iff] at b'
    refine B_takeWord_5_1 c1.1.1 (k h1 ?_ f1)
    unfold tkW
    rw [if_pos b'.2]; exact c1
  · rw [if_neg b] at c1 ⊢
    have b' := b
    unfold tkB at b'
    rw [decide_eq_true_iff] at b'
    refine B_takeWord_5_0 c1.1.1 ⟨0, by omega, G_wrong c1 (by omega) (fun h' c2 f2 => B_takeWord_13 c2.1.1 (k h' ?_ (f1.trans f2)))⟩
    by_cases hz : s.1 = 0
    · unfold tkW; rw [if_neg (fun q => b' ⟨hz, q⟩)]; exact c2
    · rw [tkW_f hz]; rw [tkE_f hz] at c2; exact c2
/-- which of the words from a on, b of them -/
def whr (w : Nat → Int) (s : Int × Nat) (a b : Int) : Int := if s.1 = 0 ∧ a ≤ w s.2 ∧ w s.2 < a + b then w s.2 - a else -1
theorem G_wordHere (he : 1 ≤ e) (hs : RSK T n V m h s) (hw : 0 ≤ v1 ∧ 0 ≤ v2 ∧ v1 + v2 ≤ 29) (k : Q (some (.inl (whr (tW T n 37 V) s v1 v2))) h) : Rn xs xl e mm_wordHere 0 [some (.inr (.inr 182)), some (.inl v1), some (.inl v2), none, none] [] h Q := by
  have hF := hs.1.1
  have loop : ∀ (d : Nat) (b : Int), v2 - b ≤ d → 0 ≤ b → b ≤ v2 → Rn xs xl e mm_wordHere 5 [some (.inr (.inr 182)), some (.inl v1), some (.inl v2), some (.inl (whr (tW T n 37 V) s v1 b)), some (.inl b)] [] h Q := by
    intro d
    induction d with
    | zero =>
      intro b hd b0 b1
      refine B_wordHere_5 hF ⟨fun _ => ?_, fun c => by omega⟩
      rw [show b = v2 by omega]; exact k
    | succ d ih =>
      intro b hd b0 b1
      refine B_wordHere_5 hF ⟨fun _ => by rw [show b = v2 by omega]; exact k, fun c => ⟨by omega, 0, by omega, G_isWord hs (by omega) (fun hz q => ?_) (fun q => ?_)⟩⟩
      · refine B_wordHere_19_1 hF ⟨by omega, ?_⟩
        have e1 : whr (tW T n 37 V) s v1 (b + 1) = b := by unfold whr; rw [if_pos ⟨hz, by omega, by omega⟩]; omega
        have := ih (b + 1) (by omega) (by omega) (by omega)
        rw [e1] at this
        exact this
      · refine B_wordHere_19_0 hF ⟨by omega, ?_⟩
        have e1 : whr (tW T n 37 V) s v1 (b + 1) = whr (tW T n 37 V) s v1 b := by
          unfold whr
          by_cases c3 : s.1 = 0 ∧ v1 ≤ tW T n 37 V s.2 ∧ tW T n 37 V s.2 < v1 + b
          · rw [if_pos c3, if_pos ⟨c3.1, c3.2.1, by omega⟩]
          · rw [if_neg c3, if_neg]
            intro z
            have := q z.1
            exact c3 ⟨z.1, z.2.1, by omega⟩
        have := ih (b + 1) (by omega) (by omega) (by omega)
        rw [e1] at this
        exact this
  have e0 : whr (tW T n 37 V) s v1 0 = -1 := by unfold whr; rw [if_neg (by omega)]
  have := loop v2.toNat 0 (by omega) (by omega) (by omega)
  rw [e0] at this
  exact B_wordHere_0 hF this
theorem G_isName (he : 2 ≤ e) (hs : RSK T n V m h s) (k1 : s.1 = 0 → isNm (tO T n) (tW T n 37 V) s.2 = true → Q (some (.inl 1)) h) (k0 : (s.1 = 0 → ¬ isNm (tO T n) (tW T n 37 V) s.2 = true) → Q (some (.inl 0)) h) : Rn xs xl e mm_isName 0 [some (.inr (.inr 182))] [] h Q := by
  have a7 := hs.2.2.2.1
  have win := tW_in (T := T) (n := n) (b := 37) (W := V) s.2
  refine B_isName_0 hs.1.1 ⟨fun c => k0 (fun hz => absurd (hs.2.1.trans hz) c), fun c => ?_⟩
  have hz : s.1 = 0 := hs.2.1.symm.trans c
  have eo := RS_o hs hz
  refine ⟨by omega, fun c2 => k0 (fun _ q => ?_), fun c2 => ⟨1, by omega, G_wordHere (by omega) hs (by omega) (B_isName_27 hs.1.1 ⟨fun c3 => k0 (fun _ q => ?_), fun c3 => k1 hz ?_⟩)⟩⟩
  · unfold isNm at q
    rw [decide_eq_true_iff] at q
    omega
  · unfold isNm at q
    rw [decide_eq_true_iff] at q
    unfold whr at c3
    rw [if_neg (by omega)] at c3
    omega
  · unfold isNm
    rw [decide_eq_true_iff]
    unfold whr at c3
    refine ⟨by omega, ?_⟩
    by_cases z : s.1 = 0 ∧ 0 ≤ tW T n 37 V s.2 ∧ tW T n 37 V s.2 < 0 + 25
    · rw [if_pos z] at c3; omega
    · omega
theorem G_takeNumber (he : 1 ≤ e) (hs : RSK T n V m h s) (hx : i32 v1 ∧ i32 v2) (k : ∀ h' r, RSK T n V m h' (tkN (tO T n) (tV T n 37) (tP T n) v1 v2 s) → frT h h' → ((tkN (tO T n) (tV T n 37) (tP T n) v1 v2 s).1 = 0 → r = tV T n 37 s.2 ∧ v1 ≤ r ∧ r ≤ v2) → ((tkN (tO T n) (tV T n 37) (tP T n) v1 v2 s).1 ≠ 0 → r = 0) → Q (some (.inl r)) h') : Rn xs xl e mm_takeNumber 0 [some (.inr (.inr 182)), some (.inl v1), some (.inl v2)] [] h Q := by
  have a7 := hs.2.2.2.1
  have bad : ∀ {h'} {s' : Int × Nat}, RSK T n V m h' s' → s'.1 ≠ 0 → frT h h' → s' = tkN (tO T n) (tV T n 37) (tP T n) v1 v2 s → Rn xs xl e mm_takeNumber 70 [some (.inr (.inr 182)), some (.inl v1), some (.inl v2)] [] h' Q := by
    intro h' s' c1 c2 f1 es
    have p := c1.2.2.1
    have p8 := c1.2.1
    refine B_takeNumber_70 c1.1.1 ⟨fun c => by omega, fun _ => k h' 0 (by rw [← es]; exact c1) f1 (fun q => absurd (by rw [es]; exact q) c2) (fun _ => rfl)⟩
  by_cases hz : s.1 = 0
  · have eo := RS_o hs hz
    have e8 := hs.2.1
    refine B_takeNumber_0 hs.1.1 ⟨fun c => absurd (e8.trans hz) c, fun _ => ⟨by omega, fun c => ?_, fun c => ?_⟩⟩
    · have o2 : tO T n s.2 = 2 := eo.symm.trans c
      have ev := RS_v hs hz (by omega) (by omega)
      refine B_takeNumber_28 hs.1.1 ⟨fun c => absurd (e8.trans hz) c, fun _ => ⟨by omega, fun d1 => ⟨0, by omega, G_wrong hs (by omega) (fun h' c1 c2 => bad c1 (tkE_ne' hs (by decide)) c2 ?_)⟩, fun d1 => ⟨by omega, fun d2 => ?_, fun d2 => ⟨0, by omega, G_wrong hs (by omega) (fun h' c1 c2 => bad c1 (tkE_ne' hs (by decide)) c2 ?_)⟩⟩⟩⟩
      · unfold tkN
        rw [if_pos o2, if_neg]
        intro q
        have := lcmp_ge.mpr q.1
        rw [ev] at d1
        omega
      · have b1 := lcmp_ge.mp d1
        have b2 := lcmp_le.mp d2
        rw [ev] at b1 b2
        have en : tkN (tO T n) (tV T n 37) (tP T n) v1 v2 s = tkA s := by unfold tkN; rw [if_pos o2, if_pos ⟨b1, b2⟩]
        rw [en] at k
        refine B_takeNumber_70 hs.1.1 ⟨fun _ => ⟨by omega, by omega, by omega, ?_⟩, fun c => by omega⟩
        rw [show rd h 182 7 + 1 - 1 = rd h 182 7 by omega, ev, w32_id (by unfold i32 at *; omega)]
        refine k _ _ (RS_adv hs hz (by omega)) fr7 (fun _ => ⟨rfl, b1, b2⟩) (fun q => ?_)
        rw [tkA_0 hz] at q
        exact absurd rfl q
      · unfold tkN
        rw [if_pos o2, if_neg]
        intro q
        have := lcmp_le.mpr q.2
        rw [ev] at d2
        omega
    · refine ⟨0, by omega, G_wrong hs (by omega) (fun h' c1 c2 => B_takeNumber_25 c1.1.1 (bad c1 (tkE_ne' hs (by decide)) c2 ?_))⟩
      unfold tkN
      rw [if_neg (fun q => c (eo.trans q))]
  · have e8 := hs.2.1
    refine B_takeNumber_0 hs.1.1 ⟨fun _ => B_takeNumber_28 hs.1.1 ⟨fun _ => bad hs hz frT.refl (tkN_f hz).symm, fun c => absurd (e8.symm.trans c) hz⟩, fun c => absurd (e8.symm.trans c) hz⟩
theorem G_takeSort (he : 2 ≤ e) (hs : RSK T n V m h s) (k : ∀ h' r, RSK T n V m h' (tkF (tW T n 37 V) (tP T n) 18 s) → frT h h' → ((tkF (tW T n 37 V) (tP T n) 18 s).1 = 0 → r = tW T n 37 V s.2 - 18) → 0 ≤ r → r ≤ 3 → Q (some (.inl r)) h') : Rn xs xl e mm_takeSort 0 [some (.inr (.inr 182)), none] [] h Q := by
  have a7 := hs.2.2.2.1
  have bad : ∀ w0 : Int, w0 < 0 → tkF (tW T n 37 V) (tP T n) 18 s = tkE (tP T n) 1 s → Rn xs xl e mm_takeSort 18 [some (.inr (.inr 182)), none] [.inl w0] h Q := by
    intro w0 hw0 ef
    rw [ef] at k
    exact B_takeSort_18 hs.1.1 ⟨fun c => by omega, fun _ => ⟨0, by omega, G_wrong hs (by omega) (fun h' c1 c2 => B_takeSort_28 c1.1.1 (k h' 0 c1 c2 (fun q => absurd q (tkE_ne' hs (by decide))) (by omega) (by omega)))⟩⟩
  have p0 := hs.2.2.1
  have e8 := hs.2.1
  by_cases hz : s.1 = 0
  · refine B_takeSort_0 hs.1.1 ⟨fun _ => ⟨1, by omega, G_wordHere (by omega) hs (by omega) ?_⟩, fun c => by omega⟩
    by_cases q : 18 ≤ tW T n 37 V s.2 ∧ tW T n 37 V s.2 ≤ 18 + 3
    · have ef : tkF (tW T n 37 V) (tP T n) 18 s = tkA s := by unfold tkF; rw [if_pos q]
      have ew : whr (tW T n 37 V) s 18 4 = tW T n 37 V s.2 - 18 := by unfold whr; rw [if_pos ⟨hz, by omega, by omega⟩]
      rw [ew]
      rw [ef] at k
      refine B_takeSort_18 hs.1.1 ⟨fun _ => ⟨by omega, k _ _ (RS_adv hs hz (by rw [tW_o (W := V) (b := 37) (by omega)]; decide)) fr7 (fun _ => rfl) (by omega) (by omega)⟩, fun c => by omega⟩
    · have ew : whr (tW T n 37 V) s 18 4 = -1 := by unfold whr; rw [if_neg (by omega)]
      rw [ew]
      exact bad (-1) (by decide) (by unfold tkF; rw [if_neg q])
  · exact B_takeSort_0 hs.1.1 ⟨fun c => by omega, fun _ => bad (-1) (by decide) (by rw [tkF_f hz, tkE_f hz])⟩
end CB
