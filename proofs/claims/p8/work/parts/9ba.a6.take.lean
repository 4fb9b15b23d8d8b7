/-! p3, part a6: what a reader of the text does, token by token; the class's takes -/
section SPC
variable (o v w p : Nat → Int)
def tkE (c : Int) (s : Int × Nat) : Int × Nat := if s.1 = 0 then (c + 16 * p s.2, s.2) else s
def tkA (s : Int × Nat) : Int × Nat := if s.1 = 0 then (0, s.2 + 1) else s
def tkW (x : Int) (s : Int × Nat) : Int × Nat := if w s.2 = x then tkA s else tkE p 1 s
def tkS (c : Int) (s : Int × Nat) : Int × Nat := if o s.2 = 3 ∧ v s.2 = c then tkA s else tkE p 1 s
def tkN (lo hi : Int) (s : Int × Nat) : Int × Nat := if o s.2 = 2 then (if lo ≤ v s.2 ∧ v s.2 ≤ hi then tkA s else tkE p 4 s) else tkE p 1 s
def tkF (x : Int) (s : Int × Nat) : Int × Nat := if x ≤ w s.2 ∧ w s.2 ≤ x + 3 then tkA s else tkE p 1 s
def tkB (x : Int) (s : Int × Nat) : Bool := decide (s.1 = 0 ∧ w s.2 = x)
def tkR (a R : Int) (s : Int × Nat) : Int × Nat := if o s.2 = 2 ∧ v s.2 = a then tkE p 3 s else tkN o v p 0 (R - 1) s
def isNm (k : Nat) : Bool := decide (o k = 1 ∧ (w k = -1 ∨ 25 ≤ w k))
def tkM (N : List Nat) (s : Int × Nat) : Int × Nat := if isNm o w s.2 = true then (if N.any (fun j => decide (v j = v s.2)) = true then tkE p 3 s else tkA s) else tkE p 1 s
end SPC
section SPD
variable {o v w p : Nat → Int} {s : Int × Nat}
theorem tkA_f (h : s.1 ≠ 0) : tkA s = s := by unfold tkA; rw [if_neg h]
theorem tkE_f {c : Int} (h : s.1 ≠ 0) : tkE p c s = s := by unfold tkE; rw [if_neg h]
theorem tkA_0 (h : s.1 = 0) : tkA s = (0, s.2 + 1) := by unfold tkA; rw [if_pos h]
theorem tkE_0 {c : Int} (h : s.1 = 0) : tkE p c s = (c + 16 * p s.2, s.2) := by unfold tkE; rw [if_pos h]
theorem tkW_f {x : Int} (h : s.1 ≠ 0) : tkW w p x s = s := by unfold tkW; rw [tkA_f h, tkE_f h, ite_self]
theorem tkS_f {x : Int} (h : s.1 ≠ 0) : tkS o v p x s = s := by unfold tkS; rw [tkA_f h, tkE_f h, ite_self]
theorem tkN_f {x y : Int} (h : s.1 ≠ 0) : tkN o v p x y s = s := by unfold tkN; rw [tkA_f h, tkE_f h, tkE_f h, ite_self, ite_self]
theorem tkF_f {x : Int} (h : s.1 ≠ 0) : tkF w p x s = s := by unfold tkF; rw [tkA_f h, tkE_f h, ite_self]
theorem tkR_f {x y : Int} (h : s.1 ≠ 0) : tkR o v p x y s = s := by unfold tkR; rw [tkN_f h, tkE_f h, ite_self]
theorem tkM_f {N : List Nat} (h : s.1 ≠ 0) : tkM o v w p N s = s := by unfold tkM; rw [tkA_f h, tkE_f h, tkE_f h, ite_self, ite_self]
theorem ck_0 {x : Int} : ck x = 0 ↔ x = 0 := by unfold ck; split <;> (try split) <;> (try split) <;> (try split) <;> omega
theorem ck_2 {x : Int} : ck x = 2 ↔ x = 1 := by unfold ck; split <;> (try split) <;> (try split) <;> (try split) <;> omega
theorem ck_3 {x : Int} : ck x = 3 ↔ x = 2 := by unfold ck; split <;> (try split) <;> (try split) <;> (try split) <;> omega
theorem ck_4 {x : Int} : ck x = 4 ↔ x = 3 := by unfold ck; split <;> (try split) <;> (try split) <;> (try split) <;> omega
end SPD
theorem tW_in {T : Int → Int} {n b : Int} {W : Int → Int} (k : Nat) : -1 ≤ tW T n b W k ∧ tW T n b W k ≤ 28 := by
  unfold tW
  split
  · have := wl_in (W := W) (v := tV T n b k) 29
    omega
  · omega
theorem tW_o {T : Int → Int} {n b : Int} {W : Int → Int} {k : Nat} (h : 0 ≤ tW T n b W k) : tO T n k = 1 := by
  unfold tW at h
  split at h
  · assumption
  · omega
/-- the class's reader is in state s -/
def CSK (T : Int → Int) (n : Int) (W : Int → Int) (h : LH) (s : Int × Nat) : Prop := CX T n W h ∧ rd h 2 8 = s.1 ∧ (-1 ≤ rd h 2 7 ∧ rd h 2 7 ≤ 28) ∧ (s.1 = 0 → CTK T n W h s.2)
def frK (h h' : LH) : Prop := ∀ a i, ¬ muR a i → rd h' a i = rd h a i
theorem frK.refl {h : LH} : frK h h := fun _ _ _ => rfl
theorem frK.trans {h h1 h2 : LH} (a : frK h h1) (b : frK h1 h2) : frK h h2 := fun x i hn => (b x i hn).trans (a x i hn)
section C9
variable {xs : Nat → Int} {xl e : Nat} {h : LH} {Q : Option LV → LH → Prop} {v1 v2 v3 : Int} {T : Int → Int} {n : Int} {W : Int → Int} {s : Int × Nat}
theorem CS_w (hs : CSK T n W h s) (h0 : s.1 = 0) : rd h 2 7 = tW T n 32 W s.2 := (hs.2.2.2 h0).2.2.2.2
theorem CS_k (hs : CSK T n W h s) (h0 : s.1 = 0) : rd h 2 3 = ck (tO T n s.2) := (hs.2.2.2 h0).1
theorem CS_v (hs : CSK T n W h s) (h0 : s.1 = 0) (h1 : 1 ≤ tO T n s.2) (h3 : tO T n s.2 ≤ 3) : rd h 2 6 = tV T n 32 s.2 := (hs.2.2.2 h0).2.2.2.1 h1 h3
theorem F_stp (he : 2 ≤ e) (hs : CSK T n W h s) (ho : s.1 = 0 → tO T n s.2 ≠ 0) (k : ∀ h', CSK T n W h' (tkA s) → frK h h' → Q none h') : Rn xs xl e mm_Reader_step 0 [some (.inr (.inr 2)), none] [] h Q := by
  obtain ⟨h1, h2, h3, h4⟩ := hs
  by_cases hz : s.1 = 0
  · obtain ⟨c1, c2, c3, c4, c5⟩ := h4 hz
    refine F_step he h1 (h2.trans hz) (c3 (ho hz)) (fun h' hc hf => ?_)
    have fr : frK h h' := fun a i hn => hf a i (fun q => hn (muS_R q))
    refine k h' ⟨CX_fr h1 fr, ?_, ?_, fun _ => ?_⟩ fr
    · rw [tkA_0 hz, hf _ _ (by unfold muS; omega), h2, hz]
    · rw [hc.2.2.2.2]; exact tW_in _
    · rw [tkA_0 hz]; exact hc
  · exact B_Reader_step_0 h1.1 ⟨fun q => absurd (h2.symm.trans q) hz, fun _ => k h (by rw [tkA_f hz]; exact ⟨h1, h2, h3, h4⟩) frK.refl⟩
theorem F_fl (hs : CSK T n W h s) (hw : 1 ≤ v1 ∧ v1 ≤ 5) (k : ∀ h', CSK T n W h' (tkE (tP T n) v1 s) → frK h h' → Q none h') : Rn xs xl e mm_Reader_fail 0 [some (.inr (.inr 2)), some (.inl v1)] [] h Q := by
  obtain ⟨h1, h2, h3, h4⟩ := hs
  by_cases hz : s.1 = 0
  · obtain ⟨c1, c2, c3, c4, c5⟩ := h4 hz
    have t := h1.2.1
    have s0 := tS_in (T := T) t.2.2.2 t.2.2.1 s.2
    have pin := tP_in (T := T) t.2.2.2 t.2.2.1 s.2
    have fr : frK h (wr h 2 8 (v1 + 16 * rd h 2 4)) := by
      intro a i hn
      unfold muR at hn
      rw [rd_wr, if_neg (fun q => hn (by omega))]
    have t4 := t.2.2.2
    refine B_Reader_fail_0 h1.1 ⟨fun q => absurd (h2.trans hz) q, fun _ => ⟨by omega, by omega, k _ ⟨CX_fr h1 fr, ?_, ?_, fun q => ?_⟩ fr⟩⟩
    · rw [tkE_0 hz, rdw_eq, c2]
    · rw [rdw_nei (by decide)]; exact h3
    · rw [tkE_0 hz] at q
      have : v1 + 16 * tP T n s.2 = 0 := q
      omega
  · exact B_Reader_fail_0 h1.1 ⟨fun _ => k h (by rw [tkE_f hz]; exact ⟨h1, h2, h3, h4⟩) frK.refl, fun q => absurd (h2.symm.trans q) hz⟩
theorem F_isSign (hs : CSK T n W h s) (k : ∀ r, (r = 0 ∨ r = 1) → (s.1 = 0 → (r = 1 ↔ tO T n s.2 = 3 ∧ tV T n 32 s.2 = v1)) → Q (some (.inl r)) h) : Rn xs xl e mm_Reader_isSign 0 [some (.inr (.inr 2)), some (.inl v1)] [] h Q := by
  refine B_Reader_isSign_0 hs.1.1 ⟨fun c => k 0 (Or.inl rfl) (fun hz => ?_), fun c => ⟨fun c2 => k 0 (Or.inl rfl) (fun hz => ?_), fun c2 => k 1 (Or.inr rfl) (fun hz => ?_)⟩⟩
  · rw [CS_k hs hz] at c
    exact ⟨fun q => absurd q (by decide), fun q => absurd (ck_4.mpr q.1) c⟩
  · rw [CS_k hs hz] at c
    have o3 := ck_4.mp c
    rw [CS_v hs hz (by omega) (by omega)] at c2
    exact ⟨fun q => absurd q (by decide), fun q => absurd (lcmp0.mpr q.2) c2⟩
  · rw [CS_k hs hz] at c
    have o3 := ck_4.mp c
    rw [CS_v hs hz (by omega) (by omega)] at c2
    exact ⟨fun _ => ⟨o3, lcmp0.mp c2⟩, fun _ => rfl⟩
theorem F_takeWord (he : 3 ≤ e) (hs : CSK T n W h s) (hx : 0 ≤ v1) (k : ∀ h', CSK T n W h' (tkW (tW T n 32 W) (tP T n) v1 s) → frK h h' → Q none h') : Rn xs xl e mm_Reader_takeWord 0 [some (.inr (.inr 2)), some (.inl v1)] [] h Q := by
  refine B_Reader_takeWord_0 hs.1.1 ⟨fun c => ⟨0, by omega, F_fl hs (by omega) (fun h' c1 c2 => B_Reader_takeWord_20 c1.1.1 (k h' ?_ c2))⟩, fun c => ⟨2, by omega, F_stp (by omega) hs (fun hz => ?_) (fun h' c1 c2 => B_Reader_takeWord_12 c1.1.1 (k h' ?_ c2))⟩⟩
  · by_cases hz : s.1 = 0
    · rw [CS_w hs hz] at c
      unfold tkW
      rw [if_neg c]; exact c1
    · rw [tkW_f hz]; rw [tkE_f hz] at c1; exact c1
  · rw [CS_w hs hz] at c
    rw [tW_o (W := W) (b := 32) (by omega)]; decide
  · by_cases hz : s.1 = 0
    · rw [CS_w hs hz] at c
      unfold tkW
      rw [if_pos c]; exact c1
    · rw [tkW_f hz]; rw [tkA_f hz] at c1; exact c1
theorem F_takeSign (he : 3 ≤ e) (hs : CSK T n W h s) (k : ∀ h', CSK T n W h' (tkS (tO T n) (tV T n 32) (tP T n) v1 s) → frK h h' → Q none h') : Rn xs xl e mm_Reader_takeSign 0 [some (.inr (.inr 2)), some (.inl v1)] [] h Q := by
  refine B_Reader_takeSign_0 hs.1.1 ⟨0, by omega, F_isSign hs (fun r r01 hr => B_Reader_takeSign_5 hs.1.1 ⟨fun c => ⟨0, by omega, F_fl hs (by omega) (fun h' c1 c2 => B_Reader_takeSign_20 c1.1.1 (k h' ?_ c2))⟩, fun c => ⟨2, by omega, F_stp (by omega) hs (fun hz => ?_) (fun h' c1 c2 => B_Reader_takeSign_12 c1.1.1 (k h' ?_ c2))⟩⟩)⟩
  · by_cases hz : s.1 = 0
    · unfold tkS
      rw [if_neg (fun q => by have := (hr hz).mpr q; omega)]; exact c1
    · rw [tkS_f hz]; rw [tkE_f hz] at c1; exact c1
  · have := ((hr hz).mp (by omega)).1
    omega
  · by_cases hz : s.1 = 0
    · unfold tkS
      rw [if_pos ((hr hz).mp (by omega))]; exact c1
    · rw [tkS_f hz]; rw [tkA_f hz] at c1; exact c1
theorem F_skipWord (he : 3 ≤ e) (hs : CSK T n W h s) (hx : 0 ≤ v1) (k : ∀ h', CSK T n W h' (if tkB (tW T n 32 W) v1 s = true then tkA s else s) → frK h h' → Q (some (.inl (if tkB (tW T n 32 W) v1 s = true then 1 else 0))) h') : Rn xs xl e mm_Reader_skipWord 0 [some (.inr (.inr 2)), some (.inl v1)] [] h Q := by
  have k0 : ¬ (s.1 = 0 ∧ tW T n 32 W s.2 = v1) → Q (some (.inl 0)) h := by
    intro q
    have := k h
    rw [if_neg (by unfold tkB; rw [decide_eq_true_iff]; exact q), if_neg (by unfold tkB; rw [decide_eq_true_iff]; exact q)] at this
    exact this hs frK.refl
  refine B_Reader_skipWord_0 hs.1.1 ⟨fun c => k0 (fun q => c (hs.2.1.trans q.1)), fun c => ⟨fun c2 => ⟨2, by omega, ?_⟩, fun c2 => k0 (fun q => c2 ((CS_w hs q.1).trans q.2))⟩⟩
  have hz : s.1 = 0 := hs.2.1.symm.trans c
  rw [CS_w hs hz] at c2
  have b : tkB (tW T n 32 W) v1 s = true := by unfold tkB; rw [decide_eq_true_iff]; exact ⟨hz, c2⟩
  rw [if_pos b, if_pos b] at k
  exact F_stp (by omega) hs (fun _ => by rw [tW_o (W := W) (b := 32) (by omega)]; decide) (fun h' c1 c2 => B_Reader_skipWord_21 c1.1.1 (k h' c1 c2))
theorem F_takeOneOfFour (he : 3 ≤ e) (hs : CSK T n W h s) (hx : 0 ≤ v1 ∧ v1 ≤ 25) (k : ∀ h' r, CSK T n W h' (tkF (tW T n 32 W) (tP T n) v1 s) → frK h h' → 0 ≤ r → r ≤ 3 → ((tkF (tW T n 32 W) (tP T n) v1 s).1 = 0 → r = tW T n 32 W s.2 - v1) → Q (some (.inl r)) h') : Rn xs xl e mm_Reader_takeOneOfFour 0 [some (.inr (.inr 2)), some (.inl v1), none] [] h Q := by
  have h7 := hs.2.2.1
  have bad : ¬ (v1 ≤ rd h 2 7 ∧ rd h 2 7 ≤ v1 + 3) → Rn xs xl 0 mm_Reader_fail 0 [some (.inr (.inr 2)), some (.inl 1)] [] h (fun r h' => Rn xs xl e mm_Reader_takeOneOfFour 21 [some (.inr (.inr 2)), some (.inl v1), some (.inl (rd h 2 7 - v1))] (r.toList ++ []) h' Q) := by
    intro c
    refine F_fl hs (by omega) (fun h' c1 c2 => B_Reader_takeOneOfFour_21 c1.1.1 ?_)
    have e1 : tkF (tW T n 32 W) (tP T n) v1 s = tkE (tP T n) 1 s := by
      by_cases hz : s.1 = 0
      · rw [CS_w hs hz] at c
        unfold tkF; rw [if_neg c]
      · rw [tkF_f hz, tkE_f hz]
    rw [e1] at k
    refine k h' 0 c1 c2 (by omega) (by omega) (fun q => ?_)
    by_cases hz : s.1 = 0
    · rw [tkE_0 hz] at q
      have t := hs.1.2.1
      have pin := tP_in (T := T) t.2.2.2 t.2.2.1 s.2
      have s0 := tS_in (T := T) t.2.2.2 t.2.2.1 s.2
      have : 1 + 16 * tP T n s.2 = 0 := q
      omega
    · rw [tkE_f hz] at q; exact absurd q hz
  refine B_Reader_takeOneOfFour_0 hs.1.1 ⟨by omega, fun c => ⟨0, by omega, bad (by omega)⟩, fun c => ⟨fun c2 => ⟨2, by omega, ?_⟩, fun c2 => ⟨0, by omega, bad (by omega)⟩⟩⟩
  refine F_stp (by omega) hs (fun hz => ?_) (fun h' c1 c2' => B_Reader_takeOneOfFour_27 c1.1.1 ?_)
  · rw [CS_w hs hz] at c
    rw [tW_o (W := W) (b := 32) (by omega)]; decide
  · have e1 : tkF (tW T n 32 W) (tP T n) v1 s = tkA s := by
      by_cases hz : s.1 = 0
      · rw [CS_w hs hz] at c c2
        unfold tkF; rw [if_pos (by omega)]
      · rw [tkF_f hz, tkA_f hz]
    rw [e1] at k
    refine k h' _ c1 c2' (by omega) (by omega) (fun q => ?_)
    by_cases hz : s.1 = 0
    · rw [CS_w hs hz]
    · rw [tkA_f hz] at q; exact absurd q hz
theorem tkE_ne (ht : TP T n h) (hc : 1 ≤ v1) : (tkE (tP T n) v1 s).1 ≠ 0 := by
  by_cases hz : s.1 = 0
  · rw [tkE_0 hz]
    have pin := tP_in (T := T) ht.2.2.2 ht.2.2.1 s.2
    have s0 := tS_in (T := T) ht.2.2.2 ht.2.2.1 s.2
    show v1 + 16 * tP T n s.2 ≠ 0
    omega
  · rw [tkE_f hz]; exact hz
theorem F_takeNumber (he : 3 ≤ e) (hs : CSK T n W h s) (hx : i32 v1 ∧ i32 v2) (k : ∀ h' r, CSK T n W h' (tkN (tO T n) (tV T n 32) (tP T n) v1 v2 s) → frK h h' → v1 ≤ r → (r ≤ v2 ∨ r = v1) → ((tkN (tO T n) (tV T n 32) (tP T n) v1 v2 s).1 = 0 → r = tV T n 32 s.2 ∧ r ≤ v2) → Q (some (.inl r)) h') : Rn xs xl e mm_Reader_takeNumber 0 [some (.inr (.inr 2)), some (.inl v1), some (.inl v2), none] [] h Q := by
  have bad4 : rd h 2 3 = 3 → ¬ (v1 ≤ rd h 2 6 ∧ rd h 2 6 ≤ v2) → Rn xs xl 0 mm_Reader_fail 0 [some (.inr (.inr 2)), some (.inl 4)] [] h (fun r h' => Rn xs xl e mm_Reader_takeNumber 40 [some (.inr (.inr 2)), some (.inl v1), some (.inl v2), none] (r.toList ++ []) h' Q) := by
    intro c c'
    refine F_fl hs (by omega) (fun h' c1 c2 => B_Reader_takeNumber_40 c1.1.1 ?_)
    have e1 : tkN (tO T n) (tV T n 32) (tP T n) v1 v2 s = tkE (tP T n) 4 s := by
      by_cases hz : s.1 = 0
      · rw [CS_k hs hz] at c
        have o2 := ck_3.mp c
        rw [CS_v hs hz (by omega) (by omega)] at c'
        unfold tkN; rw [if_pos o2, if_neg c']
      · rw [tkN_f hz, tkE_f hz]
    rw [e1] at k
    exact k h' v1 c1 c2 (by omega) (Or.inr rfl) (fun q => absurd q (tkE_ne hs.1.2.1 (by decide)))
  refine B_Reader_takeNumber_0 hs.1.1 ⟨fun c => ⟨fun c2 => ⟨0, by omega, bad4 c (fun q => ?_)⟩, fun c2 => ⟨fun c3 => ⟨2, by omega, ?_⟩, fun c3 => ⟨0, by omega, bad4 c (fun q => ?_)⟩⟩⟩, fun c => ⟨0, by omega, ?_⟩⟩
  · have := lcmp_ge.mpr q.1
    omega
  · have a1 := lcmp_ge.mp c2
    have a2 := lcmp_le.mp c3
    have ew : w32 (rd h 2 6) = rd h 2 6 := w32_id (by unfold i32 at *; omega)
    refine F_stp (by omega) hs (fun hz => ?_) (fun h' c1 c2' => B_Reader_takeNumber_52 c1.1.1 ?_)
    · rw [CS_k hs hz] at c
      have o2 := ck_3.mp c
      omega
    · have e1 : tkN (tO T n) (tV T n 32) (tP T n) v1 v2 s = tkA s := by
        by_cases hz : s.1 = 0
        · rw [CS_k hs hz] at c
          have o2 := ck_3.mp c
          rw [CS_v hs hz (by omega) (by omega)] at a1 a2
          unfold tkN; rw [if_pos o2, if_pos ⟨a1, a2⟩]
        · rw [tkN_f hz, tkA_f hz]
      rw [e1] at k
      rw [ew]
      refine k h' _ c1 c2' a1 (Or.inl a2) (fun q => ?_)
      by_cases hz : s.1 = 0
      · rw [CS_k hs hz] at c
        have o2 := ck_3.mp c
        rw [CS_v hs hz (by omega) (by omega)] at a2 ⊢
        exact ⟨rfl, a2⟩
      · rw [tkA_f hz] at q; exact absurd q hz
  · have := lcmp_le.mpr q.2
    omega
  · refine F_fl hs (by omega) (fun h' c1 c2 => B_Reader_takeNumber_13 c1.1.1 ?_)
    have e1 : tkN (tO T n) (tV T n 32) (tP T n) v1 v2 s = tkE (tP T n) 1 s := by
      by_cases hz : s.1 = 0
      · rw [CS_k hs hz] at c
        unfold tkN; rw [if_neg (fun q => c (ck_3.mpr q))]
      · rw [tkN_f hz, tkE_f hz]
    rw [e1] at k
    exact k h' v1 c1 c2 (by omega) (Or.inr rfl) (fun q => absurd q (tkE_ne hs.1.2.1 (by decide)))
theorem F_takeOtherRoom (he : 4 ≤ e) (hs : CSK T n W h s) (h1 : 0 ≤ v1 ∧ v1 ≤ 9) (h2 : 1 ≤ v2 ∧ v2 ≤ 10) (k : ∀ h' r, CSK T n W h' (tkR (tO T n) (tV T n 32) (tP T n) v1 v2 s) → frK h h' → 0 ≤ r → r ≤ 9 → ((tkR (tO T n) (tV T n 32) (tP T n) v1 v2 s).1 = 0 → r = tV T n 32 s.2 ∧ r ≤ v2 - 1) → Q (some (.inl r)) h') : Rn xs xl e mm_Reader_takeOtherRoom 0 [some (.inr (.inr 2)), some (.inl v1), some (.inl v2)] [] h Q := by
  have tk : ¬ (rd h 2 3 = 3 ∧ rd h 2 6 = v1) → Rn xs xl 3 mm_Reader_takeNumber 0 [some (.inr (.inr 2)), some (.inl 0), some (.inl (v2 - 1)), none] [] h (fun r h' => Rn xs xl e mm_Reader_takeOtherRoom 33 [some (.inr (.inr 2)), some (.inl v1), some (.inl v2)] (r.toList ++ []) h' Q) := by
    intro c
    refine F_takeNumber (by omega) hs ⟨by unfold i32; omega, by unfold i32; omega⟩ (fun h' r c1 c2 r0 r1 r2 => B_Reader_takeOtherRoom_33 c1.1.1 ?_)
    have e1 : tkR (tO T n) (tV T n 32) (tP T n) v1 v2 s = tkN (tO T n) (tV T n 32) (tP T n) 0 (v2 - 1) s := by
      by_cases hz : s.1 = 0
      · unfold tkR
        rw [if_neg]
        intro q
        apply c
        rw [CS_k hs hz, ck_3, CS_v hs hz (by omega) (by omega)]
        exact q
      · rw [tkR_f hz, tkN_f hz]
    rw [e1] at k
    exact k h' r c1 c2 (by omega) (by omega) r2
  refine B_Reader_takeOtherRoom_0 hs.1.1 ⟨fun c => ⟨by omega, 3, by omega, tk (fun q => c q.1)⟩, fun c => ⟨fun c2 => ⟨by omega, 3, by omega, tk (fun q => c2 (lcmp0.mpr q.2))⟩, fun c2 => ⟨0, by omega, ?_⟩⟩⟩
  refine F_fl hs (by omega) (fun h' c1 c3 => B_Reader_takeOtherRoom_23 c1.1.1 ?_)
  have e1 : tkR (tO T n) (tV T n 32) (tP T n) v1 v2 s = tkE (tP T n) 3 s := by
    by_cases hz : s.1 = 0
    · rw [CS_k hs hz] at c
      have o2 := ck_3.mp c
      have c2' := lcmp0.mp c2
      rw [CS_v hs hz (by omega) (by omega)] at c2'
      unfold tkR; rw [if_pos ⟨o2, c2'⟩]
    · rw [tkR_f hz, tkE_f hz]
  rw [e1] at k
  exact k h' v1 c1 c3 (by omega) (by omega) (fun q => absurd q (tkE_ne hs.1.2.1 (by decide)))
theorem F_isName (hs : CSK T n W h s) (k : ∀ r, (r = 0 ∨ r = 1) → (s.1 = 0 → (r = 1 ↔ isNm (tO T n) (tW T n 32 W) s.2 = true)) → Q (some (.inl r)) h) : Rn xs xl e mm_Reader_isName 0 [some (.inr (.inr 2))] [] h Q := by
  have nm : s.1 = 0 → (isNm (tO T n) (tW T n 32 W) s.2 = true ↔ rd h 2 3 = 2 ∧ (rd h 2 7 = -1 ∨ 25 ≤ rd h 2 7)) := by
    intro hz
    unfold isNm
    rw [decide_eq_true_iff, CS_k hs hz, CS_w hs hz, ck_2]
  refine B_Reader_isName_0 hs.1.1 ⟨fun c => k 0 (Or.inl rfl) (fun hz => ?_), fun c => ⟨fun c2 => k 1 (Or.inr rfl) (fun hz => ?_), fun c2 => ⟨fun c3 => k 0 (Or.inl rfl) (fun hz => ?_), fun c3 => k 1 (Or.inr rfl) (fun hz => ?_)⟩⟩⟩
  · rw [nm hz]; omega
  · rw [nm hz]; omega
  · rw [nm hz]; omega
  · rw [nm hz]; omega
end C9
