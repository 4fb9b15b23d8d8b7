/-! p3, part a4: the class's step -/
section TQ
variable {T : Int → Int} {n : Int} {k : Nat}
theorem tS_s : tS_ T n (k + 1) = nx T n (tS_ T n k) := rfl
theorem tk_w (h1 : tP T n k < n) (h2 : isLt (T (tP T n k)) = true) : tS_ T n (k + 1) = fw T n isLt (tP T n k) ∧ tO T n k = if 8 < fw T n isLt (tP T n k) - tP T n k then 4 else 1 := by
  have e : tS_ T n (k + 1) = fw T n isLt (tP T n k) := by
    rw [tS_s]; unfold nx
    rw [if_neg (show ¬ n ≤ fw T n isWs (tS_ T n k) from Int.not_le.mpr h1), if_pos (show isLt (T (fw T n isWs (tS_ T n k))) = true from h2)]
    rfl
  refine ⟨e, ?_⟩
  unfold tO
  rw [if_neg (Int.not_le.mpr h1), if_pos h2, e]
theorem tk_n (h1 : tP T n k < n) (h2 : ¬ isLt (T (tP T n k)) = true) (h3 : isDg (T (tP T n k)) = true) : tS_ T n (k + 1) = fw T n isDg (tP T n k) ∧ tO T n k = if 4 < fw T n isDg (tP T n k) - tP T n k then 4 else 2 := by
  have e : tS_ T n (k + 1) = fw T n isDg (tP T n k) := by
    rw [tS_s]; unfold nx
    rw [if_neg (show ¬ n ≤ fw T n isWs (tS_ T n k) from Int.not_le.mpr h1), if_neg (show ¬ isLt (T (fw T n isWs (tS_ T n k))) = true from h2), if_pos (show isDg (T (fw T n isWs (tS_ T n k))) = true from h3)]
    rfl
  refine ⟨e, ?_⟩
  unfold tO
  rw [if_neg (Int.not_le.mpr h1), if_neg h2, if_pos h3, e]
theorem tk_s (h1 : tP T n k < n) (h2 : ¬ isLt (T (tP T n k)) = true) (h3 : ¬ isDg (T (tP T n k)) = true) : tS_ T n (k + 1) = tP T n k + 1 ∧ tO T n k = if isSn (T (tP T n k)) = true then 3 else 4 := by
  have e : tS_ T n (k + 1) = tP T n k + 1 := by
    rw [tS_s]; unfold nx
    rw [if_neg (show ¬ n ≤ fw T n isWs (tS_ T n k) from Int.not_le.mpr h1), if_neg (show ¬ isLt (T (fw T n isWs (tS_ T n k))) = true from h2), if_neg (show ¬ isDg (T (fw T n isWs (tS_ T n k))) = true from h3)]
    rfl
  refine ⟨e, ?_⟩
  unfold tO
  rw [if_neg (Int.not_le.mpr h1), if_neg h2, if_neg h3]
end TQ
/-- what token k is worth: letters, a number, a sign -/
def tV (T : Int → Int) (n : Int) (b : Int) (k : Nat) : Int := if tO T n k = 1 then enc T b (tP T n k) (tN T n k) else if tO T n k = 2 then num T (tP T n k) (tN T n k) else T (tP T n k)
/-- which word of W token k is, or -1 -/
def tW (T : Int → Int) (n : Int) (b : Int) (W : Int → Int) (k : Nat) : Int := if tO T n k = 1 then wl W (tV T n b k) 29 else -1
/-- the class's reader stands at token k -/
def CTK (T : Int → Int) (n : Int) (W : Int → Int) (h : LH) (k : Nat) : Prop := rd h 2 3 = ck (tO T n k) ∧ rd h 2 4 = tP T n k ∧ (tO T n k ≠ 0 → rd h 2 5 = tS_ T n (k + 1)) ∧ (1 ≤ tO T n k → tO T n k ≤ 3 → rd h 2 6 = tV T n 32 k) ∧ rd h 2 7 = tW T n 32 W k
def CX (T : Int → Int) (n : Int) (W : Int → Int) (h : LH) : Prop := RF h ∧ TP T n h ∧ rd h 4 = W
theorem CX_fr {T : Int → Int} {n : Int} {W : Int → Int} {h h' : LH} (hx : CX T n W h) (hf : ∀ a i, ¬ muR a i → rd h' a i = rd h a i) : CX T n W h' := by
  refine ⟨RF_fr hx.1 hf, TP_fr hx.2.1 hf, ?_⟩
  rw [← hx.2.2]
  funext i
  exact hf _ _ (by unfold muR; omega)
def muS (a i : Int) : Prop := a = 2 ∧ 3 ≤ i ∧ i ≤ 7
theorem muS_R {a i : Int} (h : muS a i) : muR a i := ⟨h.1, h.2.1, by have := h.2.2; omega⟩
section C8
variable {xs : Nat → Int} {xl e : Nat} {h : LH} {Q : Option LV → LH → Prop} {v1 v2 v3 : Int} {T : Int → Int} {n : Int} {W : Int → Int}
theorem F_step (he : 2 ≤ e) (hx : CX T n W h) (h8 : rd h 2 8 = 0) {k : Nat} (h5 : rd h 2 5 = tS_ T n k)
    (kk : ∀ h', CTK T n W h' k → (∀ a i, ¬ muS a i → rd h' a i = rd h a i) → Q none h') :
    Rn xs xl e mm_Reader_step 0 [some (.inr (.inr 2)), none] [] h Q := by
  obtain ⟨hF, ⟨t1, t2, t3, t4⟩, hW⟩ := hx
  have s0 := tS_in (T := T) t4 t3 k
  have pin := tP_in (T := T) t4 t3 k
  have w3 : ∀ z, RF (wr (wr (wr h 2 4 z) 2 6 0) 2 7 (-1)) := fun z => RF_w2 (RF_w2 (RF_w2 hF (by decide) (by decide)) (by decide) (by decide)) (by decide) (by decide)
  have f3 : ∀ z a i, ¬ (a = 2 ∧ (i = 4 ∨ i = 6 ∨ i = 7)) → rd (wr (wr (wr h 2 4 z) 2 6 0) 2 7 (-1)) a i = rd h a i := by
    intro z a i hn
    rw [rd_wr, if_neg (fun q => hn (by omega)), rd_wr, if_neg (fun q => hn (by omega)), rd_wr, if_neg (fun q => hn (by omega))]
  have fin : Rn xs xl e mm_Reader_step 49 [some (.inr (.inr 2)), some (.inl (tP T n k))] [] h Q := by
    have e4 : rd (wr (wr (wr h 2 4 (tP T n k)) 2 6 0) 2 7 (-1)) 2 4 = tP T n k := (rdw_nei (by decide)).trans ((rdw_nei (by decide)).trans rdw_eq)
    have e6 : rd (wr (wr (wr h 2 4 (tP T n k)) 2 6 0) 2 7 (-1)) 2 6 = 0 := (rdw_nei (by decide)).trans rdw_eq
    have e7 : rd (wr (wr (wr h 2 4 (tP T n k)) 2 6 0) 2 7 (-1)) 2 7 = -1 := rdw_eq
    have eW : rd (wr (wr (wr h 2 4 (tP T n k)) 2 6 0) 2 7 (-1)) 4 = W := by
      rw [← hW]; funext i; exact f3 _ _ _ (by omega)
    have eT : TP T n (wr (wr (wr h 2 4 (tP T n k)) 2 6 0) 2 7 (-1)) := ⟨(f3 _ _ _ (by omega)).trans t1, fun i i0 i1 => (f3 _ _ _ (by omega)).trans (t2 i i0 i1), t3, t4⟩
    have t2' : tP T n k < n → rd h 3 (tP T n k) = T (tP T n k) := fun q => t2 _ (by omega) q
    have sg : tP T n k < n → ¬ isLt (T (tP T n k)) = true → ¬ isDg (T (tP T n k)) = true → (∃ c, c < e ∧ Rn xs xl c mm_Reader_isTokenSign 0 [some (.inl (rd h 3 (tP T n k)))] [] (wr (wr (wr (wr (wr h 2 4 (tP T n k)) 2 6 0) 2 7 (-1)) 2 5 (tP T n k + 1)) 2 6 (rd h 3 (tP T n k))) (fun r h' => Rn xs xl e mm_Reader_step 138 [some (.inr (.inr 2)), some (.inl (tP T n k))] (r.toList ++ [.inr (.inr 2)]) h' Q)) := by
      intro c1 c2 c3
      obtain ⟨k1, k2⟩ := tk_s c1 c2 c3
      have wF5 : RF (wr (wr (wr (wr (wr h 2 4 (tP T n k)) 2 6 0) 2 7 (-1)) 2 5 (tP T n k + 1)) 2 6 (rd h 3 (tP T n k))) := RF_w2 (RF_w2 (w3 _) (by decide) (by decide)) (by decide) (by decide)
      have fr : ∀ z a i, ¬ muS a i → rd (wr (wr (wr (wr (wr (wr h 2 4 (tP T n k)) 2 6 0) 2 7 (-1)) 2 5 (tP T n k + 1)) 2 6 (rd h 3 (tP T n k))) 2 3 z) a i = rd h a i := by
        intro z a i hn
        unfold muS at hn
        rw [rd_wr, if_neg (fun q => hn (by omega)), rd_wr, if_neg (fun q => hn (by omega)), rd_wr, if_neg (fun q => hn (by omega)), f3 _ _ _ (fun q => hn (by omega))]
      refine ⟨0, by omega, F_isTokenSign wF5 ?_⟩
      have core : ∀ z, z = ck (tO T n k) → Q none (wr (wr (wr (wr (wr (wr h 2 4 (tP T n k)) 2 6 0) 2 7 (-1)) 2 5 (tP T n k + 1)) 2 6 (rd h 3 (tP T n k))) 2 3 z) := by
        intro z hz
        have no1 : ¬ tO T n k = 1 := by rw [k2]; split <;> omega
        have no2 : ¬ tO T n k = 2 := by rw [k2]; split <;> omega
        refine kk _ ⟨rdw_eq.trans hz, ?_, fun _ => ?_, fun _ _ => ?_, ?_⟩ (fr z)
        · exact (rdw_nei (by decide)).trans ((rdw_nei (by decide)).trans ((rdw_nei (by decide)).trans e4))
        · rw [k1]; exact (rdw_nei (by decide)).trans ((rdw_nei (by decide)).trans rdw_eq)
        · unfold tV
          rw [if_neg no1, if_neg no2, ← t2' c1]
          exact (rdw_nei (by decide)).trans rdw_eq
        · unfold tW
          rw [if_neg no1]
          exact (rdw_nei (by decide)).trans ((rdw_nei (by decide)).trans ((rdw_nei (by decide)).trans e7))
      rw [t2' c1] at core wF5 ⊢
      by_cases s : isSn (T (tP T n k)) = true
      · rw [if_pos s] at k2
        rw [if_pos s]
        exact B_Reader_step_138 wF5 ⟨fun q => absurd q (by decide), fun _ => core 4 (by rw [k2]; rfl)⟩
      · rw [if_neg s] at k2
        rw [if_neg s]
        exact B_Reader_step_138 wF5 ⟨fun _ => core 1 (by rw [k2]; rfl), fun q => absurd rfl q⟩
    have nm : tP T n k < n → ¬ isLt (T (tP T n k)) = true → isDg (T (tP T n k)) = true → (∃ c, c < e ∧ Rn xs xl c mm_Reader_scanNumber 0 [some (.inr (.inr 2)), none] [] (wr (wr (wr h 2 4 (tP T n k)) 2 6 0) 2 7 (-1)) (fun r h' => Rn xs xl e mm_Reader_step 107 [some (.inr (.inr 2)), some (.inl (tP T n k))] (r.toList ++ []) h' Q)) := by
      intro c1 c2 c3
      obtain ⟨k1, k2⟩ := tk_n c1 c2 c3
      refine ⟨1, by omega, F_scanNumber (by omega) (w3 _) eT e4 (by omega) c1 e6 (fun h' z3 z5 z6 zf => ?_)⟩
      have fr : ∀ a i, ¬ muS a i → rd h' a i = rd h a i := by
        intro a i hn
        unfold muS at hn
        rw [zf a i (fun q => hn (by omega)), f3 _ _ _ (fun q => hn (by omega))]
      refine B_Reader_step_107 (RF_fr hF (fun a i hn => fr a i (fun q => hn (muS_R q)))) (kk h' ⟨?_, (zf _ _ (by omega)).trans e4, fun _ => by rw [k1]; exact z5, fun o1 o3 => ?_, ?_⟩ fr)
      · rw [z3, k2]; split <;> rfl
      · by_cases l : 4 < fw T n isDg (tP T n k) - tP T n k
        · rw [if_pos l] at k2; omega
        · rw [if_neg l] at k2
          unfold tV tN
          rw [if_neg (by omega), if_pos k2, k1]
          exact z6 (by omega)
      · unfold tW
        rw [if_neg (by rw [k2]; split <;> omega)]
        exact (zf _ _ (by omega)).trans e7
    have wd : tP T n k < n → isLt (T (tP T n k)) = true → (∃ c, c < e ∧ Rn xs xl c mm_Reader_scanWord 0 [some (.inr (.inr 2)), none, none] [] (wr (wr (wr h 2 4 (tP T n k)) 2 6 0) 2 7 (-1)) (fun r h' => Rn xs xl e mm_Reader_step 92 [some (.inr (.inr 2)), some (.inl (tP T n k))] (r.toList ++ []) h' Q)) := by
      intro c1 c2
      obtain ⟨k1, k2⟩ := tk_w c1 c2
      refine ⟨1, by omega, F_scanWord (by omega) (w3 _) eT e4 (by omega) c1 e6 e7 (fun h' z3 z5 z6 z7 zf => ?_)⟩
      have fr : ∀ a i, ¬ muS a i → rd h' a i = rd h a i := by
        intro a i hn
        unfold muS at hn
        rw [zf a i (fun q => hn (by omega)), f3 _ _ _ (fun q => hn (by omega))]
      refine B_Reader_step_92 (RF_fr hF (fun a i hn => fr a i (fun q => hn (muS_R q)))) (kk h' ⟨?_, (zf _ _ (by omega)).trans e4, fun _ => by rw [k1]; exact z5, fun o1 o3 => ?_, ?_⟩ fr)
      · rw [z3, k2]; split <;> rfl
      · by_cases l : 8 < fw T n isLt (tP T n k) - tP T n k
        · rw [if_pos l] at k2; omega
        · rw [if_neg l] at k2
          unfold tV tN
          rw [if_pos k2, k1]
          exact (z6 (by omega)).1
      · by_cases l : 8 < fw T n isLt (tP T n k) - tP T n k
        · rw [if_pos l] at k2
          unfold tW
          rw [if_neg (by omega)]
          exact z7 l
        · rw [if_neg l] at k2
          unfold tW tV tN
          rw [if_pos k2, if_pos k2, k1, ← eW]
          exact (z6 (by omega)).2
    refine B_Reader_step_49 hF (by omega) (by omega) ⟨fun c => ⟨by omega, fun d1 => ⟨by omega, fun d2 => ⟨by omega, by omega, ?_⟩, fun d2 => ⟨by omega, fun d3 => ⟨by omega, by omega, ?_⟩, fun d3 => ?_⟩⟩, fun d1 => ⟨by omega, fun d2 => ⟨by omega, fun d3 => ⟨by omega, by omega, ?_⟩, fun d3 => ⟨by omega, fun d4 => ⟨by omega, by omega, ?_⟩, fun d4 => ?_⟩⟩, fun d2 => ?_⟩⟩, fun c => ?_⟩
    · have z := t2' (by omega)
      exact sg (by omega) (fun q => by have := isLt_iff.mp q; omega) (fun q => by have := isDg_iff.mp q; omega)
    · have z := t2' (by omega)
      exact sg (by omega) (fun q => by have := isLt_iff.mp q; omega) (fun q => by have := isDg_iff.mp q; omega)
    · have z := t2' (by omega)
      exact nm (by omega) (fun q => by have := isLt_iff.mp q; omega) (isDg_iff.mpr (by omega))
    · have z := t2' (by omega)
      exact sg (by omega) (fun q => by have := isLt_iff.mp q; omega) (fun q => by have := isDg_iff.mp q; omega)
    · have z := t2' (by omega)
      exact sg (by omega) (fun q => by have := isLt_iff.mp q; omega) (fun q => by have := isDg_iff.mp q; omega)
    · omega
    · have z := t2' (by omega)
      exact wd (by omega) (isLt_iff.mpr (by omega))
    · have o0 : tO T n k = 0 := tO_0.mpr (by omega)
      refine kk _ ⟨?_, (rdw_nei (by decide)).trans e4, fun q => absurd o0 q, fun q => by omega, ?_⟩ (fun a i hn => ?_)
      · rw [rdw_eq, o0]; rfl
      · unfold tW
        rw [if_neg (by omega)]
        exact (rdw_nei (by decide)).trans e7
      · unfold muS at hn
        rw [rd_wr, if_neg (fun q => hn (by omega)), f3 _ _ _ (fun q => hn (by omega))]
  have loop : ∀ (m : Nat) (v : Int), n - v ≤ m → tS_ T n k ≤ v → v ≤ n → (∀ r, tS_ T n k ≤ r → r < v → r < n ∧ isWs (T r) = true) → Rn xs xl e mm_Reader_step 13 [some (.inr (.inr 2)), some (.inl v)] [] h Q := by
    intro m
    induction m with
    | zero =>
      intro v hm v0 v1 hd
      have ef : tP T n k = v := fw_eq s0.1 t4 v0 hd (fun q => by omega)
      exact B_Reader_step_13 hF (by omega) ⟨fun _ => by rw [← ef]; exact fin, fun c => by omega⟩
    | succ m ih =>
      intro v hm v0 v1 hd
      have ex : ¬ (v < n ∧ isWs (T v) = true) → Rn xs xl e mm_Reader_step 49 [some (.inr (.inr 2)), some (.inl v)] [] h Q := by
        intro q
        have ef : tP T n k = v := fw_eq s0.1 t4 v0 hd q
        rw [← ef]; exact fin
      have on : v < n → isWs (T v) = true → Rn xs xl e mm_Reader_step 13 [some (.inr (.inr 2)), some (.inl (v + 1))] [] h Q := by
        intro q1 q2
        refine ih (v + 1) (by omega) (by omega) (by omega) (fun r r0 r1 => ?_)
        by_cases er : r = v
        · rw [er]; exact ⟨q1, q2⟩
        · exact hd r r0 (by omega)
      have z : v < n → rd h 3 v = T v := fun q => t2 v (by omega) q
      refine B_Reader_step_13 hF (by omega) ⟨fun c => ex (fun q => by omega), fun c => ⟨by omega, fun c1 => on (by omega) (isWs_iff.mpr ?_), fun c1 => ⟨by omega, fun c2 => ex (fun q => ?_), fun c2 => on (by omega) (isWs_iff.mpr ?_)⟩⟩⟩
      · have := z (by omega); omega
      · have := z q.1
        have := isWs_iff.mp q.2
        omega
      · have := z (by omega); omega
  refine B_Reader_step_0 hF ⟨fun _ => ?_, fun c => absurd h8 c⟩
  rw [h5]
  exact loop n.toNat _ (by omega) (by omega) (by omega) (fun r r0 r1 => by omega)
end C8
