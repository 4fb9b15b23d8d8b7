/-! p3, part a3: the class's reader steps to the next token -/
def ck (o : Int) : Int := if o = 0 then 0 else if o = 1 then 2 else if o = 2 then 3 else if o = 3 then 4 else 1
def wl (W : Int → Int) (v : Int) : Nat → Int
  | 0 => -1
  | m + 1 => if W m = v then (m : Int) else wl W v m
theorem wl_in {W : Int → Int} {v : Int} : ∀ m : Nat, -1 ≤ wl W v m ∧ wl W v m < m
  | 0 => by unfold wl; omega
  | m + 1 => by
    have := wl_in (W := W) (v := v) m
    unfold wl
    split <;> omega
theorem num_bd {T : Int → Int} {p : Int} : ∀ m : Nat, (∀ r : Int, p ≤ r → r < p + m → 48 ≤ T r ∧ T r ≤ 57) → 0 ≤ num T p m ∧ num T p m < 10 ^ m
  | 0, _ => ⟨Int.le_refl _, by show (0 : Int) < 10 ^ 0; decide⟩
  | m + 1, h => by
    obtain ⟨i1, i2⟩ := num_bd m (fun r r1 r2 => h r r1 (by omega))
    have d := h (p + m) (by omega) (by omega)
    show 0 ≤ 10 * num T p m + T (p + m) - 48 ∧ 10 * num T p m + T (p + m) - 48 < 10 ^ (m + 1)
    have e1 : (10 : Int) ^ (m + 1) = 10 * 10 ^ m := by rw [Int.pow_succ, Int.mul_comm]
    rw [e1]
    omega
theorem pow_le8 {b : Int} {m k : Nat} (hb : 1 ≤ b) (h : m ≤ k) : b ^ m ≤ b ^ k := by
  obtain ⟨j, rfl⟩ := Nat.exists_eq_add_of_le h
  have h1 : (1 : Int) ≤ b ^ j := by
    have : (0 : Int) < b ^ j := Int.pow_pos (by omega)
    omega
  have h2 : (0 : Int) < b ^ m := Int.pow_pos (by omega)
  rw [Int.pow_add]
  have := Int.mul_le_mul_of_nonneg_left h1 (Int.le_of_lt h2)
  omega
/-- the tape as the class holds it -/
def TP (T : Int → Int) (n : Int) (h : LH) : Prop := rd h 2 0 = n ∧ (∀ i, 0 ≤ i → i < n → rd h 3 i = T i) ∧ 0 ≤ n ∧ n ≤ 1000
theorem TP_fr {T : Int → Int} {n : Int} {h h' : LH} (ht : TP T n h) (hf : ∀ a i, ¬ muR a i → rd h' a i = rd h a i) : TP T n h' := by
  obtain ⟨t1, t2, t3⟩ := ht
  refine ⟨(hf _ _ (by unfold muR; omega)).trans t1, fun i i0 i1 => (hf _ _ (by unfold muR; omega)).trans (t2 i i0 i1), t3⟩
section C7
variable {xs : Nat → Int} {xl e : Nat} {h : LH} {Q : Option LV → LH → Prop} {v1 v2 v3 : Int} {T : Int → Int} {n : Int}
theorem F_scanNumber (he : 1 ≤ e) (hF : RF h) (ht : TP T n h) {p : Int} (hp : rd h 2 4 = p) (p0 : 0 ≤ p) (p1 : p < n) (h6 : rd h 2 6 = 0)
    (k : ∀ h', rd h' 2 3 = (if 4 < fw T n isDg p - p then 1 else 3) → rd h' 2 5 = fw T n isDg p → (fw T n isDg p - p ≤ 4 → rd h' 2 6 = num T p (fw T n isDg p - p).toNat) → (∀ a i, ¬ (a = 2 ∧ (i = 3 ∨ i = 5 ∨ i = 6)) → rd h' a i = rd h a i) → Q none h') :
    Rn xs xl e mm_Reader_scanNumber 0 [some (.inr (.inr 2)), none] [] h Q := by
  obtain ⟨t1, t2, t3, t4⟩ := ht
  have loop : ∀ (m : Nat) (g : LH) (v : Int), n - v ≤ m → p ≤ v → v ≤ n → (∀ r, p ≤ r → r < v → r < n ∧ isDg (T r) = true) → (∀ a i, ¬ (a = 2 ∧ i = 6) → rd g a i = rd h a i) → (v - p ≤ 4 → rd g 2 6 = num T p (v - p).toNat) → Rn xs xl e mm_Reader_scanNumber 5 [some (.inr (.inr 2)), some (.inl v)] [] g Q := by
    intro m
    induction m with
    | zero =>
      intro g v hm pv vn hd gf g6
      have gF : RF g := RF_fr hF (fun a i hn => gf a i (fun q => hn ⟨q.1, by omega, by omega⟩))
      have g0 : rd g 2 0 = n := (gf _ _ (by omega)).trans t1
      have g4 : rd g 2 4 = p := (gf _ _ (by omega)).trans hp
      have ef : fw T n isDg p = v := fw_eq p0 t4 pv hd (fun q => by omega)
      refine B_Reader_scanNumber_5 gF (by omega) he ⟨fun _ => ?_, fun c => by omega⟩
      rw [ef] at k
      refine B_Reader_scanNumber_51 gF (by omega) ⟨by omega, fun c => ?_, fun c => ?_⟩
      · refine k _ (by rw [rdw_eq, if_pos (by omega)]) ((rdw_nei (by decide)).trans rdw_eq) (fun q => by omega) (fun a i hn => ?_)
        rw [← gf a i (fun q => hn (by omega)), rd_wr, if_neg (fun q => hn (by omega)), rd_wr, if_neg (fun q => hn (by omega))]
      · refine k _ (by rw [rdw_eq, if_neg (by omega)]) ((rdw_nei (by decide)).trans rdw_eq) (fun q => ((rdw_nei (by decide)).trans (rdw_nei (by decide))).trans (g6 q)) (fun a i hn => ?_)
        rw [← gf a i (fun q => hn (by omega)), rd_wr, if_neg (fun q => hn (by omega)), rd_wr, if_neg (fun q => hn (by omega))]
    | succ m ih =>
      intro g v hm pv vn hd gf g6
      have gF : RF g := RF_fr hF (fun a i hn => gf a i (fun q => hn ⟨q.1, by omega, by omega⟩))
      have g0 : rd g 2 0 = n := (gf _ _ (by omega)).trans t1
      have g4 : rd g 2 4 = p := (gf _ _ (by omega)).trans hp
      have g3 : v < n → rd g 3 v = T v := fun q => (gf _ _ (by omega)).trans (t2 v (by omega) q)
      have ex : ¬ (v < n ∧ isDg (T v) = true) → Rn xs xl e mm_Reader_scanNumber 51 [some (.inr (.inr 2)), some (.inl v)] [] g Q := by
        intro hq
        have ef : fw T n isDg p = v := fw_eq p0 t4 pv hd hq
        rw [ef] at k
        refine B_Reader_scanNumber_51 gF (by omega) ⟨by omega, fun c => ?_, fun c => ?_⟩
        · refine k _ (by rw [rdw_eq, if_pos (by omega)]) ((rdw_nei (by decide)).trans rdw_eq) (fun q => by omega) (fun a i hn => ?_)
          rw [← gf a i (fun q => hn (by omega)), rd_wr, if_neg (fun q => hn (by omega)), rd_wr, if_neg (fun q => hn (by omega))]
        · refine k _ (by rw [rdw_eq, if_neg (by omega)]) ((rdw_nei (by decide)).trans rdw_eq) (fun q => ((rdw_nei (by decide)).trans (rdw_nei (by decide))).trans (g6 q)) (fun a i hn => ?_)
          rw [← gf a i (fun q => hn (by omega)), rd_wr, if_neg (fun q => hn (by omega)), rd_wr, if_neg (fun q => hn (by omega))]
      refine B_Reader_scanNumber_5 gF (by omega) he ⟨fun c => ex (fun q => by omega), fun c => ⟨by omega, fun c1 => ex (fun q => ?_), fun c1 => ⟨by omega, fun c2 => ex (fun q => ?_), fun c2 => ⟨by omega, ?_⟩⟩⟩⟩
      · have := isDg_iff.mp q.2
        have := g3 q.1
        omega
      · have := isDg_iff.mp q.2
        have := g3 q.1
        omega
      · have e3 := g3 (by omega)
        have hv : isDg (T v) = true := isDg_iff.mpr (by omega)
        refine ih _ (v + 1) (by omega) (by omega) (by omega) (fun r r0 r1 => ?_) (fun a i hn => ?_) (fun q => ?_)
        · by_cases er : r = v
          · rw [er]; exact ⟨by omega, hv⟩
          · exact hd r r0 (by omega)
        · rw [← gf a i hn, rd_wr, if_neg (fun q => hn (by omega))]
        · rw [rdw_eq, g6 (by omega), e3, show (v + 1 - p).toNat = (v - p).toNat + 1 by omega]
          have bd := num_bd (T := T) (p := p) (v - p).toNat (fun r r0 r1 => isDg_iff.mp (hd r r0 (by omega)).2)
          have pw := pow_le8 (b := 10) (m := (v - p).toNat) (k := 4) (by decide) (by omega)
          show _ = 10 * num T p (v - p).toNat + T (p + ((v - p).toNat : Nat)) - 48
          rw [show p + (((v - p).toNat : Nat) : Int) = v by omega]
          have dv := isDg_iff.mp hv
          generalize num T p (v - p).toNat = y at bd
          have pw2 : (10 : Int) ^ 4 = 10000 := by decide
          unfold w64
          omega
  exact B_Reader_scanNumber_0 hF (by rw [hp]; exact loop n.toNat h p (by omega) (by omega) (by omega) (fun r r0 r1 => by omega) (fun _ _ _ => rfl) (fun _ => by rw [h6, show (p - p).toNat = 0 by omega]; rfl))
theorem F_isTokenSign (hF : RF h) (k : Q (some (.inl (if isSn v1 = true then 1 else 0))) h) : Rn xs xl e mm_Reader_isTokenSign 0 [some (.inl v1)] [] h Q := by
  have k1 : isSn v1 = true → Q (some (.inl 1)) h := fun q => by rw [if_pos q] at k; exact k
  have k0 : ¬ isSn v1 = true → Q (some (.inl 0)) h := fun q => by rw [if_neg q] at k; exact k
  exact B_Reader_isTokenSign_0 hF ⟨fun q => k1 (by rw [q]; rfl), fun q1 => ⟨fun q => k1 (by rw [q]; rfl), fun q2 => ⟨fun q => k1 (by rw [q]; rfl), fun q3 => ⟨fun q => k1 (by rw [q]; rfl), fun q4 => ⟨fun q => k1 (by rw [q]; rfl), fun q5 => ⟨fun q => k1 (by rw [q]; rfl), fun q6 => ⟨fun q => k1 (by rw [q]; rfl), fun q7 => ⟨fun q8 => k0 (by simp [isSn]; omega), fun q => k1 (by rw [q]; rfl)⟩⟩⟩⟩⟩⟩⟩⟩
theorem F_words (hF : RF h) (he : rd h 2 3 = 2) {w : Int} (k : ∀ h', rd h' 2 7 = wl (rd h 4) (rd h 2 6) 29 ∨ (wl (rd h 4) (rd h 2 6) 29 = -1 ∧ rd h' 2 7 = rd h 2 7) → (∀ a i, ¬ (a = 2 ∧ i = 7) → rd h' a i = rd h a i) → Q none h') :
    Rn xs xl e mm_Reader_scanWord 72 [some (.inr (.inr 2)), some (.inl w), some (.inl 0)] [] h Q := by
  have loop : ∀ (m : Nat) (g : LH) (j : Nat), 29 - j ≤ m → j ≤ 29 → (rd g 2 7 = wl (rd h 4) (rd h 2 6) j ∨ (wl (rd h 4) (rd h 2 6) j = -1 ∧ rd g 2 7 = rd h 2 7)) → (∀ a i, ¬ (a = 2 ∧ i = 7) → rd g a i = rd h a i) → Rn xs xl e mm_Reader_scanWord 72 [some (.inr (.inr 2)), some (.inl w), some (.inl (j : Int))] [] g Q := by
    intro m
    induction m with
    | zero =>
      intro g j hm hj h7 gf
      have gF : RF g := RF_fr hF (fun a i hn => gf a i (fun q => hn ⟨q.1, by omega, by omega⟩))
      have ej : j = 29 := by omega
      subst ej
      exact B_Reader_scanWord_72 gF (by omega) ⟨fun _ => k g h7 gf, fun c => by omega⟩
    | succ m ih =>
      intro g j hm hj h7 gf
      have gF : RF g := RF_fr hF (fun a i hn => gf a i (fun q => hn ⟨q.1, by omega, by omega⟩))
      have g3 : rd g 2 3 = 2 := (gf _ _ (by omega)).trans he
      have g6 : rd g 2 6 = rd h 2 6 := gf _ _ (by omega)
      have g4 : rd g 4 (j : Int) = rd h 4 (j : Int) := gf _ _ (by omega)
      refine B_Reader_scanWord_72 gF (by omega) ⟨fun c => ?_, fun c => ⟨fun c2 => absurd g3 c2, fun _ => ⟨by omega, fun c2 => ?_, fun c2 => ?_⟩⟩⟩
      · have ej : j = 29 := by omega
        subst ej
        exact k g h7 gf
      · rw [g4, g6] at c2
        refine ih g (j + 1) (by omega) (by omega) ?_ gf
        have : wl (rd h 4) (rd h 2 6) (j + 1) = wl (rd h 4) (rd h 2 6) j := by
          show (if rd h 4 (j : Int) = rd h 2 6 then (j : Int) else wl (rd h 4) (rd h 2 6) j) = _
          rw [if_neg (fun q => c2 (lcmp0.mpr q))]
        rw [this]
        exact h7
      · rw [g4, g6] at c2
        refine ih _ (j + 1) (by omega) (by omega) ?_ (fun a i hn => ?_)
        · left
          rw [rdw_eq]
          show _ = (if rd h 4 (j : Int) = rd h 2 6 then (j : Int) else wl (rd h 4) (rd h 2 6) j)
          rw [if_pos (lcmp0.mp c2)]
        · rw [← gf a i hn, rd_wr, if_neg (fun q => hn (by omega))]
  exact loop 29 h 0 (by omega) (by omega) (Or.inr ⟨rfl, rfl⟩) (fun _ _ _ => rfl)
theorem F_scanWord (he : 1 ≤ e) (hF : RF h) (ht : TP T n h) {p : Int} (hp : rd h 2 4 = p) (p0 : 0 ≤ p) (p1 : p < n) (h6 : rd h 2 6 = 0) (h7 : rd h 2 7 = -1)
    (k : ∀ h', rd h' 2 3 = (if 8 < fw T n isLt p - p then 1 else 2) → rd h' 2 5 = fw T n isLt p → (fw T n isLt p - p ≤ 8 → rd h' 2 6 = enc T 32 p (fw T n isLt p - p).toNat ∧ rd h' 2 7 = wl (rd h 4) (enc T 32 p (fw T n isLt p - p).toNat) 29) → (8 < fw T n isLt p - p → rd h' 2 7 = -1) → (∀ a i, ¬ (a = 2 ∧ (i = 3 ∨ i = 5 ∨ i = 6 ∨ i = 7)) → rd h' a i = rd h a i) → Q none h') :
    Rn xs xl e mm_Reader_scanWord 0 [some (.inr (.inr 2)), none, none] [] h Q := by
  obtain ⟨t1, t2, t3, t4⟩ := ht
  have fin : ∀ (g : LH) (v : Int), p ≤ v → v ≤ n → fw T n isLt p = v → (∀ a i, ¬ (a = 2 ∧ i = 6) → rd g a i = rd h a i) → (v - p ≤ 8 → rd g 2 6 = enc T 32 p (v - p).toNat) → Rn xs xl e mm_Reader_scanWord 45 [some (.inr (.inr 2)), some (.inl v), none] [] g Q := by
    intro g v pv vn ef gf g6
    have gF : RF g := RF_fr hF (fun a i hn => gf a i (fun q => hn ⟨q.1, by omega, by omega⟩))
    have g4 : rd g 2 4 = p := (gf _ _ (by omega)).trans hp
    have g7 : rd g 2 7 = -1 := (gf _ _ (by omega)).trans h7
    rw [ef] at k
    have wf : ∀ (z : Int), RF (wr (wr g 2 5 v) 2 3 z) := fun z => RF_w2 (RF_w2 gF (by decide) (by decide)) (by decide) (by decide)
    refine B_Reader_scanWord_45 gF (by omega) ⟨by omega, fun c => ?_, fun c => ?_⟩
    · refine B_Reader_scanWord_72 (wf 1) (by decide) ⟨fun c2 => absurd c2 (by decide), fun _ => ⟨fun _ => ?_, fun c2 => ?_⟩⟩
      · refine k _ (by rw [rdw_eq, if_pos (by omega)]) ((rdw_nei (by decide)).trans rdw_eq) (fun q => by omega) (fun _ => ((rdw_nei (by decide)).trans (rdw_nei (by decide))).trans g7) (fun a i hn => ?_)
        rw [← gf a i (fun q => hn (by omega)), rd_wr, if_neg (fun q => hn (by omega)), rd_wr, if_neg (fun q => hn (by omega))]
      · rw [rdw_eq] at c2
        exact absurd c2 (by decide)
    · have e6 : rd (wr (wr g 2 5 v) 2 3 2) 2 6 = enc T 32 p (v - p).toNat := ((rdw_nei (by decide)).trans (rdw_nei (by decide))).trans (g6 (by omega))
      have e7 : rd (wr (wr g 2 5 v) 2 3 2) 2 7 = -1 := ((rdw_nei (by decide)).trans (rdw_nei (by decide))).trans g7
      have e4 : rd (wr (wr g 2 5 v) 2 3 2) 4 = rd h 4 := by
        funext i
        exact ((rdw_ne (by decide)).trans (rdw_ne (by decide))).trans (gf _ _ (by omega))
      refine F_words (wf 2) rdw_eq (fun h' z zf => ?_)
      rw [e6, e7, e4] at z
      have z7 : rd h' 2 7 = wl (rd h 4) (enc T 32 p (v - p).toNat) 29 := by
        rcases z with z | z
        · exact z
        · omega
      refine k h' ?_ ?_ (fun _ => ⟨(zf _ _ (by omega)).trans e6, z7⟩) (fun q => by omega) (fun a i hn => ?_)
      · rw [zf _ _ (by omega), rdw_eq, if_neg (by omega)]
      · rw [zf _ _ (by omega)]; exact (rdw_nei (by decide)).trans rdw_eq
      · rw [zf a i (fun q => hn (by omega)), ← gf a i (fun q => hn (by omega)), rd_wr, if_neg (fun q => hn (by omega)), rd_wr, if_neg (fun q => hn (by omega))]
  have loop : ∀ (m : Nat) (g : LH) (v : Int), n - v ≤ m → p ≤ v → v ≤ n → (∀ r, p ≤ r → r < v → r < n ∧ isLt (T r) = true) → (∀ a i, ¬ (a = 2 ∧ i = 6) → rd g a i = rd h a i) → (v - p ≤ 8 → rd g 2 6 = enc T 32 p (v - p).toNat) → Rn xs xl e mm_Reader_scanWord 5 [some (.inr (.inr 2)), some (.inl v), none] [] g Q := by
    intro m
    induction m with
    | zero =>
      intro g v hm pv vn hd gf g6
      have gF : RF g := RF_fr hF (fun a i hn => gf a i (fun q => hn ⟨q.1, by omega, by omega⟩))
      have g0 : rd g 2 0 = n := (gf _ _ (by omega)).trans t1
      exact B_Reader_scanWord_5 gF (by omega) he ⟨fun _ => fin g v pv vn (fw_eq p0 t4 pv hd (fun q => by omega)) gf g6, fun c => by omega⟩
    | succ m ih =>
      intro g v hm pv vn hd gf g6
      have gF : RF g := RF_fr hF (fun a i hn => gf a i (fun q => hn ⟨q.1, by omega, by omega⟩))
      have g0 : rd g 2 0 = n := (gf _ _ (by omega)).trans t1
      have g3 : v < n → rd g 3 v = T v := fun q => (gf _ _ (by omega)).trans (t2 v (by omega) q)
      have ex : ¬ (v < n ∧ isLt (T v) = true) → Rn xs xl e mm_Reader_scanWord 45 [some (.inr (.inr 2)), some (.inl v), none] [] g Q := fun hq => fin g v pv vn (fw_eq p0 t4 pv hd hq) gf g6
      refine B_Reader_scanWord_5 gF (by omega) he ⟨fun c => ex (fun q => by omega), fun c => ⟨by omega, fun c1 => ex (fun q => ?_), fun c1 => ⟨by omega, fun c2 => ex (fun q => ?_), fun c2 => ⟨by omega, ?_⟩⟩⟩⟩
      · have := isLt_iff.mp q.2
        have := g3 q.1
        omega
      · have := isLt_iff.mp q.2
        have := g3 q.1
        omega
      · have e3 := g3 (by omega)
        have hv : isLt (T v) = true := isLt_iff.mpr (by omega)
        refine ih _ (v + 1) (by omega) (by omega) (by omega) (fun r r0 r1 => ?_) (fun a i hn => ?_) (fun q => ?_)
        · by_cases er : r = v
          · rw [er]; exact ⟨by omega, hv⟩
          · exact hd r r0 (by omega)
        · rw [← gf a i hn, rd_wr, if_neg (fun q => hn (by omega))]
        · have dv := isLt_iff.mp hv
          rw [rdw_eq, g6 (by omega), e3, i2c_id (by omega) (by omega), show (v + 1 - p).toNat = (v - p).toNat + 1 by omega]
          have bd := enc_bd (T := T) (p := p) (v - p).toNat (by omega) (fun r r0 r1 => isLt_iff.mp (hd r r0 (by omega)).2)
          have pw := pow_le8 (b := 32) (m := (v - p).toNat) (k := 7) (by decide) (by omega)
          show _ = 32 * enc T 32 p (v - p).toNat + (T (p + ((v - p).toNat : Nat)) - 96)
          rw [show p + (((v - p).toNat : Nat) : Int) = v by omega]
          have b1 := bd.1
          have b2 := bd.2.1
          generalize enc T 32 p (v - p).toNat = y at b1 b2
          clear bd
          have pw2 : (32 : Int) ^ 7 = 34359738368 := by decide
          unfold w64
          omega
  exact B_Reader_scanWord_0 hF (by rw [hp]; exact loop n.toNat h p (by omega) (by omega) (by omega) (fun r r0 r1 => by omega) (fun _ _ _ => rfl) (fun _ => by rw [h6, show (p - p).toNat = 0 by omega]; rfl))
end C7
