section
/-! p3, part a0: signs into tokens, as numbers -/
def isWs (c : Int) : Bool := decide (c = 10) || decide (c = 32)
def isLt (c : Int) : Bool := decide (97 ≤ c) && decide (c ≤ 122)
def isDg (c : Int) : Bool := decide (48 ≤ c) && decide (c ≤ 57)
def isSn (c : Int) : Bool := decide (c = 40) || decide (c = 41) || decide (c = 59) || decide (c = 61) || decide (c = 60) || decide (c = 43) || decide (c = 45) || decide (c = 42)
theorem isWs_iff {c : Int} : isWs c = true ↔ c = 10 ∨ c = 32 := by simp [isWs]
theorem isLt_iff {c : Int} : isLt c = true ↔ 97 ≤ c ∧ c ≤ 122 := by simp [isLt]
theorem isDg_iff {c : Int} : isDg c = true ↔ 48 ≤ c ∧ c ≤ 57 := by simp [isDg]
section TK
variable (T : Int → Int) (n : Int)
/-- on while a test holds -/
def fw1 (P : Int → Bool) : Nat → Int → Int
  | 0, p => p
  | f + 1, p => if p < n ∧ P (T p) = true then fw1 P f (p + 1) else p
def fw (P : Int → Bool) (p : Int) : Int := fw1 T n P 1001 p
end TK
section TL
variable {T : Int → Int} {n : Int} {P : Int → Bool}
theorem fw1_ok : ∀ (f : Nat) (p : Int), n - p < f → p ≤ fw1 T n P f p ∧ (∀ r, p ≤ r → r < fw1 T n P f p → r < n ∧ P (T r) = true) ∧ ¬ (fw1 T n P f p < n ∧ P (T (fw1 T n P f p)) = true)
  | 0, p, h => ⟨Int.le_refl _, fun r h1 h2 => by unfold fw1 at h2; omega, fun q => by unfold fw1 at q; omega⟩
  | f + 1, p, h => by
    unfold fw1
    by_cases c : p < n ∧ P (T p) = true
    · rw [if_pos c]
      obtain ⟨h1, h2, h3⟩ := fw1_ok f (p + 1) (by omega)
      refine ⟨by omega, fun r r1 r2 => ?_, h3⟩
      by_cases e : r = p
      · rw [e]; exact c
      · exact h2 r (by omega) r2
    · rw [if_neg c]
      exact ⟨Int.le_refl _, fun r r1 r2 => by omega, c⟩
theorem fw_ok {p : Int} (h0 : 0 ≤ p) (h1 : n ≤ 1000) : p ≤ fw T n P p ∧ (∀ r, p ≤ r → r < fw T n P p → r < n ∧ P (T r) = true) ∧ ¬ (fw T n P p < n ∧ P (T (fw T n P p)) = true) := fw1_ok 1001 p (by omega)
theorem fw_eq {p q : Int} (h0 : 0 ≤ p) (h1 : n ≤ 1000) (hq : p ≤ q) (ha : ∀ r, p ≤ r → r < q → r < n ∧ P (T r) = true) (hn : ¬ (q < n ∧ P (T q) = true)) : fw T n P p = q := by
  obtain ⟨a1, a2, a3⟩ := fw_ok (T := T) (n := n) (P := P) h0 h1
  rcases Int.lt_trichotomy (fw T n P p) q with c | c | c
  · exact absurd (ha _ a1 c) a3
  · exact c
  · exact absurd (a2 _ hq c) hn
theorem fw_le {p : Int} (h0 : 0 ≤ p) (h1 : n ≤ 1000) (hp : p ≤ n) : fw T n P p ≤ n := by
  obtain ⟨a1, a2, a3⟩ := fw_ok (T := T) (n := n) (P := P) h0 h1
  rcases Int.lt_or_le n (fw T n P p) with c | c
  · have := a2 n hp c
    omega
  · exact c
end TL
section TM
variable (T : Int → Int) (n : Int)
/-- behind a token that is looked for from p on -/
def nx (p : Int) : Int := if n ≤ fw T n isWs p then fw T n isWs p else if isLt (T (fw T n isWs p)) = true then fw T n isLt (fw T n isWs p) else if isDg (T (fw T n isWs p)) = true then fw T n isDg (fw T n isWs p) else fw T n isWs p + 1
def tS_ : Nat → Int
  | 0 => 0
  | k + 1 => nx T n (tS_ k)
def tP (k : Nat) : Int := fw T n isWs (tS_ T n k)
/-- what a token is: 0 the end, 1 a word, 2 a number, 3 a sign, 4 nothing -/
def tO (k : Nat) : Int := if n ≤ tP T n k then 0 else if isLt (T (tP T n k)) = true then (if 8 < tS_ T n (k + 1) - tP T n k then 4 else 1) else if isDg (T (tP T n k)) = true then (if 4 < tS_ T n (k + 1) - tP T n k then 4 else 2) else if isSn (T (tP T n k)) = true then 3 else 4
/-- letters as digits from 1 on -/
def enc (b : Int) (p : Int) : Nat → Int
  | 0 => 0
  | m + 1 => b * enc b p m + (T (p + m) - 96)
def num (p : Int) : Nat → Int
  | 0 => 0
  | m + 1 => 10 * num p m + T (p + m) - 48
def tN (k : Nat) : Nat := (tS_ T n (k + 1) - tP T n k).toNat
end TM
section TN
variable {T : Int → Int} {n : Int}
theorem nx_ok {p : Int} (h0 : 0 ≤ p) (h1 : n ≤ 1000) (hp : p ≤ n) : fw T n isWs p ≤ nx T n p ∧ nx T n p ≤ n ∧ (fw T n isWs p < n → fw T n isWs p < nx T n p) := by
  have a := fw_ok (T := T) (n := n) (P := isWs) h0 h1
  have al := fw_le (T := T) (P := isWs) h0 h1 hp
  unfold nx
  by_cases c : n ≤ fw T n isWs p
  · rw [if_pos c]; exact ⟨Int.le_refl _, al, fun q => by omega⟩
  · rw [if_neg c]
    by_cases c2 : isLt (T (fw T n isWs p)) = true
    · rw [if_pos c2]
      have b := fw_ok (T := T) (n := n) (P := isLt) (p := fw T n isWs p) (by omega) h1
      have bl := fw_le (T := T) (P := isLt) (p := fw T n isWs p) (by omega) h1 al
      refine ⟨b.1, bl, fun q => ?_⟩
      rcases Int.lt_or_le (fw T n isWs p) (fw T n isLt (fw T n isWs p)) with z | z
      · exact z
      · rw [show fw T n isLt (fw T n isWs p) = fw T n isWs p by omega] at b
        exact absurd ⟨q, c2⟩ b.2.2
    · rw [if_neg c2]
      by_cases c3 : isDg (T (fw T n isWs p)) = true
      · rw [if_pos c3]
        have b := fw_ok (T := T) (n := n) (P := isDg) (p := fw T n isWs p) (by omega) h1
        have bl := fw_le (T := T) (P := isDg) (p := fw T n isWs p) (by omega) h1 al
        refine ⟨b.1, bl, fun q => ?_⟩
        rcases Int.lt_or_le (fw T n isWs p) (fw T n isDg (fw T n isWs p)) with z | z
        · exact z
        · rw [show fw T n isDg (fw T n isWs p) = fw T n isWs p by omega] at b
          exact absurd ⟨q, c3⟩ b.2.2
      · rw [if_neg c3]
        exact ⟨by omega, by omega, fun _ => by omega⟩
theorem tS_in (h1 : n ≤ 1000) (h2 : 0 ≤ n) : ∀ k, 0 ≤ tS_ T n k ∧ tS_ T n k ≤ n
  | 0 => ⟨Int.le_refl _, h2⟩
  | k + 1 => by
    have ih := tS_in h1 h2 k
    have a := fw_ok (T := T) (n := n) (P := isWs) ih.1 h1
    have q := nx_ok (T := T) ih.1 h1 ih.2
    show 0 ≤ nx T n (tS_ T n k) ∧ nx T n (tS_ T n k) ≤ n
    omega
theorem tP_in (h1 : n ≤ 1000) (h2 : 0 ≤ n) (k : Nat) : tS_ T n k ≤ tP T n k ∧ tP T n k ≤ n ∧ tP T n k ≤ tS_ T n (k + 1) ∧ (tP T n k < n → tP T n k < tS_ T n (k + 1)) := by
  have s := tS_in (T := T) h1 h2 k
  have a := fw_ok (T := T) (n := n) (P := isWs) s.1 h1
  have al := fw_le (T := T) (P := isWs) s.1 h1 s.2
  have q := nx_ok (T := T) s.1 h1 s.2
  exact ⟨a.1, al, q.1, q.2.2⟩
/-- places rise: token k lies at place k at least, or it is the end -/
theorem tP_ge (h1 : n ≤ 1000) (h2 : 0 ≤ n) : ∀ k : Nat, (k : Int) ≤ tS_ T n k ∨ n ≤ tP T n k
  | 0 => Or.inl (Int.le_refl _)
  | k + 1 => by
    have p := tP_in (T := T) h1 h2 k
    have p' := tP_in (T := T) h1 h2 (k + 1)
    rcases tP_ge h1 h2 k with q | q
    · rcases Int.lt_or_le (tP T n k) n with z | z
      · left; omega
      · right; omega
    · right; omega
theorem tO_0 {k : Nat} : tO T n k = 0 ↔ n ≤ tP T n k := by
  unfold tO
  split
  · next c => exact ⟨fun _ => c, fun _ => rfl⟩
  · next c =>
    refine ⟨fun q => ?_, fun q => absurd q c⟩
    split at q
    · split at q <;> omega
    · split at q
      · split at q <;> omega
      · split at q <;> omega
theorem tO_end (h1 : n ≤ 1000) (h2 : 0 ≤ n) {k : Nat} (hk : 1000 ≤ k) : tO T n k = 0 := by
  rw [tO_0]
  have p := tP_in (T := T) h1 h2 k
  rcases tP_ge (T := T) h1 h2 k with q | q <;> omega
theorem tO_lt (h1 : n ≤ 1000) (h2 : 0 ≤ n) {k : Nat} (hk : tO T n k ≠ 0) : k < 1000 := by
  rcases Nat.lt_or_ge k 1000 with c | c
  · exact c
  · exact absurd (tO_end h1 h2 c) hk
theorem tO_in (k : Nat) : 0 ≤ tO T n k ∧ tO T n k ≤ 4 := by
  unfold tO
  split
  · omega
  · split
    · split <;> omega
    · split
      · split <;> omega
      · split <;> omega
end TN
/-- two bases tell the same words apart -/
theorem enc_pos {T : Int → Int} {b p : Int} (hb : 27 ≤ b) : ∀ m : Nat, (∀ r : Int, p ≤ r → r < p + m → 97 ≤ T r ∧ T r ≤ 122) → 0 ≤ enc T b p m ∧ (0 < m → 0 < enc T b p m)
  | 0, _ => ⟨Int.le_refl _, fun h => absurd h (by omega)⟩
  | m + 1, h => by
    have ih := enc_pos hb m (fun r r1 r2 => h r r1 (by omega))
    have hd := h (p + m) (by omega) (by omega)
    have : 0 ≤ b * enc T b p m := Int.mul_nonneg (by omega) ih.1
    show 0 ≤ b * enc T b p m + (T (p + m) - 96) ∧ (0 < m + 1 → 0 < b * enc T b p m + (T (p + m) - 96))
    omega
theorem dig_inj {b x y u v : Int} (hb : 27 ≤ b) (hu : 1 ≤ u ∧ u ≤ 26) (hv : 1 ≤ v ∧ v ≤ 26) (h : b * x + u = b * y + v) : x = y ∧ u = v := by
  have e : u = v := by
    have h1 : (b * x + u) % b = (b * y + v) % b := by rw [h]
    rw [Int.add_comm, Int.add_mul_emod_self_left, Int.add_comm (b * y), Int.add_mul_emod_self_left, Int.emod_eq_of_lt (by omega) (by omega), Int.emod_eq_of_lt (by omega) (by omega)] at h1
    exact h1
  refine ⟨?_, e⟩
  have h2 : b * x = b * y := by omega
  exact Int.eq_of_mul_eq_mul_left (by omega) h2
theorem enc_same {T U : Int → Int} {p q : Int} {b c : Int} (hb : 27 ≤ b) (hc : 27 ≤ c) : ∀ (m k : Nat), (∀ r : Int, p ≤ r → r < p + m → 97 ≤ T r ∧ T r ≤ 122) → (∀ r : Int, q ≤ r → r < q + k → 97 ≤ U r ∧ U r ≤ 122) → enc T b p m = enc U b q k → enc T c p m = enc U c q k
  | 0, 0, _, _, _ => rfl
  | 0, k + 1, _, hU, h => by
    have := (enc_pos (T := U) (p := q) hb (k + 1) hU).2 (by omega)
    rw [← h] at this
    exact absurd this (by show ¬ (0 : Int) < 0; omega)
  | m + 1, 0, hT, _, h => by
    have := (enc_pos (T := T) (p := p) hb (m + 1) hT).2 (by omega)
    rw [h] at this
    exact absurd this (by show ¬ (0 : Int) < 0; omega)
  | m + 1, k + 1, hT, hU, h => by
    have dT := hT (p + m) (by omega) (by omega)
    have dU := hU (q + k) (by omega) (by omega)
    have h' : b * enc T b p m + (T (p + m) - 96) = b * enc U b q k + (U (q + k) - 96) := h
    obtain ⟨e1, e2⟩ := dig_inj hb (by omega) (by omega) h'
    have ih := enc_same hb hc m k (fun r r1 r2 => hT r r1 (by omega)) (fun r r1 r2 => hU r r1 (by omega)) e1
    show c * enc T c p m + (T (p + m) - 96) = c * enc U c q k + (U (q + k) - 96)
    rw [ih, e2]
theorem enc_iff {T U : Int → Int} {p q : Int} {m k : Nat} (hT : ∀ r : Int, p ≤ r → r < p + m → 97 ≤ T r ∧ T r ≤ 122) (hU : ∀ r : Int, q ≤ r → r < q + k → 97 ≤ U r ∧ U r ≤ 122) : enc T 32 p m = enc U 32 q k ↔ enc T 37 p m = enc U 37 q k :=
  ⟨enc_same (by decide) (by decide) m k hT hU, enc_same (by decide) (by decide) m k hT hU⟩
theorem enc_bd {T : Int → Int} {p : Int} : ∀ m : Nat, m ≤ 8 → (∀ r : Int, p ≤ r → r < p + m → 97 ≤ T r ∧ T r ≤ 122) → 0 ≤ enc T 32 p m ∧ enc T 32 p m < 32 ^ m ∧ 0 ≤ enc T 37 p m ∧ enc T 37 p m < 37 ^ m
  | 0, _, _ => ⟨Int.le_refl _, by show (0 : Int) < 32 ^ 0; decide, Int.le_refl _, by show (0 : Int) < 37 ^ 0; decide⟩
  | m + 1, hm, h => by
    obtain ⟨i1, i2, i3, i4⟩ := enc_bd m (by omega) (fun r r1 r2 => h r r1 (by omega))
    have d := h (p + m) (by omega) (by omega)
    show 0 ≤ 32 * enc T 32 p m + (T (p + m) - 96) ∧ 32 * enc T 32 p m + (T (p + m) - 96) < 32 ^ (m + 1) ∧ 0 ≤ 37 * enc T 37 p m + (T (p + m) - 96) ∧ 37 * enc T 37 p m + (T (p + m) - 96) < 37 ^ (m + 1)
    have e1 : (32 : Int) ^ (m + 1) = 32 * 32 ^ m := by rw [Int.pow_succ, Int.mul_comm]
    have e2 : (37 : Int) ^ (m + 1) = 37 * 37 ^ m := by rw [Int.pow_succ, Int.mul_comm]
    rw [e1, e2]
    omega
end
section
/-! p3, part a1: rows for answers that are long; two sayings of one run -/
section RW4
variable {xs : Nat → Int} {xl d : Nat} {M : LM_M} {pc : Nat} {ls : LL} {st : List LV} {h : LH} {Q : Option LV → LH → Prop}
theorem R_lret {x : Int} (hd : decode M.2.1 pc = .ok (.lreturn, 1)) (hr : M.2.2.2.1 = some .long) (k : Q (some (.inr (.inl x))) h) : Rn xs xl d M pc ls [.inr (.inl x)] h Q :=
  Rn.ret hd rfl (by simp only [lmR]; rw [if_pos hr]) k
theorem Rn.and {d' : Nat} {Q' : Option LV → LH → Prop} (h1 : Rn xs xl d M pc ls st h Q) (h2 : Rn xs xl d' M pc ls st h Q') : Rn xs xl d M pc ls st h (fun r h' => Q r h' ∧ Q' r h') := by
  obtain ⟨f, r, g, a1, a2⟩ := h1
  obtain ⟨f', r', g', b1, b2⟩ := h2
  have c1 := lmRun_le f (max f f') d (max d d') _ _ _ _ _ _ _ (Nat.le_max_left _ _) (Nat.le_max_left _ _) a1
  have c2 := lmRun_le f' (max f f') d' (max d d') _ _ _ _ _ _ _ (Nat.le_max_right _ _) (Nat.le_max_right _ _) b1
  rw [c1] at c2
  cases c2
  exact ⟨f, r, g, a1, a2, b2⟩
end RW4
theorem i2c_id {c : Int} (h0 : 0 ≤ c) (h1 : c ≤ 127) : (((Int32.ofInt c).toUInt32 % 65536).toInt32.toInt) = c := by
  have key : ∀ m : Nat, m < 128 → (((Int32.ofInt (m : Int)).toUInt32 % 65536).toInt32.toInt) = (m : Int) := by decide +kernel
  have := key c.toNat (by omega)
  rw [show ((c.toNat : Nat) : Int) = c by omega] at this
  exact this
/-- what the class's reader changes as it steps on -/
def muR (a i : Int) : Prop := a = 2 ∧ 3 ≤ i ∧ i ≤ 8
theorem hav_R {j : Nat} (h0 : 3 ≤ j) (h1 : j ≤ 8) : (hav 2 (j : Int)).1 ≠ 2 := by
  have key : ∀ m : Nat, m < 9 → 3 ≤ m → (hav 2 (m : Int)).1 ≠ 2 := by decide +kernel
  exact key j (by omega) h0
theorem RF_fr {h h' : LH} (hF : RF h) (hf : ∀ a i, ¬ muR a i → rd h' a i = rd h a i) : RF h' := by
  intro a j c hv he
  by_cases q : muR a j
  · obtain ⟨rfl, q1, q2⟩ := q
    have := hav_R (j := j) (by omega) (by omega)
    rw [he] at this
    exact absurd rfl this
  · rw [hf a j q]
    exact hF a j c hv he
theorem RF_w2 {h : LH} (hF : RF h) {i v : Int} (h0 : 3 ≤ i) (h1 : i ≤ 8) : RF (wr h 2 i v) := by
  refine RF_fr hF (fun a j hn => ?_)
  rw [rd_wr, if_neg]
  rintro ⟨rfl, rfl⟩
  exact hn ⟨rfl, h0, h1⟩
end
section
/-! LM, by program (wip/p2/hand.py): p3: rows of the class's reader, tokens -/
def mm_Reader_isLetter : LM_M := (⟨"OneSided$Reader", "isLetter", "(I)Z"⟩, prog_9_method_27_code, 2, (some .boolean), 7, 2, 0, 599, 598, 1000002)
def mm_Reader_isDigit : LM_M := (⟨"OneSided$Reader", "isDigit", "(I)Z"⟩, prog_9_method_28_code, 2, (some .boolean), 7, 2, 0, 607, 606, 1000004)
def mm_Reader_isTokenSign : LM_M := (⟨"OneSided$Reader", "isTokenSign", "(I)Z"⟩, prog_9_method_29_code, 1, (some .boolean), 7, 1, 1, 616, 615, 0)
def mm_Reader_scanNumber : LM_M := (⟨"OneSided$Reader", "scanNumber", "()V"⟩, prog_9_method_26_code, 2, none, 7, 1, 0, 611, 610, 1000005)
def mm_Reader_scanWord : LM_M := (⟨"OneSided$Reader", "scanWord", "()V"⟩, prog_9_method_25_code, 3, none, 7, 1, 0, 603, 602, 1000003)
def mm_Reader_withLetter : LM_M := (⟨"OneSided$Reader", "withLetter", "(JC)J"⟩, prog_9_method_30_code, 3, (some .long), 7, 2, 1, 87, 86, 0)
def mm_Reader_begin : LM_M := (⟨"OneSided$Reader", "begin", "()V"⟩, prog_9_method_23_code, 1, none, 7, 1, 0, 591, 590, 1000000)
def mm_Reader_takeWord : LM_M := (⟨"OneSided$Reader", "takeWord", "(I)V"⟩, prog_9_method_12_code, 2, none, 7, 2, 0, 624, 623, 1000006)
theorem dd_Reader_step_13 : decode mm_Reader_step.2.1 13 = .ok (.iload_n 1, 1) := by decide +kernel
theorem dd_Reader_step_14 : decode mm_Reader_step.2.1 14 = .ok (.aload_n 0, 1) := by decide +kernel
theorem dd_Reader_step_15 : decode mm_Reader_step.2.1 15 = .ok (.getfield 35, 3) := by decide +kernel
theorem dd_Reader_step_18 : decode mm_Reader_step.2.1 18 = .ok (.if_icmp .ge (31), 3) := by decide +kernel
theorem dd_Reader_step_21 : decode mm_Reader_step.2.1 21 = .ok (.aload_n 0, 1) := by decide +kernel
theorem dd_Reader_step_22 : decode mm_Reader_step.2.1 22 = .ok (.getfield 9, 3) := by decide +kernel
theorem dd_Reader_step_25 : decode mm_Reader_step.2.1 25 = .ok (.iload_n 1, 1) := by decide +kernel
theorem dd_Reader_step_26 : decode mm_Reader_step.2.1 26 = .ok (.baload, 1) := by decide +kernel
theorem dd_Reader_step_27 : decode mm_Reader_step.2.1 27 = .ok (.bipush 10, 2) := by decide +kernel
theorem dd_Reader_step_29 : decode mm_Reader_step.2.1 29 = .ok (.if_icmp .eq (14), 3) := by decide +kernel
theorem dd_Reader_step_43 : decode mm_Reader_step.2.1 43 = .ok (.iinc 1 1, 3) := by decide +kernel
theorem dd_Reader_step_46 : decode mm_Reader_step.2.1 46 = .ok (.goto (-33), 3) := by decide +kernel
theorem dd_Reader_step_32 : decode mm_Reader_step.2.1 32 = .ok (.aload_n 0, 1) := by decide +kernel
theorem dd_Reader_step_33 : decode mm_Reader_step.2.1 33 = .ok (.getfield 9, 3) := by decide +kernel
theorem dd_Reader_step_36 : decode mm_Reader_step.2.1 36 = .ok (.iload_n 1, 1) := by decide +kernel
theorem dd_Reader_step_37 : decode mm_Reader_step.2.1 37 = .ok (.baload, 1) := by decide +kernel
theorem dd_Reader_step_38 : decode mm_Reader_step.2.1 38 = .ok (.bipush 32, 2) := by decide +kernel
theorem dd_Reader_step_40 : decode mm_Reader_step.2.1 40 = .ok (.if_icmp .ne (9), 3) := by decide +kernel
theorem dd_Reader_step_49 : decode mm_Reader_step.2.1 49 = .ok (.aload_n 0, 1) := by decide +kernel
theorem dd_Reader_step_50 : decode mm_Reader_step.2.1 50 = .ok (.iload_n 1, 1) := by decide +kernel
theorem dd_Reader_step_51 : decode mm_Reader_step.2.1 51 = .ok (.putfield 209, 3) := by decide +kernel
theorem fn_7_4 : fin 7 4 = false := by decide +kernel
theorem dd_Reader_step_54 : decode mm_Reader_step.2.1 54 = .ok (.aload_n 0, 1) := by decide +kernel
theorem dd_Reader_step_55 : decode mm_Reader_step.2.1 55 = .ok (.lconst 0, 1) := by decide +kernel
theorem dd_Reader_step_56 : decode mm_Reader_step.2.1 56 = .ok (.putfield 174, 3) := by decide +kernel
theorem fn_7_6 : fin 7 6 = false := by decide +kernel
theorem dd_Reader_step_59 : decode mm_Reader_step.2.1 59 = .ok (.aload_n 0, 1) := by decide +kernel
theorem dd_Reader_step_60 : decode mm_Reader_step.2.1 60 = .ok (.iconst (-1), 1) := by decide +kernel
theorem dd_Reader_step_61 : decode mm_Reader_step.2.1 61 = .ok (.putfield 67, 3) := by decide +kernel
theorem fn_7_7 : fin 7 7 = false := by decide +kernel
theorem dd_Reader_step_64 : decode mm_Reader_step.2.1 64 = .ok (.iload_n 1, 1) := by decide +kernel
theorem dd_Reader_step_65 : decode mm_Reader_step.2.1 65 = .ok (.aload_n 0, 1) := by decide +kernel
theorem dd_Reader_step_66 : decode mm_Reader_step.2.1 66 = .ok (.getfield 35, 3) := by decide +kernel
theorem dd_Reader_step_69 : decode mm_Reader_step.2.1 69 = .ok (.if_icmp .lt (11), 3) := by decide +kernel
theorem dd_Reader_step_80 : decode mm_Reader_step.2.1 80 = .ok (.aload_n 0, 1) := by decide +kernel
theorem dd_Reader_step_81 : decode mm_Reader_step.2.1 81 = .ok (.iload_n 1, 1) := by decide +kernel
theorem dd_Reader_step_82 : decode mm_Reader_step.2.1 82 = .ok (.invokevirtual 215, 3) := by decide +kernel
theorem cw_7_215 : cwOk 7 215 0 19 2 2 7 = true := by decide +kernel
theorem mt_Reader_isLetter : MTB 19 = some mm_Reader_isLetter := rfl
theorem dd_Reader_isLetter_0 : decode mm_Reader_isLetter.2.1 0 = .ok (.aload_n 0, 1) := by decide +kernel
theorem dd_Reader_isLetter_1 : decode mm_Reader_isLetter.2.1 1 = .ok (.getfield 9, 3) := by decide +kernel
theorem dd_Reader_isLetter_4 : decode mm_Reader_isLetter.2.1 4 = .ok (.iload_n 1, 1) := by decide +kernel
theorem dd_Reader_isLetter_5 : decode mm_Reader_isLetter.2.1 5 = .ok (.baload, 1) := by decide +kernel
theorem dd_Reader_isLetter_6 : decode mm_Reader_isLetter.2.1 6 = .ok (.bipush 97, 2) := by decide +kernel
theorem dd_Reader_isLetter_8 : decode mm_Reader_isLetter.2.1 8 = .ok (.if_icmp .lt (18), 3) := by decide +kernel
theorem dd_Reader_isLetter_26 : decode mm_Reader_isLetter.2.1 26 = .ok (.iconst 0, 1) := by decide +kernel
theorem dd_Reader_isLetter_27 : decode mm_Reader_isLetter.2.1 27 = .ok (.ireturn, 1) := by decide +kernel
theorem dd_Reader_step_85 : decode mm_Reader_step.2.1 85 = .ok (.ifCond .eq (10), 3) := by decide +kernel
theorem dd_Reader_step_95 : decode mm_Reader_step.2.1 95 = .ok (.aload_n 0, 1) := by decide +kernel
theorem dd_Reader_step_96 : decode mm_Reader_step.2.1 96 = .ok (.iload_n 1, 1) := by decide +kernel
theorem dd_Reader_step_97 : decode mm_Reader_step.2.1 97 = .ok (.invokevirtual 221, 3) := by decide +kernel
theorem cw_7_221 : cwOk 7 221 0 21 2 2 7 = true := by decide +kernel
theorem mt_Reader_isDigit : MTB 21 = some mm_Reader_isDigit := rfl
theorem dd_Reader_isDigit_0 : decode mm_Reader_isDigit.2.1 0 = .ok (.aload_n 0, 1) := by decide +kernel
theorem dd_Reader_isDigit_1 : decode mm_Reader_isDigit.2.1 1 = .ok (.getfield 9, 3) := by decide +kernel
theorem dd_Reader_isDigit_4 : decode mm_Reader_isDigit.2.1 4 = .ok (.iload_n 1, 1) := by decide +kernel
theorem dd_Reader_isDigit_5 : decode mm_Reader_isDigit.2.1 5 = .ok (.baload, 1) := by decide +kernel
theorem dd_Reader_isDigit_6 : decode mm_Reader_isDigit.2.1 6 = .ok (.bipush 48, 2) := by decide +kernel
theorem dd_Reader_isDigit_8 : decode mm_Reader_isDigit.2.1 8 = .ok (.if_icmp .lt (18), 3) := by decide +kernel
theorem dd_Reader_isDigit_26 : decode mm_Reader_isDigit.2.1 26 = .ok (.iconst 0, 1) := by decide +kernel
theorem dd_Reader_isDigit_27 : decode mm_Reader_isDigit.2.1 27 = .ok (.ireturn, 1) := by decide +kernel
theorem dd_Reader_step_100 : decode mm_Reader_step.2.1 100 = .ok (.ifCond .eq (10), 3) := by decide +kernel
theorem dd_Reader_step_110 : decode mm_Reader_step.2.1 110 = .ok (.aload_n 0, 1) := by decide +kernel
theorem dd_Reader_step_111 : decode mm_Reader_step.2.1 111 = .ok (.iload_n 1, 1) := by decide +kernel
theorem dd_Reader_step_112 : decode mm_Reader_step.2.1 112 = .ok (.iconst 1, 1) := by decide +kernel
theorem dd_Reader_step_113 : decode mm_Reader_step.2.1 113 = .ok (.iadd, 1) := by decide +kernel
theorem dd_Reader_step_114 : decode mm_Reader_step.2.1 114 = .ok (.putfield 212, 3) := by decide +kernel
theorem fn_7_5 : fin 7 5 = false := by decide +kernel
theorem dd_Reader_step_117 : decode mm_Reader_step.2.1 117 = .ok (.aload_n 0, 1) := by decide +kernel
theorem dd_Reader_step_118 : decode mm_Reader_step.2.1 118 = .ok (.aload_n 0, 1) := by decide +kernel
theorem dd_Reader_step_119 : decode mm_Reader_step.2.1 119 = .ok (.getfield 9, 3) := by decide +kernel
theorem dd_Reader_step_122 : decode mm_Reader_step.2.1 122 = .ok (.iload_n 1, 1) := by decide +kernel
theorem dd_Reader_step_123 : decode mm_Reader_step.2.1 123 = .ok (.baload, 1) := by decide +kernel
theorem dd_Reader_step_124 : decode mm_Reader_step.2.1 124 = .ok (.i2l, 1) := by decide +kernel
theorem dd_Reader_step_125 : decode mm_Reader_step.2.1 125 = .ok (.putfield 174, 3) := by decide +kernel
theorem dd_Reader_step_128 : decode mm_Reader_step.2.1 128 = .ok (.aload_n 0, 1) := by decide +kernel
theorem dd_Reader_step_129 : decode mm_Reader_step.2.1 129 = .ok (.aload_n 0, 1) := by decide +kernel
theorem dd_Reader_step_130 : decode mm_Reader_step.2.1 130 = .ok (.getfield 9, 3) := by decide +kernel
theorem dd_Reader_step_133 : decode mm_Reader_step.2.1 133 = .ok (.iload_n 1, 1) := by decide +kernel
theorem dd_Reader_step_134 : decode mm_Reader_step.2.1 134 = .ok (.baload, 1) := by decide +kernel
theorem dd_Reader_step_135 : decode mm_Reader_step.2.1 135 = .ok (.invokestatic 227, 3) := by decide +kernel
theorem cw_7_227 : cwOk 7 227 1 23 1 1 7 = true := by decide +kernel
theorem mt_Reader_isTokenSign : MTB 23 = some mm_Reader_isTokenSign := rfl
theorem dd_Reader_isDigit_11 : decode mm_Reader_isDigit.2.1 11 = .ok (.aload_n 0, 1) := by decide +kernel
theorem dd_Reader_isDigit_12 : decode mm_Reader_isDigit.2.1 12 = .ok (.getfield 9, 3) := by decide +kernel
theorem dd_Reader_isDigit_15 : decode mm_Reader_isDigit.2.1 15 = .ok (.iload_n 1, 1) := by decide +kernel
theorem dd_Reader_isDigit_16 : decode mm_Reader_isDigit.2.1 16 = .ok (.baload, 1) := by decide +kernel
theorem dd_Reader_isDigit_17 : decode mm_Reader_isDigit.2.1 17 = .ok (.bipush 57, 2) := by decide +kernel
theorem dd_Reader_isDigit_19 : decode mm_Reader_isDigit.2.1 19 = .ok (.if_icmp .gt (7), 3) := by decide +kernel
theorem dd_Reader_isDigit_22 : decode mm_Reader_isDigit.2.1 22 = .ok (.iconst 1, 1) := by decide +kernel
theorem dd_Reader_isDigit_23 : decode mm_Reader_isDigit.2.1 23 = .ok (.goto 4, 3) := by decide +kernel
theorem dd_Reader_step_103 : decode mm_Reader_step.2.1 103 = .ok (.aload_n 0, 1) := by decide +kernel
theorem dd_Reader_step_104 : decode mm_Reader_step.2.1 104 = .ok (.invokevirtual 224, 3) := by decide +kernel
theorem cw_7_224 : cwOk 7 224 0 22 1 2 7 = true := by decide +kernel
theorem mt_Reader_scanNumber : MTB 22 = some mm_Reader_scanNumber := rfl
theorem dd_Reader_isLetter_11 : decode mm_Reader_isLetter.2.1 11 = .ok (.aload_n 0, 1) := by decide +kernel
theorem dd_Reader_isLetter_12 : decode mm_Reader_isLetter.2.1 12 = .ok (.getfield 9, 3) := by decide +kernel
theorem dd_Reader_isLetter_15 : decode mm_Reader_isLetter.2.1 15 = .ok (.iload_n 1, 1) := by decide +kernel
theorem dd_Reader_isLetter_16 : decode mm_Reader_isLetter.2.1 16 = .ok (.baload, 1) := by decide +kernel
theorem dd_Reader_isLetter_17 : decode mm_Reader_isLetter.2.1 17 = .ok (.bipush 122, 2) := by decide +kernel
theorem dd_Reader_isLetter_19 : decode mm_Reader_isLetter.2.1 19 = .ok (.if_icmp .gt (7), 3) := by decide +kernel
theorem dd_Reader_isLetter_22 : decode mm_Reader_isLetter.2.1 22 = .ok (.iconst 1, 1) := by decide +kernel
theorem dd_Reader_isLetter_23 : decode mm_Reader_isLetter.2.1 23 = .ok (.goto 4, 3) := by decide +kernel
theorem dd_Reader_step_88 : decode mm_Reader_step.2.1 88 = .ok (.aload_n 0, 1) := by decide +kernel
theorem dd_Reader_step_89 : decode mm_Reader_step.2.1 89 = .ok (.invokevirtual 218, 3) := by decide +kernel
theorem cw_7_218 : cwOk 7 218 0 20 1 3 7 = true := by decide +kernel
theorem mt_Reader_scanWord : MTB 20 = some mm_Reader_scanWord := rfl
theorem dd_Reader_step_72 : decode mm_Reader_step.2.1 72 = .ok (.aload_n 0, 1) := by decide +kernel
theorem dd_Reader_step_73 : decode mm_Reader_step.2.1 73 = .ok (.iconst 0, 1) := by decide +kernel
theorem dd_Reader_step_74 : decode mm_Reader_step.2.1 74 = .ok (.putfield 64, 3) := by decide +kernel
theorem fd_7_64 : fld 7 64 = some (7, 3) := by decide +kernel
theorem fn_7_3 : fin 7 3 = false := by decide +kernel
theorem dd_Reader_step_77 : decode mm_Reader_step.2.1 77 = .ok (.goto 72, 3) := by decide +kernel
theorem dd_Reader_step_149 : decode mm_Reader_step.2.1 149 = .ok (.return_, 1) := by decide +kernel
theorem dd_Reader_step_92 : decode mm_Reader_step.2.1 92 = .ok (.goto 57, 3) := by decide +kernel
theorem dd_Reader_step_107 : decode mm_Reader_step.2.1 107 = .ok (.goto 42, 3) := by decide +kernel
theorem dd_Reader_scanWord_0 : decode mm_Reader_scanWord.2.1 0 = .ok (.aload_n 0, 1) := by decide +kernel
theorem dd_Reader_scanWord_1 : decode mm_Reader_scanWord.2.1 1 = .ok (.getfield 209, 3) := by decide +kernel
theorem dd_Reader_scanWord_4 : decode mm_Reader_scanWord.2.1 4 = .ok (.istore_n 1, 1) := by decide +kernel
theorem dd_Reader_scanWord_5 : decode mm_Reader_scanWord.2.1 5 = .ok (.iload_n 1, 1) := by decide +kernel
theorem dd_Reader_scanWord_6 : decode mm_Reader_scanWord.2.1 6 = .ok (.aload_n 0, 1) := by decide +kernel
theorem dd_Reader_scanWord_7 : decode mm_Reader_scanWord.2.1 7 = .ok (.getfield 35, 3) := by decide +kernel
theorem dd_Reader_scanWord_10 : decode mm_Reader_scanWord.2.1 10 = .ok (.if_icmp .ge (35), 3) := by decide +kernel
theorem dd_Reader_scanWord_13 : decode mm_Reader_scanWord.2.1 13 = .ok (.aload_n 0, 1) := by decide +kernel
theorem dd_Reader_scanWord_14 : decode mm_Reader_scanWord.2.1 14 = .ok (.iload_n 1, 1) := by decide +kernel
theorem dd_Reader_scanWord_15 : decode mm_Reader_scanWord.2.1 15 = .ok (.invokevirtual 215, 3) := by decide +kernel
theorem dd_Reader_scanWord_18 : decode mm_Reader_scanWord.2.1 18 = .ok (.ifCond .eq (27), 3) := by decide +kernel
theorem dd_Reader_scanWord_21 : decode mm_Reader_scanWord.2.1 21 = .ok (.aload_n 0, 1) := by decide +kernel
theorem dd_Reader_scanWord_22 : decode mm_Reader_scanWord.2.1 22 = .ok (.aload_n 0, 1) := by decide +kernel
theorem dd_Reader_scanWord_23 : decode mm_Reader_scanWord.2.1 23 = .ok (.getfield 174, 3) := by decide +kernel
theorem dd_Reader_scanWord_26 : decode mm_Reader_scanWord.2.1 26 = .ok (.aload_n 0, 1) := by decide +kernel
theorem dd_Reader_scanWord_27 : decode mm_Reader_scanWord.2.1 27 = .ok (.getfield 9, 3) := by decide +kernel
theorem dd_Reader_scanWord_30 : decode mm_Reader_scanWord.2.1 30 = .ok (.iload_n 1, 1) := by decide +kernel
theorem dd_Reader_scanWord_31 : decode mm_Reader_scanWord.2.1 31 = .ok (.baload, 1) := by decide +kernel
theorem dd_Reader_scanWord_32 : decode mm_Reader_scanWord.2.1 32 = .ok (.i2c, 1) := by decide +kernel
theorem dd_Reader_scanWord_33 : decode mm_Reader_scanWord.2.1 33 = .ok (.invokestatic 31, 3) := by decide +kernel
theorem cw_7_31 : cwOk 7 31 1 2 2 3 7 = true := by decide +kernel
theorem mt_Reader_withLetter : MTB 2 = some mm_Reader_withLetter := rfl
theorem dd_Reader_withLetter_0 : decode mm_Reader_withLetter.2.1 0 = .ok (.lload_n 0, 1) := by decide +kernel
theorem dd_Reader_withLetter_1 : decode mm_Reader_withLetter.2.1 1 = .ok (.ldc2_w 234, 3) := by decide +kernel
theorem dd_Reader_withLetter_4 : decode mm_Reader_withLetter.2.1 4 = .ok (.lmul, 1) := by decide +kernel
theorem dd_Reader_withLetter_5 : decode mm_Reader_withLetter.2.1 5 = .ok (.iload_n 2, 1) := by decide +kernel
theorem dd_Reader_withLetter_6 : decode mm_Reader_withLetter.2.1 6 = .ok (.i2l, 1) := by decide +kernel
theorem dd_Reader_withLetter_7 : decode mm_Reader_withLetter.2.1 7 = .ok (.ladd, 1) := by decide +kernel
theorem dd_Reader_withLetter_8 : decode mm_Reader_withLetter.2.1 8 = .ok (.ldc2_w 236, 3) := by decide +kernel
theorem dd_Reader_withLetter_11 : decode mm_Reader_withLetter.2.1 11 = .ok (.lsub, 1) := by decide +kernel
theorem dd_Reader_withLetter_12 : decode mm_Reader_withLetter.2.1 12 = .ok (.lconst 1, 1) := by decide +kernel
theorem dd_Reader_withLetter_13 : decode mm_Reader_withLetter.2.1 13 = .ok (.ladd, 1) := by decide +kernel
theorem dd_Reader_withLetter_14 : decode mm_Reader_withLetter.2.1 14 = .ok (.lreturn, 1) := by decide +kernel
theorem dd_Reader_scanWord_36 : decode mm_Reader_scanWord.2.1 36 = .ok (.putfield 174, 3) := by decide +kernel
theorem dd_Reader_scanWord_39 : decode mm_Reader_scanWord.2.1 39 = .ok (.iinc 1 1, 3) := by decide +kernel
theorem dd_Reader_scanWord_42 : decode mm_Reader_scanWord.2.1 42 = .ok (.goto (-37), 3) := by decide +kernel
theorem dd_Reader_scanWord_45 : decode mm_Reader_scanWord.2.1 45 = .ok (.aload_n 0, 1) := by decide +kernel
theorem dd_Reader_scanWord_46 : decode mm_Reader_scanWord.2.1 46 = .ok (.iload_n 1, 1) := by decide +kernel
theorem dd_Reader_scanWord_47 : decode mm_Reader_scanWord.2.1 47 = .ok (.putfield 212, 3) := by decide +kernel
theorem dd_Reader_scanWord_50 : decode mm_Reader_scanWord.2.1 50 = .ok (.aload_n 0, 1) := by decide +kernel
theorem dd_Reader_scanWord_51 : decode mm_Reader_scanWord.2.1 51 = .ok (.iload_n 1, 1) := by decide +kernel
theorem dd_Reader_scanWord_52 : decode mm_Reader_scanWord.2.1 52 = .ok (.aload_n 0, 1) := by decide +kernel
theorem dd_Reader_scanWord_53 : decode mm_Reader_scanWord.2.1 53 = .ok (.getfield 209, 3) := by decide +kernel
theorem dd_Reader_scanWord_56 : decode mm_Reader_scanWord.2.1 56 = .ok (.isub, 1) := by decide +kernel
theorem dd_Reader_scanWord_57 : decode mm_Reader_scanWord.2.1 57 = .ok (.bipush 8, 2) := by decide +kernel
theorem dd_Reader_scanWord_59 : decode mm_Reader_scanWord.2.1 59 = .ok (.if_icmp .gt (7), 3) := by decide +kernel
theorem dd_Reader_scanWord_66 : decode mm_Reader_scanWord.2.1 66 = .ok (.iconst 1, 1) := by decide +kernel
theorem dd_Reader_scanWord_67 : decode mm_Reader_scanWord.2.1 67 = .ok (.putfield 64, 3) := by decide +kernel
theorem dd_Reader_scanWord_70 : decode mm_Reader_scanWord.2.1 70 = .ok (.iconst 0, 1) := by decide +kernel
theorem dd_Reader_scanWord_71 : decode mm_Reader_scanWord.2.1 71 = .ok (.istore_n 2, 1) := by decide +kernel
theorem dd_Reader_scanWord_62 : decode mm_Reader_scanWord.2.1 62 = .ok (.iconst 2, 1) := by decide +kernel
theorem dd_Reader_scanWord_63 : decode mm_Reader_scanWord.2.1 63 = .ok (.goto 4, 3) := by decide +kernel
theorem dd_Reader_scanWord_72 : decode mm_Reader_scanWord.2.1 72 = .ok (.iload_n 2, 1) := by decide +kernel
theorem dd_Reader_scanWord_73 : decode mm_Reader_scanWord.2.1 73 = .ok (.bipush 29, 2) := by decide +kernel
theorem dd_Reader_scanWord_75 : decode mm_Reader_scanWord.2.1 75 = .ok (.if_icmp .ge (36), 3) := by decide +kernel
theorem dd_Reader_scanWord_111 : decode mm_Reader_scanWord.2.1 111 = .ok (.return_, 1) := by decide +kernel
theorem dd_Reader_scanWord_78 : decode mm_Reader_scanWord.2.1 78 = .ok (.aload_n 0, 1) := by decide +kernel
theorem dd_Reader_scanWord_79 : decode mm_Reader_scanWord.2.1 79 = .ok (.getfield 64, 3) := by decide +kernel
theorem dd_Reader_scanWord_82 : decode mm_Reader_scanWord.2.1 82 = .ok (.iconst 2, 1) := by decide +kernel
theorem dd_Reader_scanWord_83 : decode mm_Reader_scanWord.2.1 83 = .ok (.if_icmp .ne (28), 3) := by decide +kernel
theorem dd_Reader_scanWord_86 : decode mm_Reader_scanWord.2.1 86 = .ok (.aload_n 0, 1) := by decide +kernel
theorem dd_Reader_scanWord_87 : decode mm_Reader_scanWord.2.1 87 = .ok (.getfield 15, 3) := by decide +kernel
theorem fd_7_15 : fld 7 15 = some (7, 2) := by decide +kernel
theorem rf_2_2 {h : LH} (hF : RF h) : rd h 2 2 = 4 := hF 2 2 4 (by decide +kernel) (by decide +kernel)
theorem dd_Reader_scanWord_90 : decode mm_Reader_scanWord.2.1 90 = .ok (.iload_n 2, 1) := by decide +kernel
theorem dd_Reader_scanWord_91 : decode mm_Reader_scanWord.2.1 91 = .ok (.laload, 1) := by decide +kernel
theorem ia_4 : isA NC 4 2 = true := by decide +kernel
theorem la_4 : (lay (4 : Int).toNat).2.2 = 29 := by decide +kernel
theorem dd_Reader_scanWord_92 : decode mm_Reader_scanWord.2.1 92 = .ok (.aload_n 0, 1) := by decide +kernel
theorem dd_Reader_scanWord_93 : decode mm_Reader_scanWord.2.1 93 = .ok (.getfield 174, 3) := by decide +kernel
theorem dd_Reader_scanWord_96 : decode mm_Reader_scanWord.2.1 96 = .ok (.lcmp, 1) := by decide +kernel
theorem dd_Reader_scanWord_97 : decode mm_Reader_scanWord.2.1 97 = .ok (.ifCond .ne (8), 3) := by decide +kernel
theorem dd_Reader_scanWord_105 : decode mm_Reader_scanWord.2.1 105 = .ok (.iinc 2 1, 3) := by decide +kernel
theorem dd_Reader_scanWord_108 : decode mm_Reader_scanWord.2.1 108 = .ok (.goto (-36), 3) := by decide +kernel
theorem dd_Reader_scanWord_100 : decode mm_Reader_scanWord.2.1 100 = .ok (.aload_n 0, 1) := by decide +kernel
theorem dd_Reader_scanWord_101 : decode mm_Reader_scanWord.2.1 101 = .ok (.iload_n 2, 1) := by decide +kernel
theorem dd_Reader_scanWord_102 : decode mm_Reader_scanWord.2.1 102 = .ok (.putfield 67, 3) := by decide +kernel
theorem dd_Reader_scanNumber_0 : decode mm_Reader_scanNumber.2.1 0 = .ok (.aload_n 0, 1) := by decide +kernel
theorem dd_Reader_scanNumber_1 : decode mm_Reader_scanNumber.2.1 1 = .ok (.getfield 209, 3) := by decide +kernel
theorem dd_Reader_scanNumber_4 : decode mm_Reader_scanNumber.2.1 4 = .ok (.istore_n 1, 1) := by decide +kernel
theorem dd_Reader_scanNumber_5 : decode mm_Reader_scanNumber.2.1 5 = .ok (.iload_n 1, 1) := by decide +kernel
theorem dd_Reader_scanNumber_6 : decode mm_Reader_scanNumber.2.1 6 = .ok (.aload_n 0, 1) := by decide +kernel
theorem dd_Reader_scanNumber_7 : decode mm_Reader_scanNumber.2.1 7 = .ok (.getfield 35, 3) := by decide +kernel
theorem dd_Reader_scanNumber_10 : decode mm_Reader_scanNumber.2.1 10 = .ok (.if_icmp .ge (41), 3) := by decide +kernel
theorem dd_Reader_scanNumber_13 : decode mm_Reader_scanNumber.2.1 13 = .ok (.aload_n 0, 1) := by decide +kernel
theorem dd_Reader_scanNumber_14 : decode mm_Reader_scanNumber.2.1 14 = .ok (.iload_n 1, 1) := by decide +kernel
theorem dd_Reader_scanNumber_15 : decode mm_Reader_scanNumber.2.1 15 = .ok (.invokevirtual 221, 3) := by decide +kernel
theorem dd_Reader_scanNumber_18 : decode mm_Reader_scanNumber.2.1 18 = .ok (.ifCond .eq (33), 3) := by decide +kernel
theorem dd_Reader_scanNumber_21 : decode mm_Reader_scanNumber.2.1 21 = .ok (.aload_n 0, 1) := by decide +kernel
theorem dd_Reader_scanNumber_22 : decode mm_Reader_scanNumber.2.1 22 = .ok (.aload_n 0, 1) := by decide +kernel
theorem dd_Reader_scanNumber_23 : decode mm_Reader_scanNumber.2.1 23 = .ok (.getfield 174, 3) := by decide +kernel
theorem dd_Reader_scanNumber_26 : decode mm_Reader_scanNumber.2.1 26 = .ok (.ldc2_w 230, 3) := by decide +kernel
theorem dd_Reader_scanNumber_29 : decode mm_Reader_scanNumber.2.1 29 = .ok (.lmul, 1) := by decide +kernel
theorem dd_Reader_scanNumber_30 : decode mm_Reader_scanNumber.2.1 30 = .ok (.aload_n 0, 1) := by decide +kernel
theorem dd_Reader_scanNumber_31 : decode mm_Reader_scanNumber.2.1 31 = .ok (.getfield 9, 3) := by decide +kernel
theorem dd_Reader_scanNumber_34 : decode mm_Reader_scanNumber.2.1 34 = .ok (.iload_n 1, 1) := by decide +kernel
theorem dd_Reader_scanNumber_35 : decode mm_Reader_scanNumber.2.1 35 = .ok (.baload, 1) := by decide +kernel
theorem dd_Reader_scanNumber_36 : decode mm_Reader_scanNumber.2.1 36 = .ok (.i2l, 1) := by decide +kernel
theorem dd_Reader_scanNumber_37 : decode mm_Reader_scanNumber.2.1 37 = .ok (.ladd, 1) := by decide +kernel
theorem dd_Reader_scanNumber_38 : decode mm_Reader_scanNumber.2.1 38 = .ok (.ldc2_w 232, 3) := by decide +kernel
theorem dd_Reader_scanNumber_41 : decode mm_Reader_scanNumber.2.1 41 = .ok (.lsub, 1) := by decide +kernel
theorem dd_Reader_scanNumber_42 : decode mm_Reader_scanNumber.2.1 42 = .ok (.putfield 174, 3) := by decide +kernel
theorem dd_Reader_scanNumber_45 : decode mm_Reader_scanNumber.2.1 45 = .ok (.iinc 1 1, 3) := by decide +kernel
theorem dd_Reader_scanNumber_48 : decode mm_Reader_scanNumber.2.1 48 = .ok (.goto (-43), 3) := by decide +kernel
theorem dd_Reader_scanNumber_51 : decode mm_Reader_scanNumber.2.1 51 = .ok (.aload_n 0, 1) := by decide +kernel
theorem dd_Reader_scanNumber_52 : decode mm_Reader_scanNumber.2.1 52 = .ok (.iload_n 1, 1) := by decide +kernel
theorem dd_Reader_scanNumber_53 : decode mm_Reader_scanNumber.2.1 53 = .ok (.putfield 212, 3) := by decide +kernel
theorem dd_Reader_scanNumber_56 : decode mm_Reader_scanNumber.2.1 56 = .ok (.aload_n 0, 1) := by decide +kernel
theorem dd_Reader_scanNumber_57 : decode mm_Reader_scanNumber.2.1 57 = .ok (.iload_n 1, 1) := by decide +kernel
theorem dd_Reader_scanNumber_58 : decode mm_Reader_scanNumber.2.1 58 = .ok (.aload_n 0, 1) := by decide +kernel
theorem dd_Reader_scanNumber_59 : decode mm_Reader_scanNumber.2.1 59 = .ok (.getfield 209, 3) := by decide +kernel
theorem dd_Reader_scanNumber_62 : decode mm_Reader_scanNumber.2.1 62 = .ok (.isub, 1) := by decide +kernel
theorem dd_Reader_scanNumber_63 : decode mm_Reader_scanNumber.2.1 63 = .ok (.iconst 4, 1) := by decide +kernel
theorem dd_Reader_scanNumber_64 : decode mm_Reader_scanNumber.2.1 64 = .ok (.if_icmp .gt (7), 3) := by decide +kernel
theorem dd_Reader_scanNumber_71 : decode mm_Reader_scanNumber.2.1 71 = .ok (.iconst 1, 1) := by decide +kernel
theorem dd_Reader_scanNumber_72 : decode mm_Reader_scanNumber.2.1 72 = .ok (.putfield 64, 3) := by decide +kernel
theorem dd_Reader_scanNumber_75 : decode mm_Reader_scanNumber.2.1 75 = .ok (.return_, 1) := by decide +kernel
theorem dd_Reader_scanNumber_67 : decode mm_Reader_scanNumber.2.1 67 = .ok (.iconst 3, 1) := by decide +kernel
theorem dd_Reader_scanNumber_68 : decode mm_Reader_scanNumber.2.1 68 = .ok (.goto 4, 3) := by decide +kernel
theorem dd_Reader_begin_0 : decode mm_Reader_begin.2.1 0 = .ok (.aload_n 0, 1) := by decide +kernel
theorem dd_Reader_begin_1 : decode mm_Reader_begin.2.1 1 = .ok (.iconst 0, 1) := by decide +kernel
theorem dd_Reader_begin_2 : decode mm_Reader_begin.2.1 2 = .ok (.putfield 61, 3) := by decide +kernel
theorem dd_Reader_begin_5 : decode mm_Reader_begin.2.1 5 = .ok (.aload_n 0, 1) := by decide +kernel
theorem dd_Reader_begin_6 : decode mm_Reader_begin.2.1 6 = .ok (.iconst 0, 1) := by decide +kernel
theorem dd_Reader_begin_7 : decode mm_Reader_begin.2.1 7 = .ok (.putfield 212, 3) := by decide +kernel
theorem dd_Reader_begin_10 : decode mm_Reader_begin.2.1 10 = .ok (.aload_n 0, 1) := by decide +kernel
theorem dd_Reader_begin_11 : decode mm_Reader_begin.2.1 11 = .ok (.invokevirtual 99, 3) := by decide +kernel
theorem dd_Reader_begin_14 : decode mm_Reader_begin.2.1 14 = .ok (.return_, 1) := by decide +kernel
theorem dd_Reader_step_138 : decode mm_Reader_step.2.1 138 = .ok (.ifCond .eq (7), 3) := by decide +kernel
theorem dd_Reader_step_145 : decode mm_Reader_step.2.1 145 = .ok (.iconst 1, 1) := by decide +kernel
theorem dd_Reader_step_146 : decode mm_Reader_step.2.1 146 = .ok (.putfield 64, 3) := by decide +kernel
theorem dd_Reader_step_141 : decode mm_Reader_step.2.1 141 = .ok (.iconst 4, 1) := by decide +kernel
theorem dd_Reader_step_142 : decode mm_Reader_step.2.1 142 = .ok (.goto 4, 3) := by decide +kernel
theorem dd_Reader_isTokenSign_0 : decode mm_Reader_isTokenSign.2.1 0 = .ok (.iload_n 0, 1) := by decide +kernel
theorem dd_Reader_isTokenSign_1 : decode mm_Reader_isTokenSign.2.1 1 = .ok (.bipush 40, 2) := by decide +kernel
theorem dd_Reader_isTokenSign_3 : decode mm_Reader_isTokenSign.2.1 3 = .ok (.if_icmp .eq (45), 3) := by decide +kernel
theorem dd_Reader_isTokenSign_48 : decode mm_Reader_isTokenSign.2.1 48 = .ok (.iconst 1, 1) := by decide +kernel
theorem dd_Reader_isTokenSign_49 : decode mm_Reader_isTokenSign.2.1 49 = .ok (.goto 4, 3) := by decide +kernel
theorem dd_Reader_isTokenSign_53 : decode mm_Reader_isTokenSign.2.1 53 = .ok (.ireturn, 1) := by decide +kernel
theorem dd_Reader_isTokenSign_6 : decode mm_Reader_isTokenSign.2.1 6 = .ok (.iload_n 0, 1) := by decide +kernel
theorem dd_Reader_isTokenSign_7 : decode mm_Reader_isTokenSign.2.1 7 = .ok (.bipush 41, 2) := by decide +kernel
theorem dd_Reader_isTokenSign_9 : decode mm_Reader_isTokenSign.2.1 9 = .ok (.if_icmp .eq (39), 3) := by decide +kernel
theorem dd_Reader_isTokenSign_12 : decode mm_Reader_isTokenSign.2.1 12 = .ok (.iload_n 0, 1) := by decide +kernel
theorem dd_Reader_isTokenSign_13 : decode mm_Reader_isTokenSign.2.1 13 = .ok (.bipush 60, 2) := by decide +kernel
theorem dd_Reader_isTokenSign_15 : decode mm_Reader_isTokenSign.2.1 15 = .ok (.if_icmp .eq (33), 3) := by decide +kernel
theorem dd_Reader_isTokenSign_18 : decode mm_Reader_isTokenSign.2.1 18 = .ok (.iload_n 0, 1) := by decide +kernel
theorem dd_Reader_isTokenSign_19 : decode mm_Reader_isTokenSign.2.1 19 = .ok (.bipush 61, 2) := by decide +kernel
theorem dd_Reader_isTokenSign_21 : decode mm_Reader_isTokenSign.2.1 21 = .ok (.if_icmp .eq (27), 3) := by decide +kernel
theorem dd_Reader_isTokenSign_24 : decode mm_Reader_isTokenSign.2.1 24 = .ok (.iload_n 0, 1) := by decide +kernel
theorem dd_Reader_isTokenSign_25 : decode mm_Reader_isTokenSign.2.1 25 = .ok (.bipush 43, 2) := by decide +kernel
theorem dd_Reader_isTokenSign_27 : decode mm_Reader_isTokenSign.2.1 27 = .ok (.if_icmp .eq (21), 3) := by decide +kernel
theorem dd_Reader_isTokenSign_30 : decode mm_Reader_isTokenSign.2.1 30 = .ok (.iload_n 0, 1) := by decide +kernel
theorem dd_Reader_isTokenSign_31 : decode mm_Reader_isTokenSign.2.1 31 = .ok (.bipush 45, 2) := by decide +kernel
theorem dd_Reader_isTokenSign_33 : decode mm_Reader_isTokenSign.2.1 33 = .ok (.if_icmp .eq (15), 3) := by decide +kernel
theorem dd_Reader_isTokenSign_36 : decode mm_Reader_isTokenSign.2.1 36 = .ok (.iload_n 0, 1) := by decide +kernel
theorem dd_Reader_isTokenSign_37 : decode mm_Reader_isTokenSign.2.1 37 = .ok (.bipush 42, 2) := by decide +kernel
theorem dd_Reader_isTokenSign_39 : decode mm_Reader_isTokenSign.2.1 39 = .ok (.if_icmp .eq (9), 3) := by decide +kernel
theorem dd_Reader_isTokenSign_42 : decode mm_Reader_isTokenSign.2.1 42 = .ok (.iload_n 0, 1) := by decide +kernel
theorem dd_Reader_isTokenSign_43 : decode mm_Reader_isTokenSign.2.1 43 = .ok (.bipush 59, 2) := by decide +kernel
theorem dd_Reader_isTokenSign_45 : decode mm_Reader_isTokenSign.2.1 45 = .ok (.if_icmp .ne (7), 3) := by decide +kernel
theorem dd_Reader_isTokenSign_52 : decode mm_Reader_isTokenSign.2.1 52 = .ok (.iconst 0, 1) := by decide +kernel
theorem dd_Reader_isName_0 : decode mm_Reader_isName.2.1 0 = .ok (.aload_n 0, 1) := by decide +kernel
theorem dd_Reader_isName_1 : decode mm_Reader_isName.2.1 1 = .ok (.getfield 64, 3) := by decide +kernel
theorem dd_Reader_isName_4 : decode mm_Reader_isName.2.1 4 = .ok (.iconst 2, 1) := by decide +kernel
theorem dd_Reader_isName_5 : decode mm_Reader_isName.2.1 5 = .ok (.if_icmp .ne (24), 3) := by decide +kernel
theorem dd_Reader_isName_29 : decode mm_Reader_isName.2.1 29 = .ok (.iconst 0, 1) := by decide +kernel
theorem dd_Reader_isName_30 : decode mm_Reader_isName.2.1 30 = .ok (.ireturn, 1) := by decide +kernel
theorem dd_Reader_isName_8 : decode mm_Reader_isName.2.1 8 = .ok (.aload_n 0, 1) := by decide +kernel
theorem dd_Reader_isName_9 : decode mm_Reader_isName.2.1 9 = .ok (.getfield 67, 3) := by decide +kernel
theorem dd_Reader_isName_12 : decode mm_Reader_isName.2.1 12 = .ok (.iconst (-1), 1) := by decide +kernel
theorem dd_Reader_isName_13 : decode mm_Reader_isName.2.1 13 = .ok (.if_icmp .eq (12), 3) := by decide +kernel
theorem dd_Reader_isName_25 : decode mm_Reader_isName.2.1 25 = .ok (.iconst 1, 1) := by decide +kernel
theorem dd_Reader_isName_26 : decode mm_Reader_isName.2.1 26 = .ok (.goto 4, 3) := by decide +kernel
theorem dd_Reader_isName_16 : decode mm_Reader_isName.2.1 16 = .ok (.aload_n 0, 1) := by decide +kernel
theorem dd_Reader_isName_17 : decode mm_Reader_isName.2.1 17 = .ok (.getfield 67, 3) := by decide +kernel
theorem dd_Reader_isName_20 : decode mm_Reader_isName.2.1 20 = .ok (.bipush 25, 2) := by decide +kernel
theorem dd_Reader_isName_22 : decode mm_Reader_isName.2.1 22 = .ok (.if_icmp .lt (7), 3) := by decide +kernel
theorem dd_Reader_isSign_0 : decode mm_Reader_isSign.2.1 0 = .ok (.aload_n 0, 1) := by decide +kernel
theorem dd_Reader_isSign_1 : decode mm_Reader_isSign.2.1 1 = .ok (.getfield 64, 3) := by decide +kernel
theorem dd_Reader_isSign_4 : decode mm_Reader_isSign.2.1 4 = .ok (.iconst 4, 1) := by decide +kernel
theorem dd_Reader_isSign_5 : decode mm_Reader_isSign.2.1 5 = .ok (.if_icmp .ne (17), 3) := by decide +kernel
theorem dd_Reader_isSign_22 : decode mm_Reader_isSign.2.1 22 = .ok (.iconst 0, 1) := by decide +kernel
theorem dd_Reader_isSign_23 : decode mm_Reader_isSign.2.1 23 = .ok (.ireturn, 1) := by decide +kernel
theorem dd_Reader_isSign_8 : decode mm_Reader_isSign.2.1 8 = .ok (.aload_n 0, 1) := by decide +kernel
theorem dd_Reader_isSign_9 : decode mm_Reader_isSign.2.1 9 = .ok (.getfield 174, 3) := by decide +kernel
theorem dd_Reader_isSign_12 : decode mm_Reader_isSign.2.1 12 = .ok (.iload_n 1, 1) := by decide +kernel
theorem dd_Reader_isSign_13 : decode mm_Reader_isSign.2.1 13 = .ok (.i2l, 1) := by decide +kernel
theorem dd_Reader_isSign_14 : decode mm_Reader_isSign.2.1 14 = .ok (.lcmp, 1) := by decide +kernel
theorem dd_Reader_isSign_15 : decode mm_Reader_isSign.2.1 15 = .ok (.ifCond .ne (7), 3) := by decide +kernel
theorem dd_Reader_isSign_18 : decode mm_Reader_isSign.2.1 18 = .ok (.iconst 1, 1) := by decide +kernel
theorem dd_Reader_isSign_19 : decode mm_Reader_isSign.2.1 19 = .ok (.goto 4, 3) := by decide +kernel
theorem dd_Reader_takeWord_0 : decode mm_Reader_takeWord.2.1 0 = .ok (.aload_n 0, 1) := by decide +kernel
theorem dd_Reader_takeWord_1 : decode mm_Reader_takeWord.2.1 1 = .ok (.getfield 67, 3) := by decide +kernel
theorem dd_Reader_takeWord_4 : decode mm_Reader_takeWord.2.1 4 = .ok (.iload_n 1, 1) := by decide +kernel
theorem dd_Reader_takeWord_5 : decode mm_Reader_takeWord.2.1 5 = .ok (.if_icmp .ne (10), 3) := by decide +kernel
theorem dd_Reader_takeWord_15 : decode mm_Reader_takeWord.2.1 15 = .ok (.aload_n 0, 1) := by decide +kernel
theorem dd_Reader_takeWord_16 : decode mm_Reader_takeWord.2.1 16 = .ok (.iconst 1, 1) := by decide +kernel
theorem dd_Reader_takeWord_17 : decode mm_Reader_takeWord.2.1 17 = .ok (.invokevirtual 80, 3) := by decide +kernel
theorem dd_Reader_takeWord_8 : decode mm_Reader_takeWord.2.1 8 = .ok (.aload_n 0, 1) := by decide +kernel
theorem dd_Reader_takeWord_9 : decode mm_Reader_takeWord.2.1 9 = .ok (.invokevirtual 99, 3) := by decide +kernel
theorem dd_Reader_takeWord_12 : decode mm_Reader_takeWord.2.1 12 = .ok (.goto 8, 3) := by decide +kernel
theorem dd_Reader_takeWord_20 : decode mm_Reader_takeWord.2.1 20 = .ok (.return_, 1) := by decide +kernel
theorem B_Reader_step_13 {xs : Nat → Int} {xl e : Nat} {h : LH} {Q : Option LV → LH → Prop} {v1 : Int} (hF : RF h) (r_v1 : 0 ≤ v1 ∧ v1 ≤ 1000)
    (k : ((rd h 2 0) ≤ v1 →
        Rn xs xl e mm_Reader_step 49 [some (.inr (.inr 2)), some (.inl v1)] [] h Q) ∧
      (v1 < (rd h 2 0) →
        (0 ≤ v1 ∧ v1 < 1000) ∧
        ((rd h 3 v1) = 10 →
          Rn xs xl e mm_Reader_step 13 [some (.inr (.inr 2)), some (.inl (v1 + 1))] [] h Q) ∧
        ((rd h 3 v1) ≠ 10 →
          (0 ≤ v1 ∧ v1 < 1000) ∧
          ((rd h 3 v1) ≠ 32 →
            Rn xs xl e mm_Reader_step 49 [some (.inr (.inr 2)), some (.inl v1)] [] h Q) ∧
          ((rd h 3 v1) = 32 →
            Rn xs xl e mm_Reader_step 13 [some (.inr (.inr 2)), some (.inl (v1 + 1))] [] h Q)))) :
    Rn xs xl e mm_Reader_step 13 [some (.inr (.inr 2)), some (.inl v1)] [] h Q := by
  refine R_ld (v := .inl v1) dd_Reader_step_13 rfl rfl rfl rfl ?_
  refine R_ld (v := .inr (.inr 2)) dd_Reader_step_14 rfl rfl rfl rfl ?_
  refine R_gf (v := .inl (rd h 2 0)) dd_Reader_step_15 fd_7_35 io_2 (congrArg (fun z : Int => (Sum.inl z : LV)) (rfl)) rfl ?_
  refine R_icmp dd_Reader_step_18 rfl rfl (fun (c3 : (rd h 2 0) ≤ v1) => ?_) (fun (c3 : v1 < (rd h 2 0)) => ?_)
  · replace k := k.1 c3
    exact k
  · replace k := k.2 c3
    refine R_ld (v := .inr (.inr 2)) dd_Reader_step_21 rfl rfl rfl rfl ?_
    refine R_gf (v := .inr (.inr 3)) dd_Reader_step_22 fd_7_9 io_2 (congrArg (fun z : Int => (Sum.inr (Sum.inr z) : LV)) (rf_2_1 hF)) rfl ?_
    refine R_ld (v := .inl v1) dd_Reader_step_25 rfl rfl rfl rfl ?_
    obtain ⟨s1, k⟩ := k
    refine R_bald (v := (rd h 3 v1)) (n := 1000) dd_Reader_step_26 ia_3 la_3 s1 (rfl) rfl ?_
    refine R_bi dd_Reader_step_27 (by decide) rfl ?_
    refine R_icmp dd_Reader_step_29 rfl rfl (fun (c4 : (rd h 3 v1) = 10) => ?_) (fun (c4 : (rd h 3 v1) ≠ 10) => ?_)
    · replace k := k.1 c4
      refine R_inc (y := v1 + 1) (ls' := [some (.inr (.inr 2)), some (.inl (v1 + 1))]) dd_Reader_step_43 rfl (by decide) (by omega) (by omega) rfl rfl ?_
      refine R_goto dd_Reader_step_46 rfl ?_
      exact k
    · replace k := k.2 c4
      refine R_ld (v := .inr (.inr 2)) dd_Reader_step_32 rfl rfl rfl rfl ?_
      refine R_gf (v := .inr (.inr 3)) dd_Reader_step_33 fd_7_9 io_2 (congrArg (fun z : Int => (Sum.inr (Sum.inr z) : LV)) (rf_2_1 hF)) rfl ?_
      refine R_ld (v := .inl v1) dd_Reader_step_36 rfl rfl rfl rfl ?_
      obtain ⟨s2, k⟩ := k
      refine R_bald (v := (rd h 3 v1)) (n := 1000) dd_Reader_step_37 ia_3 la_3 s2 (rfl) rfl ?_
      refine R_bi dd_Reader_step_38 (by decide) rfl ?_
      refine R_icmp dd_Reader_step_40 rfl rfl (fun (c5 : (rd h 3 v1) ≠ 32) => ?_) (fun (c5 : (rd h 3 v1) = 32) => ?_)
      · replace k := k.1 c5
        exact k
      · replace k := k.2 c5
        refine R_inc (y := v1 + 1) (ls' := [some (.inr (.inr 2)), some (.inl (v1 + 1))]) dd_Reader_step_43 rfl (by decide) (by omega) (by omega) rfl rfl ?_
        refine R_goto dd_Reader_step_46 rfl ?_
        exact k
theorem B_Reader_step_49 {xs : Nat → Int} {xl e : Nat} {h : LH} {Q : Option LV → LH → Prop} {v1 : Int} (hF : RF h) (r_v1 : 0 ≤ v1 ∧ v1 ≤ 1000) (he : 1 ≤ e)
    (k : (v1 < (rd h 2 0) →
        (0 ≤ v1 ∧ v1 < 1000) ∧
        ((rd h 3 v1) < 97 →
          (0 ≤ v1 ∧ v1 < 1000) ∧
          ((rd h 3 v1) < 48 →
            (0 ≤ v1 ∧ v1 < 1000) ∧
            (0 ≤ v1 ∧ v1 < 1000) ∧
            (∃ c, c < e ∧ Rn xs xl c mm_Reader_isTokenSign 0 [some (.inl (rd h 3 v1))] [] (wr (wr (wr (wr (wr h 2 4 v1) 2 6 0) 2 7 (-1)) 2 5 (v1 + 1)) 2 6 (rd h 3 v1)) (fun r h' => Rn xs xl e mm_Reader_step 138 [some (.inr (.inr 2)), some (.inl v1)] (r.toList ++ [.inr (.inr 2)]) h' Q))) ∧
          (48 ≤ (rd h 3 v1) →
            (0 ≤ v1 ∧ v1 < 1000) ∧
            (57 < (rd h 3 v1) →
              (0 ≤ v1 ∧ v1 < 1000) ∧
              (0 ≤ v1 ∧ v1 < 1000) ∧
              (∃ c, c < e ∧ Rn xs xl c mm_Reader_isTokenSign 0 [some (.inl (rd h 3 v1))] [] (wr (wr (wr (wr (wr h 2 4 v1) 2 6 0) 2 7 (-1)) 2 5 (v1 + 1)) 2 6 (rd h 3 v1)) (fun r h' => Rn xs xl e mm_Reader_step 138 [some (.inr (.inr 2)), some (.inl v1)] (r.toList ++ [.inr (.inr 2)]) h' Q))) ∧
            ((rd h 3 v1) ≤ 57 →
              (∃ c, c < e ∧ Rn xs xl c mm_Reader_scanNumber 0 [some (.inr (.inr 2)), none] [] (wr (wr (wr h 2 4 v1) 2 6 0) 2 7 (-1)) (fun r h' => Rn xs xl e mm_Reader_step 107 [some (.inr (.inr 2)), some (.inl v1)] (r.toList ++ []) h' Q))))) ∧
        (97 ≤ (rd h 3 v1) →
          (0 ≤ v1 ∧ v1 < 1000) ∧
          (122 < (rd h 3 v1) →
            (0 ≤ v1 ∧ v1 < 1000) ∧
            ((rd h 3 v1) < 48 →
              (0 ≤ v1 ∧ v1 < 1000) ∧
              (0 ≤ v1 ∧ v1 < 1000) ∧
              (∃ c, c < e ∧ Rn xs xl c mm_Reader_isTokenSign 0 [some (.inl (rd h 3 v1))] [] (wr (wr (wr (wr (wr h 2 4 v1) 2 6 0) 2 7 (-1)) 2 5 (v1 + 1)) 2 6 (rd h 3 v1)) (fun r h' => Rn xs xl e mm_Reader_step 138 [some (.inr (.inr 2)), some (.inl v1)] (r.toList ++ [.inr (.inr 2)]) h' Q))) ∧
            (48 ≤ (rd h 3 v1) →
              (0 ≤ v1 ∧ v1 < 1000) ∧
              (57 < (rd h 3 v1) →
                (0 ≤ v1 ∧ v1 < 1000) ∧
                (0 ≤ v1 ∧ v1 < 1000) ∧
                (∃ c, c < e ∧ Rn xs xl c mm_Reader_isTokenSign 0 [some (.inl (rd h 3 v1))] [] (wr (wr (wr (wr (wr h 2 4 v1) 2 6 0) 2 7 (-1)) 2 5 (v1 + 1)) 2 6 (rd h 3 v1)) (fun r h' => Rn xs xl e mm_Reader_step 138 [some (.inr (.inr 2)), some (.inl v1)] (r.toList ++ [.inr (.inr 2)]) h' Q))) ∧
              ((rd h 3 v1) ≤ 57 →
                (∃ c, c < e ∧ Rn xs xl c mm_Reader_scanNumber 0 [some (.inr (.inr 2)), none] [] (wr (wr (wr h 2 4 v1) 2 6 0) 2 7 (-1)) (fun r h' => Rn xs xl e mm_Reader_step 107 [some (.inr (.inr 2)), some (.inl v1)] (r.toList ++ []) h' Q))))) ∧
          ((rd h 3 v1) ≤ 122 →
            (∃ c, c < e ∧ Rn xs xl c mm_Reader_scanWord 0 [some (.inr (.inr 2)), none, none] [] (wr (wr (wr h 2 4 v1) 2 6 0) 2 7 (-1)) (fun r h' => Rn xs xl e mm_Reader_step 92 [some (.inr (.inr 2)), some (.inl v1)] (r.toList ++ []) h' Q))))) ∧
      ((rd h 2 0) ≤ v1 →
        Q none (wr (wr (wr (wr h 2 4 v1) 2 6 0) 2 7 (-1)) 2 3 0))) :
    Rn xs xl e mm_Reader_step 49 [some (.inr (.inr 2)), some (.inl v1)] [] h Q := by
  refine R_ld (v := .inr (.inr 2)) dd_Reader_step_49 rfl rfl rfl rfl ?_
  refine R_ld (v := .inl v1) dd_Reader_step_50 rfl rfl rfl rfl ?_
  refine R_pf (z := v1) dd_Reader_step_51 fd_7_209 io_2 fn_7_4 rfl rfl ?_
  refine R_ld (v := .inr (.inr 2)) dd_Reader_step_54 rfl rfl rfl rfl ?_
  refine R_A dd_Reader_step_55 rfl rfl rfl rfl ?_
  refine R_pf (z := 0) dd_Reader_step_56 fd_7_174 io_2 fn_7_6 rfl rfl ?_
  refine R_ld (v := .inr (.inr 2)) dd_Reader_step_59 rfl rfl rfl rfl ?_
  refine R_ic dd_Reader_step_60 (by decide) rfl ?_
  refine R_pf (z := (-1)) dd_Reader_step_61 fd_7_67 io_2 fn_7_7 rfl rfl ?_
  refine R_ld (v := .inl v1) dd_Reader_step_64 rfl rfl rfl rfl ?_
  refine R_ld (v := .inr (.inr 2)) dd_Reader_step_65 rfl rfl rfl rfl ?_
  refine R_gf (v := .inl (rd h 2 0)) dd_Reader_step_66 fd_7_35 io_2 (congrArg (fun z : Int => (Sum.inl z : LV)) ((rdw_nei (by omega)).trans ((rdw_nei (by omega)).trans (rdw_nei (by omega))))) rfl ?_
  refine R_icmp dd_Reader_step_69 rfl rfl (fun (c22 : v1 < (rd h 2 0)) => ?_) (fun (c22 : (rd h 2 0) ≤ v1) => ?_)
  · replace k := k.1 c22
    refine R_ld (v := .inr (.inr 2)) dd_Reader_step_80 rfl rfl rfl rfl ?_
    refine R_ld (v := .inl v1) dd_Reader_step_81 rfl rfl rfl rfl ?_
    refine R_call (as := [.inr (.inr 2), .inl v1]) (rest := []) (M' := mm_Reader_isLetter) (ls0 := [some (.inr (.inr 2)), some (.inl v1)]) dd_Reader_step_82 rfl rfl (cw_v cw_7_215 io_2 rfl rfl (Nat.le_of_ble_eq_true rfl) (Nat.le_of_ble_eq_true rfl)) mt_Reader_isLetter rfl (c := e - 1) (by omega) rfl ?_
    refine R_ld (v := .inr (.inr 2)) dd_Reader_isLetter_0 rfl rfl rfl rfl ?_
    refine R_gf (v := .inr (.inr 3)) dd_Reader_isLetter_1 fd_7_9 io_2 (congrArg (fun z : Int => (Sum.inr (Sum.inr z) : LV)) ((rdw_nei (by omega)).trans ((rdw_nei (by omega)).trans ((rdw_nei (by omega)).trans (rf_2_1 hF))))) rfl ?_
    refine R_ld (v := .inl v1) dd_Reader_isLetter_4 rfl rfl rfl rfl ?_
    obtain ⟨s1, k⟩ := k
    refine R_bald (v := (rd h 3 v1)) (n := 1000) dd_Reader_isLetter_5 ia_3 la_3 s1 ((rdw_ne (by decide)).trans ((rdw_ne (by decide)).trans (rdw_ne (by decide)))) rfl ?_
    refine R_bi dd_Reader_isLetter_6 (by decide) rfl ?_
    refine R_icmp dd_Reader_isLetter_8 rfl rfl (fun (c23 : (rd h 3 v1) < 97) => ?_) (fun (c23 : 97 ≤ (rd h 3 v1)) => ?_)
    · replace k := k.1 c23
      refine R_ic dd_Reader_isLetter_26 (by decide) rfl ?_
      refine R_zret dd_Reader_isLetter_27 rfl (by decide) ?_
      change Rn xs xl e mm_Reader_step 85 [some (.inr (.inr 2)), some (.inl v1)] [.inl 0] (wr (wr (wr h 2 4 v1) 2 6 0) 2 7 (-1)) _
      refine R_if dd_Reader_step_85 rfl rfl (fun (c24 : 0 = 0) => ?_) (fun (c24 : 0 ≠ 0) => ?_)
      · skip
        refine R_ld (v := .inr (.inr 2)) dd_Reader_step_95 rfl rfl rfl rfl ?_
        refine R_ld (v := .inl v1) dd_Reader_step_96 rfl rfl rfl rfl ?_
        refine R_call (as := [.inr (.inr 2), .inl v1]) (rest := []) (M' := mm_Reader_isDigit) (ls0 := [some (.inr (.inr 2)), some (.inl v1)]) dd_Reader_step_97 rfl rfl (cw_v cw_7_221 io_2 rfl rfl (Nat.le_of_ble_eq_true rfl) (Nat.le_of_ble_eq_true rfl)) mt_Reader_isDigit rfl (c := e - 1) (by omega) rfl ?_
        refine R_ld (v := .inr (.inr 2)) dd_Reader_isDigit_0 rfl rfl rfl rfl ?_
        refine R_gf (v := .inr (.inr 3)) dd_Reader_isDigit_1 fd_7_9 io_2 (congrArg (fun z : Int => (Sum.inr (Sum.inr z) : LV)) ((rdw_nei (by omega)).trans ((rdw_nei (by omega)).trans ((rdw_nei (by omega)).trans (rf_2_1 hF))))) rfl ?_
        refine R_ld (v := .inl v1) dd_Reader_isDigit_4 rfl rfl rfl rfl ?_
        obtain ⟨s2, k⟩ := k
        refine R_bald (v := (rd h 3 v1)) (n := 1000) dd_Reader_isDigit_5 ia_3 la_3 s2 ((rdw_ne (by decide)).trans ((rdw_ne (by decide)).trans (rdw_ne (by decide)))) rfl ?_
        refine R_bi dd_Reader_isDigit_6 (by decide) rfl ?_
        refine R_icmp dd_Reader_isDigit_8 rfl rfl (fun (c25 : (rd h 3 v1) < 48) => ?_) (fun (c25 : 48 ≤ (rd h 3 v1)) => ?_)
        · replace k := k.1 c25
          refine R_ic dd_Reader_isDigit_26 (by decide) rfl ?_
          refine R_zret dd_Reader_isDigit_27 rfl (by decide) ?_
          change Rn xs xl e mm_Reader_step 100 [some (.inr (.inr 2)), some (.inl v1)] [.inl 0] (wr (wr (wr h 2 4 v1) 2 6 0) 2 7 (-1)) _
          refine R_if dd_Reader_step_100 rfl rfl (fun (c26 : 0 = 0) => ?_) (fun (c26 : 0 ≠ 0) => ?_)
          · skip
            refine R_ld (v := .inr (.inr 2)) dd_Reader_step_110 rfl rfl rfl rfl ?_
            refine R_ld (v := .inl v1) dd_Reader_step_111 rfl rfl rfl rfl ?_
            refine R_ic dd_Reader_step_112 (by decide) rfl ?_
            refine R_iadd (c := v1 + 1) dd_Reader_step_113 (by omega) (by omega) rfl ?_
            refine R_pf (z := (v1 + 1)) dd_Reader_step_114 fd_7_212 io_2 fn_7_5 rfl rfl ?_
            refine R_ld (v := .inr (.inr 2)) dd_Reader_step_117 rfl rfl rfl rfl ?_
            refine R_ld (v := .inr (.inr 2)) dd_Reader_step_118 rfl rfl rfl rfl ?_
            refine R_gf (v := .inr (.inr 3)) dd_Reader_step_119 fd_7_9 io_2 (congrArg (fun z : Int => (Sum.inr (Sum.inr z) : LV)) ((rdw_nei (by omega)).trans ((rdw_nei (by omega)).trans ((rdw_nei (by omega)).trans ((rdw_nei (by omega)).trans (rf_2_1 hF)))))) rfl ?_
            refine R_ld (v := .inl v1) dd_Reader_step_122 rfl rfl rfl rfl ?_
            obtain ⟨s3, k⟩ := k
            refine R_bald (v := (rd h 3 v1)) (n := 1000) dd_Reader_step_123 ia_3 la_3 s3 ((rdw_ne (by decide)).trans ((rdw_ne (by decide)).trans ((rdw_ne (by decide)).trans (rdw_ne (by decide))))) rfl ?_
            refine R_A dd_Reader_step_124 rfl rfl rfl rfl ?_
            refine R_pf (z := (rd h 3 v1)) dd_Reader_step_125 fd_7_174 io_2 fn_7_6 rfl rfl ?_
            refine R_ld (v := .inr (.inr 2)) dd_Reader_step_128 rfl rfl rfl rfl ?_
            refine R_ld (v := .inr (.inr 2)) dd_Reader_step_129 rfl rfl rfl rfl ?_
            refine R_gf (v := .inr (.inr 3)) dd_Reader_step_130 fd_7_9 io_2 (congrArg (fun z : Int => (Sum.inr (Sum.inr z) : LV)) ((rdw_nei (by omega)).trans ((rdw_nei (by omega)).trans ((rdw_nei (by omega)).trans ((rdw_nei (by omega)).trans ((rdw_nei (by omega)).trans (rf_2_1 hF))))))) rfl ?_
            refine R_ld (v := .inl v1) dd_Reader_step_133 rfl rfl rfl rfl ?_
            obtain ⟨s4, k⟩ := k
            refine R_bald (v := (rd h 3 v1)) (n := 1000) dd_Reader_step_134 ia_3 la_3 s4 ((rdw_ne (by decide)).trans ((rdw_ne (by decide)).trans ((rdw_ne (by decide)).trans ((rdw_ne (by decide)).trans (rdw_ne (by decide)))))) rfl ?_
            obtain ⟨c, hc, k⟩ := k
            exact R_call (as := [.inl (rd h 3 v1)]) (rest := [.inr (.inr 2)]) (M' := mm_Reader_isTokenSign) (ls0 := [some (.inl (rd h 3 v1))]) dd_Reader_step_135 rfl rfl (cw_s cw_7_227 rfl rfl (Nat.le_of_ble_eq_true rfl) (Nat.le_of_ble_eq_true rfl)) mt_Reader_isTokenSign rfl hc rfl k
          · exact absurd c26 (by omega)
        · replace k := k.2 c25
          refine R_ld (v := .inr (.inr 2)) dd_Reader_isDigit_11 rfl rfl rfl rfl ?_
          refine R_gf (v := .inr (.inr 3)) dd_Reader_isDigit_12 fd_7_9 io_2 (congrArg (fun z : Int => (Sum.inr (Sum.inr z) : LV)) ((rdw_nei (by omega)).trans ((rdw_nei (by omega)).trans ((rdw_nei (by omega)).trans (rf_2_1 hF))))) rfl ?_
          refine R_ld (v := .inl v1) dd_Reader_isDigit_15 rfl rfl rfl rfl ?_
          obtain ⟨s6, k⟩ := k
          refine R_bald (v := (rd h 3 v1)) (n := 1000) dd_Reader_isDigit_16 ia_3 la_3 s6 ((rdw_ne (by decide)).trans ((rdw_ne (by decide)).trans (rdw_ne (by decide)))) rfl ?_
          refine R_bi dd_Reader_isDigit_17 (by decide) rfl ?_
          refine R_icmp dd_Reader_isDigit_19 rfl rfl (fun (c27 : 57 < (rd h 3 v1)) => ?_) (fun (c27 : (rd h 3 v1) ≤ 57) => ?_)
          · replace k := k.1 c27
            refine R_ic dd_Reader_isDigit_26 (by decide) rfl ?_
            refine R_zret dd_Reader_isDigit_27 rfl (by decide) ?_
            change Rn xs xl e mm_Reader_step 100 [some (.inr (.inr 2)), some (.inl v1)] [.inl 0] (wr (wr (wr h 2 4 v1) 2 6 0) 2 7 (-1)) _
            refine R_if dd_Reader_step_100 rfl rfl (fun (c28 : 0 = 0) => ?_) (fun (c28 : 0 ≠ 0) => ?_)
            · skip
              refine R_ld (v := .inr (.inr 2)) dd_Reader_step_110 rfl rfl rfl rfl ?_
              refine R_ld (v := .inl v1) dd_Reader_step_111 rfl rfl rfl rfl ?_
              refine R_ic dd_Reader_step_112 (by decide) rfl ?_
              refine R_iadd (c := v1 + 1) dd_Reader_step_113 (by omega) (by omega) rfl ?_
              refine R_pf (z := (v1 + 1)) dd_Reader_step_114 fd_7_212 io_2 fn_7_5 rfl rfl ?_
              refine R_ld (v := .inr (.inr 2)) dd_Reader_step_117 rfl rfl rfl rfl ?_
              refine R_ld (v := .inr (.inr 2)) dd_Reader_step_118 rfl rfl rfl rfl ?_
              refine R_gf (v := .inr (.inr 3)) dd_Reader_step_119 fd_7_9 io_2 (congrArg (fun z : Int => (Sum.inr (Sum.inr z) : LV)) ((rdw_nei (by omega)).trans ((rdw_nei (by omega)).trans ((rdw_nei (by omega)).trans ((rdw_nei (by omega)).trans (rf_2_1 hF)))))) rfl ?_
              refine R_ld (v := .inl v1) dd_Reader_step_122 rfl rfl rfl rfl ?_
              obtain ⟨s7, k⟩ := k
              refine R_bald (v := (rd h 3 v1)) (n := 1000) dd_Reader_step_123 ia_3 la_3 s7 ((rdw_ne (by decide)).trans ((rdw_ne (by decide)).trans ((rdw_ne (by decide)).trans (rdw_ne (by decide))))) rfl ?_
              refine R_A dd_Reader_step_124 rfl rfl rfl rfl ?_
              refine R_pf (z := (rd h 3 v1)) dd_Reader_step_125 fd_7_174 io_2 fn_7_6 rfl rfl ?_
              refine R_ld (v := .inr (.inr 2)) dd_Reader_step_128 rfl rfl rfl rfl ?_
              refine R_ld (v := .inr (.inr 2)) dd_Reader_step_129 rfl rfl rfl rfl ?_
              refine R_gf (v := .inr (.inr 3)) dd_Reader_step_130 fd_7_9 io_2 (congrArg (fun z : Int => (Sum.inr (Sum.inr z) : LV)) ((rdw_nei (by omega)).trans ((rdw_nei (by omega)).trans ((rdw_nei (by omega)).trans ((rdw_nei (by omega)).trans ((rdw_nei (by omega)).trans (rf_2_1 hF))))))) rfl ?_
              refine R_ld (v := .inl v1) dd_Reader_step_133 rfl rfl rfl rfl ?_
              obtain ⟨s8, k⟩ := k
              refine R_bald (v := (rd h 3 v1)) (n := 1000) dd_Reader_step_134 ia_3 la_3 s8 ((rdw_ne (by decide)).trans ((rdw_ne (by decide)).trans ((rdw_ne (by decide)).trans ((rdw_ne (by decide)).trans (rdw_ne (by decide)))))) rfl ?_
              obtain ⟨c, hc, k⟩ := k
              exact R_call (as := [.inl (rd h 3 v1)]) (rest := [.inr (.inr 2)]) (M' := mm_Reader_isTokenSign) (ls0 := [some (.inl (rd h 3 v1))]) dd_Reader_step_135 rfl rfl (cw_s cw_7_227 rfl rfl (Nat.le_of_ble_eq_true rfl) (Nat.le_of_ble_eq_true rfl)) mt_Reader_isTokenSign rfl hc rfl k
            · exact absurd c28 (by omega)
          · replace k := k.2 c27
            refine R_ic dd_Reader_isDigit_22 (by decide) rfl ?_
            refine R_goto dd_Reader_isDigit_23 rfl ?_
            refine R_zret dd_Reader_isDigit_27 rfl (by decide) ?_
            change Rn xs xl e mm_Reader_step 100 [some (.inr (.inr 2)), some (.inl v1)] [.inl 1] (wr (wr (wr h 2 4 v1) 2 6 0) 2 7 (-1)) _
            refine R_if dd_Reader_step_100 rfl rfl (fun (c29 : 1 = 0) => ?_) (fun (c29 : 1 ≠ 0) => ?_)
            · exact absurd c29 (by omega)
            · skip
              refine R_ld (v := .inr (.inr 2)) dd_Reader_step_103 rfl rfl rfl rfl ?_
              obtain ⟨c, hc, k⟩ := k
              exact R_call (as := [.inr (.inr 2)]) (rest := []) (M' := mm_Reader_scanNumber) (ls0 := [some (.inr (.inr 2)), none]) dd_Reader_step_104 rfl rfl (cw_v cw_7_224 io_2 rfl rfl (Nat.le_of_ble_eq_true rfl) (Nat.le_of_ble_eq_true rfl)) mt_Reader_scanNumber rfl hc rfl k
      · exact absurd c24 (by omega)
    · replace k := k.2 c23
      refine R_ld (v := .inr (.inr 2)) dd_Reader_isLetter_11 rfl rfl rfl rfl ?_
      refine R_gf (v := .inr (.inr 3)) dd_Reader_isLetter_12 fd_7_9 io_2 (congrArg (fun z : Int => (Sum.inr (Sum.inr z) : LV)) ((rdw_nei (by omega)).trans ((rdw_nei (by omega)).trans ((rdw_nei (by omega)).trans (rf_2_1 hF))))) rfl ?_
      refine R_ld (v := .inl v1) dd_Reader_isLetter_15 rfl rfl rfl rfl ?_
      obtain ⟨s11, k⟩ := k
      refine R_bald (v := (rd h 3 v1)) (n := 1000) dd_Reader_isLetter_16 ia_3 la_3 s11 ((rdw_ne (by decide)).trans ((rdw_ne (by decide)).trans (rdw_ne (by decide)))) rfl ?_
      refine R_bi dd_Reader_isLetter_17 (by decide) rfl ?_
      refine R_icmp dd_Reader_isLetter_19 rfl rfl (fun (c30 : 122 < (rd h 3 v1)) => ?_) (fun (c30 : (rd h 3 v1) ≤ 122) => ?_)
      · replace k := k.1 c30
        refine R_ic dd_Reader_isLetter_26 (by decide) rfl ?_
        refine R_zret dd_Reader_isLetter_27 rfl (by decide) ?_
        change Rn xs xl e mm_Reader_step 85 [some (.inr (.inr 2)), some (.inl v1)] [.inl 0] (wr (wr (wr h 2 4 v1) 2 6 0) 2 7 (-1)) _
        refine R_if dd_Reader_step_85 rfl rfl (fun (c31 : 0 = 0) => ?_) (fun (c31 : 0 ≠ 0) => ?_)
        · skip
          refine R_ld (v := .inr (.inr 2)) dd_Reader_step_95 rfl rfl rfl rfl ?_
          refine R_ld (v := .inl v1) dd_Reader_step_96 rfl rfl rfl rfl ?_
          refine R_call (as := [.inr (.inr 2), .inl v1]) (rest := []) (M' := mm_Reader_isDigit) (ls0 := [some (.inr (.inr 2)), some (.inl v1)]) dd_Reader_step_97 rfl rfl (cw_v cw_7_221 io_2 rfl rfl (Nat.le_of_ble_eq_true rfl) (Nat.le_of_ble_eq_true rfl)) mt_Reader_isDigit rfl (c := e - 1) (by omega) rfl ?_
          refine R_ld (v := .inr (.inr 2)) dd_Reader_isDigit_0 rfl rfl rfl rfl ?_
          refine R_gf (v := .inr (.inr 3)) dd_Reader_isDigit_1 fd_7_9 io_2 (congrArg (fun z : Int => (Sum.inr (Sum.inr z) : LV)) ((rdw_nei (by omega)).trans ((rdw_nei (by omega)).trans ((rdw_nei (by omega)).trans (rf_2_1 hF))))) rfl ?_
          refine R_ld (v := .inl v1) dd_Reader_isDigit_4 rfl rfl rfl rfl ?_
          obtain ⟨s12, k⟩ := k
          refine R_bald (v := (rd h 3 v1)) (n := 1000) dd_Reader_isDigit_5 ia_3 la_3 s12 ((rdw_ne (by decide)).trans ((rdw_ne (by decide)).trans (rdw_ne (by decide)))) rfl ?_
          refine R_bi dd_Reader_isDigit_6 (by decide) rfl ?_
          refine R_icmp dd_Reader_isDigit_8 rfl rfl (fun (c32 : (rd h 3 v1) < 48) => ?_) (fun (c32 : 48 ≤ (rd h 3 v1)) => ?_)
          · replace k := k.1 c32
            refine R_ic dd_Reader_isDigit_26 (by decide) rfl ?_
            refine R_zret dd_Reader_isDigit_27 rfl (by decide) ?_
            change Rn xs xl e mm_Reader_step 100 [some (.inr (.inr 2)), some (.inl v1)] [.inl 0] (wr (wr (wr h 2 4 v1) 2 6 0) 2 7 (-1)) _
            refine R_if dd_Reader_step_100 rfl rfl (fun (c33 : 0 = 0) => ?_) (fun (c33 : 0 ≠ 0) => ?_)
            · skip
              refine R_ld (v := .inr (.inr 2)) dd_Reader_step_110 rfl rfl rfl rfl ?_
              refine R_ld (v := .inl v1) dd_Reader_step_111 rfl rfl rfl rfl ?_
              refine R_ic dd_Reader_step_112 (by decide) rfl ?_
              refine R_iadd (c := v1 + 1) dd_Reader_step_113 (by omega) (by omega) rfl ?_
              refine R_pf (z := (v1 + 1)) dd_Reader_step_114 fd_7_212 io_2 fn_7_5 rfl rfl ?_
              refine R_ld (v := .inr (.inr 2)) dd_Reader_step_117 rfl rfl rfl rfl ?_
              refine R_ld (v := .inr (.inr 2)) dd_Reader_step_118 rfl rfl rfl rfl ?_
              refine R_gf (v := .inr (.inr 3)) dd_Reader_step_119 fd_7_9 io_2 (congrArg (fun z : Int => (Sum.inr (Sum.inr z) : LV)) ((rdw_nei (by omega)).trans ((rdw_nei (by omega)).trans ((rdw_nei (by omega)).trans ((rdw_nei (by omega)).trans (rf_2_1 hF)))))) rfl ?_
              refine R_ld (v := .inl v1) dd_Reader_step_122 rfl rfl rfl rfl ?_
              obtain ⟨s13, k⟩ := k
              refine R_bald (v := (rd h 3 v1)) (n := 1000) dd_Reader_step_123 ia_3 la_3 s13 ((rdw_ne (by decide)).trans ((rdw_ne (by decide)).trans ((rdw_ne (by decide)).trans (rdw_ne (by decide))))) rfl ?_
              refine R_A dd_Reader_step_124 rfl rfl rfl rfl ?_
              refine R_pf (z := (rd h 3 v1)) dd_Reader_step_125 fd_7_174 io_2 fn_7_6 rfl rfl ?_
              refine R_ld (v := .inr (.inr 2)) dd_Reader_step_128 rfl rfl rfl rfl ?_
              refine R_ld (v := .inr (.inr 2)) dd_Reader_step_129 rfl rfl rfl rfl ?_
              refine R_gf (v := .inr (.inr 3)) dd_Reader_step_130 fd_7_9 io_2 (congrArg (fun z : Int => (Sum.inr (Sum.inr z) : LV)) ((rdw_nei (by omega)).trans ((rdw_nei (by omega)).trans ((rdw_nei (by omega)).trans ((rdw_nei (by omega)).trans ((rdw_nei (by omega)).trans (rf_2_1 hF))))))) rfl ?_
              refine R_ld (v := .inl v1) dd_Reader_step_133 rfl rfl rfl rfl ?_
              obtain ⟨s14, k⟩ := k
              refine R_bald (v := (rd h 3 v1)) (n := 1000) dd_Reader_step_134 ia_3 la_3 s14 ((rdw_ne (by decide)).trans ((rdw_ne (by decide)).trans ((rdw_ne (by decide)).trans ((rdw_ne (by decide)).trans (rdw_ne (by decide)))))) rfl ?_
              obtain ⟨c, hc, k⟩ := k
              exact R_call (as := [.inl (rd h 3 v1)]) (rest := [.inr (.inr 2)]) (M' := mm_Reader_isTokenSign) (ls0 := [some (.inl (rd h 3 v1))]) dd_Reader_step_135 rfl rfl (cw_s cw_7_227 rfl rfl (Nat.le_of_ble_eq_true rfl) (Nat.le_of_ble_eq_true rfl)) mt_Reader_isTokenSign rfl hc rfl k
            · exact absurd c33 (by omega)
          · replace k := k.2 c32
            refine R_ld (v := .inr (.inr 2)) dd_Reader_isDigit_11 rfl rfl rfl rfl ?_
            refine R_gf (v := .inr (.inr 3)) dd_Reader_isDigit_12 fd_7_9 io_2 (congrArg (fun z : Int => (Sum.inr (Sum.inr z) : LV)) ((rdw_nei (by omega)).trans ((rdw_nei (by omega)).trans ((rdw_nei (by omega)).trans (rf_2_1 hF))))) rfl ?_
            refine R_ld (v := .inl v1) dd_Reader_isDigit_15 rfl rfl rfl rfl ?_
            obtain ⟨s16, k⟩ := k
            refine R_bald (v := (rd h 3 v1)) (n := 1000) dd_Reader_isDigit_16 ia_3 la_3 s16 ((rdw_ne (by decide)).trans ((rdw_ne (by decide)).trans (rdw_ne (by decide)))) rfl ?_
            refine R_bi dd_Reader_isDigit_17 (by decide) rfl ?_
            refine R_icmp dd_Reader_isDigit_19 rfl rfl (fun (c34 : 57 < (rd h 3 v1)) => ?_) (fun (c34 : (rd h 3 v1) ≤ 57) => ?_)
            · replace k := k.1 c34
              refine R_ic dd_Reader_isDigit_26 (by decide) rfl ?_
              refine R_zret dd_Reader_isDigit_27 rfl (by decide) ?_
              change Rn xs xl e mm_Reader_step 100 [some (.inr (.inr 2)), some (.inl v1)] [.inl 0] (wr (wr (wr h 2 4 v1) 2 6 0) 2 7 (-1)) _
              refine R_if dd_Reader_step_100 rfl rfl (fun (c35 : 0 = 0) => ?_) (fun (c35 : 0 ≠ 0) => ?_)
              · skip
                refine R_ld (v := .inr (.inr 2)) dd_Reader_step_110 rfl rfl rfl rfl ?_
                refine R_ld (v := .inl v1) dd_Reader_step_111 rfl rfl rfl rfl ?_
                refine R_ic dd_Reader_step_112 (by decide) rfl ?_
                refine R_iadd (c := v1 + 1) dd_Reader_step_113 (by omega) (by omega) rfl ?_
                refine R_pf (z := (v1 + 1)) dd_Reader_step_114 fd_7_212 io_2 fn_7_5 rfl rfl ?_
                refine R_ld (v := .inr (.inr 2)) dd_Reader_step_117 rfl rfl rfl rfl ?_
                refine R_ld (v := .inr (.inr 2)) dd_Reader_step_118 rfl rfl rfl rfl ?_
                refine R_gf (v := .inr (.inr 3)) dd_Reader_step_119 fd_7_9 io_2 (congrArg (fun z : Int => (Sum.inr (Sum.inr z) : LV)) ((rdw_nei (by omega)).trans ((rdw_nei (by omega)).trans ((rdw_nei (by omega)).trans ((rdw_nei (by omega)).trans (rf_2_1 hF)))))) rfl ?_
                refine R_ld (v := .inl v1) dd_Reader_step_122 rfl rfl rfl rfl ?_
                obtain ⟨s17, k⟩ := k
                refine R_bald (v := (rd h 3 v1)) (n := 1000) dd_Reader_step_123 ia_3 la_3 s17 ((rdw_ne (by decide)).trans ((rdw_ne (by decide)).trans ((rdw_ne (by decide)).trans (rdw_ne (by decide))))) rfl ?_
                refine R_A dd_Reader_step_124 rfl rfl rfl rfl ?_
                refine R_pf (z := (rd h 3 v1)) dd_Reader_step_125 fd_7_174 io_2 fn_7_6 rfl rfl ?_
                refine R_ld (v := .inr (.inr 2)) dd_Reader_step_128 rfl rfl rfl rfl ?_
                refine R_ld (v := .inr (.inr 2)) dd_Reader_step_129 rfl rfl rfl rfl ?_
                refine R_gf (v := .inr (.inr 3)) dd_Reader_step_130 fd_7_9 io_2 (congrArg (fun z : Int => (Sum.inr (Sum.inr z) : LV)) ((rdw_nei (by omega)).trans ((rdw_nei (by omega)).trans ((rdw_nei (by omega)).trans ((rdw_nei (by omega)).trans ((rdw_nei (by omega)).trans (rf_2_1 hF))))))) rfl ?_
                refine R_ld (v := .inl v1) dd_Reader_step_133 rfl rfl rfl rfl ?_
                obtain ⟨s18, k⟩ := k
                refine R_bald (v := (rd h 3 v1)) (n := 1000) dd_Reader_step_134 ia_3 la_3 s18 ((rdw_ne (by decide)).trans ((rdw_ne (by decide)).trans ((rdw_ne (by decide)).trans ((rdw_ne (by decide)).trans (rdw_ne (by decide)))))) rfl ?_
                obtain ⟨c, hc, k⟩ := k
                exact R_call (as := [.inl (rd h 3 v1)]) (rest := [.inr (.inr 2)]) (M' := mm_Reader_isTokenSign) (ls0 := [some (.inl (rd h 3 v1))]) dd_Reader_step_135 rfl rfl (cw_s cw_7_227 rfl rfl (Nat.le_of_ble_eq_true rfl) (Nat.le_of_ble_eq_true rfl)) mt_Reader_isTokenSign rfl hc rfl k
              · exact absurd c35 (by omega)
            · replace k := k.2 c34
              refine R_ic dd_Reader_isDigit_22 (by decide) rfl ?_
              refine R_goto dd_Reader_isDigit_23 rfl ?_
              refine R_zret dd_Reader_isDigit_27 rfl (by decide) ?_
              change Rn xs xl e mm_Reader_step 100 [some (.inr (.inr 2)), some (.inl v1)] [.inl 1] (wr (wr (wr h 2 4 v1) 2 6 0) 2 7 (-1)) _
              refine R_if dd_Reader_step_100 rfl rfl (fun (c36 : 1 = 0) => ?_) (fun (c36 : 1 ≠ 0) => ?_)
              · exact absurd c36 (by omega)
              · skip
                refine R_ld (v := .inr (.inr 2)) dd_Reader_step_103 rfl rfl rfl rfl ?_
                obtain ⟨c, hc, k⟩ := k
                exact R_call (as := [.inr (.inr 2)]) (rest := []) (M' := mm_Reader_scanNumber) (ls0 := [some (.inr (.inr 2)), none]) dd_Reader_step_104 rfl rfl (cw_v cw_7_224 io_2 rfl rfl (Nat.le_of_ble_eq_true rfl) (Nat.le_of_ble_eq_true rfl)) mt_Reader_scanNumber rfl hc rfl k
        · exact absurd c31 (by omega)
      · replace k := k.2 c30
        refine R_ic dd_Reader_isLetter_22 (by decide) rfl ?_
        refine R_goto dd_Reader_isLetter_23 rfl ?_
        refine R_zret dd_Reader_isLetter_27 rfl (by decide) ?_
        change Rn xs xl e mm_Reader_step 85 [some (.inr (.inr 2)), some (.inl v1)] [.inl 1] (wr (wr (wr h 2 4 v1) 2 6 0) 2 7 (-1)) _
        refine R_if dd_Reader_step_85 rfl rfl (fun (c37 : 1 = 0) => ?_) (fun (c37 : 1 ≠ 0) => ?_)
        · exact absurd c37 (by omega)
        · skip
          refine R_ld (v := .inr (.inr 2)) dd_Reader_step_88 rfl rfl rfl rfl ?_
          obtain ⟨c, hc, k⟩ := k
          exact R_call (as := [.inr (.inr 2)]) (rest := []) (M' := mm_Reader_scanWord) (ls0 := [some (.inr (.inr 2)), none, none]) dd_Reader_step_89 rfl rfl (cw_v cw_7_218 io_2 rfl rfl (Nat.le_of_ble_eq_true rfl) (Nat.le_of_ble_eq_true rfl)) mt_Reader_scanWord rfl hc rfl k
  · replace k := k.2 c22
    refine R_ld (v := .inr (.inr 2)) dd_Reader_step_72 rfl rfl rfl rfl ?_
    refine R_ic dd_Reader_step_73 (by decide) rfl ?_
    refine R_pf (z := 0) dd_Reader_step_74 fd_7_64 io_2 fn_7_3 rfl rfl ?_
    refine R_goto dd_Reader_step_77 rfl ?_
    exact R_vret dd_Reader_step_149 rfl k
theorem B_Reader_step_92 {xs : Nat → Int} {xl e : Nat} {h : LH} {Q : Option LV → LH → Prop} {v1 : Int} (hF : RF h)
    (k : Q none h) :
    Rn xs xl e mm_Reader_step 92 [some (.inr (.inr 2)), some (.inl v1)] [] h Q := by
  refine R_goto dd_Reader_step_92 rfl ?_
  exact R_vret dd_Reader_step_149 rfl k
theorem B_Reader_step_107 {xs : Nat → Int} {xl e : Nat} {h : LH} {Q : Option LV → LH → Prop} {v1 : Int} (hF : RF h)
    (k : Q none h) :
    Rn xs xl e mm_Reader_step 107 [some (.inr (.inr 2)), some (.inl v1)] [] h Q := by
  refine R_goto dd_Reader_step_107 rfl ?_
  exact R_vret dd_Reader_step_149 rfl k
theorem B_Reader_scanWord_0 {xs : Nat → Int} {xl e : Nat} {h : LH} {Q : Option LV → LH → Prop} (hF : RF h)
    (k : Rn xs xl e mm_Reader_scanWord 5 [some (.inr (.inr 2)), some (.inl (rd h 2 4)), none] [] h Q) :
    Rn xs xl e mm_Reader_scanWord 0 [some (.inr (.inr 2)), none, none] [] h Q := by
  refine R_ld (v := .inr (.inr 2)) dd_Reader_scanWord_0 rfl rfl rfl rfl ?_
  refine R_gf (v := .inl (rd h 2 4)) dd_Reader_scanWord_1 fd_7_209 io_2 (congrArg (fun z : Int => (Sum.inl z : LV)) (rfl)) rfl ?_
  refine R_st (ls' := [some (.inr (.inr 2)), some (.inl (rd h 2 4)), none]) dd_Reader_scanWord_4 rfl rfl rfl (Nat.le_of_ble_eq_true rfl) rfl rfl ?_
  exact k
theorem B_Reader_scanWord_5 {xs : Nat → Int} {xl e : Nat} {h : LH} {Q : Option LV → LH → Prop} {v1 : Int} (hF : RF h) (r_v1 : 0 ≤ v1 ∧ v1 ≤ 1000) (he : 1 ≤ e)
    (k : ((rd h 2 0) ≤ v1 →
        Rn xs xl e mm_Reader_scanWord 45 [some (.inr (.inr 2)), some (.inl v1), none] [] h Q) ∧
      (v1 < (rd h 2 0) →
        (0 ≤ v1 ∧ v1 < 1000) ∧
        ((rd h 3 v1) < 97 →
          Rn xs xl e mm_Reader_scanWord 45 [some (.inr (.inr 2)), some (.inl v1), none] [] h Q) ∧
        (97 ≤ (rd h 3 v1) →
          (0 ≤ v1 ∧ v1 < 1000) ∧
          (122 < (rd h 3 v1) →
            Rn xs xl e mm_Reader_scanWord 45 [some (.inr (.inr 2)), some (.inl v1), none] [] h Q) ∧
          ((rd h 3 v1) ≤ 122 →
            (0 ≤ v1 ∧ v1 < 1000) ∧
            Rn xs xl e mm_Reader_scanWord 5 [some (.inr (.inr 2)), some (.inl (v1 + 1)), none] [] (wr h 2 6 (w64 ((w64 ((w64 ((w64 ((rd h 2 6) * (32))) + (((Int32.ofInt (rd h 3 v1)).toUInt32 % 65536).toInt32.toInt))) - (97))) + 1))) Q)))) :
    Rn xs xl e mm_Reader_scanWord 5 [some (.inr (.inr 2)), some (.inl v1), none] [] h Q := by
  refine R_ld (v := .inl v1) dd_Reader_scanWord_5 rfl rfl rfl rfl ?_
  refine R_ld (v := .inr (.inr 2)) dd_Reader_scanWord_6 rfl rfl rfl rfl ?_
  refine R_gf (v := .inl (rd h 2 0)) dd_Reader_scanWord_7 fd_7_35 io_2 (congrArg (fun z : Int => (Sum.inl z : LV)) (rfl)) rfl ?_
  refine R_icmp dd_Reader_scanWord_10 rfl rfl (fun (c4 : (rd h 2 0) ≤ v1) => ?_) (fun (c4 : v1 < (rd h 2 0)) => ?_)
  · replace k := k.1 c4
    exact k
  · replace k := k.2 c4
    refine R_ld (v := .inr (.inr 2)) dd_Reader_scanWord_13 rfl rfl rfl rfl ?_
    refine R_ld (v := .inl v1) dd_Reader_scanWord_14 rfl rfl rfl rfl ?_
    refine R_call (as := [.inr (.inr 2), .inl v1]) (rest := []) (M' := mm_Reader_isLetter) (ls0 := [some (.inr (.inr 2)), some (.inl v1)]) dd_Reader_scanWord_15 rfl rfl (cw_v cw_7_215 io_2 rfl rfl (Nat.le_of_ble_eq_true rfl) (Nat.le_of_ble_eq_true rfl)) mt_Reader_isLetter rfl (c := e - 1) (by omega) rfl ?_
    refine R_ld (v := .inr (.inr 2)) dd_Reader_isLetter_0 rfl rfl rfl rfl ?_
    refine R_gf (v := .inr (.inr 3)) dd_Reader_isLetter_1 fd_7_9 io_2 (congrArg (fun z : Int => (Sum.inr (Sum.inr z) : LV)) (rf_2_1 hF)) rfl ?_
    refine R_ld (v := .inl v1) dd_Reader_isLetter_4 rfl rfl rfl rfl ?_
    obtain ⟨s1, k⟩ := k
    refine R_bald (v := (rd h 3 v1)) (n := 1000) dd_Reader_isLetter_5 ia_3 la_3 s1 (rfl) rfl ?_
    refine R_bi dd_Reader_isLetter_6 (by decide) rfl ?_
    refine R_icmp dd_Reader_isLetter_8 rfl rfl (fun (c5 : (rd h 3 v1) < 97) => ?_) (fun (c5 : 97 ≤ (rd h 3 v1)) => ?_)
    · replace k := k.1 c5
      refine R_ic dd_Reader_isLetter_26 (by decide) rfl ?_
      refine R_zret dd_Reader_isLetter_27 rfl (by decide) ?_
      change Rn xs xl e mm_Reader_scanWord 18 [some (.inr (.inr 2)), some (.inl v1), none] [.inl 0] h _
      refine R_if dd_Reader_scanWord_18 rfl rfl (fun (c6 : 0 = 0) => ?_) (fun (c6 : 0 ≠ 0) => ?_)
      · skip
        exact k
      · exact absurd c6 (by omega)
    · replace k := k.2 c5
      refine R_ld (v := .inr (.inr 2)) dd_Reader_isLetter_11 rfl rfl rfl rfl ?_
      refine R_gf (v := .inr (.inr 3)) dd_Reader_isLetter_12 fd_7_9 io_2 (congrArg (fun z : Int => (Sum.inr (Sum.inr z) : LV)) (rf_2_1 hF)) rfl ?_
      refine R_ld (v := .inl v1) dd_Reader_isLetter_15 rfl rfl rfl rfl ?_
      obtain ⟨s2, k⟩ := k
      refine R_bald (v := (rd h 3 v1)) (n := 1000) dd_Reader_isLetter_16 ia_3 la_3 s2 (rfl) rfl ?_
      refine R_bi dd_Reader_isLetter_17 (by decide) rfl ?_
      refine R_icmp dd_Reader_isLetter_19 rfl rfl (fun (c7 : 122 < (rd h 3 v1)) => ?_) (fun (c7 : (rd h 3 v1) ≤ 122) => ?_)
      · replace k := k.1 c7
        refine R_ic dd_Reader_isLetter_26 (by decide) rfl ?_
        refine R_zret dd_Reader_isLetter_27 rfl (by decide) ?_
        change Rn xs xl e mm_Reader_scanWord 18 [some (.inr (.inr 2)), some (.inl v1), none] [.inl 0] h _
        refine R_if dd_Reader_scanWord_18 rfl rfl (fun (c8 : 0 = 0) => ?_) (fun (c8 : 0 ≠ 0) => ?_)
        · skip
          exact k
        · exact absurd c8 (by omega)
      · replace k := k.2 c7
        refine R_ic dd_Reader_isLetter_22 (by decide) rfl ?_
        refine R_goto dd_Reader_isLetter_23 rfl ?_
        refine R_zret dd_Reader_isLetter_27 rfl (by decide) ?_
        change Rn xs xl e mm_Reader_scanWord 18 [some (.inr (.inr 2)), some (.inl v1), none] [.inl 1] h _
        refine R_if dd_Reader_scanWord_18 rfl rfl (fun (c9 : 1 = 0) => ?_) (fun (c9 : 1 ≠ 0) => ?_)
        · exact absurd c9 (by omega)
        · skip
          refine R_ld (v := .inr (.inr 2)) dd_Reader_scanWord_21 rfl rfl rfl rfl ?_
          refine R_ld (v := .inr (.inr 2)) dd_Reader_scanWord_22 rfl rfl rfl rfl ?_
          refine R_gf (v := .inr (.inl (rd h 2 6))) dd_Reader_scanWord_23 fd_7_174 io_2 (congrArg (fun z : Int => (Sum.inr (Sum.inl z) : LV)) (rfl)) rfl ?_
          refine R_ld (v := .inr (.inr 2)) dd_Reader_scanWord_26 rfl rfl rfl rfl ?_
          refine R_gf (v := .inr (.inr 3)) dd_Reader_scanWord_27 fd_7_9 io_2 (congrArg (fun z : Int => (Sum.inr (Sum.inr z) : LV)) (rf_2_1 hF)) rfl ?_
          refine R_ld (v := .inl v1) dd_Reader_scanWord_30 rfl rfl rfl rfl ?_
          obtain ⟨s3, k⟩ := k
          refine R_bald (v := (rd h 3 v1)) (n := 1000) dd_Reader_scanWord_31 ia_3 la_3 s3 (rfl) rfl ?_
          refine R_A dd_Reader_scanWord_32 rfl rfl rfl rfl ?_
          refine R_call (as := [.inr (.inl (rd h 2 6)), .inl (((Int32.ofInt (rd h 3 v1)).toUInt32 % 65536).toInt32.toInt)]) (rest := [.inr (.inr 2)]) (M' := mm_Reader_withLetter) (ls0 := [some (.inr (.inl (rd h 2 6))), none, some (.inl (((Int32.ofInt (rd h 3 v1)).toUInt32 % 65536).toInt32.toInt))]) dd_Reader_scanWord_33 rfl rfl (cw_s cw_7_31 rfl rfl (Nat.le_of_ble_eq_true rfl) (Nat.le_of_ble_eq_true rfl)) mt_Reader_withLetter rfl (c := e - 1) (by omega) rfl ?_
          refine R_ld (v := .inr (.inl (rd h 2 6))) dd_Reader_withLetter_0 rfl rfl rfl rfl ?_
          refine R_C (v := .inr (.inl (32))) dd_Reader_withLetter_1 rfl rfl (by decide +kernel) rfl ?_
          refine R_A dd_Reader_withLetter_4 rfl rfl rfl rfl ?_
          refine R_ld (v := .inl (((Int32.ofInt (rd h 3 v1)).toUInt32 % 65536).toInt32.toInt)) dd_Reader_withLetter_5 rfl rfl rfl rfl ?_
          refine R_A dd_Reader_withLetter_6 rfl rfl rfl rfl ?_
          refine R_A dd_Reader_withLetter_7 rfl rfl rfl rfl ?_
          refine R_C (v := .inr (.inl (97))) dd_Reader_withLetter_8 rfl rfl (by decide +kernel) rfl ?_
          refine R_A dd_Reader_withLetter_11 rfl rfl rfl rfl ?_
          refine R_A dd_Reader_withLetter_12 rfl rfl rfl rfl ?_
          refine R_A dd_Reader_withLetter_13 rfl rfl rfl rfl ?_
          refine R_lret dd_Reader_withLetter_14 rfl ?_
          change Rn xs xl e mm_Reader_scanWord 36 [some (.inr (.inr 2)), some (.inl v1), none] [.inr (.inl (w64 ((w64 ((w64 ((w64 ((rd h 2 6) * (32))) + (((Int32.ofInt (rd h 3 v1)).toUInt32 % 65536).toInt32.toInt))) - (97))) + 1))), .inr (.inr 2)] h _
          refine R_pf (z := (w64 ((w64 ((w64 ((w64 ((rd h 2 6) * (32))) + (((Int32.ofInt (rd h 3 v1)).toUInt32 % 65536).toInt32.toInt))) - (97))) + 1))) dd_Reader_scanWord_36 fd_7_174 io_2 fn_7_6 rfl rfl ?_
          refine R_inc (y := v1 + 1) (ls' := [some (.inr (.inr 2)), some (.inl (v1 + 1)), none]) dd_Reader_scanWord_39 rfl (by decide) (by omega) (by omega) rfl rfl ?_
          refine R_goto dd_Reader_scanWord_42 rfl ?_
          exact k
theorem B_Reader_scanWord_45 {xs : Nat → Int} {xl e : Nat} {h : LH} {Q : Option LV → LH → Prop} {v1 : Int} (hF : RF h) (r_v1 : 0 ≤ v1 ∧ v1 ≤ 1000)
    (k : (-2147483648 ≤ v1 - (rd h 2 4) ∧ v1 - (rd h 2 4) ≤ 2147483647) ∧
      (8 < (v1 - (rd h 2 4)) →
        Rn xs xl e mm_Reader_scanWord 72 [some (.inr (.inr 2)), some (.inl v1), some (.inl 0)] [] (wr (wr h 2 5 v1) 2 3 1) Q) ∧
      ((v1 - (rd h 2 4)) ≤ 8 →
        Rn xs xl e mm_Reader_scanWord 72 [some (.inr (.inr 2)), some (.inl v1), some (.inl 0)] [] (wr (wr h 2 5 v1) 2 3 2) Q)) :
    Rn xs xl e mm_Reader_scanWord 45 [some (.inr (.inr 2)), some (.inl v1), none] [] h Q := by
  refine R_ld (v := .inr (.inr 2)) dd_Reader_scanWord_45 rfl rfl rfl rfl ?_
  refine R_ld (v := .inl v1) dd_Reader_scanWord_46 rfl rfl rfl rfl ?_
  refine R_pf (z := v1) dd_Reader_scanWord_47 fd_7_212 io_2 fn_7_5 rfl rfl ?_
  refine R_ld (v := .inr (.inr 2)) dd_Reader_scanWord_50 rfl rfl rfl rfl ?_
  refine R_ld (v := .inl v1) dd_Reader_scanWord_51 rfl rfl rfl rfl ?_
  refine R_ld (v := .inr (.inr 2)) dd_Reader_scanWord_52 rfl rfl rfl rfl ?_
  refine R_gf (v := .inl (rd h 2 4)) dd_Reader_scanWord_53 fd_7_209 io_2 (congrArg (fun z : Int => (Sum.inl z : LV)) (rdw_nei (by omega))) rfl ?_
  obtain ⟨s1, k⟩ := k
  refine R_isub (c := v1 - (rd h 2 4)) dd_Reader_scanWord_56 (by omega) s1 rfl ?_
  refine R_bi dd_Reader_scanWord_57 (by decide) rfl ?_
  refine R_icmp dd_Reader_scanWord_59 rfl rfl (fun (c2 : 8 < (v1 - (rd h 2 4))) => ?_) (fun (c2 : (v1 - (rd h 2 4)) ≤ 8) => ?_)
  · replace k := k.1 c2
    refine R_ic dd_Reader_scanWord_66 (by decide) rfl ?_
    refine R_pf (z := 1) dd_Reader_scanWord_67 fd_7_64 io_2 fn_7_3 rfl rfl ?_
    refine R_ic dd_Reader_scanWord_70 (by decide) rfl ?_
    refine R_st (ls' := [some (.inr (.inr 2)), some (.inl v1), some (.inl 0)]) dd_Reader_scanWord_71 rfl rfl rfl (Nat.le_of_ble_eq_true rfl) rfl rfl ?_
    exact k
  · replace k := k.2 c2
    refine R_ic dd_Reader_scanWord_62 (by decide) rfl ?_
    refine R_goto dd_Reader_scanWord_63 rfl ?_
    refine R_pf (z := 2) dd_Reader_scanWord_67 fd_7_64 io_2 fn_7_3 rfl rfl ?_
    refine R_ic dd_Reader_scanWord_70 (by decide) rfl ?_
    refine R_st (ls' := [some (.inr (.inr 2)), some (.inl v1), some (.inl 0)]) dd_Reader_scanWord_71 rfl rfl rfl (Nat.le_of_ble_eq_true rfl) rfl rfl ?_
    exact k
theorem B_Reader_scanWord_72 {xs : Nat → Int} {xl e : Nat} {h : LH} {Q : Option LV → LH → Prop} {v1 v2 : Int} (hF : RF h) (r_v2 : 0 ≤ v2 ∧ v2 ≤ 29)
    (k : (29 ≤ v2 →
        Q none h) ∧
      (v2 < 29 →
        ((rd h 2 3) ≠ 2 →
          Q none h) ∧
        ((rd h 2 3) = 2 →
          (0 ≤ v2 ∧ v2 < 29) ∧
          ((lcmp_ (rd h 4 v2) (rd h 2 6)) ≠ 0 →
            Rn xs xl e mm_Reader_scanWord 72 [some (.inr (.inr 2)), some (.inl v1), some (.inl (v2 + 1))] [] h Q) ∧
          ((lcmp_ (rd h 4 v2) (rd h 2 6)) = 0 →
            Rn xs xl e mm_Reader_scanWord 72 [some (.inr (.inr 2)), some (.inl v1), some (.inl (v2 + 1))] [] (wr h 2 7 v2) Q)))) :
    Rn xs xl e mm_Reader_scanWord 72 [some (.inr (.inr 2)), some (.inl v1), some (.inl v2)] [] h Q := by
  refine R_ld (v := .inl v2) dd_Reader_scanWord_72 rfl rfl rfl rfl ?_
  refine R_bi dd_Reader_scanWord_73 (by decide) rfl ?_
  refine R_icmp dd_Reader_scanWord_75 rfl rfl (fun (c2 : 29 ≤ v2) => ?_) (fun (c2 : v2 < 29) => ?_)
  · replace k := k.1 c2
    exact R_vret dd_Reader_scanWord_111 rfl k
  · replace k := k.2 c2
    refine R_ld (v := .inr (.inr 2)) dd_Reader_scanWord_78 rfl rfl rfl rfl ?_
    refine R_gf (v := .inl (rd h 2 3)) dd_Reader_scanWord_79 fd_7_64 io_2 (congrArg (fun z : Int => (Sum.inl z : LV)) (rfl)) rfl ?_
    refine R_ic dd_Reader_scanWord_82 (by decide) rfl ?_
    refine R_icmp dd_Reader_scanWord_83 rfl rfl (fun (c3 : (rd h 2 3) ≠ 2) => ?_) (fun (c3 : (rd h 2 3) = 2) => ?_)
    · replace k := k.1 c3
      exact R_vret dd_Reader_scanWord_111 rfl k
    · replace k := k.2 c3
      refine R_ld (v := .inr (.inr 2)) dd_Reader_scanWord_86 rfl rfl rfl rfl ?_
      refine R_gf (v := .inr (.inr 4)) dd_Reader_scanWord_87 fd_7_15 io_2 (congrArg (fun z : Int => (Sum.inr (Sum.inr z) : LV)) (rf_2_2 hF)) rfl ?_
      refine R_ld (v := .inl v2) dd_Reader_scanWord_90 rfl rfl rfl rfl ?_
      obtain ⟨s1, k⟩ := k
      refine R_lald (v := (rd h 4 v2)) (n := 29) dd_Reader_scanWord_91 ia_4 la_4 s1 (rfl) rfl ?_
      refine R_ld (v := .inr (.inr 2)) dd_Reader_scanWord_92 rfl rfl rfl rfl ?_
      refine R_gf (v := .inr (.inl (rd h 2 6))) dd_Reader_scanWord_93 fd_7_174 io_2 (congrArg (fun z : Int => (Sum.inr (Sum.inl z) : LV)) (rfl)) rfl ?_
      refine R_A dd_Reader_scanWord_96 rfl rfl rfl rfl ?_
      refine R_if dd_Reader_scanWord_97 rfl rfl (fun (c4 : (lcmp_ (rd h 4 v2) (rd h 2 6)) ≠ 0) => ?_) (fun (c4 : (lcmp_ (rd h 4 v2) (rd h 2 6)) = 0) => ?_)
      · replace k := k.1 c4
        refine R_inc (y := v2 + 1) (ls' := [some (.inr (.inr 2)), some (.inl v1), some (.inl (v2 + 1))]) dd_Reader_scanWord_105 rfl (by decide) (by omega) (by omega) rfl rfl ?_
        refine R_goto dd_Reader_scanWord_108 rfl ?_
        exact k
      · replace k := k.2 c4
        refine R_ld (v := .inr (.inr 2)) dd_Reader_scanWord_100 rfl rfl rfl rfl ?_
        refine R_ld (v := .inl v2) dd_Reader_scanWord_101 rfl rfl rfl rfl ?_
        refine R_pf (z := v2) dd_Reader_scanWord_102 fd_7_67 io_2 fn_7_7 rfl rfl ?_
        refine R_inc (y := v2 + 1) (ls' := [some (.inr (.inr 2)), some (.inl v1), some (.inl (v2 + 1))]) dd_Reader_scanWord_105 rfl (by decide) (by omega) (by omega) rfl rfl ?_
        refine R_goto dd_Reader_scanWord_108 rfl ?_
        exact k
theorem B_Reader_scanNumber_0 {xs : Nat → Int} {xl e : Nat} {h : LH} {Q : Option LV → LH → Prop} (hF : RF h)
    (k : Rn xs xl e mm_Reader_scanNumber 5 [some (.inr (.inr 2)), some (.inl (rd h 2 4))] [] h Q) :
    Rn xs xl e mm_Reader_scanNumber 0 [some (.inr (.inr 2)), none] [] h Q := by
  refine R_ld (v := .inr (.inr 2)) dd_Reader_scanNumber_0 rfl rfl rfl rfl ?_
  refine R_gf (v := .inl (rd h 2 4)) dd_Reader_scanNumber_1 fd_7_209 io_2 (congrArg (fun z : Int => (Sum.inl z : LV)) (rfl)) rfl ?_
  refine R_st (ls' := [some (.inr (.inr 2)), some (.inl (rd h 2 4))]) dd_Reader_scanNumber_4 rfl rfl rfl (Nat.le_of_ble_eq_true rfl) rfl rfl ?_
  exact k
theorem B_Reader_scanNumber_5 {xs : Nat → Int} {xl e : Nat} {h : LH} {Q : Option LV → LH → Prop} {v1 : Int} (hF : RF h) (r_v1 : 0 ≤ v1 ∧ v1 ≤ 1000) (he : 1 ≤ e)
    (k : ((rd h 2 0) ≤ v1 →
        Rn xs xl e mm_Reader_scanNumber 51 [some (.inr (.inr 2)), some (.inl v1)] [] h Q) ∧
      (v1 < (rd h 2 0) →
        (0 ≤ v1 ∧ v1 < 1000) ∧
        ((rd h 3 v1) < 48 →
          Rn xs xl e mm_Reader_scanNumber 51 [some (.inr (.inr 2)), some (.inl v1)] [] h Q) ∧
        (48 ≤ (rd h 3 v1) →
          (0 ≤ v1 ∧ v1 < 1000) ∧
          (57 < (rd h 3 v1) →
            Rn xs xl e mm_Reader_scanNumber 51 [some (.inr (.inr 2)), some (.inl v1)] [] h Q) ∧
          ((rd h 3 v1) ≤ 57 →
            (0 ≤ v1 ∧ v1 < 1000) ∧
            Rn xs xl e mm_Reader_scanNumber 5 [some (.inr (.inr 2)), some (.inl (v1 + 1))] [] (wr h 2 6 (w64 ((w64 ((w64 ((rd h 2 6) * (10))) + (rd h 3 v1))) - (48)))) Q)))) :
    Rn xs xl e mm_Reader_scanNumber 5 [some (.inr (.inr 2)), some (.inl v1)] [] h Q := by
  refine R_ld (v := .inl v1) dd_Reader_scanNumber_5 rfl rfl rfl rfl ?_
  refine R_ld (v := .inr (.inr 2)) dd_Reader_scanNumber_6 rfl rfl rfl rfl ?_
  refine R_gf (v := .inl (rd h 2 0)) dd_Reader_scanNumber_7 fd_7_35 io_2 (congrArg (fun z : Int => (Sum.inl z : LV)) (rfl)) rfl ?_
  refine R_icmp dd_Reader_scanNumber_10 rfl rfl (fun (c4 : (rd h 2 0) ≤ v1) => ?_) (fun (c4 : v1 < (rd h 2 0)) => ?_)
  · replace k := k.1 c4
    exact k
  · replace k := k.2 c4
    refine R_ld (v := .inr (.inr 2)) dd_Reader_scanNumber_13 rfl rfl rfl rfl ?_
    refine R_ld (v := .inl v1) dd_Reader_scanNumber_14 rfl rfl rfl rfl ?_
    refine R_call (as := [.inr (.inr 2), .inl v1]) (rest := []) (M' := mm_Reader_isDigit) (ls0 := [some (.inr (.inr 2)), some (.inl v1)]) dd_Reader_scanNumber_15 rfl rfl (cw_v cw_7_221 io_2 rfl rfl (Nat.le_of_ble_eq_true rfl) (Nat.le_of_ble_eq_true rfl)) mt_Reader_isDigit rfl (c := e - 1) (by omega) rfl ?_
    refine R_ld (v := .inr (.inr 2)) dd_Reader_isDigit_0 rfl rfl rfl rfl ?_
    refine R_gf (v := .inr (.inr 3)) dd_Reader_isDigit_1 fd_7_9 io_2 (congrArg (fun z : Int => (Sum.inr (Sum.inr z) : LV)) (rf_2_1 hF)) rfl ?_
    refine R_ld (v := .inl v1) dd_Reader_isDigit_4 rfl rfl rfl rfl ?_
    obtain ⟨s1, k⟩ := k
    refine R_bald (v := (rd h 3 v1)) (n := 1000) dd_Reader_isDigit_5 ia_3 la_3 s1 (rfl) rfl ?_
    refine R_bi dd_Reader_isDigit_6 (by decide) rfl ?_
    refine R_icmp dd_Reader_isDigit_8 rfl rfl (fun (c5 : (rd h 3 v1) < 48) => ?_) (fun (c5 : 48 ≤ (rd h 3 v1)) => ?_)
    · replace k := k.1 c5
      refine R_ic dd_Reader_isDigit_26 (by decide) rfl ?_
      refine R_zret dd_Reader_isDigit_27 rfl (by decide) ?_
      change Rn xs xl e mm_Reader_scanNumber 18 [some (.inr (.inr 2)), some (.inl v1)] [.inl 0] h _
      refine R_if dd_Reader_scanNumber_18 rfl rfl (fun (c6 : 0 = 0) => ?_) (fun (c6 : 0 ≠ 0) => ?_)
      · skip
        exact k
      · exact absurd c6 (by omega)
    · replace k := k.2 c5
      refine R_ld (v := .inr (.inr 2)) dd_Reader_isDigit_11 rfl rfl rfl rfl ?_
      refine R_gf (v := .inr (.inr 3)) dd_Reader_isDigit_12 fd_7_9 io_2 (congrArg (fun z : Int => (Sum.inr (Sum.inr z) : LV)) (rf_2_1 hF)) rfl ?_
      refine R_ld (v := .inl v1) dd_Reader_isDigit_15 rfl rfl rfl rfl ?_
      obtain ⟨s2, k⟩ := k
      refine R_bald (v := (rd h 3 v1)) (n := 1000) dd_Reader_isDigit_16 ia_3 la_3 s2 (rfl) rfl ?_
      refine R_bi dd_Reader_isDigit_17 (by decide) rfl ?_
      refine R_icmp dd_Reader_isDigit_19 rfl rfl (fun (c7 : 57 < (rd h 3 v1)) => ?_) (fun (c7 : (rd h 3 v1) ≤ 57) => ?_)
      · replace k := k.1 c7
        refine R_ic dd_Reader_isDigit_26 (by decide) rfl ?_
        refine R_zret dd_Reader_isDigit_27 rfl (by decide) ?_
        change Rn xs xl e mm_Reader_scanNumber 18 [some (.inr (.inr 2)), some (.inl v1)] [.inl 0] h _
        refine R_if dd_Reader_scanNumber_18 rfl rfl (fun (c8 : 0 = 0) => ?_) (fun (c8 : 0 ≠ 0) => ?_)
        · skip
          exact k
        · exact absurd c8 (by omega)
      · replace k := k.2 c7
        refine R_ic dd_Reader_isDigit_22 (by decide) rfl ?_
        refine R_goto dd_Reader_isDigit_23 rfl ?_
        refine R_zret dd_Reader_isDigit_27 rfl (by decide) ?_
        change Rn xs xl e mm_Reader_scanNumber 18 [some (.inr (.inr 2)), some (.inl v1)] [.inl 1] h _
        refine R_if dd_Reader_scanNumber_18 rfl rfl (fun (c9 : 1 = 0) => ?_) (fun (c9 : 1 ≠ 0) => ?_)
        · exact absurd c9 (by omega)
        · skip
          refine R_ld (v := .inr (.inr 2)) dd_Reader_scanNumber_21 rfl rfl rfl rfl ?_
          refine R_ld (v := .inr (.inr 2)) dd_Reader_scanNumber_22 rfl rfl rfl rfl ?_
          refine R_gf (v := .inr (.inl (rd h 2 6))) dd_Reader_scanNumber_23 fd_7_174 io_2 (congrArg (fun z : Int => (Sum.inr (Sum.inl z) : LV)) (rfl)) rfl ?_
          refine R_C (v := .inr (.inl (10))) dd_Reader_scanNumber_26 rfl rfl (by decide +kernel) rfl ?_
          refine R_A dd_Reader_scanNumber_29 rfl rfl rfl rfl ?_
          refine R_ld (v := .inr (.inr 2)) dd_Reader_scanNumber_30 rfl rfl rfl rfl ?_
          refine R_gf (v := .inr (.inr 3)) dd_Reader_scanNumber_31 fd_7_9 io_2 (congrArg (fun z : Int => (Sum.inr (Sum.inr z) : LV)) (rf_2_1 hF)) rfl ?_
          refine R_ld (v := .inl v1) dd_Reader_scanNumber_34 rfl rfl rfl rfl ?_
          obtain ⟨s3, k⟩ := k
          refine R_bald (v := (rd h 3 v1)) (n := 1000) dd_Reader_scanNumber_35 ia_3 la_3 s3 (rfl) rfl ?_
          refine R_A dd_Reader_scanNumber_36 rfl rfl rfl rfl ?_
          refine R_A dd_Reader_scanNumber_37 rfl rfl rfl rfl ?_
          refine R_C (v := .inr (.inl (48))) dd_Reader_scanNumber_38 rfl rfl (by decide +kernel) rfl ?_
          refine R_A dd_Reader_scanNumber_41 rfl rfl rfl rfl ?_
          refine R_pf (z := (w64 ((w64 ((w64 ((rd h 2 6) * (10))) + (rd h 3 v1))) - (48)))) dd_Reader_scanNumber_42 fd_7_174 io_2 fn_7_6 rfl rfl ?_
          refine R_inc (y := v1 + 1) (ls' := [some (.inr (.inr 2)), some (.inl (v1 + 1))]) dd_Reader_scanNumber_45 rfl (by decide) (by omega) (by omega) rfl rfl ?_
          refine R_goto dd_Reader_scanNumber_48 rfl ?_
          exact k
theorem B_Reader_scanNumber_51 {xs : Nat → Int} {xl e : Nat} {h : LH} {Q : Option LV → LH → Prop} {v1 : Int} (hF : RF h) (r_v1 : 0 ≤ v1 ∧ v1 ≤ 1000)
    (k : (-2147483648 ≤ v1 - (rd h 2 4) ∧ v1 - (rd h 2 4) ≤ 2147483647) ∧
      (4 < (v1 - (rd h 2 4)) →
        Q none (wr (wr h 2 5 v1) 2 3 1)) ∧
      ((v1 - (rd h 2 4)) ≤ 4 →
        Q none (wr (wr h 2 5 v1) 2 3 3))) :
    Rn xs xl e mm_Reader_scanNumber 51 [some (.inr (.inr 2)), some (.inl v1)] [] h Q := by
  refine R_ld (v := .inr (.inr 2)) dd_Reader_scanNumber_51 rfl rfl rfl rfl ?_
  refine R_ld (v := .inl v1) dd_Reader_scanNumber_52 rfl rfl rfl rfl ?_
  refine R_pf (z := v1) dd_Reader_scanNumber_53 fd_7_212 io_2 fn_7_5 rfl rfl ?_
  refine R_ld (v := .inr (.inr 2)) dd_Reader_scanNumber_56 rfl rfl rfl rfl ?_
  refine R_ld (v := .inl v1) dd_Reader_scanNumber_57 rfl rfl rfl rfl ?_
  refine R_ld (v := .inr (.inr 2)) dd_Reader_scanNumber_58 rfl rfl rfl rfl ?_
  refine R_gf (v := .inl (rd h 2 4)) dd_Reader_scanNumber_59 fd_7_209 io_2 (congrArg (fun z : Int => (Sum.inl z : LV)) (rdw_nei (by omega))) rfl ?_
  obtain ⟨s1, k⟩ := k
  refine R_isub (c := v1 - (rd h 2 4)) dd_Reader_scanNumber_62 (by omega) s1 rfl ?_
  refine R_ic dd_Reader_scanNumber_63 (by decide) rfl ?_
  refine R_icmp dd_Reader_scanNumber_64 rfl rfl (fun (c2 : 4 < (v1 - (rd h 2 4))) => ?_) (fun (c2 : (v1 - (rd h 2 4)) ≤ 4) => ?_)
  · replace k := k.1 c2
    refine R_ic dd_Reader_scanNumber_71 (by decide) rfl ?_
    refine R_pf (z := 1) dd_Reader_scanNumber_72 fd_7_64 io_2 fn_7_3 rfl rfl ?_
    exact R_vret dd_Reader_scanNumber_75 rfl k
  · replace k := k.2 c2
    refine R_ic dd_Reader_scanNumber_67 (by decide) rfl ?_
    refine R_goto dd_Reader_scanNumber_68 rfl ?_
    refine R_pf (z := 3) dd_Reader_scanNumber_72 fd_7_64 io_2 fn_7_3 rfl rfl ?_
    exact R_vret dd_Reader_scanNumber_75 rfl k
theorem B_Reader_begin_0 {xs : Nat → Int} {xl e : Nat} {h : LH} {Q : Option LV → LH → Prop} (hF : RF h)
    (k : (∃ c, c < e ∧ Rn xs xl c mm_Reader_step 0 [some (.inr (.inr 2)), none] [] (wr (wr h 2 8 0) 2 5 0) (fun r h' => Rn xs xl e mm_Reader_begin 14 [some (.inr (.inr 2))] (r.toList ++ []) h' Q))) :
    Rn xs xl e mm_Reader_begin 0 [some (.inr (.inr 2))] [] h Q := by
  refine R_ld (v := .inr (.inr 2)) dd_Reader_begin_0 rfl rfl rfl rfl ?_
  refine R_ic dd_Reader_begin_1 (by decide) rfl ?_
  refine R_pf (z := 0) dd_Reader_begin_2 fd_7_61 io_2 fn_7_8 rfl rfl ?_
  refine R_ld (v := .inr (.inr 2)) dd_Reader_begin_5 rfl rfl rfl rfl ?_
  refine R_ic dd_Reader_begin_6 (by decide) rfl ?_
  refine R_pf (z := 0) dd_Reader_begin_7 fd_7_212 io_2 fn_7_5 rfl rfl ?_
  refine R_ld (v := .inr (.inr 2)) dd_Reader_begin_10 rfl rfl rfl rfl ?_
  obtain ⟨c, hc, k⟩ := k
  exact R_call (as := [.inr (.inr 2)]) (rest := []) (M' := mm_Reader_step) (ls0 := [some (.inr (.inr 2)), none]) dd_Reader_begin_11 rfl rfl (cw_v cw_7_99 io_2 rfl rfl (Nat.le_of_ble_eq_true rfl) (Nat.le_of_ble_eq_true rfl)) mt_Reader_step rfl hc rfl k
theorem B_Reader_begin_14 {xs : Nat → Int} {xl e : Nat} {h : LH} {Q : Option LV → LH → Prop} (hF : RF h)
    (k : Q none h) :
    Rn xs xl e mm_Reader_begin 14 [some (.inr (.inr 2))] [] h Q := by
  exact R_vret dd_Reader_begin_14 rfl k
theorem B_Reader_step_138 {xs : Nat → Int} {xl e : Nat} {h : LH} {Q : Option LV → LH → Prop} {v1 w1 : Int} (hF : RF h)
    (k : (w1 = 0 →
        Q none (wr h 2 3 1)) ∧
      (w1 ≠ 0 →
        Q none (wr h 2 3 4))) :
    Rn xs xl e mm_Reader_step 138 [some (.inr (.inr 2)), some (.inl v1)] [.inl w1, .inr (.inr 2)] h Q := by
  refine R_if dd_Reader_step_138 rfl rfl (fun (c1 : w1 = 0) => ?_) (fun (c1 : w1 ≠ 0) => ?_)
  · replace k := k.1 c1
    refine R_ic dd_Reader_step_145 (by decide) rfl ?_
    refine R_pf (z := 1) dd_Reader_step_146 fd_7_64 io_2 fn_7_3 rfl rfl ?_
    exact R_vret dd_Reader_step_149 rfl k
  · replace k := k.2 c1
    refine R_ic dd_Reader_step_141 (by decide) rfl ?_
    refine R_goto dd_Reader_step_142 rfl ?_
    refine R_pf (z := 4) dd_Reader_step_146 fd_7_64 io_2 fn_7_3 rfl rfl ?_
    exact R_vret dd_Reader_step_149 rfl k
theorem B_Reader_isTokenSign_0 {xs : Nat → Int} {xl e : Nat} {h : LH} {Q : Option LV → LH → Prop} {v0 : Int} (hF : RF h)
    (k : (v0 = 40 →
        Q (some (.inl 1)) h) ∧
      (v0 ≠ 40 →
        (v0 = 41 →
          Q (some (.inl 1)) h) ∧
        (v0 ≠ 41 →
          (v0 = 60 →
            Q (some (.inl 1)) h) ∧
          (v0 ≠ 60 →
            (v0 = 61 →
              Q (some (.inl 1)) h) ∧
            (v0 ≠ 61 →
              (v0 = 43 →
                Q (some (.inl 1)) h) ∧
              (v0 ≠ 43 →
                (v0 = 45 →
                  Q (some (.inl 1)) h) ∧
                (v0 ≠ 45 →
                  (v0 = 42 →
                    Q (some (.inl 1)) h) ∧
                  (v0 ≠ 42 →
                    (v0 ≠ 59 →
                      Q (some (.inl 0)) h) ∧
                    (v0 = 59 →
                      Q (some (.inl 1)) h))))))))) :
    Rn xs xl e mm_Reader_isTokenSign 0 [some (.inl v0)] [] h Q := by
  refine R_ld (v := .inl v0) dd_Reader_isTokenSign_0 rfl rfl rfl rfl ?_
  refine R_bi dd_Reader_isTokenSign_1 (by decide) rfl ?_
  refine R_icmp dd_Reader_isTokenSign_3 rfl rfl (fun (c1 : v0 = 40) => ?_) (fun (c1 : v0 ≠ 40) => ?_)
  · replace k := k.1 c1
    refine R_ic dd_Reader_isTokenSign_48 (by decide) rfl ?_
    refine R_goto dd_Reader_isTokenSign_49 rfl ?_
    exact R_zret dd_Reader_isTokenSign_53 rfl (by decide) k
  · replace k := k.2 c1
    refine R_ld (v := .inl v0) dd_Reader_isTokenSign_6 rfl rfl rfl rfl ?_
    refine R_bi dd_Reader_isTokenSign_7 (by decide) rfl ?_
    refine R_icmp dd_Reader_isTokenSign_9 rfl rfl (fun (c2 : v0 = 41) => ?_) (fun (c2 : v0 ≠ 41) => ?_)
    · replace k := k.1 c2
      refine R_ic dd_Reader_isTokenSign_48 (by decide) rfl ?_
      refine R_goto dd_Reader_isTokenSign_49 rfl ?_
      exact R_zret dd_Reader_isTokenSign_53 rfl (by decide) k
    · replace k := k.2 c2
      refine R_ld (v := .inl v0) dd_Reader_isTokenSign_12 rfl rfl rfl rfl ?_
      refine R_bi dd_Reader_isTokenSign_13 (by decide) rfl ?_
      refine R_icmp dd_Reader_isTokenSign_15 rfl rfl (fun (c3 : v0 = 60) => ?_) (fun (c3 : v0 ≠ 60) => ?_)
      · replace k := k.1 c3
        refine R_ic dd_Reader_isTokenSign_48 (by decide) rfl ?_
        refine R_goto dd_Reader_isTokenSign_49 rfl ?_
        exact R_zret dd_Reader_isTokenSign_53 rfl (by decide) k
      · replace k := k.2 c3
        refine R_ld (v := .inl v0) dd_Reader_isTokenSign_18 rfl rfl rfl rfl ?_
        refine R_bi dd_Reader_isTokenSign_19 (by decide) rfl ?_
        refine R_icmp dd_Reader_isTokenSign_21 rfl rfl (fun (c4 : v0 = 61) => ?_) (fun (c4 : v0 ≠ 61) => ?_)
        · replace k := k.1 c4
          refine R_ic dd_Reader_isTokenSign_48 (by decide) rfl ?_
          refine R_goto dd_Reader_isTokenSign_49 rfl ?_
          exact R_zret dd_Reader_isTokenSign_53 rfl (by decide) k
        · replace k := k.2 c4
          refine R_ld (v := .inl v0) dd_Reader_isTokenSign_24 rfl rfl rfl rfl ?_
          refine R_bi dd_Reader_isTokenSign_25 (by decide) rfl ?_
          refine R_icmp dd_Reader_isTokenSign_27 rfl rfl (fun (c5 : v0 = 43) => ?_) (fun (c5 : v0 ≠ 43) => ?_)
          · replace k := k.1 c5
            refine R_ic dd_Reader_isTokenSign_48 (by decide) rfl ?_
            refine R_goto dd_Reader_isTokenSign_49 rfl ?_
            exact R_zret dd_Reader_isTokenSign_53 rfl (by decide) k
          · replace k := k.2 c5
            refine R_ld (v := .inl v0) dd_Reader_isTokenSign_30 rfl rfl rfl rfl ?_
            refine R_bi dd_Reader_isTokenSign_31 (by decide) rfl ?_
            refine R_icmp dd_Reader_isTokenSign_33 rfl rfl (fun (c6 : v0 = 45) => ?_) (fun (c6 : v0 ≠ 45) => ?_)
            · replace k := k.1 c6
              refine R_ic dd_Reader_isTokenSign_48 (by decide) rfl ?_
              refine R_goto dd_Reader_isTokenSign_49 rfl ?_
              exact R_zret dd_Reader_isTokenSign_53 rfl (by decide) k
            · replace k := k.2 c6
              refine R_ld (v := .inl v0) dd_Reader_isTokenSign_36 rfl rfl rfl rfl ?_
              refine R_bi dd_Reader_isTokenSign_37 (by decide) rfl ?_
              refine R_icmp dd_Reader_isTokenSign_39 rfl rfl (fun (c7 : v0 = 42) => ?_) (fun (c7 : v0 ≠ 42) => ?_)
              · replace k := k.1 c7
                refine R_ic dd_Reader_isTokenSign_48 (by decide) rfl ?_
                refine R_goto dd_Reader_isTokenSign_49 rfl ?_
                exact R_zret dd_Reader_isTokenSign_53 rfl (by decide) k
              · replace k := k.2 c7
                refine R_ld (v := .inl v0) dd_Reader_isTokenSign_42 rfl rfl rfl rfl ?_
                refine R_bi dd_Reader_isTokenSign_43 (by decide) rfl ?_
                refine R_icmp dd_Reader_isTokenSign_45 rfl rfl (fun (c8 : v0 ≠ 59) => ?_) (fun (c8 : v0 = 59) => ?_)
                · replace k := k.1 c8
                  refine R_ic dd_Reader_isTokenSign_52 (by decide) rfl ?_
                  exact R_zret dd_Reader_isTokenSign_53 rfl (by decide) k
                · replace k := k.2 c8
                  refine R_ic dd_Reader_isTokenSign_48 (by decide) rfl ?_
                  refine R_goto dd_Reader_isTokenSign_49 rfl ?_
                  exact R_zret dd_Reader_isTokenSign_53 rfl (by decide) k
theorem B_Reader_isName_0 {xs : Nat → Int} {xl e : Nat} {h : LH} {Q : Option LV → LH → Prop} (hF : RF h)
    (k : ((rd h 2 3) ≠ 2 →
        Q (some (.inl 0)) h) ∧
      ((rd h 2 3) = 2 →
        ((rd h 2 7) = (-1) →
          Q (some (.inl 1)) h) ∧
        ((rd h 2 7) ≠ (-1) →
          ((rd h 2 7) < 25 →
            Q (some (.inl 0)) h) ∧
          (25 ≤ (rd h 2 7) →
            Q (some (.inl 1)) h)))) :
    Rn xs xl e mm_Reader_isName 0 [some (.inr (.inr 2))] [] h Q := by
  refine R_ld (v := .inr (.inr 2)) dd_Reader_isName_0 rfl rfl rfl rfl ?_
  refine R_gf (v := .inl (rd h 2 3)) dd_Reader_isName_1 fd_7_64 io_2 (congrArg (fun z : Int => (Sum.inl z : LV)) (rfl)) rfl ?_
  refine R_ic dd_Reader_isName_4 (by decide) rfl ?_
  refine R_icmp dd_Reader_isName_5 rfl rfl (fun (c1 : (rd h 2 3) ≠ 2) => ?_) (fun (c1 : (rd h 2 3) = 2) => ?_)
  · replace k := k.1 c1
    refine R_ic dd_Reader_isName_29 (by decide) rfl ?_
    exact R_zret dd_Reader_isName_30 rfl (by decide) k
  · replace k := k.2 c1
    refine R_ld (v := .inr (.inr 2)) dd_Reader_isName_8 rfl rfl rfl rfl ?_
    refine R_gf (v := .inl (rd h 2 7)) dd_Reader_isName_9 fd_7_67 io_2 (congrArg (fun z : Int => (Sum.inl z : LV)) (rfl)) rfl ?_
    refine R_ic dd_Reader_isName_12 (by decide) rfl ?_
    refine R_icmp dd_Reader_isName_13 rfl rfl (fun (c2 : (rd h 2 7) = (-1)) => ?_) (fun (c2 : (rd h 2 7) ≠ (-1)) => ?_)
    · replace k := k.1 c2
      refine R_ic dd_Reader_isName_25 (by decide) rfl ?_
      refine R_goto dd_Reader_isName_26 rfl ?_
      exact R_zret dd_Reader_isName_30 rfl (by decide) k
    · replace k := k.2 c2
      refine R_ld (v := .inr (.inr 2)) dd_Reader_isName_16 rfl rfl rfl rfl ?_
      refine R_gf (v := .inl (rd h 2 7)) dd_Reader_isName_17 fd_7_67 io_2 (congrArg (fun z : Int => (Sum.inl z : LV)) (rfl)) rfl ?_
      refine R_bi dd_Reader_isName_20 (by decide) rfl ?_
      refine R_icmp dd_Reader_isName_22 rfl rfl (fun (c3 : (rd h 2 7) < 25) => ?_) (fun (c3 : 25 ≤ (rd h 2 7)) => ?_)
      · replace k := k.1 c3
        refine R_ic dd_Reader_isName_29 (by decide) rfl ?_
        exact R_zret dd_Reader_isName_30 rfl (by decide) k
      · replace k := k.2 c3
        refine R_ic dd_Reader_isName_25 (by decide) rfl ?_
        refine R_goto dd_Reader_isName_26 rfl ?_
        exact R_zret dd_Reader_isName_30 rfl (by decide) k
theorem B_Reader_isSign_0 {xs : Nat → Int} {xl e : Nat} {h : LH} {Q : Option LV → LH → Prop} {v1 : Int} (hF : RF h)
    (k : ((rd h 2 3) ≠ 4 →
        Q (some (.inl 0)) h) ∧
      ((rd h 2 3) = 4 →
        ((lcmp_ (rd h 2 6) v1) ≠ 0 →
          Q (some (.inl 0)) h) ∧
        ((lcmp_ (rd h 2 6) v1) = 0 →
          Q (some (.inl 1)) h))) :
    Rn xs xl e mm_Reader_isSign 0 [some (.inr (.inr 2)), some (.inl v1)] [] h Q := by
  refine R_ld (v := .inr (.inr 2)) dd_Reader_isSign_0 rfl rfl rfl rfl ?_
  refine R_gf (v := .inl (rd h 2 3)) dd_Reader_isSign_1 fd_7_64 io_2 (congrArg (fun z : Int => (Sum.inl z : LV)) (rfl)) rfl ?_
  refine R_ic dd_Reader_isSign_4 (by decide) rfl ?_
  refine R_icmp dd_Reader_isSign_5 rfl rfl (fun (c1 : (rd h 2 3) ≠ 4) => ?_) (fun (c1 : (rd h 2 3) = 4) => ?_)
  · replace k := k.1 c1
    refine R_ic dd_Reader_isSign_22 (by decide) rfl ?_
    exact R_zret dd_Reader_isSign_23 rfl (by decide) k
  · replace k := k.2 c1
    refine R_ld (v := .inr (.inr 2)) dd_Reader_isSign_8 rfl rfl rfl rfl ?_
    refine R_gf (v := .inr (.inl (rd h 2 6))) dd_Reader_isSign_9 fd_7_174 io_2 (congrArg (fun z : Int => (Sum.inr (Sum.inl z) : LV)) (rfl)) rfl ?_
    refine R_ld (v := .inl v1) dd_Reader_isSign_12 rfl rfl rfl rfl ?_
    refine R_A dd_Reader_isSign_13 rfl rfl rfl rfl ?_
    refine R_A dd_Reader_isSign_14 rfl rfl rfl rfl ?_
    refine R_if dd_Reader_isSign_15 rfl rfl (fun (c2 : (lcmp_ (rd h 2 6) v1) ≠ 0) => ?_) (fun (c2 : (lcmp_ (rd h 2 6) v1) = 0) => ?_)
    · replace k := k.1 c2
      refine R_ic dd_Reader_isSign_22 (by decide) rfl ?_
      exact R_zret dd_Reader_isSign_23 rfl (by decide) k
    · replace k := k.2 c2
      refine R_ic dd_Reader_isSign_18 (by decide) rfl ?_
      refine R_goto dd_Reader_isSign_19 rfl ?_
      exact R_zret dd_Reader_isSign_23 rfl (by decide) k
theorem B_Reader_takeWord_0 {xs : Nat → Int} {xl e : Nat} {h : LH} {Q : Option LV → LH → Prop} {v1 : Int} (hF : RF h)
    (k : ((rd h 2 7) ≠ v1 →
        (∃ c, c < e ∧ Rn xs xl c mm_Reader_fail 0 [some (.inr (.inr 2)), some (.inl 1)] [] h (fun r h' => Rn xs xl e mm_Reader_takeWord 20 [some (.inr (.inr 2)), some (.inl v1)] (r.toList ++ []) h' Q))) ∧
      ((rd h 2 7) = v1 →
        (∃ c, c < e ∧ Rn xs xl c mm_Reader_step 0 [some (.inr (.inr 2)), none] [] h (fun r h' => Rn xs xl e mm_Reader_takeWord 12 [some (.inr (.inr 2)), some (.inl v1)] (r.toList ++ []) h' Q)))) :
    Rn xs xl e mm_Reader_takeWord 0 [some (.inr (.inr 2)), some (.inl v1)] [] h Q := by
  refine R_ld (v := .inr (.inr 2)) dd_Reader_takeWord_0 rfl rfl rfl rfl ?_
  refine R_gf (v := .inl (rd h 2 7)) dd_Reader_takeWord_1 fd_7_67 io_2 (congrArg (fun z : Int => (Sum.inl z : LV)) (rfl)) rfl ?_
  refine R_ld (v := .inl v1) dd_Reader_takeWord_4 rfl rfl rfl rfl ?_
  refine R_icmp dd_Reader_takeWord_5 rfl rfl (fun (c3 : (rd h 2 7) ≠ v1) => ?_) (fun (c3 : (rd h 2 7) = v1) => ?_)
  · replace k := k.1 c3
    refine R_ld (v := .inr (.inr 2)) dd_Reader_takeWord_15 rfl rfl rfl rfl ?_
    refine R_ic dd_Reader_takeWord_16 (by decide) rfl ?_
    obtain ⟨c, hc, k⟩ := k
    exact R_call (as := [.inr (.inr 2), .inl 1]) (rest := []) (M' := mm_Reader_fail) (ls0 := [some (.inr (.inr 2)), some (.inl 1)]) dd_Reader_takeWord_17 rfl rfl (cw_v cw_7_80 io_2 rfl rfl (Nat.le_of_ble_eq_true rfl) (Nat.le_of_ble_eq_true rfl)) mt_Reader_fail rfl hc rfl k
  · replace k := k.2 c3
    refine R_ld (v := .inr (.inr 2)) dd_Reader_takeWord_8 rfl rfl rfl rfl ?_
    obtain ⟨c, hc, k⟩ := k
    exact R_call (as := [.inr (.inr 2)]) (rest := []) (M' := mm_Reader_step) (ls0 := [some (.inr (.inr 2)), none]) dd_Reader_takeWord_9 rfl rfl (cw_v cw_7_99 io_2 rfl rfl (Nat.le_of_ble_eq_true rfl) (Nat.le_of_ble_eq_true rfl)) mt_Reader_step rfl hc rfl k
theorem B_Reader_takeWord_12 {xs : Nat → Int} {xl e : Nat} {h : LH} {Q : Option LV → LH → Prop} {v1 : Int} (hF : RF h)
    (k : Q none h) :
    Rn xs xl e mm_Reader_takeWord 12 [some (.inr (.inr 2)), some (.inl v1)] [] h Q := by
  refine R_goto dd_Reader_takeWord_12 rfl ?_
  exact R_vret dd_Reader_takeWord_20 rfl k
theorem B_Reader_takeWord_20 {xs : Nat → Int} {xl e : Nat} {h : LH} {Q : Option LV → LH → Prop} {v1 : Int} (hF : RF h)
    (k : Q none h) :
    Rn xs xl e mm_Reader_takeWord 20 [some (.inr (.inr 2)), some (.inl v1)] [] h Q := by
  exact R_vret dd_Reader_takeWord_20 rfl k
end
section
/-! p3, part a3: the class's reader steps to the next token -/
def ck (o : Int) : Int := if o = 0 then 0 else if o = 1 then 2 else if o = 2 then 3 else if o = 3 then 4 else 1
def wl (W : Int → Int) (v : Int) : Nat → Int
  | 0 => -1
  | m + 1 => if W m = v then (m : Int) else wl W v m
theorem wl_in {W : Int → Int} {v : Int} : ∀ m : Nat, -1 ≤ wl W v m ∧ wl W v m < m
  | 0 => by unfold wl; omega
  | m + 1 => by
    have := wl_in (W := W) (v := v) m
    unfold wl
    split <;> omega
theorem num_bd {T : Int → Int} {p : Int} : ∀ m : Nat, (∀ r : Int, p ≤ r → r < p + m → 48 ≤ T r ∧ T r ≤ 57) → 0 ≤ num T p m ∧ num T p m < 10 ^ m
  | 0, _ => ⟨Int.le_refl _, by show (0 : Int) < 10 ^ 0; decide⟩
  | m + 1, h => by
    obtain ⟨i1, i2⟩ := num_bd m (fun r r1 r2 => h r r1 (by omega))
    have d := h (p + m) (by omega) (by omega)
    show 0 ≤ 10 * num T p m + T (p + m) - 48 ∧ 10 * num T p m + T (p + m) - 48 < 10 ^ (m + 1)
    have e1 : (10 : Int) ^ (m + 1) = 10 * 10 ^ m := by rw [Int.pow_succ, Int.mul_comm]
    rw [e1]
    omega
theorem pow_le8 {b : Int} {m k : Nat} (hb : 1 ≤ b) (h : m ≤ k) : b ^ m ≤ b ^ k := by
  obtain ⟨j, rfl⟩ := Nat.exists_eq_add_of_le h
  have h1 : (1 : Int) ≤ b ^ j := by
    have : (0 : Int) < b ^ j := Int.pow_pos (by omega)
    omega
  have h2 : (0 : Int) < b ^ m := Int.pow_pos (by omega)
  rw [Int.pow_add]
  have := Int.mul_le_mul_of_nonneg_left h1 (Int.le_of_lt h2)
  omega
/-- the tape as the class holds it -/
def TP (T : Int → Int) (n : Int) (h : LH) : Prop := rd h 2 0 = n ∧ (∀ i, 0 ≤ i → i < n → rd h 3 i = T i) ∧ 0 ≤ n ∧ n ≤ 1000
theorem TP_fr {T : Int → Int} {n : Int} {h h' : LH} (ht : TP T n h) (hf : ∀ a i, ¬ muR a i → rd h' a i = rd h a i) : TP T n h' := by
  obtain ⟨t1, t2, t3⟩ := ht
  refine ⟨(hf _ _ (by unfold muR; omega)).trans t1, fun i i0 i1 => (hf _ _ (by unfold muR; omega)).trans (t2 i i0 i1), t3⟩
section C7
variable {xs : Nat → Int} {xl e : Nat} {h : LH} {Q : Option LV → LH → Prop} {v1 v2 v3 : Int} {T : Int → Int} {n : Int}
theorem F_scanNumber (he : 1 ≤ e) (hF : RF h) (ht : TP T n h) {p : Int} (hp : rd h 2 4 = p) (p0 : 0 ≤ p) (p1 : p < n) (h6 : rd h 2 6 = 0)
    (k : ∀ h', rd h' 2 3 = (if 4 < fw T n isDg p - p then 1 else 3) → rd h' 2 5 = fw T n isDg p → (fw T n isDg p - p ≤ 4 → rd h' 2 6 = num T p (fw T n isDg p - p).toNat) → (∀ a i, ¬ (a = 2 ∧ (i = 3 ∨ i = 5 ∨ i = 6)) → rd h' a i = rd h a i) → Q none h') :
    Rn xs xl e mm_Reader_scanNumber 0 [some (.inr (.inr 2)), none] [] h Q := by
  obtain ⟨t1, t2, t3, t4⟩ := ht
  have loop : ∀ (m : Nat) (g : LH) (v : Int), n - v ≤ m → p ≤ v → v ≤ n → (∀ r, p ≤ r → r < v → r < n ∧ isDg (T r) = true) → (∀ a i, ¬ (a = 2 ∧ i = 6) → rd g a i = rd h a i) → (v - p ≤ 4 → rd g 2 6 = num T p (v - p).toNat) → Rn xs xl e mm_Reader_scanNumber 5 [some (.inr (.inr 2)), some (.inl v)] [] g Q := by
    intro m
    induction m with
    | zero =>
      intro g v hm pv vn hd gf g6
      have gF : RF g := RF_fr hF (fun a i hn => gf a i (fun q => hn ⟨q.1, by omega, by omega⟩))
      have g0 : rd g 2 0 = n := (gf _ _ (by omega)).trans t1
      have g4 : rd g 2 4 = p := (gf _ _ (by omega)).trans hp
      have ef : fw T n isDg p = v := fw_eq p0 t4 pv hd (fun q => by omega)
      refine B_Reader_scanNumber_5 gF (by omega) he ⟨fun _ => ?_, fun c => by omega⟩
      rw [ef] at k
      refine B_Reader_scanNumber_51 gF (by omega) ⟨by omega, fun c => ?_, fun c => ?_⟩
      · refine k _ (by rw [rdw_eq, if_pos (by omega)]) ((rdw_nei (by decide)).trans rdw_eq) (fun q => by omega) (fun a i hn => ?_)
        rw [← gf a i (fun q => hn (by omega)), rd_wr, if_neg (fun q => hn (by omega)), rd_wr, if_neg (fun q => hn (by omega))]
      · refine k _ (by rw [rdw_eq, if_neg (by omega)]) ((rdw_nei (by decide)).trans rdw_eq) (fun q => ((rdw_nei (by decide)).trans (rdw_nei (by decide))).trans (g6 q)) (fun a i hn => ?_)
        rw [← gf a i (fun q => hn (by omega)), rd_wr, if_neg (fun q => hn (by omega)), rd_wr, if_neg (fun q => hn (by omega))]
    | succ m ih =>
      intro g v hm pv vn hd gf g6
      have gF : RF g := RF_fr hF (fun a i hn => gf a i (fun q => hn ⟨q.1, by omega, by omega⟩))
      have g0 : rd g 2 0 = n := (gf _ _ (by omega)).trans t1
      have g4 : rd g 2 4 = p := (gf _ _ (by omega)).trans hp
      have g3 : v < n → rd g 3 v = T v := fun q => (gf _ _ (by omega)).trans (t2 v (by omega) q)
      have ex : ¬ (v < n ∧ isDg (T v) = true) → Rn xs xl e mm_Reader_scanNumber 51 [some (.inr (.inr 2)), some (.inl v)] [] g Q := by
        intro hq
        have ef : fw T n isDg p = v := fw_eq p0 t4 pv hd hq
        rw [ef] at k
        refine B_Reader_scanNumber_51 gF (by omega) ⟨by omega, fun c => ?_, fun c => ?_⟩
        · refine k _ (by rw [rdw_eq, if_pos (by omega)]) ((rdw_nei (by decide)).trans rdw_eq) (fun q => by omega) (fun a i hn => ?_)
          rw [← gf a i (fun q => hn (by omega)), rd_wr, if_neg (fun q => hn (by omega)), rd_wr, if_neg (fun q => hn (by omega))]
        · refine k _ (by rw [rdw_eq, if_neg (by omega)]) ((rdw_nei (by decide)).trans rdw_eq) (fun q => ((rdw_nei (by decide)).trans (rdw_nei (by decide))).trans (g6 q)) (fun a i hn => ?_)
          rw [← gf a i (fun q => hn (by omega)), rd_wr, if_neg (fun q => hn (by omega)), rd_wr, if_neg (fun q => hn (by omega))]
      refine B_Reader_scanNumber_5 gF (by omega) he ⟨fun c => ex (fun q => by omega), fun c => ⟨by omega, fun c1 => ex (fun q => ?_), fun c1 => ⟨by omega, fun c2 => ex (fun q => ?_), fun c2 => ⟨by omega, ?_⟩⟩⟩⟩
      · have := isDg_iff.mp q.2
        have := g3 q.1
        omega
      · have := isDg_iff.mp q.2
        have := g3 q.1
        omega
      · have e3 := g3 (by omega)
        have hv : isDg (T v) = true := isDg_iff.mpr (by omega)
        refine ih _ (v + 1) (by omega) (by omega) (by omega) (fun r r0 r1 => ?_) (fun a i hn => ?_) (fun q => ?_)
        · by_cases er : r = v
          · rw [er]; exact ⟨by omega, hv⟩
          · exact hd r r0 (by omega)
        · rw [← gf a i hn, rd_wr, if_neg (fun q => hn (by omega))]
        · rw [rdw_eq, g6 (by omega), e3, show (v + 1 - p).toNat = (v - p).toNat + 1 by omega]
          have bd := num_bd (T := T) (p := p) (v - p).toNat (fun r r0 r1 => isDg_iff.mp (hd r r0 (by omega)).2)
          have pw := pow_le8 (b := 10) (m := (v - p).toNat) (k := 4) (by decide) (by omega)
          show _ = 10 * num T p (v - p).toNat + T (p + ((v - p).toNat : Nat)) - 48
          rw [show p + (((v - p).toNat : Nat) : Int) = v by omega]
          have dv := isDg_iff.mp hv
          generalize num T p (v - p).toNat = y at bd
          have pw2 : (10 : Int) ^ 4 = 10000 := by decide
          unfold w64
          omega
  exact B_Reader_scanNumber_0 hF (by rw [hp]; exact loop n.toNat h p (by omega) (by omega) (by omega) (fun r r0 r1 => by omega) (fun _ _ _ => rfl) (fun _ => by rw [h6, show (p - p).toNat = 0 by omega]; rfl))
theorem F_isTokenSign (hF : RF h) (k : Q (some (.inl (if isSn v1 = true then 1 else 0))) h) : Rn xs xl e mm_Reader_isTokenSign 0 [some (.inl v1)] [] h Q := by
  have k1 : isSn v1 = true → Q (some (.inl 1)) h := fun q => by rw [if_pos q] at k; exact k
  have k0 : ¬ isSn v1 = true → Q (some (.inl 0)) h := fun q => by rw [if_neg q] at k; exact k
  exact B_Reader_isTokenSign_0 hF ⟨fun q => k1 (by rw [q]; rfl), fun q1 => ⟨fun q => k1 (by rw [q]; rfl), fun q2 => ⟨fun q => k1 (by rw [q]; rfl), fun q3 => ⟨fun q => k1 (by rw [q]; rfl), fun q4 => ⟨fun q => k1 (by rw [q]; rfl), fun q5 => ⟨fun q => k1 (by rw [q]; rfl), fun q6 => ⟨fun q => k1 (by rw [q]; rfl), fun q7 => ⟨fun q8 => k0 (by simp [isSn]; omega), fun q => k1 (by rw [q]; rfl)⟩⟩⟩⟩⟩⟩⟩⟩
theorem F_words (hF : RF h) (he : rd h 2 3 = 2) {w : Int} (k : ∀ h', rd h' 2 7 = wl (rd h 4) (rd h 2 6) 29 ∨ (wl (rd h 4) (rd h 2 6) 29 = -1 ∧ rd h' 2 7 = rd h 2 7) → (∀ a i, ¬ (a = 2 ∧ i = 7) → rd h' a i = rd h a i) → Q none h') :
    Rn xs xl e mm_Reader_scanWord 72 [some (.inr (.inr 2)), some (.inl w), some (.inl 0)] [] h Q := by
  have loop : ∀ (m : Nat) (g : LH) (j : Nat), 29 - j ≤ m → j ≤ 29 → (rd g 2 7 = wl (rd h 4) (rd h 2 6) j ∨ (wl (rd h 4) (rd h 2 6) j = -1 ∧ rd g 2 7 = rd h 2 7)) → (∀ a i, ¬ (a = 2 ∧ i = 7) → rd g a i = rd h a i) → Rn xs xl e mm_Reader_scanWord 72 [some (.inr (.inr 2)), some (.inl w), some (.inl (j : Int))] [] g Q := by
    intro m
    induction m with
    | zero =>
      intro g j hm hj h7 gf
      have gF : RF g := RF_fr hF (fun a i hn => gf a i (fun q => hn ⟨q.1, by omega, by omega⟩))
      have ej : j = 29 := by omega
      subst ej
      exact B_Reader_scanWord_72 gF (by omega) ⟨fun _ => k g h7 gf, fun c => by omega⟩
    | succ m ih =>
      intro g j hm hj h7 gf
      have gF : RF g := RF_fr hF (fun a i hn => gf a i (fun q => hn ⟨q.1, by omega, by omega⟩))
      have g3 : rd g 2 3 = 2 := (gf _ _ (by omega)).trans he
      have g6 : rd g 2 6 = rd h 2 6 := gf _ _ (by omega)
      have g4 : rd g 4 (j : Int) = rd h 4 (j : Int) := gf _ _ (by omega)
      refine B_Reader_scanWord_72 gF (by omega) ⟨fun c => ?_, fun c => ⟨fun c2 => absurd g3 c2, fun _ => ⟨by omega, fun c2 => ?_, fun c2 => ?_⟩⟩⟩
      · have ej : j = 29 := by omega
        subst ej
        exact k g h7 gf
      · rw [g4, g6] at c2
        refine ih g (j + 1) (by omega) (by omega) ?_ gf
        have : wl (rd h 4) (rd h 2 6) (j + 1) = wl (rd h 4) (rd h 2 6) j := by
          show (if rd h 4 (j : Int) = rd h 2 6 then (j : Int) else wl (rd h 4) (rd h 2 6) j) = _
          rw [if_neg (fun q => c2 (lcmp0.mpr q))]
        rw [this]
        exact h7
      · rw [g4, g6] at c2
        refine ih _ (j + 1) (by omega) (by omega) ?_ (fun a i hn => ?_)
        · left
          rw [rdw_eq]
          show _ = (if rd h 4 (j : Int) = rd h 2 6 then (j : Int) else wl (rd h 4) (rd h 2 6) j)
          rw [if_pos (lcmp0.mp c2)]
        · rw [← gf a i hn, rd_wr, if_neg (fun q => hn (by omega))]
  exact loop 29 h 0 (by omega) (by omega) (Or.inr ⟨rfl, rfl⟩) (fun _ _ _ => rfl)
theorem F_scanWord (he : 1 ≤ e) (hF : RF h) (ht : TP T n h) {p : Int} (hp : rd h 2 4 = p) (p0 : 0 ≤ p) (p1 : p < n) (h6 : rd h 2 6 = 0) (h7 : rd h 2 7 = -1)
    (k : ∀ h', rd h' 2 3 = (if 8 < fw T n isLt p - p then 1 else 2) → rd h' 2 5 = fw T n isLt p → (fw T n isLt p - p ≤ 8 → rd h' 2 6 = enc T 32 p (fw T n isLt p - p).toNat ∧ rd h' 2 7 = wl (rd h 4) (enc T 32 p (fw T n isLt p - p).toNat) 29) → (8 < fw T n isLt p - p → rd h' 2 7 = -1) → (∀ a i, ¬ (a = 2 ∧ (i = 3 ∨ i = 5 ∨ i = 6 ∨ i = 7)) → rd h' a i = rd h a i) → Q none h') :
    Rn xs xl e mm_Reader_scanWord 0 [some (.inr (.inr 2)), none, none] [] h Q := by
  obtain ⟨t1, t2, t3, t4⟩ := ht
  have fin : ∀ (g : LH) (v : Int), p ≤ v → v ≤ n → fw T n isLt p = v → (∀ a i, ¬ (a = 2 ∧ i = 6) → rd g a i = rd h a i) → (v - p ≤ 8 → rd g 2 6 = enc T 32 p (v - p).toNat) → Rn xs xl e mm_Reader_scanWord 45 [some (.inr (.inr 2)), some (.inl v), none] [] g Q := by
    intro g v pv vn ef gf g6
    have gF : RF g := RF_fr hF (fun a i hn => gf a i (fun q => hn ⟨q.1, by omega, by omega⟩))
    have g4 : rd g 2 4 = p := (gf _ _ (by omega)).trans hp
    have g7 : rd g 2 7 = -1 := (gf _ _ (by omega)).trans h7
    rw [ef] at k
    have wf : ∀ (z : Int), RF (wr (wr g 2 5 v) 2 3 z) := fun z => RF_w2 (RF_w2 gF (by decide) (by decide)) (by decide) (by decide)
    refine B_Reader_scanWord_45 gF (by omega) ⟨by omega, fun c => ?_, fun c => ?_⟩
    · refine B_Reader_scanWord_72 (wf 1) (by decide) ⟨fun c2 => absurd c2 (by decide), fun _ => ⟨fun _ => ?_, fun c2 => ?_⟩⟩
      · refine k _ (by rw [rdw_eq, if_pos (by omega)]) ((rdw_nei (by decide)).trans rdw_eq) (fun q => by omega) (fun _ => ((rdw_nei (by decide)).trans (rdw_nei (by decide))).trans g7) (fun a i hn => ?_)
        rw [← gf a i (fun q => hn (by omega)), rd_wr, if_neg (fun q => hn (by omega)), rd_wr, if_neg (fun q => hn (by omega))]
      · rw [rdw_eq] at c2
        exact absurd c2 (by decide)
    · have e6 : rd (wr (wr g 2 5 v) 2 3 2) 2 6 = enc T 32 p (v - p).toNat := ((rdw_nei (by decide)).trans (rdw_nei (by decide))).trans (g6 (by omega))
      have e7 : rd (wr (wr g 2 5 v) 2 3 2) 2 7 = -1 := ((rdw_nei (by decide)).trans (rdw_nei (by decide))).trans g7
      have e4 : rd (wr (wr g 2 5 v) 2 3 2) 4 = rd h 4 := by
        funext i
        exact ((rdw_ne (by decide)).trans (rdw_ne (by decide))).trans (gf _ _ (by omega))
      refine F_words (wf 2) rdw_eq (fun h' z zf => ?_)
      rw [e6, e7, e4] at z
      have z7 : rd h' 2 7 = wl (rd h 4) (enc T 32 p (v - p).toNat) 29 := by
        rcases z with z | z
        · exact z
        · omega
      refine k h' ?_ ?_ (fun _ => ⟨(zf _ _ (by omega)).trans e6, z7⟩) (fun q => by omega) (fun a i hn => ?_)
      · rw [zf _ _ (by omega), rdw_eq, if_neg (by omega)]
      · rw [zf _ _ (by omega)]; exact (rdw_nei (by decide)).trans rdw_eq
      · rw [zf a i (fun q => hn (by omega)), ← gf a i (fun q => hn (by omega)), rd_wr, if_neg (fun q => hn (by omega)), rd_wr, if_neg (fun q => hn (by omega))]
  have loop : ∀ (m : Nat) (g : LH) (v : Int), n - v ≤ m → p ≤ v → v ≤ n → (∀ r, p ≤ r → r < v → r < n ∧ isLt (T r) = true) → (∀ a i, ¬ (a = 2 ∧ i = 6) → rd g a i = rd h a i) → (v - p ≤ 8 → rd g 2 6 = enc T 32 p (v - p).toNat) → Rn xs xl e mm_Reader_scanWord 5 [some (.inr (.inr 2)), some (.inl v), none] [] g Q := by
    intro m
    induction m with
    | zero =>
      intro g v hm pv vn hd gf g6
      have gF : RF g := RF_fr hF (fun a i hn => gf a i (fun q => hn ⟨q.1, by omega, by omega⟩))
      have g0 : rd g 2 0 = n := (gf _ _ (by omega)).trans t1
      exact B_Reader_scanWord_5 gF (by omega) he ⟨fun _ => fin g v pv vn (fw_eq p0 t4 pv hd (fun q => by omega)) gf g6, fun c => by omega⟩
    | succ m ih =>
      intro g v hm pv vn hd gf g6
      have gF : RF g := RF_fr hF (fun a i hn => gf a i (fun q => hn ⟨q.1, by omega, by omega⟩))
      have g0 : rd g 2 0 = n := (gf _ _ (by omega)).trans t1
      have g3 : v < n → rd g 3 v = T v := fun q => (gf _ _ (by omega)).trans (t2 v (by omega) q)
      have ex : ¬ (v < n ∧ isLt (T v) = true) → Rn xs xl e mm_Reader_scanWord 45 [some (.inr (.inr 2)), some (.inl v), none] [] g Q := fun hq => fin g v pv vn (fw_eq p0 t4 pv hd hq) gf g6
      refine B_Reader_scanWord_5 gF (by omega) he ⟨fun c => ex (fun q => by omega), fun c => ⟨by omega, fun c1 => ex (fun q => ?_), fun c1 => ⟨by omega, fun c2 => ex (fun q => ?_), fun c2 => ⟨by omega, ?_⟩⟩⟩⟩
      · have := isLt_iff.mp q.2
        have := g3 q.1
        omega
      · have := isLt_iff.mp q.2
        have := g3 q.1
        omega
      · have e3 := g3 (by omega)
        have hv : isLt (T v) = true := isLt_iff.mpr (by omega)
        refine ih _ (v + 1) (by omega) (by omega) (by omega) (fun r r0 r1 => ?_) (fun a i hn => ?_) (fun q => ?_)
        · by_cases er : r = v
          · rw [er]; exact ⟨by omega, hv⟩
          · exact hd r r0 (by omega)
        · rw [← gf a i hn, rd_wr, if_neg (fun q => hn (by omega))]
        · have dv := isLt_iff.mp hv
          rw [rdw_eq, g6 (by omega), e3, i2c_id (by omega) (by omega), show (v + 1 - p).toNat = (v - p).toNat + 1 by omega]
          have bd := enc_bd (T := T) (p := p) (v - p).toNat (by omega) (fun r r0 r1 => isLt_iff.mp (hd r r0 (by omega)).2)
          have pw := pow_le8 (b := 32) (m := (v - p).toNat) (k := 7) (by decide) (by omega)
          show _ = 32 * enc T 32 p (v - p).toNat + (T (p + ((v - p).toNat : Nat)) - 96)
          rw [show p + (((v - p).toNat : Nat) : Int) = v by omega]
          have b1 := bd.1
          have b2 := bd.2.1
          generalize enc T 32 p (v - p).toNat = y at b1 b2
          clear bd
          have pw2 : (32 : Int) ^ 7 = 34359738368 := by decide
          unfold w64
          omega
  exact B_Reader_scanWord_0 hF (by rw [hp]; exact loop n.toNat h p (by omega) (by omega) (by omega) (fun r r0 r1 => by omega) (fun _ _ _ => rfl) (fun _ => by rw [h6, show (p - p).toNat = 0 by omega]; rfl))
end C7
end
section
/-! p3, part a4: the class's step -/
section TQ
variable {T : Int → Int} {n : Int} {k : Nat}
theorem tS_s : tS_ T n (k + 1) = nx T n (tS_ T n k) := rfl
theorem tk_w (h1 : tP T n k < n) (h2 : isLt (T (tP T n k)) = true) : tS_ T n (k + 1) = fw T n isLt (tP T n k) ∧ tO T n k = if 8 < fw T n isLt (tP T n k) - tP T n k then 4 else 1 := by
  have e : tS_ T n (k + 1) = fw T n isLt (tP T n k) := by
    rw [tS_s]; unfold nx
    rw [if_neg (show ¬ n ≤ fw T n isWs (tS_ T n k) from Int.not_le.mpr h1), if_pos (show isLt (T (fw T n isWs (tS_ T n k))) = true from h2)]
    rfl
  refine ⟨e, ?_⟩
  unfold tO
  rw [if_neg (Int.not_le.mpr h1), if_pos h2, e]
theorem tk_n (h1 : tP T n k < n) (h2 : ¬ isLt (T (tP T n k)) = true) (h3 : isDg (T (tP T n k)) = true) : tS_ T n (k + 1) = fw T n isDg (tP T n k) ∧ tO T n k = if 4 < fw T n isDg (tP T n k) - tP T n k then 4 else 2 := by
  have e : tS_ T n (k + 1) = fw T n isDg (tP T n k) := by
    rw [tS_s]; unfold nx
    rw [if_neg (show ¬ n ≤ fw T n isWs (tS_ T n k) from Int.not_le.mpr h1), if_neg (show ¬ isLt (T (fw T n isWs (tS_ T n k))) = true from h2), if_pos (show isDg (T (fw T n isWs (tS_ T n k))) = true from h3)]
    rfl
  refine ⟨e, ?_⟩
  unfold tO
  rw [if_neg (Int.not_le.mpr h1), if_neg h2, if_pos h3, e]
theorem tk_s (h1 : tP T n k < n) (h2 : ¬ isLt (T (tP T n k)) = true) (h3 : ¬ isDg (T (tP T n k)) = true) : tS_ T n (k + 1) = tP T n k + 1 ∧ tO T n k = if isSn (T (tP T n k)) = true then 3 else 4 := by
  have e : tS_ T n (k + 1) = tP T n k + 1 := by
    rw [tS_s]; unfold nx
    rw [if_neg (show ¬ n ≤ fw T n isWs (tS_ T n k) from Int.not_le.mpr h1), if_neg (show ¬ isLt (T (fw T n isWs (tS_ T n k))) = true from h2), if_neg (show ¬ isDg (T (fw T n isWs (tS_ T n k))) = true from h3)]
    rfl
  refine ⟨e, ?_⟩
  unfold tO
  rw [if_neg (Int.not_le.mpr h1), if_neg h2, if_neg h3]
end TQ
/-- what token k is worth: letters, a number, a sign -/
def tV (T : Int → Int) (n : Int) (b : Int) (k : Nat) : Int := if tO T n k = 1 then enc T b (tP T n k) (tN T n k) else if tO T n k = 2 then num T (tP T n k) (tN T n k) else T (tP T n k)
/-- which word of W token k is, or -1 -/
def tW (T : Int → Int) (n : Int) (b : Int) (W : Int → Int) (k : Nat) : Int := if tO T n k = 1 then wl W (tV T n b k) 29 else -1
/-- the class's reader stands at token k -/
def CTK (T : Int → Int) (n : Int) (W : Int → Int) (h : LH) (k : Nat) : Prop := rd h 2 3 = ck (tO T n k) ∧ rd h 2 4 = tP T n k ∧ (tO T n k ≠ 0 → rd h 2 5 = tS_ T n (k + 1)) ∧ (1 ≤ tO T n k → tO T n k ≤ 3 → rd h 2 6 = tV T n 32 k) ∧ rd h 2 7 = tW T n 32 W k
def CX (T : Int → Int) (n : Int) (W : Int → Int) (h : LH) : Prop := RF h ∧ TP T n h ∧ rd h 4 = W
theorem CX_fr {T : Int → Int} {n : Int} {W : Int → Int} {h h' : LH} (hx : CX T n W h) (hf : ∀ a i, ¬ muR a i → rd h' a i = rd h a i) : CX T n W h' := by
  refine ⟨RF_fr hx.1 hf, TP_fr hx.2.1 hf, ?_⟩
  rw [← hx.2.2]
  funext i
  exact hf _ _ (by unfold muR; omega)
def muS (a i : Int) : Prop := a = 2 ∧ 3 ≤ i ∧ i ≤ 7
theorem muS_R {a i : Int} (h : muS a i) : muR a i := ⟨h.1, h.2.1, by have := h.2.2; omega⟩
section C8
variable {xs : Nat → Int} {xl e : Nat} {h : LH} {Q : Option LV → LH → Prop} {v1 v2 v3 : Int} {T : Int → Int} {n : Int} {W : Int → Int}
theorem F_step (he : 2 ≤ e) (hx : CX T n W h) (h8 : rd h 2 8 = 0) {k : Nat} (h5 : rd h 2 5 = tS_ T n k)
    (kk : ∀ h', CTK T n W h' k → (∀ a i, ¬ muS a i → rd h' a i = rd h a i) → Q none h') :
    Rn xs xl e mm_Reader_step 0 [some (.inr (.inr 2)), none] [] h Q := by
  obtain ⟨hF, ⟨t1, t2, t3, t4⟩, hW⟩ := hx
  have s0 := tS_in (T := T) t4 t3 k
  have pin := tP_in (T := T) t4 t3 k
  have w3 : ∀ z, RF (wr (wr (wr h 2 4 z) 2 6 0) 2 7 (-1)) := fun z => RF_w2 (RF_w2 (RF_w2 hF (by decide) (by decide)) (by decide) (by decide)) (by decide) (by decide)
  have f3 : ∀ z a i, ¬ (a = 2 ∧ (i = 4 ∨ i = 6 ∨ i = 7)) → rd (wr (wr (wr h 2 4 z) 2 6 0) 2 7 (-1)) a i = rd h a i := by
    intro z a i hn
    rw [rd_wr, if_neg (fun q => hn (by omega)), rd_wr, if_neg (fun q => hn (by omega)), rd_wr, if_neg (fun q => hn (by omega))]
  have fin : Rn xs xl e mm_Reader_step 49 [some (.inr (.inr 2)), some (.inl (tP T n k))] [] h Q := by
    have e4 : rd (wr (wr (wr h 2 4 (tP T n k)) 2 6 0) 2 7 (-1)) 2 4 = tP T n k := (rdw_nei (by decide)).trans ((rdw_nei (by decide)).trans rdw_eq)
    have e6 : rd (wr (wr (wr h 2 4 (tP T n k)) 2 6 0) 2 7 (-1)) 2 6 = 0 := (rdw_nei (by decide)).trans rdw_eq
    have e7 : rd (wr (wr (wr h 2 4 (tP T n k)) 2 6 0) 2 7 (-1)) 2 7 = -1 := rdw_eq
    have eW : rd (wr (wr (wr h 2 4 (tP T n k)) 2 6 0) 2 7 (-1)) 4 = W := by
      rw [← hW]; funext i; exact f3 _ _ _ (by omega)
    have eT : TP T n (wr (wr (wr h 2 4 (tP T n k)) 2 6 0) 2 7 (-1)) := ⟨(f3 _ _ _ (by omega)).trans t1, fun i i0 i1 => (f3 _ _ _ (by omega)).trans (t2 i i0 i1), t3, t4⟩
    have t2' : tP T n k < n → rd h 3 (tP T n k) = T (tP T n k) := fun q => t2 _ (by omega) q
    have sg : tP T n k < n → ¬ isLt (T (tP T n k)) = true → ¬ isDg (T (tP T n k)) = true → (∃ c, c < e ∧ Rn xs xl c mm_Reader_isTokenSign 0 [some (.inl (rd h 3 (tP T n k)))] [] (wr (wr (wr (wr (wr h 2 4 (tP T n k)) 2 6 0) 2 7 (-1)) 2 5 (tP T n k + 1)) 2 6 (rd h 3 (tP T n k))) (fun r h' => Rn xs xl e mm_Reader_step 138 [some (.inr (.inr 2)), some (.inl (tP T n k))] (r.toList ++ [.inr (.inr 2)]) h' Q)) := by
      intro c1 c2 c3
      obtain ⟨k1, k2⟩ := tk_s c1 c2 c3
      have wF5 : RF (wr (wr (wr (wr (wr h 2 4 (tP T n k)) 2 6 0) 2 7 (-1)) 2 5 (tP T n k + 1)) 2 6 (rd h 3 (tP T n k))) := RF_w2 (RF_w2 (w3 _) (by decide) (by decide)) (by decide) (by decide)
      have fr : ∀ z a i, ¬ muS a i → rd (wr (wr (wr (wr (wr (wr h 2 4 (tP T n k)) 2 6 0) 2 7 (-1)) 2 5 (tP T n k + 1)) 2 6 (rd h 3 (tP T n k))) 2 3 z) a i = rd h a i := by
        intro z a i hn
        unfold muS at hn
        rw [rd_wr, if_neg (fun q => hn (by omega)), rd_wr, if_neg (fun q => hn (by omega)), rd_wr, if_neg (fun q => hn (by omega)), f3 _ _ _ (fun q => hn (by omega))]
      refine ⟨0, by omega, F_isTokenSign wF5 ?_⟩
      have core : ∀ z, z = ck (tO T n k) → Q none (wr (wr (wr (wr (wr (wr h 2 4 (tP T n k)) 2 6 0) 2 7 (-1)) 2 5 (tP T n k + 1)) 2 6 (rd h 3 (tP T n k))) 2 3 z) := by
        intro z hz
        have no1 : ¬ tO T n k = 1 := by rw [k2]; split <;> omega
        have no2 : ¬ tO T n k = 2 := by rw [k2]; split <;> omega
        refine kk _ ⟨rdw_eq.trans hz, ?_, fun _ => ?_, fun _ _ => ?_, ?_⟩ (fr z)
        · exact (rdw_nei (by decide)).trans ((rdw_nei (by decide)).trans ((rdw_nei (by decide)).trans e4))
        · rw [k1]; exact (rdw_nei (by decide)).trans ((rdw_nei (by decide)).trans rdw_eq)
        · unfold tV
          rw [if_neg no1, if_neg no2, ← t2' c1]
          exact (rdw_nei (by decide)).trans rdw_eq
        · unfold tW
          rw [if_neg no1]
          exact (rdw_nei (by decide)).trans ((rdw_nei (by decide)).trans ((rdw_nei (by decide)).trans e7))
      rw [t2' c1] at core wF5 ⊢
      by_cases s : isSn (T (tP T n k)) = true
      · rw [if_pos s] at k2
        rw [if_pos s]
        exact B_Reader_step_138 wF5 ⟨fun q => absurd q (by decide), fun _ => core 4 (by rw [k2]; rfl)⟩
      · rw [if_neg s] at k2
        rw [if_neg s]
        exact B_Reader_step_138 wF5 ⟨fun _ => core 1 (by rw [k2]; rfl), fun q => absurd rfl q⟩
    have nm : tP T n k < n → ¬ isLt (T (tP T n k)) = true → isDg (T (tP T n k)) = true → (∃ c, c < e ∧ Rn xs xl c mm_Reader_scanNumber 0 [some (.inr (.inr 2)), none] [] (wr (wr (wr h 2 4 (tP T n k)) 2 6 0) 2 7 (-1)) (fun r h' => Rn xs xl e mm_Reader_step 107 [some (.inr (.inr 2)), some (.inl (tP T n k))] (r.toList ++ []) h' Q)) := by
      intro c1 c2 c3
      obtain ⟨k1, k2⟩ := tk_n c1 c2 c3
      refine ⟨1, by omega, F_scanNumber (by omega) (w3 _) eT e4 (by omega) c1 e6 (fun h' z3 z5 z6 zf => ?_)⟩
      have fr : ∀ a i, ¬ muS a i → rd h' a i = rd h a i := by
        intro a i hn
        unfold muS at hn
        rw [zf a i (fun q => hn (by omega)), f3 _ _ _ (fun q => hn (by omega))]
      refine B_Reader_step_107 (RF_fr hF (fun a i hn => fr a i (fun q => hn (muS_R q)))) (kk h' ⟨?_, (zf _ _ (by omega)).trans e4, fun _ => by rw [k1]; exact z5, fun o1 o3 => ?_, ?_⟩ fr)
      · rw [z3, k2]; split <;> rfl
      · by_cases l : 4 < fw T n isDg (tP T n k) - tP T n k
        · rw [if_pos l] at k2; omega
        · rw [if_neg l] at k2
          unfold tV tN
          rw [if_neg (by omega), if_pos k2, k1]
          exact z6 (by omega)
      · unfold tW
        rw [if_neg (by rw [k2]; split <;> omega)]
        exact (zf _ _ (by omega)).trans e7
    have wd : tP T n k < n → isLt (T (tP T n k)) = true → (∃ c, c < e ∧ Rn xs xl c mm_Reader_scanWord 0 [some (.inr (.inr 2)), none, none] [] (wr (wr (wr h 2 4 (tP T n k)) 2 6 0) 2 7 (-1)) (fun r h' => Rn xs xl e mm_Reader_step 92 [some (.inr (.inr 2)), some (.inl (tP T n k))] (r.toList ++ []) h' Q)) := by
      intro c1 c2
      obtain ⟨k1, k2⟩ := tk_w c1 c2
      refine ⟨1, by omega, F_scanWord (by omega) (w3 _) eT e4 (by omega) c1 e6 e7 (fun h' z3 z5 z6 z7 zf => ?_)⟩
      have fr : ∀ a i, ¬ muS a i → rd h' a i = rd h a i := by
        intro a i hn
        unfold muS at hn
        rw [zf a i (fun q => hn (by omega)), f3 _ _ _ (fun q => hn (by omega))]
      refine B_Reader_step_92 (RF_fr hF (fun a i hn => fr a i (fun q => hn (muS_R q)))) (kk h' ⟨?_, (zf _ _ (by omega)).trans e4, fun _ => by rw [k1]; exact z5, fun o1 o3 => ?_, ?_⟩ fr)
      · rw [z3, k2]; split <;> rfl
      · by_cases l : 8 < fw T n isLt (tP T n k) - tP T n k
        · rw [if_pos l] at k2; omega
        · rw [if_neg l] at k2
          unfold tV tN
          rw [if_pos k2, k1]
          exact (z6 (by omega)).1
      · by_cases l : 8 < fw T n isLt (tP T n k) - tP T n k
        · rw [if_pos l] at k2
          unfold tW
          rw [if_neg (by omega)]
          exact z7 l
        · rw [if_neg l] at k2
          unfold tW tV tN
          rw [if_pos k2, if_pos k2, k1, ← eW]
          exact (z6 (by omega)).2
    refine B_Reader_step_49 hF (by omega) (by omega) ⟨fun c => ⟨by omega, fun d1 => ⟨by omega, fun d2 => ⟨by omega, by omega, ?_⟩, fun d2 => ⟨by omega, fun d3 => ⟨by omega, by omega, ?_⟩, fun d3 => ?_⟩⟩, fun d1 => ⟨by omega, fun d2 => ⟨by omega, fun d3 => ⟨by omega, by omega, ?_⟩, fun d3 => ⟨by omega, fun d4 => ⟨by omega, by omega, ?_⟩, fun d4 => ?_⟩⟩, fun d2 => ?_⟩⟩, fun c => ?_⟩
    · have z := t2' (by omega)
      exact sg (by omega) (fun q => by have := isLt_iff.mp q; omega) (fun q => by have := isDg_iff.mp q; omega)
    · have z := t2' (by omega)
      exact sg (by omega) (fun q => by have := isLt_iff.mp q; omega) (fun q => by have := isDg_iff.mp q; omega)
    · have z := t2' (by omega)
      exact nm (by omega) (fun q => by have := isLt_iff.mp q; omega) (isDg_iff.mpr (by omega))
    · have z := t2' (by omega)
      exact sg (by omega) (fun q => by have := isLt_iff.mp q; omega) (fun q => by have := isDg_iff.mp q; omega)
    · have z := t2' (by omega)
      exact sg (by omega) (fun q => by have := isLt_iff.mp q; omega) (fun q => by have := isDg_iff.mp q; omega)
    · omega
    · have z := t2' (by omega)
      exact wd (by omega) (isLt_iff.mpr (by omega))
    · have o0 : tO T n k = 0 := tO_0.mpr (by omega)
      refine kk _ ⟨?_, (rdw_nei (by decide)).trans e4, fun q => absurd o0 q, fun q => by omega, ?_⟩ (fun a i hn => ?_)
      · rw [rdw_eq, o0]; rfl
      · unfold tW
        rw [if_neg (by omega)]
        exact (rdw_nei (by decide)).trans e7
      · unfold muS at hn
        rw [rd_wr, if_neg (fun q => hn (by omega)), f3 _ _ _ (fun q => hn (by omega))]
  have loop : ∀ (m : Nat) (v : Int), n - v ≤ m → tS_ T n k ≤ v → v ≤ n → (∀ r, tS_ T n k ≤ r → r < v → r < n ∧ isWs (T r) = true) → Rn xs xl e mm_Reader_step 13 [some (.inr (.inr 2)), some (.inl v)] [] h Q := by
    intro m
    induction m with
    | zero =>
      intro v hm v0 v1 hd
      have ef : tP T n k = v := fw_eq s0.1 t4 v0 hd (fun q => by omega)
      exact B_Reader_step_13 hF (by omega) ⟨fun _ => by rw [← ef]; exact fin, fun c => by omega⟩
    | succ m ih =>
      intro v hm v0 v1 hd
      have ex : ¬ (v < n ∧ isWs (T v) = true) → Rn xs xl e mm_Reader_step 49 [some (.inr (.inr 2)), some (.inl v)] [] h Q := by
        intro q
        have ef : tP T n k = v := fw_eq s0.1 t4 v0 hd q
        rw [← ef]; exact fin
      have on : v < n → isWs (T v) = true → Rn xs xl e mm_Reader_step 13 [some (.inr (.inr 2)), some (.inl (v + 1))] [] h Q := by
        intro q1 q2
        refine ih (v + 1) (by omega) (by omega) (by omega) (fun r r0 r1 => ?_)
        by_cases er : r = v
        · rw [er]; exact ⟨q1, q2⟩
        · exact hd r r0 (by omega)
      have z : v < n → rd h 3 v = T v := fun q => t2 v (by omega) q
      refine B_Reader_step_13 hF (by omega) ⟨fun c => ex (fun q => by omega), fun c => ⟨by omega, fun c1 => on (by omega) (isWs_iff.mpr ?_), fun c1 => ⟨by omega, fun c2 => ex (fun q => ?_), fun c2 => on (by omega) (isWs_iff.mpr ?_)⟩⟩⟩
      · have := z (by omega); omega
      · have := z q.1
        have := isWs_iff.mp q.2
        omega
      · have := z (by omega); omega
  refine B_Reader_step_0 hF ⟨fun _ => ?_, fun c => absurd h8 c⟩
  rw [h5]
  exact loop n.toNat _ (by omega) (by omega) (by omega) (fun r r0 r1 => by omega)
end C8
end
