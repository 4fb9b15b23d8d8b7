/-! p3, part b6: base 32 and base 37 say the same -/
def SameW (W V : Int → Int) : Prop := ∀ i : Nat, i < 29 → ∃ (U : Int → Int) (m : Nat), (∀ r : Int, 0 ≤ r → r < 0 + m → 97 ≤ U r ∧ U r ≤ 122) ∧ W i = enc U 32 0 m ∧ V i = enc U 37 0 m
section BA
variable {T : Int → Int} {n : Int} {W V : Int → Int}
theorem tV_b {k : Nat} {b b' : Int} (h : tO T n k ≠ 1) : tV T n b k = tV T n b' k := by unfold tV; rw [if_neg h, if_neg h]
theorem tk_let {k : Nat} (h1 : n ≤ 1000) (h2 : 0 ≤ n) (ho : tO T n k = 1) : ∀ r : Int, tP T n k ≤ r → r < tP T n k + tN T n k → 97 ≤ T r ∧ T r ≤ 122 := by
  have pin := tP_in (T := T) h1 h2 k
  have s0 := tS_in (T := T) h1 h2 k
  have pn : tP T n k < n := by
    rcases Int.lt_or_le (tP T n k) n with z | z
    · exact z
    · have := tO_0.mpr z; omega
  by_cases c1 : isLt (T (tP T n k)) = true
  · obtain ⟨e1, e2⟩ := tk_w pn c1
    have fo := fw_ok (T := T) (n := n) (P := isLt) (p := tP T n k) (by omega) h1
    intro r r0 r1
    exact isLt_iff.mp (fo.2.1 r r0 (by unfold tN at r1; rw [e1] at r1; omega)).2
  by_cases c2 : isDg (T (tP T n k)) = true
  · have := (tk_n pn c1 c2).2
    split at this <;> omega
  · have := (tk_s pn c1 c2).2
    split at this <;> omega
theorem tV_same {j k : Nat} (h1 : n ≤ 1000) (h2 : 0 ≤ n) (hj : tO T n j = 1) (hk : tO T n k = 1) : tV T n 32 j = tV T n 32 k ↔ tV T n 37 j = tV T n 37 k := by
  unfold tV
  rw [if_pos hj, if_pos hk, if_pos hj, if_pos hk]
  exact enc_iff (tk_let h1 h2 hj) (tk_let h1 h2 hk)
theorem wl_same {v v' : Int} : ∀ m : Nat, (∀ i : Nat, i < m → (W i = v ↔ V i = v')) → wl W v m = wl V v' m
  | 0, _ => rfl
  | m + 1, h => by
    have ih := wl_same m (fun i hi => h i (by omega))
    unfold wl
    by_cases c : W m = v
    · rw [if_pos c, if_pos ((h m (by omega)).mp c)]
    · rw [if_neg c, if_neg (fun z => c ((h m (by omega)).mpr z)), ih]
theorem tW_b (h1 : n ≤ 1000) (h2 : 0 ≤ n) (hw : SameW W V) (k : Nat) : tW T n 32 W k = tW T n 37 V k := by
  unfold tW
  by_cases ho : tO T n k = 1
  · rw [if_pos ho, if_pos ho]
    refine wl_same 29 (fun i hi => ?_)
    obtain ⟨U, m, u1, u2, u3⟩ := hw i hi
    rw [u2, u3]
    unfold tV
    rw [if_pos ho, if_pos ho]
    exact enc_iff u1 (tk_let h1 h2 ho)
  · rw [if_neg ho, if_neg ho]
theorem tkS_b {c : Int} : tkS (tO T n) (tV T n 32) (tP T n) c = tkS (tO T n) (tV T n 37) (tP T n) c := by
  funext s
  unfold tkS
  by_cases o3 : tO T n s.2 = 3
  · rw [tV_b (b := 32) (b' := 37) (k := s.2) (by omega)]
  · rw [if_neg (fun z => o3 z.1), if_neg (fun z => o3 z.1)]
theorem tkN_b {a b : Int} : tkN (tO T n) (tV T n 32) (tP T n) a b = tkN (tO T n) (tV T n 37) (tP T n) a b := by
  funext s
  unfold tkN
  by_cases o3 : tO T n s.2 = 2
  · rw [tV_b (b := 32) (b' := 37) (k := s.2) (by omega)]
  · rw [if_neg o3, if_neg o3]
theorem tkR_b {a b : Int} : tkR (tO T n) (tV T n 32) (tP T n) a b = tkR (tO T n) (tV T n 37) (tP T n) a b := by
  funext s
  unfold tkR
  rw [tkN_b]
  by_cases o3 : tO T n s.2 = 2
  · rw [tV_b (b := 32) (b' := 37) (k := s.2) (by omega)]
  · rw [if_neg (fun z => o3 z.1), if_neg (fun z => o3 z.1)]
theorem key_b {k : Nat} (c : Int) : (tO T n k = 3 ∧ tV T n 32 k = c) = (tO T n k = 3 ∧ tV T n 37 k = c) := by
  by_cases o3 : tO T n k = 3
  · rw [tV_b (b := 32) (b' := 37) (k := k) (by omega)]
  · exact propext ⟨fun z => absurd z.1 o3, fun z => absurd z.1 o3⟩
theorem exO_b (hW : tW T n 32 W = tW T n 37 V) {lv : Nat} : exO (tO T n) (tV T n 32) (tW T n 32 W) lv = exO (tO T n) (tV T n 37) (tW T n 37 V) lv := by
  funext k
  unfold exO
  simp only [hW, key_b]
theorem exL_b (hW : tW T n 32 W = tW T n 37 V) {f : (Int × Nat) × List Int → (Int × Nat) × List Int} {lv : Nat} : ∀ (m : Nat) (x : (Int × Nat) × List Int), exL (tO T n) (tV T n 32) (tW T n 32 W) f lv m x = exL (tO T n) (tV T n 37) (tW T n 37 V) f lv m x
  | 0, _ => rfl
  | m + 1, x => by
    unfold exL
    rw [exO_b hW, exL_b hW m]
theorem exX_b (hW : tW T n 32 W = tW T n 37 V) {P : (Int × Nat) × List Int → (Int × Nat) × List Int} : ∀ j : Nat, exX (tO T n) (tV T n 32) (tW T n 32 W) P j = exX (tO T n) (tV T n 37) (tW T n 37 V) P j
  | 0 => rfl
  | j + 1 => by
    funext x
    show exL (tO T n) (tV T n 32) (tW T n 32 W) _ (3 - j) _ _ = exL (tO T n) (tV T n 37) (tW T n 37 V) _ (3 - j) _ _
    rw [exX_b hW j, exL_b hW]
theorem exP_b (hW : tW T n 32 W = tW T n 37 V) : ∀ r : Nat, exP (tO T n) (tV T n 32) (tW T n 32 W) (tP T n) r = exP (tO T n) (tV T n 37) (tW T n 37 V) (tP T n) r
  | 0 => by
    funext x
    unfold exP exK
    simp only [hW, key_b]
  | r + 1 => by
    funext x
    unfold exP
    rw [exP_b hW r, exX_b hW, tkS_b, hW]
    by_cases o1 : tO T n x.1.2 = 1
    · rw [if_neg (show ¬ tO T n x.1.2 = 2 by omega), if_neg (show ¬ tO T n x.1.2 = 2 by omega), if_neg (show ¬ (tO T n x.1.2 = 3 ∧ tV T n 32 x.1.2 = 40) by omega), if_neg (show ¬ (tO T n x.1.2 = 3 ∧ tV T n 37 x.1.2 = 40) by omega)]
    · rw [tV_b (b := 32) (b' := 37) o1]
end BA
