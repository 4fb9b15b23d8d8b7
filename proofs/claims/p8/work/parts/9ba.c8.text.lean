/-! p3, part c8: a quarter's whole text, line by line -/
section QSP
variable (o v w p : Nat → Int)
/-- where the reader is (fault, token), the names so far, those of doors, those of people, the law's codes -/
abbrev QY : Type := (Int × Nat) × List Nat × List Nat × List Nat × List Int
def qX (s : Int × Nat) : (Int × Nat) × List Int := exX o v w (exP o v w p 5) 4 (tkA s, [])
def qS (R : Int) (y : QY) : QY :=
  if w y.1.2 = 1 then (if 14 ≤ y.2.2.1.length then (tkE p 5 y.1, y.2) else (tkS o v p 59 (drL o v w p R y.2.1 y.1), y.2.1 ++ [y.1.2 + 1], y.2.2.1 ++ [y.1.2 + 1], y.2.2.2.1, y.2.2.2.2))
  else if w y.1.2 = 7 then (if 6 ≤ y.2.2.2.1.length then (tkE p 5 y.1, y.2) else (tkS o v p 59 (psL o v w p R y.2.1 y.1), y.2.1 ++ [y.1.2 + 1], y.2.2.1, y.2.2.2.1 ++ [y.1.2 + 1], y.2.2.2.2))
  else if w y.1.2 = 11 then (if 0 < y.2.2.2.2.length then (tkE p 3 y.1, y.2) else (tkS o v p 59 (qX o v w p y.1).1, y.2.1, y.2.2.1, y.2.2.2.1, (qX o v w p y.1).2))
  else (tkE p 1 y.1, y.2)
def qL (R : Int) : Nat → QY → QY
  | 0, y => y
  | c + 1, y => if y.1.1 = 0 ∧ o y.1.2 ≠ 0 then qL R c (qS o v w p R y) else y
def qR : Int := v (tkW w p 0 (0, 0)).2
def qA : Int × Nat := tkS o v p 59 (tkN o v p 2 10 (tkW w p 0 (0, 0)))
def qB : QY := (qA o v w p, [], [], [], [])
def qF : QY := qL o v w p (qR v w p) 1000 (qB o v w p)
end QSP
section QSM
variable {o v w p u : Nat → Int} {R : Int} {y : QY} {c : Nat} {N : List Nat} {s : Int × Nat}
theorem qL_stop (h : ¬ (y.1.1 = 0 ∧ o y.1.2 ≠ 0)) : qL o v w p R c y = y := by
  cases c with
  | zero => rfl
  | succ c => unfold qL; rw [if_neg h]
theorem qL_go (h : y.1.1 = 0 ∧ o y.1.2 ≠ 0) : qL o v w p R (c + 1) y = qL o v w p R c (qS o v w p R y) := by
  conv => lhs; unfold qL
  rw [if_pos h]
theorem tkE_p (hp : ∀ k, 0 ≤ p k) {c : Int} (hc : 1 ≤ c) : (tkE p c s).1 ≠ 0 := by
  by_cases z : s.1 = 0
  · rw [tkE_0 z]
    have := hp s.2
    show c + 16 * p s.2 ≠ 0
    omega
  · rw [tkE_f z]; exact z
theorem tkM_ok (hp : ∀ k, 0 ≤ p k) (h : (tkM o v w p N s).1 = 0) : isNm o w s.2 = true := by
  unfold tkM at h
  by_cases q : isNm o w s.2 = true
  · exact q
  · rw [if_neg q] at h
    exact absurd h (tkE_p hp (by decide))
theorem tkS_z {c : Int} (h : (tkS o v p c s).1 = 0) : s.1 = 0 := by
  by_cases z : s.1 = 0
  · exact z
  · rw [tkS_f z] at h; exact h
theorem tkM_z (h : (tkM o v w p N s).1 = 0) : s.1 = 0 := by
  by_cases z : s.1 = 0
  · exact z
  · rw [tkM_f z] at h; exact h
theorem opL_z (h : (opL o v w p s).1 = 0) : s.1 = 0 := by
  by_cases z : s.1 = 0
  · exact z
  · rw [opL_f z] at h; exact h
theorem drL_z (h : (drL o v w p R N s).1 = 0) : (drA o v w p N s).1 = 0 := tkN_z (tkW_z (tkR_z (tkF_z (opL_z h))))
theorem psL_z (h : (psL o v w p R N s).1 = 0) : (psA o v w p N s).1 = 0 := tkF_z (tkW_z (tkN_z (tkW_z (tkN_z (tkW_z (tkN_z h))))))
theorem isNm_o {k : Nat} (h : isNm o w k = true) : o k = 1 := by
  unfold isNm at h
  rw [decide_eq_true_iff] at h
  exact h.1
theorem exL_z {f : (Int × Nat) × List Int → (Int × Nat) × List Int} {lv : Nat} : ∀ (m : Nat) (x : (Int × Nat) × List Int), (exL o v w f lv m x).1.1 = 0 → x.1.1 = 0
  | 0, _, q => q
  | m + 1, x, q => by
    unfold exL at q
    split at q
    · next c => exact c.1
    · exact q
theorem exL_ge {f : (Int × Nat) × List Int → (Int × Nat) × List Int} (hf : ∀ x, x.2.length ≤ (f x).2.length) {lv : Nat} : ∀ (m : Nat) (x : (Int × Nat) × List Int), x.2.length ≤ (exL o v w f lv m x).2.length
  | 0, _ => Nat.le_refl _
  | m + 1, x => by
    unfold exL
    split
    · refine Nat.le_trans (hf (tkA x.1, x.2)) (Nat.le_trans ?_ (exL_ge hf m _))
      unfold exA
      rw [List.length_append]
      exact Nat.le_add_right _ _
    · exact Nat.le_refl _
theorem exX_ge {P : (Int × Nat) × List Int → (Int × Nat) × List Int} (hf : ∀ x, x.2.length ≤ (P x).2.length) : ∀ (j : Nat) (x : (Int × Nat) × List Int), x.2.length ≤ (exX o v w P j x).2.length
  | 0, x => hf x
  | j + 1, x => Nat.le_trans (exX_ge hf j x) (exL_ge (exX_ge hf j) _ _)
theorem exP_ge : ∀ (r : Nat) (x : (Int × Nat) × List Int), x.2.length ≤ (exP o v w p r x).2.length
  | 0, x => by unfold exP; exact Nat.le_refl _
  | r + 1, x => by
    unfold exP
    split
    · show x.2.length ≤ (x.2 ++ [v x.1.2]).length
      rw [List.length_append]; exact Nat.le_add_right _ _
    split
    · show x.2.length ≤ (x.2 ++ [w x.1.2 + 9975]).length
      rw [List.length_append]; exact Nat.le_add_right _ _
    split
    · exact exX_ge (exP_ge r) 4 (tkA x.1, x.2)
    split
    · refine Nat.le_trans (exP_ge r (tkA x.1, x.2)) ?_
      unfold exA
      rw [List.length_append]
      exact Nat.le_add_right _ _
    · exact Nat.le_refl _
theorem exX_len {P : (Int × Nat) × List Int → (Int × Nat) × List Int} (hg : ∀ x, x.2.length ≤ (P x).2.length) (hf : ∀ x, (P x).1.1 = 0 → x.2.length < (P x).2.length) : ∀ (j : Nat) (x : (Int × Nat) × List Int), (exX o v w P j x).1.1 = 0 → x.2.length < (exX o v w P j x).2.length
  | 0, x, q => hf x q
  | j + 1, x, q => Nat.lt_of_lt_of_le (exX_len hg hf j x (exL_z _ _ q)) (exL_ge (exX_ge hg j) _ _)
theorem exP_len (hp : ∀ k, 0 ≤ p k) : ∀ (r : Nat) (x : (Int × Nat) × List Int), (exP o v w p r x).1.1 = 0 → x.2.length < (exP o v w p r x).2.length
  | 0, x, q => by
    unfold exP at q
    have q' : (if exK o v w x.1.2 = true then tkE p 5 x.1 else tkE p 1 x.1).1 = 0 := q
    split at q'
    · exact absurd q' (tkE_p hp (by decide))
    · exact absurd q' (tkE_p hp (by decide))
  | r + 1, x, q => by
    unfold exP at q ⊢
    split at q
    · next c =>
      rw [if_pos c]
      show x.2.length < (x.2 ++ [v x.1.2]).length
      rw [List.length_append]; exact Nat.lt_succ_self _
    · next c =>
      rw [if_neg c]
      split at q
      · next c2 =>
        rw [if_pos c2]
        show x.2.length < (x.2 ++ [w x.1.2 + 9975]).length
        rw [List.length_append]; exact Nat.lt_succ_self _
      · next c2 =>
        rw [if_neg c2]
        split at q
        · next c3 =>
          rw [if_pos c3]
          exact exX_len (exP_ge r) (exP_len hp r) 4 (tkA x.1, x.2) (tkS_z q)
        · next c3 =>
          rw [if_neg c3]
          split at q
          · next c4 =>
            rw [if_pos c4]
            have := exP_ge (o := o) (v := v) (w := w) (p := p) r (tkA x.1, x.2)
            unfold exA
            rw [List.length_append]
            exact Nat.lt_succ_of_le this
          · exact absurd q (tkE_p hp (by decide))
theorem qX_len (hp : ∀ k, 0 ≤ p k) (q : (qX o v w p s).1.1 = 0) : 0 < (qX o v w p s).2.length := exX_len (exP_ge 5) (exP_len hp 5) 4 (tkA s, []) q
theorem qS_N (hp : ∀ k, 0 ≤ p k) (hz : y.1.1 = 0) (hN : ∀ j ∈ y.2.1, o j = 1) (h : (qS o v w p R y).1.1 = 0) : ∀ j ∈ (qS o v w p R y).2.1, o j = 1 := by
  have e1 : (tkA y.1).2 = y.1.2 + 1 := by rw [tkA_0 hz]
  unfold qS at h ⊢
  by_cases w1 : w y.1.2 = 1
  · rw [if_pos w1] at h ⊢
    by_cases c1 : 14 ≤ y.2.2.1.length
    · rw [if_pos c1] at h
      exact absurd h (tkE_p hp (by decide))
    · rw [if_neg c1] at h ⊢
      have nm := tkM_ok hp (drL_z (tkS_z h))
      intro j hj
      have hj' : j ∈ y.2.1 ++ [y.1.2 + 1] := hj
      rw [List.mem_append, List.mem_singleton] at hj'
      rcases hj' with q | q
      · exact hN j q
      · rw [q, ← e1]; exact isNm_o nm
  · rw [if_neg w1] at h ⊢
    by_cases w7 : w y.1.2 = 7
    · rw [if_pos w7] at h ⊢
      by_cases c1 : 6 ≤ y.2.2.2.1.length
      · rw [if_pos c1] at h
        exact absurd h (tkE_p hp (by decide))
      · rw [if_neg c1] at h ⊢
        have nm := tkM_ok hp (psL_z (tkS_z h))
        intro j hj
        have hj' : j ∈ y.2.1 ++ [y.1.2 + 1] := hj
        rw [List.mem_append, List.mem_singleton] at hj'
        rcases hj' with q | q
        · exact hN j q
        · rw [q, ← e1]; exact isNm_o nm
    · rw [if_neg w7] at h ⊢
      by_cases w11 : w y.1.2 = 11
      · rw [if_pos w11] at h ⊢
        by_cases c1 : 0 < y.2.2.2.2.length
        · rw [if_pos c1] at h
          exact absurd h (tkE_p hp (by decide))
        · rw [if_neg c1]; exact hN
      · rw [if_neg w11] at h
        exact absurd h (tkE_p hp (by decide))
/-- what is asked of two readings of the tokens' worth -/
def SmV (o p u v : Nat → Int) : Prop := (∀ k, o k ≠ 1 → u k = v k) ∧ (∀ j k, o j = 1 → o k = 1 → (u j = u k ↔ v j = v k)) ∧ ∀ k, 0 ≤ p k
theorem sm_S (h : SmV o p u v) {c : Int} : tkS o u p c = tkS o v p c := by
  funext s
  unfold tkS
  by_cases z : o s.2 = 3
  · rw [h.1 s.2 (by omega)]
  · rw [if_neg (fun q => z q.1), if_neg (fun q => z q.1)]
theorem sm_N (h : SmV o p u v) {a b : Int} : tkN o u p a b = tkN o v p a b := by
  funext s
  unfold tkN
  by_cases z : o s.2 = 2
  · rw [h.1 s.2 (by omega)]
  · rw [if_neg z, if_neg z]
theorem sm_R (h : SmV o p u v) {a b : Int} : tkR o u p a b = tkR o v p a b := by
  funext s
  unfold tkR
  rw [sm_N h]
  by_cases z : o s.2 = 2
  · rw [h.1 s.2 (by omega)]
  · rw [if_neg (fun q => z q.1), if_neg (fun q => z q.1)]
theorem sm_M (h : SmV o p u v) (hN : ∀ j ∈ N, o j = 1) : tkM o u w p N = tkM o v w p N := by
  funext s
  unfold tkM
  by_cases z : isNm o w s.2 = true
  · rw [if_pos z, if_pos z]
    have e : N.any (fun j => decide (u j = u s.2)) = N.any (fun j => decide (v j = v s.2)) := by
      have key : ∀ L : List Nat, (∀ j ∈ L, o j = 1) → L.any (fun j => decide (u j = u s.2)) = L.any (fun j => decide (v j = v s.2)) := by
        intro L
        induction L with
        | nil => intro _; rfl
        | cons a L ih =>
          intro hL
          rw [List.any_cons, List.any_cons, ih (fun j hj => hL j (List.mem_cons_of_mem _ hj)), decide_eq_decide.mpr (h.2.1 a s.2 (hL a (List.mem_cons_self)) (isNm_o z))]
      exact key N hN
    rw [e]
  · rw [if_neg z, if_neg z]
theorem sm_op (h : SmV o p u v) {c a b : Int} : opN o u w p c a b = opN o v w p c a b := by
  funext s
  unfold opN
  rw [sm_N h]
theorem sm_F (h : SmV o p u v) : opF o u w p = opF o v w p := by
  funext s
  unfold opF opE
  rw [sm_N h, sm_N h]
  by_cases b : tkB w 3 s = true
  · rw [if_pos b, if_pos b, if_pos b]
    by_cases z : (tkN o v p 0 23 (tkA s)).1 = 0
    · have k := (tkN_ok z (fun c hc => tkE_p h.2.2 hc)).2.1
      rw [h.1 (tkA s).2 (by omega)]
    · rw [tkW_f z, tkN_f z, tkN_f z]
  · rw [if_neg b, if_neg b]
theorem sm_L (h : SmV o p u v) : opL o u w p = opL o v w p := by
  funext s
  unfold opL
  rw [sm_op h, sm_op h, sm_F h]
theorem sm_d (h : SmV o p u v) (hN : ∀ j ∈ N, o j = 1) : drL o u w p R N s = drL o v w p R N s := by
  have eA : drA o u w p N s = drA o v w p N s := by unfold drA; rw [sm_M h hN]
  have eB : drB o u w p R N s = drB o v w p R N s := by unfold drB; rw [sm_N h, eA]
  have eC : drC o u w p R N s = drC o v w p R N s := by
    unfold drC
    rw [sm_R h, eA, eB]
    by_cases z : (drB o v w p R N s).1 = 0
    · have k := (tkN_ok (tkW_z z) (fun c hc => tkE_p h.2.2 hc)).2.1
      rw [h.1 (drA o v w p N s).2 (by omega)]
    · rw [tkR_f z, tkR_f z]
  unfold drL drD
  rw [sm_L h, eC]
theorem sm_p (h : SmV o p u v) (hN : ∀ j ∈ N, o j = 1) : psL o u w p R N s = psL o v w p R N s := by
  unfold psL psD psC psB psA
  rw [sm_M h hN, sm_N h, sm_N h]
theorem qS_b (h : SmV o p u v) (hX : exX o u w (exP o u w p 5) 4 = exX o v w (exP o v w p 5) 4) (hN : ∀ j ∈ y.2.1, o j = 1) : qS o u w p R y = qS o v w p R y := by
  unfold qS qX
  rw [hX, sm_S h, sm_d h hN, sm_p h hN]
theorem qL_b (h : SmV o p u v) (hX : exX o u w (exP o u w p 5) 4 = exX o v w (exP o v w p 5) 4) : ∀ (c : Nat) (y : QY), (y.1.1 = 0 → ∀ j ∈ y.2.1, o j = 1) → qL o u w p R c y = qL o v w p R c y
  | 0, _, _ => rfl
  | c + 1, y, hN => by
    by_cases g : y.1.1 = 0 ∧ o y.1.2 ≠ 0
    · rw [qL_go g, qL_go g, qS_b h hX (hN g.1)]
      exact qL_b h hX c _ (fun z => qS_N h.2.2 g.1 (hN g.1) z)
    · rw [qL_stop g, qL_stop g]
theorem qF_b (h : SmV o p u v) (hX : exX o u w (exP o u w p 5) 4 = exX o v w (exP o v w p 5) 4) : qF o u w p = qF o v w p := by
  unfold qF qB
  have eA : qA o u w p = qA o v w p := by unfold qA; rw [sm_S h, sm_N h]
  rw [eA]
  by_cases z : (qA o v w p).1 = 0
  · have k := (tkN_ok (tkS_z z) (fun c hc => tkE_p h.2.2 hc)).2.1
    have eR : qR u w p = qR v w p := by unfold qR; exact h.1 _ (by omega)
    rw [eR]
    exact qL_b h hX 1000 _ (fun _ j hj => absurd hj (List.not_mem_nil))
  · rw [qL_stop (fun q => z q.1), qL_stop (fun q => z q.1)]
end QSM
section QSZ
variable {T : Int → Int} {n : Int} {W V : Int → Int}
theorem tP_0 (h1 : n ≤ 1000) (h2 : 0 ≤ n) (k : Nat) : 0 ≤ tP T n k := by
  have a := tP_in (T := T) h1 h2 k
  have b := tS_in (T := T) h1 h2 k
  omega
theorem tV_sm (h1 : n ≤ 1000) (h2 : 0 ≤ n) : SmV (tO T n) (tP T n) (tV T n 32) (tV T n 37) := by
  refine ⟨fun k hk => tV_b hk, fun j k hj hk => tV_same h1 h2 hj hk, fun k => ?_⟩
  have a := tP_in (T := T) h1 h2 k
  have b := tS_in (T := T) h1 h2 k
  omega
/-- both readers' texts come to the same -/
theorem qF_same (h1 : n ≤ 1000) (h2 : 0 ≤ n) (hw : SameW W V) : qF (tO T n) (tV T n 32) (tW T n 32 W) (tP T n) = qF (tO T n) (tV T n 37) (tW T n 37 V) (tP T n) := by
  have hW : tW T n 32 W = tW T n 37 V := funext (fun k => tW_b h1 h2 hw k)
  have hX : exX (tO T n) (tV T n 32) (tW T n 32 W) (exP (tO T n) (tV T n 32) (tW T n 32 W) (tP T n) 5) 4 = exX (tO T n) (tV T n 37) (tW T n 37 V) (exP (tO T n) (tV T n 37) (tW T n 37 V) (tP T n) 5) 4 := by
    rw [exP_b hW 5, exX_b hW 4]
  rw [hW] at hX ⊢
  exact qF_b (tV_sm h1 h2) hX
end QSZ
