section
/-! p3, part c8: a quarter's whole text, line by line -/
section QSP
variable (o v w p : Nat → Int)
/-- where the reader is (fault, token), the names so far, those of doors, those of people, the law's codes -/
abbrev QY : Type := (Int × Nat) × List Nat × List Nat × List Nat × List Int
def qX (s : Int × Nat) : (Int × Nat) × List Int := exX o v w (exP o v w p 5) 4 (tkA s, [])
def qS (R : Int) (y : QY) : QY :=
  if w y.1.2 = 1 then (if 14 ≤ y.2.2.1.length then (tkE p 5 y.1, y.2) else (tkS o v p 59 (drL o v w p R y.2.1 y.1), y.2.1 ++ [y.1.2 + 1], y.2.2.1 ++ [y.1.2 + 1], y.2.2.2.1, y.2.2.2.2))
  else if w y.1.2 = 7 then (if 6 ≤ y.2.2.2.1.length then (tkE p 5 y.1, y.2) else (tkS o v p 59 (psL o v w p R y.2.1 y.1), y.2.1 ++ [y.1.2 + 1], y.2.2.1, y.2.2.2.1 ++ [y.1.2 + 1], y.2.2.2.2))
  else if w y.1.2 = 11 then (if 0 < y.2.2.2.2.length then (tkE p 3 y.1, y.2) else (tkS o v p 59 (qX o v w p y.1).1, y.2.1, y.2.2.1, y.2.2.2.1, (qX o v w p y.1).2))
  else (tkE p 1 y.1, y.2)
def qL (R : Int) : Nat → QY → QY
  | 0, y => y
  | c + 1, y => if y.1.1 = 0 ∧ o y.1.2 ≠ 0 then qL R c (qS o v w p R y) else y
def qR : Int := v (tkW w p 0 (0, 0)).2
def qA : Int × Nat := tkS o v p 59 (tkN o v p 2 10 (tkW w p 0 (0, 0)))
def qB : QY := (qA o v w p, [], [], [], [])
def qF : QY := qL o v w p (qR v w p) 1000 (qB o v w p)
end QSP
section QSM
variable {o v w p u : Nat → Int} {R : Int} {y : QY} {c : Nat} {N : List Nat} {s : Int × Nat}
theorem qL_stop (h : ¬ (y.1.1 = 0 ∧ o y.1.2 ≠ 0)) : qL o v w p R c y = y := by
  cases c with
  | zero => rfl
  | succ c => unfold qL; rw [if_neg h]
theorem qL_go (h : y.1.1 = 0 ∧ o y.1.2 ≠ 0) : qL o v w p R (c + 1) y = qL o v w p R c (qS o v w p R y) := by
  conv => lhs; unfold qL
  rw [if_pos h]
theorem tkE_p (hp : ∀ k, 0 ≤ p k) {c : Int} (hc : 1 ≤ c) : (tkE p c s).1 ≠ 0 := by
  by_cases z : s.1 = 0
  · rw [tkE_0 z]
    have := hp s.2
    show c + 16 * p s.2 ≠ 0
    omega
  · rw [tkE_f z]; exact z
theorem tkM_ok (hp : ∀ k, 0 ≤ p k) (h : (tkM o v w p N s).1 = 0) : isNm o w s.2 = true := by
  unfold tkM at h
  by_cases q : isNm o w s.2 = true
  · exact q
  · rw [if_neg q] at h
    exact absurd h (tkE_p hp (by decide))
theorem tkS_z {c : Int} (h : (tkS o v p c s).1 = 0) : s.1 = 0 := by
  by_cases z : s.1 = 0
  · exact z
  · rw [tkS_f z] at h; exact h
theorem tkM_z (h : (tkM o v w p N s).1 = 0) : s.1 = 0 := by
  by_cases z : s.1 = 0
  · exact z
  · rw [tkM_f z] at h; exact h
theorem opL_z (h : (opL o v w p s).1 = 0) : s.1 = 0 := by
  by_cases z : s.1 = 0
  · exact z
  · rw [opL_f z] at h; exact h
theorem drL_z (h : (drL o v w p R N s).1 = 0) : (drA o v w p N s).1 = 0 := tkN_z (tkW_z (tkR_z (tkF_z (opL_z h))))
theorem psL_z (h : (psL o v w p R N s).1 = 0) : (psA o v w p N s).1 = 0 := tkF_z (tkW_z (tkN_z (tkW_z (tkN_z (tkW_z (tkN_z h))))))
theorem isNm_o {k : Nat} (h : isNm o w k = true) : o k = 1 := by
  unfold isNm at h
  rw [decide_eq_true_iff] at h
  exact h.1
theorem exL_z {f : (Int × Nat) × List Int → (Int × Nat) × List Int} {lv : Nat} : ∀ (m : Nat) (x : (Int × Nat) × List Int), (exL o v w f lv m x).1.1 = 0 → x.1.1 = 0
  | 0, _, q => q
  | m + 1, x, q => by
    unfold exL at q
    split at q
    · next c => exact c.1
    · exact q
theorem exL_ge {f : (Int × Nat) × List Int → (Int × Nat) × List Int} (hf : ∀ x, x.2.length ≤ (f x).2.length) {lv : Nat} : ∀ (m : Nat) (x : (Int × Nat) × List Int), x.2.length ≤ (exL o v w f lv m x).2.length
  | 0, _ => Nat.le_refl _
  | m + 1, x => by
    unfold exL
    split
    · refine Nat.le_trans (hf (tkA x.1, x.2)) (Nat.le_trans ?_ (exL_ge hf m _))
      unfold exA
      rw [List.length_append]
      exact Nat.le_add_right _ _
    · exact Nat.le_refl _
theorem exX_ge {P : (Int × Nat) × List Int → (Int × Nat) × List Int} (hf : ∀ x, x.2.length ≤ (P x).2.length) : ∀ (j : Nat) (x : (Int × Nat) × List Int), x.2.length ≤ (exX o v w P j x).2.length
  | 0, x => hf x
  | j + 1, x => Nat.le_trans (exX_ge hf j x) (exL_ge (exX_ge hf j) _ _)
theorem exP_ge : ∀ (r : Nat) (x : (Int × Nat) × List Int), x.2.length ≤ (exP o v w p r x).2.length
  | 0, x => by unfold exP; exact Nat.le_refl _
  | r + 1, x => by
    unfold exP
    split
    · show x.2.length ≤ (x.2 ++ [v x.1.2]).length
      rw [List.length_append]; exact Nat.le_add_right _ _
    split
    · show x.2.length ≤ (x.2 ++ [w x.1.2 + 9975]).length
      rw [List.length_append]; exact Nat.le_add_right _ _
    split
    · exact exX_ge (exP_ge r) 4 (tkA x.1, x.2)
    split
    · refine Nat.le_trans (exP_ge r (tkA x.1, x.2)) ?_
      unfold exA
      rw [List.length_append]
      exact Nat.le_add_right _ _
    · exact Nat.le_refl _
theorem exX_len {P : (Int × Nat) × List Int → (Int × Nat) × List Int} (hg : ∀ x, x.2.length ≤ (P x).2.length) (hf : ∀ x, (P x).1.1 = 0 → x.2.length < (P x).2.length) : ∀ (j : Nat) (x : (Int × Nat) × List Int), (exX o v w P j x).1.1 = 0 → x.2.length < (exX o v w P j x).2.length
  | 0, x, q => hf x q
  | j + 1, x, q => Nat.lt_of_lt_of_le (exX_len hg hf j x (exL_z _ _ q)) (exL_ge (exX_ge hg j) _ _)
theorem exP_len (hp : ∀ k, 0 ≤ p k) : ∀ (r : Nat) (x : (Int × Nat) × List Int), (exP o v w p r x).1.1 = 0 → x.2.length < (exP o v w p r x).2.length
  | 0, x, q => by
    unfold exP at q
    have q' : (if exK o v w x.1.2 = true then tkE p 5 x.1 else tkE p 1 x.1).1 = 0 := q
    split at q'
    · exact absurd q' (tkE_p hp (by decide))
    · exact absurd q' (tkE_p hp (by decide))
  | r + 1, x, q => by
    unfold exP at q ⊢
    split at q
    · next c =>
      rw [if_pos c]
      show x.2.length < (x.2 ++ [v x.1.2]).length
      rw [List.length_append]; exact Nat.lt_succ_self _
    · next c =>
      rw [if_neg c]
      split at q
      · next c2 =>
        rw [if_pos c2]
        show x.2.length < (x.2 ++ [w x.1.2 + 9975]).length
        rw [List.length_append]; exact Nat.lt_succ_self _
      · next c2 =>
        rw [if_neg c2]
        split at q
        · next c3 =>
          rw [if_pos c3]
          exact exX_len (exP_ge r) (exP_len hp r) 4 (tkA x.1, x.2) (tkS_z q)
        · next c3 =>
          rw [if_neg c3]
          split at q
          · next c4 =>
            rw [if_pos c4]
            have := exP_ge (o := o) (v := v) (w := w) (p := p) r (tkA x.1, x.2)
            unfold exA
            rw [List.length_append]
            exact Nat.lt_succ_of_le this
          · exact absurd q (tkE_p hp (by decide))
theorem qX_len (hp : ∀ k, 0 ≤ p k) (q : (qX o v w p s).1.1 = 0) : 0 < (qX o v w p s).2.length := exX_len (exP_ge 5) (exP_len hp 5) 4 (tkA s, []) q
theorem qS_N (hp : ∀ k, 0 ≤ p k) (hz : y.1.1 = 0) (hN : ∀ j ∈ y.2.1, o j = 1) (h : (qS o v w p R y).1.1 = 0) : ∀ j ∈ (qS o v w p R y).2.1, o j = 1 := by
  have e1 : (tkA y.1).2 = y.1.2 + 1 := by rw [tkA_0 hz]
  unfold qS at h ⊢
  by_cases w1 : w y.1.2 = 1
  · rw [if_pos w1] at h ⊢
    by_cases c1 : 14 ≤ y.2.2.1.length
    · rw [if_pos c1] at h
      exact absurd h (tkE_p hp (by decide))
    · rw [if_neg c1] at h ⊢
      have nm := tkM_ok hp (drL_z (tkS_z h))
      intro j hj
      have hj' : j ∈ y.2.1 ++ [y.1.2 + 1] := hj
      rw [List.mem_append, List.mem_singleton] at hj'
      rcases hj' with q | q
      · exact hN j q
      · rw [q, ← e1]; exact isNm_o nm
  · rw [if_neg w1] at h ⊢
    by_cases w7 : w y.1.2 = 7
    · rw [if_pos w7] at h ⊢
      by_cases c1 : 6 ≤ y.2.2.2.1.length
      · rw [if_pos c1] at h
        exact absurd h (tkE_p hp (by decide))
      · rw [if_neg c1] at h ⊢
        have nm := tkM_ok hp (psL_z (tkS_z h))
        intro j hj
        have hj' : j ∈ y.2.1 ++ [y.1.2 + 1] := hj
        rw [List.mem_append, List.mem_singleton] at hj'
        rcases hj' with q | q
        · exact hN j q
        · rw [q, ← e1]; exact isNm_o nm
    · rw [if_neg w7] at h ⊢
      by_cases w11 : w y.1.2 = 11
      · rw [if_pos w11] at h ⊢
        by_cases c1 : 0 < y.2.2.2.2.length
        · rw [if_pos c1] at h
          exact absurd h (tkE_p hp (by decide))
        · rw [if_neg c1]; exact hN
      · rw [if_neg w11] at h
        exact absurd h (tkE_p hp (by decide))
/-- what is asked of two readings of the tokens' worth -/
def SmV (o p u v : Nat → Int) : Prop := (∀ k, o k ≠ 1 → u k = v k) ∧ (∀ j k, o j = 1 → o k = 1 → (u j = u k ↔ v j = v k)) ∧ ∀ k, 0 ≤ p k
theorem sm_S (h : SmV o p u v) {c : Int} : tkS o u p c = tkS o v p c := by
  funext s
  unfold tkS
  by_cases z : o s.2 = 3
  · rw [h.1 s.2 (by omega)]
  · rw [if_neg (fun q => z q.1), if_neg (fun q => z q.1)]
theorem sm_N (h : SmV o p u v) {a b : Int} : tkN o u p a b = tkN o v p a b := by
  funext s
  unfold tkN
  by_cases z : o s.2 = 2
  · rw [h.1 s.2 (by omega)]
  · rw [if_neg z, if_neg z]
theorem sm_R (h : SmV o p u v) {a b : Int} : tkR o u p a b = tkR o v p a b := by
  funext s
  unfold tkR
  rw [sm_N h]
  by_cases z : o s.2 = 2
  · rw [h.1 s.2 (by omega)]
  · rw [if_neg (fun q => z q.1), if_neg (fun q => z q.1)]
theorem sm_M (h : SmV o p u v) (hN : ∀ j ∈ N, o j = 1) : tkM o u w p N = tkM o v w p N := by
  funext s
  unfold tkM
  by_cases z : isNm o w s.2 = true
  · rw [if_pos z, if_pos z]
    have e : N.any (fun j => decide (u j = u s.2)) = N.any (fun j => decide (v j = v s.2)) := by
      have key : ∀ L : List Nat, (∀ j ∈ L, o j = 1) → L.any (fun j => decide (u j = u s.2)) = L.any (fun j => decide (v j = v s.2)) := by
        intro L
        induction L with
        | nil => intro _; rfl
        | cons a L ih =>
          intro hL
          rw [List.any_cons, List.any_cons, ih (fun j hj => hL j (List.mem_cons_of_mem _ hj)), decide_eq_decide.mpr (h.2.1 a s.2 (hL a (List.mem_cons_self)) (isNm_o z))]
      exact key N hN
    rw [e]
  · rw [if_neg z, if_neg z]
theorem sm_op (h : SmV o p u v) {c a b : Int} : opN o u w p c a b = opN o v w p c a b := by
  funext s
  unfold opN
  rw [sm_N h]
theorem sm_F (h : SmV o p u v) : opF o u w p = opF o v w p := by
  funext s
  unfold opF opE
  rw [sm_N h, sm_N h]
  by_cases b : tkB w 3 s = true
  · rw [if_pos b, if_pos b, if_pos b]
    by_cases z : (tkN o v p 0 23 (tkA s)).1 = 0
    · have k := (tkN_ok z (fun c hc => tkE_p h.2.2 hc)).2.1
      rw [h.1 (tkA s).2 (by omega)]
    · rw [tkW_f z, tkN_f z, tkN_f z]
  · rw [if_neg b, if_neg b]
theorem sm_L (h : SmV o p u v) : opL o u w p = opL o v w p := by
  funext s
  unfold opL
  rw [sm_op h, sm_op h, sm_F h]
theorem sm_d (h : SmV o p u v) (hN : ∀ j ∈ N, o j = 1) : drL o u w p R N s = drL o v w p R N s := by
  have eA : drA o u w p N s = drA o v w p N s := by unfold drA; rw [sm_M h hN]
  have eB : drB o u w p R N s = drB o v w p R N s := by unfold drB; rw [sm_N h, eA]
  have eC : drC o u w p R N s = drC o v w p R N s := by
    unfold drC
    rw [sm_R h, eA, eB]
    by_cases z : (drB o v w p R N s).1 = 0
    · have k := (tkN_ok (tkW_z z) (fun c hc => tkE_p h.2.2 hc)).2.1
      rw [h.1 (drA o v w p N s).2 (by omega)]
    · rw [tkR_f z, tkR_f z]
  unfold drL drD
  rw [sm_L h, eC]
theorem sm_p (h : SmV o p u v) (hN : ∀ j ∈ N, o j = 1) : psL o u w p R N s = psL o v w p R N s := by
  unfold psL psD psC psB psA
  rw [sm_M h hN, sm_N h, sm_N h]
theorem qS_b (h : SmV o p u v) (hX : exX o u w (exP o u w p 5) 4 = exX o v w (exP o v w p 5) 4) (hN : ∀ j ∈ y.2.1, o j = 1) : qS o u w p R y = qS o v w p R y := by
  unfold qS qX
  rw [hX, sm_S h, sm_d h hN, sm_p h hN]
theorem qL_b (h : SmV o p u v) (hX : exX o u w (exP o u w p 5) 4 = exX o v w (exP o v w p 5) 4) : ∀ (c : Nat) (y : QY), (y.1.1 = 0 → ∀ j ∈ y.2.1, o j = 1) → qL o u w p R c y = qL o v w p R c y
  | 0, _, _ => rfl
  | c + 1, y, hN => by
    by_cases g : y.1.1 = 0 ∧ o y.1.2 ≠ 0
    · rw [qL_go g, qL_go g, qS_b h hX (hN g.1)]
      exact qL_b h hX c _ (fun z => qS_N h.2.2 g.1 (hN g.1) z)
    · rw [qL_stop g, qL_stop g]
theorem qF_b (h : SmV o p u v) (hX : exX o u w (exP o u w p 5) 4 = exX o v w (exP o v w p 5) 4) : qF o u w p = qF o v w p := by
  unfold qF qB
  have eA : qA o u w p = qA o v w p := by unfold qA; rw [sm_S h, sm_N h]
  rw [eA]
  by_cases z : (qA o v w p).1 = 0
  · have k := (tkN_ok (tkS_z z) (fun c hc => tkE_p h.2.2 hc)).2.1
    have eR : qR u w p = qR v w p := by unfold qR; exact h.1 _ (by omega)
    rw [eR]
    exact qL_b h hX 1000 _ (fun _ j hj => absurd hj (List.not_mem_nil))
  · rw [qL_stop (fun q => z q.1), qL_stop (fun q => z q.1)]
end QSM
section QSZ
variable {T : Int → Int} {n : Int} {W V : Int → Int}
theorem tP_0 (h1 : n ≤ 1000) (h2 : 0 ≤ n) (k : Nat) : 0 ≤ tP T n k := by
  have a := tP_in (T := T) h1 h2 k
  have b := tS_in (T := T) h1 h2 k
  omega
theorem tV_sm (h1 : n ≤ 1000) (h2 : 0 ≤ n) : SmV (tO T n) (tP T n) (tV T n 32) (tV T n 37) := by
  refine ⟨fun k hk => tV_b hk, fun j k hj hk => tV_same h1 h2 hj hk, fun k => ?_⟩
  have a := tP_in (T := T) h1 h2 k
  have b := tS_in (T := T) h1 h2 k
  omega
/-- both readers' texts come to the same -/
theorem qF_same (h1 : n ≤ 1000) (h2 : 0 ≤ n) (hw : SameW W V) : qF (tO T n) (tV T n 32) (tW T n 32 W) (tP T n) = qF (tO T n) (tV T n 37) (tW T n 37 V) (tP T n) := by
  have hW : tW T n 32 W = tW T n 37 V := funext (fun k => tW_b h1 h2 hw k)
  have hX : exX (tO T n) (tV T n 32) (tW T n 32 W) (exP (tO T n) (tV T n 32) (tW T n 32 W) (tP T n) 5) 4 = exX (tO T n) (tV T n 37) (tW T n 37 V) (exP (tO T n) (tV T n 37) (tW T n 37 V) (tP T n) 5) 4 := by
    rw [exP_b hW 5, exX_b hW 4]
  rw [hW] at hX ⊢
  exact qF_b (tV_sm h1 h2) hX
end QSZ
end
section
/-! p3, part c9: the reference reads a quarter as the text says -/
section CP
variable {xs : Nat → Int} {xl e : Nat} {h : LH} {Q : Option LV → LH → Prop} {T : Int → Int} {n : Int} {V : Int → Int} {m : Nat}
/-- behind a text without a fault: copies, a new day, answer 0 -/
theorem DQ_tail (he : 41 ≤ e) {G : LH} (gI : INV G) (gq : NQ G) (f0 : rd G 182 8 = 0) (k : ∀ g, INV g → (∀ i, rd g 187 i = rd G 187 i) → Q (some (.inl 0)) g) : Rn xs xl e mm_quarter 129 [some (.inr (.inr 182)), some (.inl 0)] [] G Q := by
  obtain ⟨q1, q2, q3, q4, q5⟩ := gq f0
  have c0 := rF_codes gI.1
  have n0 := rw_doors gI.1
  have n1 := rw_people gI.1
  refine q_copy1 (G := G) (fun g1 r1 c1 f1 => ?_) 150 G 0 (by omega) (by omega) (by omega) gI.1 (fun i i0 i1 => by omega) (fun _ _ _ => rfl)
  have e13 : rd g1 182 13 = rd G 182 13 := f1 _ _ (by omega)
  refine q_copy2 (G := g1) (by omega) (fun g2 r2 c2 f2 => ?_) (rd g1 182 13).toNat g1 0 (by omega) (by omega) (by omega) r1 (fun i i0 i1 => by omega) (fun _ _ _ => rfl)
  refine q_copy3 (G := g2) (fun g3 r3 f3 => ?_) 20 g2 0 (by omega) (by omega) (by omega) r2 (fun _ _ _ => rfl)
  have x188 : ∀ i, 0 ≤ i → i < 150 → rd g3 188 i = rd G 188 (i + 150) := fun i i0 i1 => ((f3 188 i (by omega)).trans (f2 188 i (by omega))).trans (c1 i i0 i1)
  have x0 := x188 0 (by omega) (by omega)
  have x1 := x188 1 (by omega) (by omega)
  have x2 := x188 2 (by omega) (by omega)
  have x3 := x188 3 (by omega) (by omega)
  have s4 : SP4 g3 := by
    have old : ∀ b j, b ≠ 188 → b ≠ 189 → b ≠ 190 → b ≠ 191 → b ≠ 193 → b ≠ 182 → rd g3 b j = rd G b j := fun b j n1 n2 n3 n4 n5 n6 => ((f3 b j (by omega)).trans (f2 b j (by omega))).trans (f1 b j (by omega))
    obtain ⟨⟨h1, h2, h3, h4, h5, h6, h7, h8⟩, hl, ht, hq, hw⟩ := gI.2
    refine ⟨⟨lines_same (fun j => old _ j (by decide) (by decide) (by decide) (by decide) (by decide) (by decide)) (fun j => old _ j (by decide) (by decide) (by decide) (by decide) (by decide) (by decide)) h1, lines_same (fun j => old _ j (by decide) (by decide) (by decide) (by decide) (by decide) (by decide)) (fun j => old _ j (by decide) (by decide) (by decide) (by decide) (by decide) (by decide)) h2, lines_same (fun j => old _ j (by decide) (by decide) (by decide) (by decide) (by decide) (by decide)) (fun j => old _ j (by decide) (by decide) (by decide) (by decide) (by decide) (by decide)) h3, lines_same (fun j => old _ j (by decide) (by decide) (by decide) (by decide) (by decide) (by decide)) (fun j => old _ j (by decide) (by decide) (by decide) (by decide) (by decide) (by decide)) h4, lines_same (fun j => old _ j (by decide) (by decide) (by decide) (by decide) (by decide) (by decide)) (fun j => old _ j (by decide) (by decide) (by decide) (by decide) (by decide) (by decide)) h5, lines_same (fun j => old _ j (by decide) (by decide) (by decide) (by decide) (by decide) (by decide)) (fun j => old _ j (by decide) (by decide) (by decide) (by decide) (by decide) (by decide)) h6, ?_, ?_⟩, ?_, ?_, ?_⟩
    · intro m m0 m1 q
      rw [old 195 _ (by decide) (by decide) (by decide) (by decide) (by decide) (by decide)] at q ⊢
      exact h7 m m0 m1 q
    · intro m m0 m1 j j0 j1 q
      rw [old 200 _ (by decide) (by decide) (by decide) (by decide) (by decide) (by decide)] at q ⊢
      exact h8 m m0 m1 j j0 j1 q
    · intro q
      rw [x3] at q
      rcases q5 with z | ⟨z1, n, z2, z3, z4⟩
      · have := z.1
        rw [show (3 + 150 : Int) = 153 by omega, this] at q
        cases q
      · have cp : ∀ j, 0 ≤ j → j < rd G 182 13 → rd g3 189 j = opR G j ∧ rd g3 190 j = arR G j := by
          intro j j0 j1
          have y := c2 j j0 (by omega)
          unfold opR arR
          rw [f3 189 j (by omega), f3 190 j (by omega), y.1, y.2, f1 189 _ (by omega), f1 190 _ (by omega), show (j + 1100 : Int) = 1100 + j by omega]
          exact ⟨rfl, rfl⟩
        have lt := seg_lt z3
        exact ⟨n, by omega, seg_same z3 (fun j j0 j1 => cp j j0 (by omega)), (cp n (by omega) (by omega)).1.trans z4⟩
    · unfold SPtok
      rw [old 184 _ (by decide) (by decide) (by decide) (by decide) (by decide) (by decide)]
      exact ht
    · refine ⟨fun d d0 d1 d2 => ?_, fun p p0 p1 p2 => ?_⟩
      · rw [x1] at d2
        rw [x188 _ (by omega) (by omega), x188 (6 + 8 * d) (by omega) (by omega), x0, show (5 + 8 * d + 150 : Int) = 155 + 8 * d by omega, show (6 + 8 * d + 150 : Int) = 156 + 8 * d by omega]
        exact q3 d d0 d2
      · rw [x2] at p2
        rw [x188 _ (by omega) (by omega), x0, show (117 + 4 * p + 150 : Int) = 267 + 4 * p by omega]
        exact q4 p p0 p2
  exact ⟨2, by omega, D_begins (by omega) r3 s4 (fun g4 i4 f4 v => B_quarter_258 (RF_of i4.1) (k g4 i4 (fun i => by rw [f4 187 i (by unfold muG; omega), f3 187 i (by omega), f2 187 i (by omega), f1 187 i (by omega)])))⟩
/-- what the reference holds of the text so far -/
def DRK (T : Int → Int) (n : Int) (g : LH) (R : Int) (y : QY) : Prop := NRK T n g y.2.1 ∧ rd g 188 150 = R ∧ (0 ≤ R ∧ R ≤ 10) ∧ rd g 188 151 = (y.2.2.1.length : Int) ∧ rd g 188 152 = (y.2.2.2.1.length : Int) ∧ y.2.1.length = y.2.2.1.length + y.2.2.2.1.length ∧ y.2.2.1.length ≤ 14 ∧ y.2.2.2.1.length ≤ 6 ∧ (y.2.2.2.2.length = 0 → rd g 188 153 < 0 ∧ rd g 182 13 = 0) ∧ (0 < y.2.2.2.2.length → 0 ≤ rd g 188 153)
theorem DRK_T {g g' : LH} {R : Int} {y y' : QY} (hd : DRK T n g R y) (hf : frT g g') (hy : y'.2 = y.2) : DRK T n g' R y' := by
  obtain ⟨d1, d2, d3, d4, d5, d6, d7, d8, d9, d10⟩ := hd
  have e : ∀ a i, ¬ muTK a i → rd g' a i = rd g a i := hf
  unfold DRK
  rw [hy, e 188 150 (by unfold muTK; omega), e 188 151 (by unfold muTK; omega), e 188 152 (by unfold muTK; omega), e 188 153 (by unfold muTK; omega), e 182 13 (by unfold muTK; omega)]
  exact ⟨NRK_T d1 hf, d2, d3, d4, d5, d6, d7, d8, d9, d10⟩
theorem G_quarter (he : 41 ≤ e) (hI : INV h) (h2 : rd h 182 2 = n) (n0 : 0 ≤ n) (n1 : n ≤ 1000) (hT : ∀ i, 0 ≤ i → i < n → rd h 183 i = T i) (hV : rd h 187 = V) (hi : Vinj V)
    (k : ∀ h', rd h' 187 = V → Q (some (.inl (qF (tO T n) (tV T n 37) (tW T n 37 V) (tP T n)).1.1)) h') : Rn xs xl e mm_quarter 0 [some (.inr (.inr 182)), none] [] h Q := by
  generalize eF : qF (tO T n) (tV T n 37) (tW T n 37 V) (tP T n) = Y at k
  have loop : ∀ (R : Int) (m : Nat) (c : Nat) (g : LH) (y : QY), qL (tO T n) (tV T n 37) (tW T n 37 V) (tP T n) R c y = Y → RSK T n V m g y.1 → INV g → NQ g → (y.1.1 = 0 → DRK T n g R y ∧ 1000 ≤ y.1.2 + c) → Rn xs xl e mm_quarter 52 [some (.inr (.inr 182)), none] [] g Q := by
    intro R m c
    induction c with
    | zero =>
      intro g y eY hs gI gq hd
      have gF := RF_of gI.1
      have e8 := hs.2.1
      have a7 := hs.2.2.2.1
      have p0 := hs.2.2.1
      have m1 := hs.1.2.2.2.2.1
      have eY' : y = Y := eY
      have stop : Rn xs xl e mm_quarter 115 [some (.inr (.inr 182)), none] [] g Q := by
        refine B_quarter_115 gF ⟨fun q => ?_, fun q => ?_⟩
        · have z : y.1.1 = 0 := by omega
          refine DQ_tail he gI gq (e8.trans z) (fun g4 _ f187 => ?_)
          have := k g4 ((funext f187).trans hs.1.2.2.2.2.2.2.2.1)
          rw [← eY', z] at this
          exact this
        · have := k g hs.1.2.2.2.2.2.2.2.1
          rw [← eY', ← e8] at this
          exact this
      refine B_quarter_52 gF ⟨fun _ => stop, fun q => ⟨by omega, fun _ => stop, fun q2 => ?_⟩⟩
      have z : y.1.1 = 0 := e8.symm.trans q
      have eo := RS_o hs z
      have lt := RS_lt hs z (fun q3 => q2 (eo.trans q3))
      have := (hd z).2
      omega
    | succ c ih =>
      intro g y eY hs gI gq hd
      have gF := RF_of gI.1
      have e8 := hs.2.1
      have a7 := hs.2.2.2.1
      have p0 := hs.2.2.1
      have m1 := hs.1.2.2.2.2.1
      have stop : ¬ (y.1.1 = 0 ∧ tO T n y.1.2 ≠ 0) → Rn xs xl e mm_quarter 115 [some (.inr (.inr 182)), none] [] g Q := by
        intro ns
        have eY' : y = Y := by rw [qL_stop ns] at eY; exact eY
        refine B_quarter_115 gF ⟨fun q => ?_, fun q => ?_⟩
        · have z : y.1.1 = 0 := by omega
          refine DQ_tail he gI gq (e8.trans z) (fun g4 _ f187 => ?_)
          have := k g4 ((funext f187).trans hs.1.2.2.2.2.2.2.2.1)
          rw [← eY', z] at this
          exact this
        · have := k g hs.1.2.2.2.2.2.2.2.1
          rw [← eY', ← e8] at this
          exact this
      refine B_quarter_52 gF ⟨fun q => stop (fun q3 => q (e8.trans q3.1)), fun q => ⟨by omega, fun q2 => stop (fun q3 => q3.2 ((RS_o hs q3.1).symm.trans q2)), fun q2 => ?_⟩⟩
      have z : y.1.1 = 0 := e8.symm.trans q
      have eo := RS_o hs z
      have no : tO T n y.1.2 ≠ 0 := fun q3 => q2 (eo.trans q3)
      have lt := RS_lt hs z no
      have l7 := (hs.2.2.2.2 z).1
      obtain ⟨D, hc⟩ := hd z
      rw [qL_go ⟨z, no⟩] at eY
      have gp : PB g := ⟨gI, trivial⟩
      have l9 : rd g 182 7 ≤ 999 := by omega
      have t106 : ∀ (g1 : LH) (s1 : Int × Nat), RSK T n V m g1 s1 → PL g g1 → (qS (tO T n) (tV T n 37) (tW T n 37 V) (tP T n) R y).1 = tkS (tO T n) (tV T n 37) (tP T n) 59 s1 → (s1.1 = 0 → DRK T n g1 R (qS (tO T n) (tV T n 37) (tW T n 37 V) (tP T n) R y)) → Rn xs xl e mm_quarter 106 [some (.inr (.inr 182)), none] [] g1 Q := by
        generalize qS (tO T n) (tV T n 37) (tW T n 37 V) (tP T n) R y = y' at eY
        intro g1 s1 r1 p1 e1 d1
        have A : Rn xs xl 1 mm_takeSign 0 [some (.inr (.inr 182)), some (.inl 59)] [] g1 (fun r g2 => r = none ∧ RSK T n V m g2 (tkS (tO T n) (tV T n 37) (tP T n) 59 s1) ∧ frT g1 g2) := G_takeSign (by omega) r1 (fun h' a b => ⟨rfl, a, b⟩)
        have B : Rn xs xl 1 mm_takeSign 0 [some (.inr (.inr 182)), some (.inl 59)] [] g1 (fun r g2 => r = none ∧ PG muT g1 g2) := D_takeSign (by omega) p1.1 (fun g2 p2 _ => ⟨rfl, p2⟩)
        refine B_quarter_106 (RF_of p1.1.1.1) ⟨1, by omega, (A.and B).mono (fun r g2 q => ?_)⟩
        obtain ⟨⟨rfl, a1, a2⟩, -, p2⟩ := q
        rw [← e1] at a1
        refine B_quarter_112 p2.rf (ih g2 y' eY a1 p2.inv (NQ_T p2 p1.2.2.1) (fun z' => ?_))
        have z8 : rd g2 182 8 = 0 := a1.2.1.trans z'
        have z1 := p2.2.2.1 z8
        have ge := p2.2.1
        have g1' := (p1.2.1 z1).2
        have l2 := (a1.2.2.2.2 z').1
        exact ⟨DRK_T (d1 (r1.2.1.symm.trans z1)) a2 rfl, by omega⟩
      obtain ⟨d1, d2, d3, d4, d5, d6, d7, d8, d9, d10⟩ := D
      refine ⟨0, by omega, G_isWord hs (by omega) (fun _ ew => ?_) (fun nw => ?_)⟩
      · -- a door
        have B : Rn xs xl 5 mm_readDoor 0 [some (.inr (.inr 182)), none, none, none, none] [] g (fun r g1 => r = none ∧ PL g g1) := D_readDoor (by omega) gp gq l9 (e8.trans z) (fun g1 p1 => ⟨rfl, p1⟩)
        by_cases c14 : 14 ≤ y.2.2.1.length
        · have A : Rn xs xl 5 mm_readDoor 0 [some (.inr (.inr 182)), none, none, none, none] [] g (fun r g1 => r = none ∧ RSK T n V m g1 (tkE (tP T n) 5 y.1)) := G_readDoorX hs (by omega) (by omega) (fun h' a b => ⟨rfl, a⟩)
          refine B_quarter_76_1 gF ⟨5, by omega, (A.and B).mono (fun r g1 q => ?_)⟩
          obtain ⟨⟨rfl, a1⟩, -, p1⟩ := q
          have ne := tkE_ne' hs (v1 := 5) (by decide)
          refine B_quarter_83 (RF_of p1.1.1.1) (t106 g1 _ a1 p1 ?_ (fun q3 => absurd q3 ne))
          rw [tkS_f ne]
          unfold qS
          rw [if_pos ew, if_pos c14]
        · have A : Rn xs xl 5 mm_readDoor 0 [some (.inr (.inr 182)), none, none, none, none] [] g (fun r g1 => r = none ∧ RSK T n V m g1 (drL (tO T n) (tV T n 37) (tW T n 37 V) (tP T n) R y.2.1 y.1) ∧ ((drL (tO T n) (tV T n 37) (tW T n 37 V) (tP T n) R y.2.1 y.1).1 = 0 → NRK T n g1 (y.2.1 ++ [y.1.2 + 1]) ∧ rd g1 188 151 = (y.2.2.1.length : Int) + 1) ∧ (∀ a i, ¬ muDR (y.2.2.1.length : Int) a i → rd g1 a i = rd g a i)) := G_readDoor (by omega) hs z no d1 (by omega) d2 d3 d4 (by omega) (fun h' a b f => ⟨rfl, a, fun q3 => ⟨(b q3).1, (b q3).2.1⟩, f⟩)
          refine B_quarter_76_1 gF ⟨5, by omega, (A.and B).mono (fun r g1 q => ?_)⟩
          obtain ⟨⟨rfl, a1, a2, a3⟩, -, p1⟩ := q
          refine B_quarter_83 (RF_of p1.1.1.1) (t106 g1 _ a1 p1 ?_ (fun q3 => ?_))
          · unfold qS
            rw [if_pos ew, if_neg c14]
          · obtain ⟨b1, b2⟩ := a2 q3
            unfold DRK qS
            rw [if_pos ew, if_neg c14]
            rw [a3 188 150 (by unfold muDR muNK; omega), a3 188 152 (by unfold muDR muNK; omega), a3 188 153 (by unfold muDR muNK; omega), a3 182 13 (by unfold muDR muNK; omega), b2]
            simp only [List.length_append, List.length_singleton]
            exact ⟨b1, d2, d3, by omega, d5, by omega, by omega, d8, d9, d10⟩
      · refine B_quarter_76_0 gF ⟨0, by omega, G_isWord hs (by omega) (fun _ ew => ?_) (fun nw7 => ?_)⟩
        · have n1' := nw z
          have B : Rn xs xl 5 mm_readPerson 0 [some (.inr (.inr 182)), none, none] [] g (fun r g1 => r = none ∧ PL g g1) := D_readPerson (by omega) gp gq l9 (e8.trans z) (fun g1 p1 => ⟨rfl, p1⟩)
          by_cases c6 : 6 ≤ y.2.2.2.1.length
          · have A : Rn xs xl 5 mm_readPerson 0 [some (.inr (.inr 182)), none, none] [] g (fun r g1 => r = none ∧ RSK T n V m g1 (tkE (tP T n) 5 y.1)) := B_readPerson_0 gF ⟨fun q3 => by omega, fun _ => ⟨0, by omega, G_wrong hs (by omega) (fun h1 s1 f1 => B_readPerson_20 s1.1.1 ⟨rfl, s1⟩)⟩⟩
            refine B_quarter_92_1 gF ⟨5, by omega, (A.and B).mono (fun r g1 q => ?_)⟩
            obtain ⟨⟨rfl, a1⟩, -, p1⟩ := q
            have ne := tkE_ne' hs (v1 := 5) (by decide)
            refine B_quarter_99 (RF_of p1.1.1.1) (t106 g1 _ a1 p1 ?_ (fun q3 => absurd q3 ne))
            rw [tkS_f ne]
            unfold qS
            rw [if_neg n1', if_pos ew, if_pos c6]
          · have A : Rn xs xl 5 mm_readPerson 0 [some (.inr (.inr 182)), none, none] [] g (fun r g1 => r = none ∧ RSK T n V m g1 (psL (tO T n) (tV T n 37) (tW T n 37 V) (tP T n) R y.2.1 y.1) ∧ ((psL (tO T n) (tV T n 37) (tW T n 37 V) (tP T n) R y.2.1 y.1).1 = 0 → NRK T n g1 (y.2.1 ++ [y.1.2 + 1]) ∧ rd g1 188 152 = (y.2.2.2.1.length : Int) + 1) ∧ (∀ a i, ¬ muP (y.2.2.2.1.length : Int) a i → rd g1 a i = rd g a i)) := G_readPerson (by omega) hs z no d1 (by omega) d2 d3 d5 (by omega) (fun h' a b f => ⟨rfl, a, fun q3 => ⟨(b q3).1, (b q3).2.1⟩, f⟩)
            refine B_quarter_92_1 gF ⟨5, by omega, (A.and B).mono (fun r g1 q => ?_)⟩
            obtain ⟨⟨rfl, a1, a2, a3⟩, -, p1⟩ := q
            refine B_quarter_99 (RF_of p1.1.1.1) (t106 g1 _ a1 p1 ?_ (fun q3 => ?_))
            · unfold qS
              rw [if_neg n1', if_pos ew, if_neg c6]
            · obtain ⟨b1, b2⟩ := a2 q3
              unfold DRK qS
              rw [if_neg n1', if_pos ew, if_neg c6]
              rw [a3 188 150 (by unfold muP muNK; omega), a3 188 151 (by unfold muP muNK; omega), a3 188 153 (by unfold muP muNK; omega), a3 182 13 (by unfold muP muNK; omega), b2]
              simp only [List.length_append, List.length_singleton]
              exact ⟨b1, d2, d3, d4, by omega, by omega, d7, by omega, d9, d10⟩
        · have n1' := nw z
          have n7' := nw7 z
          have B : Rn xs xl 39 mm_readLet 0 [some (.inr (.inr 182))] [] g (fun r g1 => r = none ∧ PL g g1) := D_readLet (by omega) gp gq (e8.trans z) (fun g1 p1 => ⟨rfl, p1⟩)
          have h13 : rd g 188 153 < 0 → rd g 182 13 = 0 := by
            intro q3
            rcases Nat.eq_zero_or_pos y.2.2.2.2.length with u | u
            · exact (d9 u).2
            · have := d10 u
              omega
          by_cases w11 : tW T n 37 V y.1.2 = 11
          · by_cases cl : 0 < y.2.2.2.2.length
            · have A : Rn xs xl 39 mm_readLet 0 [some (.inr (.inr 182))] [] g (fun r g1 => r = none ∧ RSK T n V m g1 (tkE (tP T n) 3 y.1)) := G_readLet (by omega) hs z (fun q3 => absurd w11 q3) (fun _ _ h' a b => ⟨rfl, a⟩) h13 (fun _ q3 => absurd (d10 cl) (by omega))
              refine B_quarter_92_0 gF ⟨39, by omega, (A.and B).mono (fun r g1 q => ?_)⟩
              obtain ⟨⟨rfl, a1⟩, -, p1⟩ := q
              have ne := tkE_ne' hs (v1 := 3) (by decide)
              refine t106 g1 _ a1 p1 ?_ (fun q3 => absurd q3 ne)
              rw [tkS_f ne]
              unfold qS
              rw [if_neg n1', if_neg n7', if_pos w11, if_pos cl]
            · have d9' := d9 (by omega)
              have A : Rn xs xl 39 mm_readLet 0 [some (.inr (.inr 182))] [] g (fun r g1 => r = none ∧ RSK T n V m g1 (qX (tO T n) (tV T n 37) (tW T n 37 V) (tP T n) y.1).1 ∧ rd g1 188 153 = 0 ∧ (∀ a i, ¬ muLL a i → rd g1 a i = rd g a i)) := G_readLet (by omega) hs z (fun q3 => absurd w11 q3) (fun _ q3 => absurd q3 (by omega)) h13 (fun _ _ h' a b _ f => ⟨rfl, a, b, f⟩)
              refine B_quarter_92_0 gF ⟨39, by omega, (A.and B).mono (fun r g1 q => ?_)⟩
              obtain ⟨⟨rfl, a1, a2, a3⟩, -, p1⟩ := q
              refine t106 g1 _ a1 p1 ?_ (fun q3 => ?_)
              · unfold qS
                rw [if_neg n1', if_neg n7', if_pos w11, if_neg cl]
              · have ln := qX_len (fun j => tP_0 hs.1.2.2.2.2.2.2.1 hs.1.2.2.2.2.2.1 j) q3
                unfold DRK qS
                rw [if_neg n1', if_neg n7', if_pos w11, if_neg cl]
                rw [a3 188 150 (by unfold muLL muLK; omega), a3 188 151 (by unfold muLL muLK; omega), a3 188 152 (by unfold muLL muLK; omega), a2]
                have dn : NRK T n g1 y.2.1 := by
                  refine ⟨(a3 182 19 (by unfold muLL muLK; omega)).trans d1.1, fun i hi => ?_⟩
                  rw [a3 192 _ (by unfold muLL muLK; omega), a3 194 _ (by unfold muLL muLK; omega)]
                  exact d1.2 i hi
                exact ⟨dn, d2, d3, d4, d5, d6, d7, d8, fun q4 => absurd q4 (Nat.ne_of_gt ln), fun _ => Int.le_refl 0⟩
          · have A : Rn xs xl 39 mm_readLet 0 [some (.inr (.inr 182))] [] g (fun r g1 => r = none ∧ RSK T n V m g1 (tkE (tP T n) 1 y.1)) := G_readLet (by omega) hs z (fun _ h' a b => ⟨rfl, a⟩) (fun q3 => absurd q3 w11) h13 (fun q3 => absurd q3 w11)
            refine B_quarter_92_0 gF ⟨39, by omega, (A.and B).mono (fun r g1 q => ?_)⟩
            obtain ⟨⟨rfl, a1⟩, -, p1⟩ := q
            have ne := tkE_ne' hs (v1 := 1) (by decide)
            refine t106 g1 _ a1 p1 ?_ (fun q3 => absurd q3 ne)
            rw [tkS_f ne]
            unfold qS
            rw [if_neg n1', if_neg n7', if_neg w11]
  have i0 : INV (wr h 182 0 0) := wF_thrown hI (by omega) (by omega)
  have A0 : Rn xs xl 2 mm_cutAll 0 [some (.inr (.inr 182)), none, none, none, none, none, none] [] (wr h 182 0 0) (fun r h1 => r = none ∧ ∃ m : Nat, (∀ j : Nat, j ≤ m → RTK T n h1 j) ∧ tO T n m = 0 ∧ (∀ j : Nat, j < m → tO T n j ≠ 0) ∧ m ≤ 1000) := F_cutAll (by omega) (RF_of i0.1) ((rdw_nei (by decide)).trans h2) n0 n1 (fun i i0 i1 => (rdw_ne (by decide)).trans (hT i i0 i1)) (fun h' m c1 c2 c3 c4 _ _ _ _ => ⟨rfl, m, c1, c2, c3, c4⟩)
  have B0 : Rn xs xl 2 mm_cutAll 0 [some (.inr (.inr 182)), none, none, none, none, none, none] [] (wr h 182 0 0) (fun r h1 => r = none ∧ INV h1 ∧ rd h1 182 7 = 0 ∧ rd h1 182 8 = 0 ∧ rd h1 182 2 = 0 ∧ (∀ a i, ¬ muC a i → rd h1 a i = rd (wr h 182 0 0) a i)) := D_cutAll (by omega) i0 (fun h1 i1 a1 f1 t1 fr1 => ⟨rfl, i1, a1, f1, t1, fr1⟩)
  refine B_quarter_0 (RF_of hI.1) ⟨2, by omega, (A0.and B0).mono (fun r h1 q => ?_)⟩
  obtain ⟨⟨rfl, m, c1, c2, c3, c4⟩, -, i1, a1, f1, t1, fr1⟩ := q
  have i2 : INV (wr (wr h1 182 13 0) 182 19 0) := wF_readMany (wF_codes i1 (by omega) (by omega)) (by omega) (by omega)
  refine B_quarter_9 (RF_of i1.1) ⟨0, by omega, D_stands i2 (fun h3 i3 m3 z3 fr3 => ?_)⟩
  have e3 : ∀ a i, ¬ (a = 188 ∧ 150 ≤ i) → ¬ (a = 182 ∧ (i = 13 ∨ i = 19)) → rd h3 a i = rd h1 a i := by
    intro a i n1 n2
    rw [fr3 a i n1, rd_wr, if_neg, rd_wr, if_neg] <;> (rintro ⟨rfl, rfl⟩; exact n2 (by omega))
  have x3 : rd h3 182 13 = 0 := (fr3 _ _ (by omega)).trans ((rdw_nei (by decide)).trans rdw_eq)
  have m3' : rd h3 182 19 = 0 := (fr3 _ _ (by omega)).trans rdw_eq
  have s3 : RSK T n V m h3 (0, 0) := by
    refine ⟨⟨RF_of i3.1, fun j hj => ?_, c2, c3, c4, n0, n1, ?_, hi⟩, ?_, Int.le_refl 0, ?_, fun _ => ⟨?_, Nat.zero_le _⟩⟩
    · obtain ⟨r1, r2, r3⟩ := c1 j hj
      exact ⟨(e3 _ _ (by omega) (by omega)).trans r1, (e3 _ _ (by omega) (by omega)).trans r2, fun q1 q2 => (e3 _ _ (by omega) (by omega)).trans (r3 q1 q2)⟩
    · rw [← hV]
      funext i
      rw [e3 _ _ (by omega) (by omega), fr1 _ _ (by unfold muC; omega), rdw_ne (by decide)]
    · rw [e3 _ _ (by omega) (by omega), f1]
    · rw [e3 _ _ (by omega) (by omega), a1]; decide
    · rw [e3 _ _ (by omega) (by omega), a1]; rfl
  have A4 : Rn xs xl 2 mm_takeWord 0 [some (.inr (.inr 182)), some (.inl 0)] [] h3 (fun r h4 => r = none ∧ RSK T n V m h4 (tkW (tW T n 37 V) (tP T n) 0 (0, 0))) := G_takeWord (by omega) s3 (by omega) (fun h' a b => ⟨rfl, a⟩)
  have B4 : Rn xs xl 2 mm_takeWord 0 [some (.inr (.inr 182)), some (.inl 0)] [] h3 (fun r h4 => r = none ∧ PG muT h3 h4) := D_takeWord (by omega) ⟨i3, trivial⟩ (by omega) (fun h4 p4 => ⟨rfl, p4⟩)
  refine B_quarter_26 (RF_of i3.1) ⟨2, by omega, (A4.and B4).mono (fun r h4 q => ?_)⟩
  obtain ⟨⟨rfl, s4⟩, -, p4⟩ := q
  have A5 : Rn xs xl 1 mm_takeNumber 0 [some (.inr (.inr 182)), some (.inl 2), some (.inl 10)] [] h4 (fun r h5 => ∃ x, r = some (.inl x) ∧ RSK T n V m h5 (tkN (tO T n) (tV T n 37) (tP T n) 2 10 (tkW (tW T n 37 V) (tP T n) 0 (0, 0))) ∧ ((tkN (tO T n) (tV T n 37) (tP T n) 2 10 (tkW (tW T n 37 V) (tP T n) 0 (0, 0))).1 = 0 → x = qR (tV T n 37) (tW T n 37 V) (tP T n))) := G_takeNumber (by omega) s4 ⟨by unfold i32; omega, by unfold i32; omega⟩ (fun h' r a _ b _ => ⟨r, rfl, a, fun q3 => (b q3).1⟩)
  have B5 : Rn xs xl 1 mm_takeNumber 0 [some (.inr (.inr 182)), some (.inl 2), some (.inl 10)] [] h4 (fun r h5 => ∃ x, r = some (.inl x) ∧ PG muT h4 h5 ∧ (rd h5 182 8 = 0 → 2 ≤ x ∧ x ≤ 10) ∧ (rd h5 182 8 ≠ 0 → x = 0)) := D_takeNumber (by omega) p4.1 (by unfold i32; omega) (by unfold i32; omega) (fun r h5 p5 a5 b5 => ⟨r, rfl, p5, fun q3 => ⟨(a5 q3).1, (a5 q3).2.1⟩, b5⟩)
  refine B_quarter_31 p4.rf ⟨1, by omega, (A5.and B5).mono (fun r h5 q => ?_)⟩
  obtain ⟨⟨x, rfl, s5, q5⟩, x', ex, p5, a5, b5⟩ := q
  cases ex
  have rb : 0 ≤ x ∧ x ≤ 10 := by
    by_cases z : rd h5 182 8 = 0
    · have := a5 z; omega
    · have := b5 z; omega
  have i6 : INV (wr h5 188 150 x) := wq_rooms p5.inv rb.1 rb.2
  have A7 : Rn xs xl 1 mm_takeSign 0 [some (.inr (.inr 182)), some (.inl 59)] [] (wr h5 188 150 x) (fun r h7 => r = none ∧ RSK T n V m h7 (qA (tO T n) (tV T n 37) (tW T n 37 V) (tP T n))) := G_takeSign (by omega) (RSK_w s5) (fun h' a b => ⟨rfl, a⟩)
  have B7 : Rn xs xl 1 mm_takeSign 0 [some (.inr (.inr 182)), some (.inl 59)] [] (wr h5 188 150 x) (fun r h7 => r = none ∧ PG muT (wr h5 188 150 x) h7) := D_takeSign (by omega) ⟨i6, trivial⟩ (fun h7 p7 _ => ⟨rfl, p7⟩)
  refine B_quarter_45 p5.rf ⟨1, by omega, (A7.and B7).mono (fun r h7 q => ?_)⟩
  obtain ⟨⟨rfl, s7⟩, -, p7⟩ := q
  have p45 := p4.trans p5
  have e7 : ∀ a i, ¬ muT a i → ¬ (a = 188 ∧ i = 150) → rd h7 a i = rd h3 a i := by
    intro a i n1 n2
    rw [p7.2.2.2 a i n1, rd_wr, if_neg (by rintro ⟨rfl, rfl⟩; exact n2 ⟨rfl, rfl⟩)]
    exact p45.2.2.2 a i n1
  have y : ∀ i, i ≠ 150 → rd h7 188 i = rd h3 188 i := fun i hi => e7 188 i (by unfold muT; omega) (by omega)
  have y0 : rd h7 188 150 = x := (p7.2.2.2 _ _ (by unfold muT; omega)).trans rdw_eq
  have y1 : rd h7 188 151 = 0 := (y 151 (by decide)).trans (z3 151 (by decide) (by decide) (by decide))
  have y2 : rd h7 188 152 = 0 := (y 152 (by decide)).trans (z3 152 (by decide) (by decide) (by decide))
  have y3 : rd h7 188 153 = -1 := (y 153 (by decide)).trans m3
  have yc : rd h7 182 13 = 0 := (e7 182 13 (by unfold muT; omega) (by omega)).trans x3
  have yn : rd h7 182 19 = 0 := (e7 182 19 (by unfold muT; omega) (by omega)).trans m3'
  refine loop (qR (tV T n 37) (tW T n 37 V) (tP T n)) m 1000 h7 (qB (tO T n) (tV T n 37) (tW T n 37 V) (tP T n)) eF s7 p7.inv (fun z => ?_) (fun z => ⟨?_, ?_⟩)
  · have z6 := p7.2.2.1 z
    rw [rdw_ne (by decide)] at z6
    have r2 := a5 z6
    refine ⟨by omega, by omega, fun d d0 d1 => by omega, fun p p0 p1 => by omega, Or.inl ⟨y3, yc⟩⟩
  · have z5 : (tkN (tO T n) (tV T n 37) (tP T n) 2 10 (tkW (tW T n 37 V) (tP T n) 0 (0, 0))).1 = 0 := tkS_z z
    have ex := q5 z5
    refine ⟨⟨yn, fun i hi => absurd hi (Nat.not_lt_zero i)⟩, y0.trans ex, by rw [← ex]; exact rb, y1, y2, rfl, Nat.zero_le 14, Nat.zero_le 6, fun _ => ⟨by omega, yc⟩, fun q3 => absurd q3 (Nat.lt_irrefl 0)⟩
  · omega
end CP
end
section
/-! p3, part d0: a new name, as the class takes it -/
theorem hav_nr {a : Int} (hc : (RGL[a.toNat]?).all (fun L => L.all (fun q => decide (q.1 ≠ 2))) = true) (i : Int) : (hav a i).1 ≠ 2 := by
  have key : ∀ L : List AV, (∀ q ∈ L, q.1 ≠ 2) → ∀ j : Nat, (L.getD j top0).1 ≠ 2 := by
    intro L hL j
    rw [List.getD_eq_getElem?_getD]
    rcases Nat.lt_or_ge j L.length with z | z
    · rw [List.getElem?_eq_getElem z]
      exact hL _ (List.getElem_mem z)
    · rw [List.getElem?_eq_none z]
      decide
  unfold hav
  split
  · next L hL =>
    refine key L ?_ _
    rw [hL] at hc
    intro q hq
    exact of_decide_eq_true (List.all_eq_true.mp hc q hq)
  · decide
theorem hav_dp {q a : Int} (hq : q = 5 ∨ q = 32) (ha : q + 7 ≤ a ∧ a ≤ q + 26) (i : Int) : (hav a i).1 ≠ 2 := by
  have key : ∀ k : Nat, k < 59 → 12 ≤ k → (k ≤ 31 ∨ 39 ≤ k) → (RGL[k]?).all (fun L => L.all (fun q => decide (q.1 ≠ 2))) = true := by decide +kernel
  exact hav_nr (key a.toNat (by omega) (by omega) (by omega)) i
theorem hav_qf {q i : Int} (hq : q = 5 ∨ q = 32) (hi : i = 0 ∨ i = 2 ∨ i = 4 ∨ i = 6) : (hav q i).1 ≠ 2 := by
  rcases hq with rfl | rfl <;> rcases hi with rfl | rfl | rfl | rfl <;> decide +kernel
theorem RF_wn {h : LH} {a i v : Int} (hn : (hav a i).1 ≠ 2) (hF : RF h) : RF (wr h a i v) := by
  intro b j c hv he
  by_cases z : b = a ∧ (j : Int) = i
  · rw [← z.1, ← z.2, he] at hn
    exact absurd rfl hn
  · rw [rd_wr, if_neg (fun q => z ⟨q.1.symm, q.2.symm⟩)]
    exact hF b j c hv he
theorem PT_fr {h h' : LH} (hP : PT h) (hf : ∀ a i, (a = 6 ∨ a = 7 ∨ a = 33 ∨ a = 34) → rd h' a i = rd h a i) : PT h' := by
  intro q hq
  obtain ⟨p1, p2⟩ := hP q hq
  refine ⟨fun i i0 i1 => ?_, fun i i0 i1 => ?_⟩
  · rw [hf _ _ (by omega)]; exact p1 i i0 i1
  · rw [hf _ _ (by omega)]; exact p2 i i0 i1
/-- the class's names so far: of doors, of people -/
def NCK (T : Int → Int) (n : Int) (h : LH) (q : Int) (ND NP : List Nat) : Prop := rd h q 2 = (ND.length : Int) ∧ rd h q 4 = (NP.length : Int) ∧ (ND.length ≤ 14 ∧ NP.length ≤ 6) ∧ (∀ i : Nat, i < ND.length → rd h (q + 7 + i) 0 = tV T n 32 (ND.getD i 0)) ∧ (∀ i : Nat, i < NP.length → rd h (q + 21 + i) 0 = tV T n 32 (NP.getD i 0))
theorem NCK_fr {T : Int → Int} {n : Int} {h h' : LH} {q : Int} {ND NP : List Nat} (hN : NCK T n h q ND NP) (hf : ∀ a i, (a = q ∧ (i = 2 ∨ i = 4)) ∨ (q + 7 ≤ a ∧ a < q + 7 + ND.length ∧ i = 0) ∨ (q + 21 ≤ a ∧ a < q + 21 + NP.length ∧ i = 0) → rd h' a i = rd h a i) : NCK T n h' q ND NP := by
  obtain ⟨n1, n2, n3, n4, n5⟩ := hN
  refine ⟨(hf _ _ (by omega)).trans n1, (hf _ _ (by omega)).trans n2, n3, fun i hi => (hf _ _ (by omega)).trans (n4 i hi), fun i hi => (hf _ _ (by omega)).trans (n5 i hi)⟩
section DA
variable {xs : Nat → Int} {xl e : Nat} {h : LH} {Q : Option LV → LH → Prop} {v1 q : Int} {T : Int → Int} {n : Int} {W : Int → Int} {s : Int × Nat} {N ND NP : List Nat}
theorem CSK_wn {a i v : Int} (hs : CSK T n W h s) (hn : (hav a i).1 ≠ 2) (ha : 4 < a) : CSK T n W (wr h a i v) s := CSK_fr (RF_wn hn hs.1.1) (fun b j hb => rdw_ne (by omega)) hs
theorem CSK_wd {d i v : Int} (hs : CSK T n W h s) (hq : q = 5 ∨ q = 32) (hd : q + 7 ≤ d ∧ d ≤ q + 26) : CSK T n W (wr h d i v) s := CSK_wn hs (hav_dp hq hd i) (by omega)
theorem F_doorNamed (hq : q = 5 ∨ q = 32) (hF : RF h) (hP : PT h) (hN : NCK T n h q ND NP) (k : ∀ r : Int, (r ≠ -1 ↔ ND.any (fun j => decide (tV T n 32 j = v1)) = true) → Q (some (.inl r)) h) : Rn xs xl e mm_Quarter_doorNamed 0 [some (.inr (.inr q)), some (.inr (.inl v1)), none, none] [] h Q := by
  obtain ⟨n1, n2, ⟨n3, n3'⟩, n4, n5⟩ := hN
  have loop : ∀ (d b : Nat), ND.length - b ≤ d → b ≤ ND.length → (∀ i : Nat, i < b → ¬ tV T n 32 (ND.getD i 0) = v1) → Rn xs xl e mm_Quarter_doorNamed 2 [some (.inr (.inr q)), some (.inr (.inl v1)), none, some (.inl (b : Int))] [] h Q := by
    intro d
    induction d with
    | zero =>
      intro b hd hb no
      refine B_doorNamed_in hq hF hP (by omega) ⟨fun c => k (-1) ⟨fun c => absurd rfl c, fun c => ?_⟩, fun c => by omega⟩
      obtain ⟨i, i1, i2⟩ := any_ix.mp c
      exact absurd (of_decide_eq_true i2) (no i (by omega))
    | succ d ih =>
      intro b hd hb no
      refine B_doorNamed_in hq hF hP (by omega) ⟨fun c => k (-1) ⟨fun c => absurd rfl c, fun c => ?_⟩, fun c => ⟨by omega, fun c2 => ?_, fun c2 => k _ ⟨fun _ => any_ix.mpr ⟨b, by omega, decide_eq_true ?_⟩, fun _ => by omega⟩⟩⟩
      · obtain ⟨i, i1, i2⟩ := any_ix.mp c
        exact absurd (of_decide_eq_true i2) (no i (by omega))
      · have := ih (b + 1) (by omega) (by omega) (fun i hi => ?_)
        · rw [show ((b + 1 : Nat) : Int) = (b : Int) + 1 by omega] at this
          exact this
        · by_cases eb : i = b
          · rw [eb]
            intro z
            apply c2
            rw [lcmp0, n4 b (by omega)]
            exact z
          · exact no i (by omega)
      · rw [lcmp0, n4 b (by omega)] at c2
        exact c2
  exact B_Quarter_doorNamed_0 hq hF (loop ND.length 0 (by omega) (by omega) (fun i hi => by omega))
theorem F_personNamed (hq : q = 5 ∨ q = 32) (hF : RF h) (hP : PT h) (hN : NCK T n h q ND NP) (k : ∀ r : Int, (r ≠ -1 ↔ NP.any (fun j => decide (tV T n 32 j = v1)) = true) → Q (some (.inl r)) h) : Rn xs xl e mm_Quarter_personNamed 0 [some (.inr (.inr q)), some (.inr (.inl v1)), none, none] [] h Q := by
  obtain ⟨n1, n2, ⟨n3, n3'⟩, n4, n5⟩ := hN
  have loop : ∀ (d b : Nat), NP.length - b ≤ d → b ≤ NP.length → (∀ i : Nat, i < b → ¬ tV T n 32 (NP.getD i 0) = v1) → Rn xs xl e mm_Quarter_personNamed 2 [some (.inr (.inr q)), some (.inr (.inl v1)), none, some (.inl (b : Int))] [] h Q := by
    intro d
    induction d with
    | zero =>
      intro b hd hb no
      refine B_personNamed_in hq hF hP (by omega) ⟨fun c => k (-1) ⟨fun c => absurd rfl c, fun c => ?_⟩, fun c => by omega⟩
      obtain ⟨i, i1, i2⟩ := any_ix.mp c
      exact absurd (of_decide_eq_true i2) (no i (by omega))
    | succ d ih =>
      intro b hd hb no
      refine B_personNamed_in hq hF hP (by omega) ⟨fun c => k (-1) ⟨fun c => absurd rfl c, fun c => ?_⟩, fun c => ⟨by omega, fun c2 => ?_, fun c2 => k _ ⟨fun _ => any_ix.mpr ⟨b, by omega, decide_eq_true ?_⟩, fun _ => by omega⟩⟩⟩
      · obtain ⟨i, i1, i2⟩ := any_ix.mp c
        exact absurd (of_decide_eq_true i2) (no i (by omega))
      · have := ih (b + 1) (by omega) (by omega) (fun i hi => ?_)
        · rw [show ((b + 1 : Nat) : Int) = (b : Int) + 1 by omega] at this
          exact this
        · by_cases eb : i = b
          · rw [eb]
            intro z
            apply c2
            rw [lcmp0, n5 b (by omega)]
            exact z
          · exact no i (by omega)
      · rw [lcmp0, n5 b (by omega)] at c2
        exact c2
  exact B_Quarter_personNamed_0 hq hF (loop NP.length 0 (by omega) (by omega) (fun i hi => by omega))
theorem F_takeNewName (he : 3 ≤ e) (hq : q = 5 ∨ q = 32) (hP : PT h) (hs : CSK T n W h s) (hz : s.1 = 0) (hN : NCK T n h q ND NP) (hA : ∀ f : Nat → Bool, N.any f = (ND.any f || NP.any f))
    (k : ∀ h' r, CSK T n W h' (tkM (tO T n) (tV T n 32) (tW T n 32 W) (tP T n) N s) → frK h h' → ((tkM (tO T n) (tV T n 32) (tW T n 32 W) (tP T n) N s).1 = 0 → r = tV T n 32 s.2) → Q (some (.inr (.inl r))) h') :
    Rn xs xl e mm_Reader_takeNewName 0 [some (.inr (.inr 2)), some (.inr (.inr q)), none, none] [] h Q := by
  have hF := hs.1.1
  have ep : ∀ c : Int, 1 ≤ c → (tkE (tP T n) c s).1 ≠ 0 := fun c hc => tkE_ne hs.1.2.1 hc
  refine B_Reader_takeNewName_0 hq hF ⟨0, by omega, F_isName hs (fun r r01 hr => ?_)⟩
  refine B_Reader_takeNewName_9 hq hF ⟨fun c => ?_, fun c => ⟨0, by omega, F_fl hs (by omega) (fun h' c1 f1 => B_Reader_takeNewName_17 hq c1.1.1 (k h' _ ?_ f1 ?_))⟩⟩
  · have nm := (hr hz).mp (by omega)
    have o1 := isNm_o nm
    have ev := CS_v hs hz (by omega) (by omega)
    rw [ev]
    have bad : N.any (fun j => decide (tV T n 32 j = tV T n 32 s.2)) = true → Rn xs xl 0 mm_Reader_fail 0 [some (.inr (.inr 2)), some (.inl 3)] [] h (fun r h' => Rn xs xl e mm_Reader_takeNewName 43 [some (.inr (.inr 2)), some (.inr (.inr q)), some (.inr (.inl (tV T n 32 s.2))), none] (r.toList ++ []) h' Q) := by
      intro an
      have eM : tkM (tO T n) (tV T n 32) (tW T n 32 W) (tP T n) N s = tkE (tP T n) 3 s := by unfold tkM; rw [if_pos nm, if_pos an]
      rw [eM] at k
      exact F_fl hs (by omega) (fun h' c1 f1 => B_Reader_takeNewName_43 hq c1.1.1 (k h' _ c1 f1 (fun z => absurd z (ep 3 (by decide)))))
    refine ⟨0, by omega, F_doorNamed hq hF hP hN (fun r1 hr1 => ?_)⟩
    refine B_Reader_takeNewName_25 hq hF ⟨fun c1 => ⟨0, by omega, bad ?_⟩, fun c1 => ⟨0, by omega, F_personNamed hq hF hP hN (fun r2 hr2 => ?_)⟩⟩
    · rw [hA, hr1.mp c1]; rfl
    refine B_Reader_takeNewName_34 hq hF ⟨fun c2 => ?_, fun c2 => ⟨0, by omega, bad ?_⟩⟩
    · have na : ¬ N.any (fun j => decide (tV T n 32 j = tV T n 32 s.2)) = true := by
        rw [hA, Bool.or_eq_true]
        rintro (z | z)
        · exact hr1.mpr z c1
        · exact hr2.mpr z c2
      have eM : tkM (tO T n) (tV T n 32) (tW T n 32 W) (tP T n) N s = tkA s := by unfold tkM; rw [if_pos nm, if_neg na]
      rw [eM] at k
      exact ⟨2, by omega, F_stp (by omega) hs (fun _ => by omega) (fun h' c3 f3 => B_Reader_takeNewName_50 hq c3.1.1 (k h' _ c3 f3 (fun _ => rfl)))⟩
    · rw [hA, hr2.mp c2, Bool.or_true]
  · have nm : ¬ isNm (tO T n) (tW T n 32 W) s.2 = true := fun z => by
      have := (hr hz).mpr z
      omega
    unfold tkM
    rw [if_neg nm]
    exact c1
  · have nm : ¬ isNm (tO T n) (tW T n 32 W) s.2 = true := fun z => by
      have := (hr hz).mpr z
      omega
    unfold tkM
    rw [if_neg nm]
    exact fun z => absurd z (ep 1 (by decide))
end DA
end
section
/-! p3, part d1: a door's line, as the class reads it -/
section DB
variable {xs : Nat → Int} {xl e : Nat} {h : LH} {Q : Option LV → LH → Prop} {q d v3 w1 D : Int} {T : Int → Int} {n : Int} {W : Int → Int} {s : Int × Nat} {N ND NP : List Nat}
theorem F_drT4 (he : 4 ≤ e) (hq : q = 5 ∨ q = 32) (hd : q + 7 ≤ d ∧ d ≤ q + 20) (hs : CSK T n W h s) (hD : rd h q 2 = D) (hDb : 0 ≤ D ∧ D < 14)
    (k : ∀ h', CSK T n W h' (tkS (tO T n) (tV T n 32) (tP T n) 59 (opN (tO T n) (tV T n 32) (tW T n 32 W) (tP T n) 6 0 9 s)) → ((tkS (tO T n) (tV T n 32) (tP T n) 59 (opN (tO T n) (tV T n 32) (tW T n 32 W) (tP T n) 6 0 9 s)).1 = 0 → rd h' d 8 = opV (tV T n 32) (tW T n 32 W) 6 0 s) → rd h' q 2 = D + 1 → rd h' d 7 = w1 → (∀ a i, ¬ muR a i → ¬ (a = q ∧ i = 2) → ¬ (a = d ∧ 7 ≤ i) → rd h' a i = rd h a i) → Q none h') :
    Rn xs xl e mm_Reader_doorLine 185 [some (.inr (.inr 2)), some (.inr (.inr q)), some (.inr (.inr d)), some (.inl v3)] [.inl w1, .inr (.inr d)] h Q := by
  have hd' : q + 7 ≤ d ∧ d ≤ q + 26 := by omega
  have fin : ∀ h2 r, CSK T n W h2 (opN (tO T n) (tV T n 32) (tW T n 32 W) (tP T n) 6 0 9 s) → frK (wr h d 7 w1) h2 → ((opN (tO T n) (tV T n 32) (tW T n 32 W) (tP T n) 6 0 9 s).1 = 0 → r = opV (tV T n 32) (tW T n 32 W) 6 0 s) → Rn xs xl e mm_Reader_doorLine 209 [some (.inr (.inr 2)), some (.inr (.inr q)), some (.inr (.inr d)), some (.inl v3)] [.inl r, .inr (.inr d)] h2 Q := by
    intro h2 r c2 f2 q2
    refine B_Reader_doorLine_209 hq hd c2.1.1 ⟨3, by omega, F_takeSign (by omega) (CSK_wd c2 hq hd') (fun h3 c3 f3 => ?_)⟩
    have D3 : rd h3 q 2 = D := by rw [f3 _ _ (by unfold muR; omega), rdw_ne (by omega), f2 _ _ (by unfold muR; omega), rdw_ne (by omega), hD]
    refine B_Reader_doorLine_218 hq hd c3.1.1 ⟨by omega, ?_⟩
    rw [D3]
    refine k _ (CSK_wn c3 (hav_qf hq (by omega)) (by omega)) (fun z => ?_) rdw_eq ?_ (fun a i n1 n2 n3 => ?_)
    · rw [rdw_ne (by omega), f3 _ _ (by unfold muR; omega), rdw_eq]
      exact q2 (tkS_z z)
    · rw [rdw_ne (by omega), f3 _ _ (by unfold muR; omega), rdw_nei (by decide), f2 _ _ (by unfold muR; omega), rdw_eq]
    · rw [rd_wr, if_neg (fun z => n2 (by omega)), f3 a i n1, rd_wr, if_neg (fun z => n3 (by omega)), f2 a i n1, rd_wr, if_neg (fun z => n3 (by omega))]
  refine B_Reader_doorLine_185 hq hd hs.1.1 ⟨3, by omega, F_skipWord (by omega) (CSK_wd hs hq hd') (by decide) (fun h1 s1 f1 => ?_)⟩
  by_cases b : tkB (tW T n 32 W) 6 s = true
  · rw [if_pos b] at s1 ⊢
    refine B_Reader_doorLine_195 hq hd s1.1.1 ⟨fun c => absurd c (by decide), fun _ => ⟨3, by omega, F_takeNumber (by omega) s1 ⟨by unfold i32; omega, by unfold i32; omega⟩ (fun h2 r s2 f2 _ _ q2 => B_Reader_doorLine_205 hq hd s2.1.1 (fin h2 r ?_ (f1.trans f2) ?_))⟩⟩
    · unfold opN; rw [if_pos b]; exact s2
    · unfold opN opV; rw [if_pos b, if_pos b]; exact fun z => (q2 z).1
  · rw [if_neg b] at s1 ⊢
    refine B_Reader_doorLine_195 hq hd s1.1.1 ⟨fun _ => fin h1 0 ?_ f1 ?_, fun c => absurd rfl c⟩
    · unfold opN; rw [if_neg b]; exact s1
    · unfold opV; rw [if_neg b]; exact fun _ => rfl
theorem F_drT3 (he : 4 ≤ e) (hq : q = 5 ∨ q = 32) (hd : q + 7 ≤ d ∧ d ≤ q + 20) (hs : CSK T n W h s) (hD : rd h q 2 = D) (hDb : 0 ≤ D ∧ D < 14)
    (k : ∀ h', CSK T n W h' (tkS (tO T n) (tV T n 32) (tP T n) 59 (opN (tO T n) (tV T n 32) (tW T n 32 W) (tP T n) 6 0 9 (opN (tO T n) (tV T n 32) (tW T n 32 W) (tP T n) 5 1 9 s))) → ((tkS (tO T n) (tV T n 32) (tP T n) 59 (opN (tO T n) (tV T n 32) (tW T n 32 W) (tP T n) 6 0 9 (opN (tO T n) (tV T n 32) (tW T n 32 W) (tP T n) 5 1 9 s))).1 = 0 → rd h' d 7 = opV (tV T n 32) (tW T n 32 W) 5 1 s ∧ rd h' d 8 = opV (tV T n 32) (tW T n 32 W) 6 0 (opN (tO T n) (tV T n 32) (tW T n 32 W) (tP T n) 5 1 9 s)) → rd h' q 2 = D + 1 → rd h' d 6 = w1 → (∀ a i, ¬ muR a i → ¬ (a = q ∧ i = 2) → ¬ (a = d ∧ 6 ≤ i) → rd h' a i = rd h a i) → Q none h') :
    Rn xs xl e mm_Reader_doorLine 162 [some (.inr (.inr 2)), some (.inr (.inr q)), some (.inr (.inr d)), some (.inl v3)] [.inl w1, .inr (.inr d)] h Q := by
  have hd' : q + 7 ≤ d ∧ d ≤ q + 26 := by omega
  have fin : ∀ h2 r, CSK T n W h2 (opN (tO T n) (tV T n 32) (tW T n 32 W) (tP T n) 5 1 9 s) → frK (wr h d 6 w1) h2 → ((opN (tO T n) (tV T n 32) (tW T n 32 W) (tP T n) 5 1 9 s).1 = 0 → r = opV (tV T n 32) (tW T n 32 W) 5 1 s) → Rn xs xl e mm_Reader_doorLine 185 [some (.inr (.inr 2)), some (.inr (.inr q)), some (.inr (.inr d)), some (.inl v3)] [.inl r, .inr (.inr d)] h2 Q := by
    intro h2 r c2 f2 q2
    refine F_drT4 he hq hd c2 (D := D) (by rw [f2 _ _ (by unfold muR; omega), rdw_ne (by omega), hD]) hDb (fun h3 c3 q3 d3 w3 f3 => ?_)
    refine k h3 c3 (fun z => ⟨w3.trans (q2 (opN_z (tkS_z z))), q3 z⟩) d3 ?_ (fun a i n1 n2 n3 => ?_)
    · rw [f3 _ _ (by unfold muR; omega) (by omega) (by omega), f2 _ _ (by unfold muR; omega), rdw_eq]
    · rw [f3 a i n1 n2 (fun z => n3 (by omega)), f2 a i n1, rd_wr, if_neg (fun z => n3 (by omega))]
  refine B_Reader_doorLine_162 hq hd hs.1.1 ⟨3, by omega, F_skipWord (by omega) (CSK_wd hs hq hd') (by decide) (fun h1 s1 f1 => ?_)⟩
  by_cases b : tkB (tW T n 32 W) 5 s = true
  · rw [if_pos b] at s1 ⊢
    refine B_Reader_doorLine_171 hq hd s1.1.1 ⟨fun c => absurd c (by decide), fun _ => ⟨3, by omega, F_takeNumber (by omega) s1 ⟨by unfold i32; omega, by unfold i32; omega⟩ (fun h2 r s2 f2 _ _ q2 => B_Reader_doorLine_181 hq hd s2.1.1 (fin h2 r ?_ (f1.trans f2) ?_))⟩⟩
    · unfold opN; rw [if_pos b]; exact s2
    · unfold opN opV; rw [if_pos b, if_pos b]; exact fun z => (q2 z).1
  · rw [if_neg b] at s1 ⊢
    refine B_Reader_doorLine_171 hq hd s1.1.1 ⟨fun _ => fin h1 1 ?_ f1 ?_, fun c => absurd rfl c⟩
    · unfold opN; rw [if_neg b]; exact s1
    · unfold opV; rw [if_neg b]; exact fun _ => rfl
theorem F_drT2 (he : 4 ≤ e) (hq : q = 5 ∨ q = 32) (hd : q + 7 ≤ d ∧ d ≤ q + 20) (hs : CSK T n W h s) (hD : rd h q 2 = D) (hDb : 0 ≤ D ∧ D < 14)
    (k : ∀ h', CSK T n W h' (tkS (tO T n) (tV T n 32) (tP T n) 59 (opN (tO T n) (tV T n 32) (tW T n 32 W) (tP T n) 6 0 9 (opN (tO T n) (tV T n 32) (tW T n 32 W) (tP T n) 5 1 9 (opS (tW T n 32 W) (tP T n) s)))) → ((tkS (tO T n) (tV T n 32) (tP T n) 59 (opN (tO T n) (tV T n 32) (tW T n 32 W) (tP T n) 6 0 9 (opN (tO T n) (tV T n 32) (tW T n 32 W) (tP T n) 5 1 9 (opS (tW T n 32 W) (tP T n) s)))).1 = 0 → rd h' d 6 = opT (tW T n 32 W) s ∧ rd h' d 7 = opV (tV T n 32) (tW T n 32 W) 5 1 (opS (tW T n 32 W) (tP T n) s) ∧ rd h' d 8 = opV (tV T n 32) (tW T n 32 W) 6 0 (opN (tO T n) (tV T n 32) (tW T n 32 W) (tP T n) 5 1 9 (opS (tW T n 32 W) (tP T n) s))) → rd h' q 2 = D + 1 → rd h' d 5 = w1 → (∀ a i, ¬ muR a i → ¬ (a = q ∧ i = 2) → ¬ (a = d ∧ 5 ≤ i) → rd h' a i = rd h a i) → Q none h') :
    Rn xs xl e mm_Reader_doorLine 140 [some (.inr (.inr 2)), some (.inr (.inr q)), some (.inr (.inr d)), some (.inl v3)] [.inl w1, .inr (.inr d)] h Q := by
  have hd' : q + 7 ≤ d ∧ d ≤ q + 26 := by omega
  have fin : ∀ h2 r, CSK T n W h2 (opS (tW T n 32 W) (tP T n) s) → frK (wr h d 5 w1) h2 → ((opS (tW T n 32 W) (tP T n) s).1 = 0 → r = opT (tW T n 32 W) s) → Rn xs xl e mm_Reader_doorLine 162 [some (.inr (.inr 2)), some (.inr (.inr q)), some (.inr (.inr d)), some (.inl v3)] [.inl r, .inr (.inr d)] h2 Q := by
    intro h2 r c2 f2 q2
    refine F_drT3 he hq hd c2 (D := D) (by rw [f2 _ _ (by unfold muR; omega), rdw_ne (by omega), hD]) hDb (fun h3 c3 q3 d3 w3 f3 => ?_)
    refine k h3 c3 (fun z => ⟨w3.trans (q2 (opN_z (opN_z (tkS_z z)))), q3 z⟩) d3 ?_ (fun a i n1 n2 n3 => ?_)
    · rw [f3 _ _ (by unfold muR; omega) (by omega) (by omega), f2 _ _ (by unfold muR; omega), rdw_eq]
    · rw [f3 a i n1 n2 (fun z => n3 (by omega)), f2 a i n1, rd_wr, if_neg (fun z => n3 (by omega))]
  refine B_Reader_doorLine_140 hq hd hs.1.1 ⟨3, by omega, F_skipWord (by omega) (CSK_wd hs hq hd') (by decide) (fun h1 s1 f1 => ?_)⟩
  by_cases b : tkB (tW T n 32 W) 4 s = true
  · rw [if_pos b] at s1 ⊢
    refine B_Reader_doorLine_149 hq hd s1.1.1 ⟨fun c => absurd c (by decide), fun _ => ⟨3, by omega, F_takeOneOfFour (by omega) s1 (by omega) (fun h2 r s2 f2 _ _ q2 => B_Reader_doorLine_158 hq hd s2.1.1 (fin h2 r ?_ (f1.trans f2) ?_))⟩⟩
    · unfold opS; rw [if_pos b]; exact s2
    · unfold opS opT; rw [if_pos b, if_pos b]; exact q2
  · rw [if_neg b] at s1 ⊢
    refine B_Reader_doorLine_149 hq hd s1.1.1 ⟨fun _ => fin h1 (-1) ?_ f1 ?_, fun c => absurd rfl c⟩
    · unfold opS; rw [if_neg b]; exact s1
    · unfold opT; rw [if_neg b]; exact fun _ => rfl
/-- what stands in a door's places 4 .. 8 -/
def drFc (T : Int → Int) (n : Int) (W : Int → Int) (h' : LH) (d : Int) (s : Int × Nat) : Prop :=
  rd h' d 4 = opV (tV T n 32) (tW T n 32 W) 3 0 s ∧ rd h' d 5 = opC (tO T n) (tV T n 32) (tW T n 32 W) (tP T n) s ∧ rd h' d 6 = opT (tW T n 32 W) (opF (tO T n) (tV T n 32) (tW T n 32 W) (tP T n) s) ∧ rd h' d 7 = opV (tV T n 32) (tW T n 32 W) 5 1 (opS (tW T n 32 W) (tP T n) (opF (tO T n) (tV T n 32) (tW T n 32 W) (tP T n) s)) ∧ rd h' d 8 = opV (tV T n 32) (tW T n 32 W) 6 0 (opN (tO T n) (tV T n 32) (tW T n 32 W) (tP T n) 5 1 9 (opS (tW T n 32 W) (tP T n) (opF (tO T n) (tV T n 32) (tW T n 32 W) (tP T n) s)))
theorem F_drT1 (he : 4 ≤ e) (hq : q = 5 ∨ q = 32) (hd : q + 7 ≤ d ∧ d ≤ q + 20) (hs : CSK T n W h (if tkB (tW T n 32 W) 3 s = true then tkA s else s)) (hD : rd h q 2 = D) (hDb : 0 ≤ D ∧ D < 14)
    (k : ∀ h', CSK T n W h' (tkS (tO T n) (tV T n 32) (tP T n) 59 (opL (tO T n) (tV T n 32) (tW T n 32 W) (tP T n) s)) → ((tkS (tO T n) (tV T n 32) (tP T n) 59 (opL (tO T n) (tV T n 32) (tW T n 32 W) (tP T n) s)).1 = 0 → drFc T n W h' d s) → rd h' q 2 = D + 1 → (∀ a i, ¬ muR a i → ¬ (a = q ∧ i = 2) → ¬ (a = d ∧ 4 ≤ i) → rd h' a i = rd h a i) → Q none h') :
    Rn xs xl e mm_Reader_doorLine 89 [some (.inr (.inr 2)), some (.inr (.inr q)), some (.inr (.inr d)), none] [.inl (if tkB (tW T n 32 W) 3 s = true then 1 else 0)] h Q := by
  have hd' : q + 7 ≤ d ∧ d ≤ q + 26 := by omega
  have fin : ∀ h2 h1 r c, CSK T n W h2 (opF (tO T n) (tV T n 32) (tW T n 32 W) (tP T n) s) → frK (wr h1 d 4 r) h2 → frK h h1 → ((opF (tO T n) (tV T n 32) (tW T n 32 W) (tP T n) s).1 = 0 → r = opV (tV T n 32) (tW T n 32 W) 3 0 s ∧ c = opC (tO T n) (tV T n 32) (tW T n 32 W) (tP T n) s) → ∀ v3, Rn xs xl e mm_Reader_doorLine 140 [some (.inr (.inr 2)), some (.inr (.inr q)), some (.inr (.inr d)), some (.inl v3)] [.inl c, .inr (.inr d)] h2 Q := by
    intro h2 h1 r c c2 f2 f1 q2 v3
    refine F_drT2 he hq hd c2 (D := D) (by rw [f2 _ _ (by unfold muR; omega), rdw_ne (by omega), f1 _ _ (by unfold muR; omega), hD]) hDb (fun h3 c3 q3 d3 w3 f3 => ?_)
    refine k h3 c3 (fun z => ⟨?_, w3.trans (q2 (opS_z (opN_z (opN_z (tkS_z z))))).2, q3 z⟩) d3 (fun a i n1 n2 n3 => ?_)
    · rw [f3 _ _ (by unfold muR; omega) (by omega) (by omega), f2 _ _ (by unfold muR; omega), rdw_eq]
      exact (q2 (opS_z (opN_z (opN_z (tkS_z z))))).1
    · rw [f3 a i n1 n2 (fun z => n3 (by omega)), f2 a i n1, rd_wr, if_neg (fun z => n3 (by omega)), f1 a i n1]
  by_cases b : tkB (tW T n 32 W) 3 s = true
  · rw [if_pos b] at hs ⊢
    refine B_Reader_doorLine_89 hq hd hs.1.1 ⟨fun c => absurd c (by decide), fun _ => ⟨3, by omega, F_takeNumber (by omega) hs ⟨by unfold i32; omega, by unfold i32; omega⟩ (fun h1 r s1 f1 r0 r1 q1 => B_Reader_doorLine_102 hq hd s1.1.1 ?_)⟩⟩
    refine B_Reader_doorLine_106 hq hd s1.1.1 ⟨fun c => absurd c (by decide), fun _ => ⟨3, by omega, F_takeWord (by omega) (CSK_wd s1 hq hd') (by decide) (fun h2 s2 f2 => ?_)⟩⟩
    have er : rd h2 d 4 = r := by rw [f2 _ _ (by unfold muR; omega), rdw_eq]
    refine B_Reader_doorLine_118 hq hd s2.1.1 ⟨fun c => absurd c (by decide), fun _ => ⟨by rw [er]; omega, 3, by omega, ?_⟩⟩
    rw [er]
    refine F_takeNumber (by omega) s2 ⟨by unfold i32; omega, by unfold i32; omega⟩ (fun h3 c s3 f3 _ _ q3 => B_Reader_doorLine_135 hq hd s3.1.1 (fin h3 h1 r c ?_ (f2.trans f3) f1 ?_ _))
    · by_cases z : (tkN (tO T n) (tV T n 32) (tP T n) 0 23 (tkA s)).1 = 0
      · unfold opF opE; rw [if_pos b, if_pos b, ← (q1 z).1]; exact s3
      · unfold opF opE; rw [if_pos b, if_pos b]; rw [tkW_f z, tkN_f z] at s3 ⊢; exact s3
    · intro z
      have b' : (opF (tO T n) (tV T n 32) (tW T n 32 W) (tP T n) s) = tkN (tO T n) (tV T n 32) (tP T n) (tV T n 32 (tkA s).2 + 1) 24 (tkW (tW T n 32 W) (tP T n) 2 (tkN (tO T n) (tV T n 32) (tP T n) 0 23 (tkA s))) := by
        unfold opF opE; rw [if_pos b, if_pos b]
      rw [b'] at z
      have z1 := tkW_z (tkN_z z)
      have e1 := (q1 z1).1
      rw [← e1] at z
      refine ⟨?_, ?_⟩
      · unfold opV; rw [if_pos b]; exact e1
      · unfold opC opE; rw [if_pos b, if_pos b]; exact (q3 z).1
  · rw [if_neg b] at hs ⊢
    refine B_Reader_doorLine_89 hq hd hs.1.1 ⟨fun _ => ?_, fun c => absurd rfl c⟩
    refine B_Reader_doorLine_106 hq hd hs.1.1 ⟨fun _ => ?_, fun c => absurd rfl c⟩
    refine B_Reader_doorLine_118 hq hd (CSK_wd hs hq hd').1.1 ⟨fun _ => fin _ h 0 24 ?_ frK.refl frK.refl (fun _ => ⟨?_, ?_⟩) _, fun c => absurd rfl c⟩
    · unfold opF; rw [if_neg b]; exact CSK_wd hs hq hd'
    · unfold opV; rw [if_neg b]
    · unfold opC; rw [if_neg b]
theorem F_doorLine (he : 5 ≤ e) (hq : q = 5 ∨ q = 32) (hP : PT h) (hs : CSK T n W h s) (hz : s.1 = 0) (ho : tO T n s.2 ≠ 0) (hN : NCK T n h q ND NP) (hl : ND.length < 14) (hA : ∀ f : Nat → Bool, N.any f = (ND.any f || NP.any f)) {R : Int} (hR : rd h q 0 = R) (hr : 2 ≤ R ∧ R ≤ 10)
    (k : ∀ h', CSK T n W h' (tkS (tO T n) (tV T n 32) (tP T n) 59 (drL (tO T n) (tV T n 32) (tW T n 32 W) (tP T n) R N s)) → ((tkS (tO T n) (tV T n 32) (tP T n) 59 (drL (tO T n) (tV T n 32) (tW T n 32 W) (tP T n) R N s)).1 = 0 → rd h' (q + 7 + ND.length) 0 = tV T n 32 (s.2 + 1) ∧ rd h' (q + 7 + ND.length) 1 = tW T n 32 W (drC (tO T n) (tV T n 32) (tW T n 32 W) (tP T n) R N s).2 - 14 ∧ rd h' (q + 7 + ND.length) 2 = tV T n 32 (drA (tO T n) (tV T n 32) (tW T n 32 W) (tP T n) N s).2 ∧ rd h' (q + 7 + ND.length) 3 = tV T n 32 (drB (tO T n) (tV T n 32) (tW T n 32 W) (tP T n) R N s).2 ∧ drFc T n W h' (q + 7 + ND.length) (drD (tO T n) (tV T n 32) (tW T n 32 W) (tP T n) R N s)) → rd h' q 2 = (ND.length : Int) + 1 → (∀ a i, ¬ muR a i → ¬ (a = q ∧ i = 2) → ¬ a = q + 7 + ND.length → rd h' a i = rd h a i) → Q none h') :
    Rn xs xl e mm_Reader_doorLine 0 [some (.inr (.inr 2)), some (.inr (.inr q)), none, none] [] h Q := by
  have hF := hs.1.1
  have hD := hN.1
  refine B_Reader_doorLine_0 hq hF hP ⟨fun _ => ⟨by omega, 2, by omega, F_stp (by omega) hs (fun _ => ho) (fun h1 s1 f1 => ?_)⟩, fun c => by omega⟩
  rw [hD]
  generalize ed : q + 7 + (ND.length : Int) = d at k ⊢
  have hd : q + 7 ≤ d ∧ d ≤ q + 20 := by omega
  have hd' : q + 7 ≤ d ∧ d ≤ q + 26 := by omega
  have z1 : (tkA s).1 = 0 := by rw [tkA_0 hz]
  have e1 : (tkA s).2 = s.2 + 1 := by rw [tkA_0 hz]
  have P1 : PT h1 := PT_fr hP (fun a i ha => f1 _ _ (by unfold muR; omega))
  have N1 : NCK T n h1 q ND NP := NCK_fr hN (fun a i ha => f1 _ _ (by unfold muR; omega))
  refine B_Reader_doorLine_29 hq hd s1.1.1 ⟨3, by omega, F_takeNewName (by omega) hq P1 s1 z1 N1 hA (fun h2 r2 s2 f2 q2 => ?_)⟩
  have s2' : CSK T n W h2 (drA (tO T n) (tV T n 32) (tW T n 32 W) (tP T n) N s) := s2
  have R2 : rd h2 q 0 = R := by rw [f2 _ _ (by unfold muR; omega), f1 _ _ (by unfold muR; omega), hR]
  refine B_Reader_doorLine_35 hq hd s2.1.1 ⟨by omega, 3, by omega, ?_⟩
  rw [R2]
  refine F_takeNumber (by omega) (CSK_wd s2' hq hd') ⟨by unfold i32; omega, by unfold i32; omega⟩ (fun h3 r3 s3 f3 l3 u3 q3 => ?_)
  refine B_Reader_doorLine_50 hq hd s3.1.1 ⟨3, by omega, F_takeWord (by omega) (CSK_wd s3 hq hd') (by decide) (fun h4 s4 f4 => ?_)⟩
  have s4' : CSK T n W h4 (drB (tO T n) (tV T n 32) (tW T n 32 W) (tP T n) R N s) := s4
  have r4 : rd h4 d 2 = r3 := by rw [f4 _ _ (by unfold muR; omega), rdw_eq]
  have R4 : rd h4 q 0 = R := by rw [f4 _ _ (by unfold muR; omega), rdw_ne (by omega), f3 _ _ (by unfold muR; omega), rdw_ne (by omega), R2]
  refine B_Reader_doorLine_58 hq hd s4.1.1 ⟨4, by omega, ?_⟩
  rw [r4, R4]
  refine F_takeOtherRoom (by omega) s4' (by omega) (by omega) (fun h5 r5 s5 f5 _ _ q5 => ?_)
  have eC : tkR (tO T n) (tV T n 32) (tP T n) r3 R (drB (tO T n) (tV T n 32) (tW T n 32 W) (tP T n) R N s) = (drC (tO T n) (tV T n 32) (tW T n 32 W) (tP T n) R N s) := by
    unfold drC
    by_cases z : (drB (tO T n) (tV T n 32) (tW T n 32 W) (tP T n) R N s).1 = 0
    · rw [(q3 (tkW_z z)).1]
    · rw [tkR_f z, tkR_f z]
  rw [eC] at s5 q5
  refine B_Reader_doorLine_71 hq hd s5.1.1 ⟨3, by omega, F_takeOneOfFour (by omega) (CSK_wd s5 hq hd') (by omega) (fun h6 r6 s6 f6 _ _ q6 => ?_)⟩
  have s6' : CSK T n W h6 (drD (tO T n) (tV T n 32) (tW T n 32 W) (tP T n) R N s) := s6
  refine B_Reader_doorLine_81 hq hd s6.1.1 ⟨3, by omega, F_skipWord (by omega) (CSK_wd s6' hq hd') (by decide) (fun h7 s7 f7 => ?_)⟩
  have D7 : rd h7 q 2 = (ND.length : Int) := by
    rw [f7 _ _ (by unfold muR; omega), rdw_ne (by omega), f6 _ _ (by unfold muR; omega), rdw_ne (by omega), f5 _ _ (by unfold muR; omega), f4 _ _ (by unfold muR; omega), rdw_ne (by omega), f3 _ _ (by unfold muR; omega), rdw_ne (by omega), f2 _ _ (by unfold muR; omega), f1 _ _ (by unfold muR; omega), hD]
  refine F_drT1 (by omega) hq hd s7 D7 (by omega) (fun h8 s8 q8 d8 f8 => k h8 s8 (fun z => ?_) d8 (fun a i n1 n2 n3 => ?_))
  · have zD : (drD (tO T n) (tV T n 32) (tW T n 32 W) (tP T n) R N s).1 = 0 := opL_z (tkS_z z)
    have zC : (drC (tO T n) (tV T n 32) (tW T n 32 W) (tP T n) R N s).1 = 0 := tkF_z zD
    have zB : (drB (tO T n) (tV T n 32) (tW T n 32 W) (tP T n) R N s).1 = 0 := tkR_z zC
    have zN := tkW_z zB
    have zA : (drA (tO T n) (tV T n 32) (tW T n 32 W) (tP T n) N s).1 = 0 := tkN_z zN
    refine ⟨?_, ?_, ?_, ?_, q8 z⟩
    · rw [f8 _ _ (by unfold muR; omega) (by omega) (by omega), f7 _ _ (by unfold muR; omega), rdw_nei (by decide), f6 _ _ (by unfold muR; omega), rdw_nei (by decide), f5 _ _ (by unfold muR; omega), f4 _ _ (by unfold muR; omega), rdw_nei (by decide), f3 _ _ (by unfold muR; omega), rdw_eq, q2 zA, e1]
    · rw [f8 _ _ (by unfold muR; omega) (by omega) (by omega), f7 _ _ (by unfold muR; omega), rdw_eq]
      exact q6 zD
    · rw [f8 _ _ (by unfold muR; omega) (by omega) (by omega), f7 _ _ (by unfold muR; omega), rdw_nei (by decide), f6 _ _ (by unfold muR; omega), rdw_nei (by decide), f5 _ _ (by unfold muR; omega), r4]
      exact (q3 zN).1
    · rw [f8 _ _ (by unfold muR; omega) (by omega) (by omega), f7 _ _ (by unfold muR; omega), rdw_nei (by decide), f6 _ _ (by unfold muR; omega), rdw_eq]
      exact (q5 zC).1
  · rw [f8 a i n1 n2 (fun z => n3 z.1), f7 a i n1, rd_wr, if_neg (fun z => n3 z.1.symm), f6 a i n1, rd_wr, if_neg (fun z => n3 z.1.symm), f5 a i n1, f4 a i n1, rd_wr, if_neg (fun z => n3 z.1.symm), f3 a i n1, rd_wr, if_neg (fun z => n3 z.1.symm), f2 a i n1, f1 a i n1]
end DB
end
section
/-! p3, part d2: a person's line and the law's line, as the class reads them -/
section DC
variable {xs : Nat → Int} {xl e : Nat} {h : LH} {Q : Option LV → LH → Prop} {q p v3 w1 D R : Int} {T : Int → Int} {n : Int} {W : Int → Int} {s : Int × Nat} {N ND NP : List Nat}
theorem F_personLine (he : 5 ≤ e) (hq : q = 5 ∨ q = 32) (hP : PT h) (hs : CSK T n W h s) (hz : s.1 = 0) (ho : tO T n s.2 ≠ 0) (hN : NCK T n h q ND NP) (hl : NP.length < 6) (hA : ∀ f : Nat → Bool, N.any f = (ND.any f || NP.any f)) (hR : rd h q 0 = R) (hr : 2 ≤ R ∧ R ≤ 10)
    (k : ∀ h', CSK T n W h' (tkS (tO T n) (tV T n 32) (tP T n) 59 (psL (tO T n) (tV T n 32) (tW T n 32 W) (tP T n) R N s)) → ((tkS (tO T n) (tV T n 32) (tP T n) 59 (psL (tO T n) (tV T n 32) (tW T n 32 W) (tP T n) R N s)).1 = 0 → rd h' (q + 21 + NP.length) 0 = tV T n 32 (s.2 + 1) ∧ rd h' (q + 21 + NP.length) 1 = tW T n 32 W (psA (tO T n) (tV T n 32) (tW T n 32 W) (tP T n) N s).2 - 18 ∧ rd h' (q + 21 + NP.length) 2 = tV T n 32 (psB (tO T n) (tV T n 32) (tW T n 32 W) (tP T n) N s).2 ∧ rd h' (q + 21 + NP.length) 3 = tV T n 32 (psC (tO T n) (tV T n 32) (tW T n 32 W) (tP T n) R N s).2 ∧ rd h' (q + 21 + NP.length) 4 = tV T n 32 (psD (tO T n) (tV T n 32) (tW T n 32 W) (tP T n) R N s).2) → rd h' q 4 = (NP.length : Int) + 1 → (∀ a i, ¬ muR a i → ¬ (a = q ∧ i = 4) → ¬ a = q + 21 + NP.length → rd h' a i = rd h a i) → Q none h') :
    Rn xs xl e mm_Reader_personLine 0 [some (.inr (.inr 2)), some (.inr (.inr q)), none] [] h Q := by
  have hF := hs.1.1
  have hD := hN.2.1
  refine B_Reader_personLine_0 hq hF hP ⟨fun _ => ⟨by omega, 2, by omega, F_stp (by omega) hs (fun _ => ho) (fun h1 s1 f1 => ?_)⟩, fun c => by omega⟩
  rw [hD]
  generalize ed : q + 21 + (NP.length : Int) = p at k ⊢
  have hp : q + 21 ≤ p ∧ p ≤ q + 26 := by omega
  have hd' : q + 7 ≤ p ∧ p ≤ q + 26 := by omega
  have z1 : (tkA s).1 = 0 := by rw [tkA_0 hz]
  have e1 : (tkA s).2 = s.2 + 1 := by rw [tkA_0 hz]
  have P1 : PT h1 := PT_fr hP (fun a i ha => f1 _ _ (by unfold muR; omega))
  have N1 : NCK T n h1 q ND NP := NCK_fr hN (fun a i ha => f1 _ _ (by unfold muR; omega))
  have np : ∀ i, ¬ muR p i := fun i => by unfold muR; omega
  have nq : ∀ i, ¬ muR q i := fun i => by unfold muR; omega
  have pq : p ≠ q := by omega
  have qp : q ≠ p := by omega
  have q4 : 4 < q := by omega
  have i0 : i32 0 := by unfold i32; decide
  have iR : i32 (R - 1) := by unfold i32; omega
  have bR : -2147483648 ≤ R - 1 ∧ R - 1 ≤ 2147483647 := by omega
  have he2 : 3 < e := by omega
  have hv4 := hav_qf (i := 4) hq (by decide)
  have hl2 : -2147483648 ≤ (NP.length : Int) + 1 ∧ (NP.length : Int) + 1 ≤ 2147483647 := by omega
  refine B_Reader_personLine_29 hq hp s1.1.1 ⟨3, he2, F_takeNewName (by decide) hq P1 s1 z1 N1 hA (fun h2 r2 s2 f2 q2 => ?_)⟩
  have s2' : CSK T n W h2 (psA (tO T n) (tV T n 32) (tW T n 32 W) (tP T n) N s) := s2
  refine B_Reader_personLine_35 hq hp s2.1.1 ⟨3, he2, F_takeOneOfFour (by decide) (CSK_wd s2' hq hd') (by decide) (fun h3 r3 s3 f3 _ _ q3 => ?_)⟩
  refine B_Reader_personLine_45 hq hp s3.1.1 ⟨3, he2, F_takeWord (by decide) (CSK_wd s3 hq hd') (by decide) (fun h4 s4 f4 => ?_)⟩
  have s4' : CSK T n W h4 (psB (tO T n) (tV T n 32) (tW T n 32 W) (tP T n) N s) := s4
  have R4 : rd h4 q 0 = R := by rw [f4 _ _ (nq _), rdw_ne pq, f3 _ _ (nq _), rdw_ne pq, f2 _ _ (nq _), f1 _ _ (nq _), hR]
  refine B_Reader_personLine_54 hq hp s4.1.1 ⟨by rw [R4]; exact bR, 3, he2, ?_⟩
  rw [R4]
  refine F_takeNumber (by decide) s4' ⟨i0, iR⟩ (fun h5 r5 s5 f5 _ _ q5 => ?_)
  refine B_Reader_personLine_66 hq hp s5.1.1 ⟨3, he2, F_takeWord (by decide) (CSK_wd s5 hq hd') (by decide) (fun h6 s6 f6 => ?_)⟩
  have s6' : CSK T n W h6 (psC (tO T n) (tV T n 32) (tW T n 32 W) (tP T n) R N s) := s6
  have R6 : rd h6 q 0 = R := by rw [f6 _ _ (nq _), rdw_ne pq, f5 _ _ (nq _), R4]
  refine B_Reader_personLine_75 hq hp s6.1.1 ⟨by rw [R6]; exact bR, 3, he2, ?_⟩
  rw [R6]
  refine F_takeNumber (by decide) s6' ⟨i0, iR⟩ (fun h7 r7 s7 f7 _ _ q7 => ?_)
  refine B_Reader_personLine_87 hq hp s7.1.1 ⟨3, he2, F_takeWord (by decide) (CSK_wd s7 hq hd') (by decide) (fun h8 s8 f8 => ?_)⟩
  have s8' : CSK T n W h8 (psD (tO T n) (tV T n 32) (tW T n 32 W) (tP T n) R N s) := s8
  refine B_Reader_personLine_96 hq hp s8.1.1 ⟨3, he2, F_takeNumber (by decide) s8' ⟨by unfold i32; decide, by unfold i32; decide⟩ (fun h9 r9 s9 f9 _ _ q9 => ?_)⟩
  refine B_Reader_personLine_104 hq hp s9.1.1 ⟨3, he2, F_takeSign (by decide) (CSK_wd s9 hq hd') (fun ha sa fa => ?_)⟩
  have D10 : rd ha q 4 = (NP.length : Int) := by
    rw [fa _ _ (nq _), rdw_ne pq, f9 _ _ (nq _), f8 _ _ (nq _), rdw_ne pq, f7 _ _ (nq _), f6 _ _ (nq _), rdw_ne pq, f5 _ _ (nq _), f4 _ _ (nq _), rdw_ne pq, f3 _ _ (nq _), rdw_ne pq, f2 _ _ (nq _), f1 _ _ (nq _), hD]
  refine B_Reader_personLine_113 hq hp sa.1.1 ⟨by rw [D10]; exact hl2, ?_⟩
  rw [D10]
  refine k _ (CSK_wn sa hv4 q4) (fun z => ?_) rdw_eq (fun a i n1 n2 n3 => ?_)
  · have z9 := tkS_z z
    have zD : (psD (tO T n) (tV T n 32) (tW T n 32 W) (tP T n) R N s).1 = 0 := tkN_z z9
    have z7 := tkW_z zD
    have zC : (psC (tO T n) (tV T n 32) (tW T n 32 W) (tP T n) R N s).1 = 0 := tkN_z z7
    have z5 := tkW_z zC
    have zB : (psB (tO T n) (tV T n 32) (tW T n 32 W) (tP T n) N s).1 = 0 := tkN_z z5
    have z3 := tkW_z zB
    have zA : (psA (tO T n) (tV T n 32) (tW T n 32 W) (tP T n) N s).1 = 0 := tkF_z z3
    have back : ∀ i, i ≠ 4 → rd (wr ha q 4 ((NP.length : Int) + 1)) p i = rd h8 p i := fun i hi => by
      rw [rdw_ne qp, fa _ _ (np _), rdw_nei (Ne.symm hi), f9 _ _ (np _)]
    have back2 : ∀ i, i ≠ 4 → i ≠ 3 → rd (wr ha q 4 ((NP.length : Int) + 1)) p i = rd h6 p i := fun i hi h3 => by
      rw [back i hi, f8 _ _ (np _), rdw_nei (Ne.symm h3), f7 _ _ (np _)]
    have back3 : ∀ i, i ≠ 4 → i ≠ 3 → i ≠ 2 → rd (wr ha q 4 ((NP.length : Int) + 1)) p i = rd h4 p i := fun i hi h3 h2 => by
      rw [back2 i hi h3, f6 _ _ (np _), rdw_nei (Ne.symm h2), f5 _ _ (np _)]
    refine ⟨?_, ?_, ?_, ?_, ?_⟩
    · rw [back3 0 (by decide) (by decide) (by decide), f4 _ _ (np _), rdw_nei (by decide), f3 _ _ (np _), rdw_eq, q2 zA, e1]
    · rw [back3 1 (by decide) (by decide) (by decide), f4 _ _ (np _), rdw_eq]
      exact q3 z3
    · rw [back2 2 (by decide) (by decide), f6 _ _ (np _), rdw_eq]
      exact (q5 z5).1
    · rw [back 3 (by decide), f8 _ _ (np _), rdw_eq]
      exact (q7 z7).1
    · rw [rdw_ne qp, fa _ _ (np _), rdw_eq]
      exact (q9 z9).1
  · rw [rd_wr, if_neg (fun z => n2 ⟨z.1.symm, z.2.symm⟩), fa a i n1, rd_wr, if_neg (fun z => n3 z.1.symm), f9 a i n1, f8 a i n1, rd_wr, if_neg (fun z => n3 z.1.symm), f7 a i n1, f6 a i n1, rd_wr, if_neg (fun z => n3 z.1.symm), f5 a i n1, f4 a i n1, rd_wr, if_neg (fun z => n3 z.1.symm), f3 a i n1, rd_wr, if_neg (fun z => n3 z.1.symm), f2 a i n1, f1 a i n1]
theorem F_letLine (he : 40 ≤ e) (hq : q = 5 ∨ q = 32) (hs : CSK T n W h s) (hz : s.1 = 0) (ho : tO T n s.2 ≠ 0) (hL : rd h q 6 = 0)
    (k : ∀ h', CSK T n W h' (tkS (tO T n) (tV T n 32) (tP T n) 59 (qX (tO T n) (tV T n 32) (tW T n 32 W) (tP T n) s).1) → ((tkS (tO T n) (tV T n 32) (tP T n) 59 (qX (tO T n) (tV T n 32) (tW T n 32 W) (tP T n) s).1).1 = 0 → LWK h' q (qX (tO T n) (tV T n 32) (tW T n 32 W) (tP T n) s).2) → frE q h h' → Q none h') :
    Rn xs xl e mm_Reader_letLine 0 [some (.inr (.inr 2)), some (.inr (.inr q))] [] h Q := by
  have hF := hs.1.1
  have lt := tO_lt (T := T) hs.1.2.1.2.2.2 hs.1.2.1.2.2.1 ho
  have z1 : (tkA s).1 = 0 := by rw [tkA_0 hz]
  have e1 : (tkA s).2 = s.2 + 1 := by rw [tkA_0 hz]
  refine B_Reader_letLine_0 hq hF ⟨fun _ => ⟨2, by omega, F_stp (by omega) hs (fun _ => ho) (fun h1 s1 f1 => ?_)⟩, fun c => by omega⟩
  have L1 : rd h1 q 6 = 0 := by rw [f1 _ _ (by unfold muR; omega), hL]
  have x1 : CEK T n W q 0 h1 (tkA s, []) := ⟨s1, by omega, fun _ => ⟨⟨L1, fun i hi => absurd hi (Nat.not_lt_zero i)⟩, by show (0 : Int) + 0 ≤ ((tkA s).2 : Int); omega, by show (tkA s).2 ≤ 1000; omega⟩⟩
  refine B_Reader_letLine_17 hq s1.1.1 ⟨39, by omega, F_expr hq (by omega) (F_part hq 5 (by omega)) 4 (by omega) xs xl 39 0 h1 (tkA s, []) _ 0 0 (by decide) (by decide) (by decide) (by decide) x1 z1 (fun h2 x2 f2 => ?_)⟩
  have s2 : CSK T n W h2 (qX (tO T n) (tV T n 32) (tW T n 32 W) (tP T n) s).1 := x2.1
  have l2 : (qX (tO T n) (tV T n 32) (tW T n 32 W) (tP T n) s).1.1 = 0 → LWK h2 q (qX (tO T n) (tV T n 32) (tW T n 32 W) (tP T n) s).2 := fun z => (x2.2.2 z).1
  refine B_Reader_letLine_24 hq s2.1.1 ⟨3, by omega, F_takeSign (by omega) s2 (fun h3 s3 f3 => B_Reader_letLine_30 hq s3.1.1 (k h3 s3 (fun z => ?_) ((f1.E.trans f2).trans f3.E)))⟩
  obtain ⟨l3, l4⟩ := l2 (tkS_z z)
  exact ⟨(f3 _ _ (by unfold muR; omega)).trans l3, fun i hi => (f3 _ _ (by unfold muR; omega)).trans (l4 i hi)⟩
end DC
end
section
/-! p3, part d4: the class reads a quarter as the text says -/
section DD
variable {xs : Nat → Int} {xl e : Nat} {h : LH} {Q : Option LV → LH → Prop} {q R : Int} {T : Int → Int} {n : Int} {W : Int → Int} {s : Int × Nat} {N ND NP : List Nat}
theorem F_begin (he : 3 ≤ e) (hx : CX T n W h) (k : ∀ h', CSK T n W h' (0, 0) → frK h h' → Q none h') : Rn xs xl e mm_Reader_begin 0 [some (.inr (.inr 2))] [] h Q := by
  have f0 : frK h (wr (wr h 2 8 0) 2 5 0) := by
    intro a i hn
    unfold muR at hn
    rw [rd_wr, if_neg (fun z => hn (by omega)), rd_wr, if_neg (fun z => hn (by omega))]
  refine B_Reader_begin_0 hx.1 ⟨2, by omega, F_step (by omega) (CX_fr hx f0) ((rdw_nei (by decide)).trans rdw_eq) (k := 0) (rdw_eq) (fun h1 c1 f1 => ?_)⟩
  have fr : frK (wr (wr h 2 8 0) 2 5 0) h1 := fun a i hn => f1 a i (fun z => hn (muS_R z))
  have x1 := CX_fr (CX_fr hx f0) fr
  refine B_Reader_begin_14 x1.1 (k h1 ⟨x1, ?_, ?_, fun _ => c1⟩ (f0.trans fr))
  · show rd h1 2 8 = 0
    rw [f1 _ _ (by unfold muS; omega), rdw_nei (by decide), rdw_eq]
  · rw [c1.2.2.2.2]; exact tW_in _
/-- what the class holds of the text so far -/
def DCK (T : Int → Int) (n : Int) (g : LH) (q R : Int) (y : QY) : Prop := NCK T n g q y.2.2.1 y.2.2.2.1 ∧ rd g q 0 = R ∧ (2 ≤ R ∧ R ≤ 10) ∧ (∀ f : Nat → Bool, y.2.1.any f = (y.2.2.1.any f || y.2.2.2.1.any f)) ∧ LWK g q y.2.2.2.2
theorem any_d (x : Nat) (hA : ∀ f : Nat → Bool, N.any f = (ND.any f || NP.any f)) : ∀ f : Nat → Bool, (N ++ [x]).any f = ((ND ++ [x]).any f || NP.any f) := by
  intro f
  rw [List.any_append, List.any_append, hA f]
  simp only [List.any_cons, List.any_nil, Bool.or_false]
  cases ND.any f <;> cases NP.any f <;> cases f x <;> rfl
theorem any_p (x : Nat) (hA : ∀ f : Nat → Bool, N.any f = (ND.any f || NP.any f)) : ∀ f : Nat → Bool, (N ++ [x]).any f = (ND.any f || (NP ++ [x]).any f) := by
  intro f
  rw [List.any_append, List.any_append, hA f]
  simp only [List.any_cons, List.any_nil, Bool.or_false]
  cases ND.any f <;> cases NP.any f <;> cases f x <;> rfl
theorem getD_l {L : List Nat} {x i : Nat} (hi : i < L.length) : (L ++ [x]).getD i 0 = L.getD i 0 := by
  rw [List.getD_eq_getElem?_getD, List.getD_eq_getElem?_getD, List.getElem?_append_left hi]
theorem getD_e {L : List Nat} {x : Nat} : (L ++ [x]).getD L.length 0 = x := by
  rw [List.getD_eq_getElem?_getD, List.getElem?_append_right (Nat.le_refl _), Nat.sub_self]
  rfl
theorem F_readQuarter (he : 41 ≤ e) (hq : q = 5 ∨ q = 32) (hP : PT h) (hx : CX T n W h) (k : ∀ h', Q (some (.inl (qF (tO T n) (tV T n 32) (tW T n 32 W) (tP T n)).1.1)) h') :
    Rn xs xl e mm_Reader_readQuarter 0 [some (.inr (.inr 2)), some (.inr (.inr q)), none] [] h Q := by
  generalize eF : qF (tO T n) (tV T n 32) (tW T n 32 W) (tP T n) = Y at k
  have nq : ∀ i, ¬ muR q i := fun i => by unfold muR; omega
  have loop : ∀ (R : Int) (c : Nat) (g : LH) (y : QY), c ≤ 1000 → qL (tO T n) (tV T n 32) (tW T n 32 W) (tP T n) R c y = Y → CSK T n W g y.1 → PT g → (y.1.1 = 0 → DCK T n g q R y) → Rn xs xl e mm_Reader_readQuarter 32 [some (.inr (.inr 2)), some (.inr (.inr q)), some (.inl (1000 - (c : Int)))] [] g Q := by
    intro R c
    induction c with
    | zero =>
      intro g y _ eY hs gP hd
      have e8 := hs.2.1
      have eY' : y = Y := eY
      refine B_Reader_readQuarter_32 hq hs.1.1 (by omega) ⟨fun _ => B_Reader_readQuarter_127 hq hs.1.1 ?_, fun z => by omega⟩
      have := k (wr g 2 0 0)
      rw [← eY', ← e8] at this
      exact this
    | succ c ih =>
      intro g y hc eY hs gP hd
      have gF := hs.1.1
      have e8 := hs.2.1
      have ep : ∀ c : Int, 1 ≤ c → (tkE (tP T n) c y.1).1 ≠ 0 := fun c hc => tkE_ne hs.1.2.1 hc
      have stop : ¬ (y.1.1 = 0 ∧ tO T n y.1.2 ≠ 0) → Rn xs xl e mm_Reader_readQuarter 127 [some (.inr (.inr 2)), some (.inr (.inr q)), some (.inl (1000 - ((c + 1 : Nat) : Int)))] [] g Q := by
        intro ns
        have eY' : y = Y := by rw [qL_stop ns] at eY; exact eY
        refine B_Reader_readQuarter_127 hq gF ?_
        have := k (wr g 2 0 0)
        rw [← eY', ← e8] at this
        exact this
      refine B_Reader_readQuarter_32 hq gF (by omega) ⟨fun z => by omega, fun _ => ⟨fun z => stop (fun z2 => z (e8.trans z2.1)), fun z => ?_⟩⟩
      have z0 : y.1.1 = 0 := e8.symm.trans z
      have ek := CS_k hs z0
      have ew := CS_w hs z0
      refine ⟨fun z2 => stop (fun z3 => z3.2 (ck_0.mp (ek.symm.trans z2))), fun z2 => ?_⟩
      have no : tO T n y.1.2 ≠ 0 := fun z3 => z2 (ek.trans (ck_0.mpr z3))
      obtain ⟨d1, d2, d3, d4, d5⟩ := hd z0
      rw [qL_go ⟨z0, no⟩] at eY
      have next : ∀ g1 : LH, CSK T n W g1 (qS (tO T n) (tV T n 32) (tW T n 32 W) (tP T n) R y).1 → PT g1 → ((qS (tO T n) (tV T n 32) (tW T n 32 W) (tP T n) R y).1.1 = 0 → DCK T n g1 q R (qS (tO T n) (tV T n 32) (tW T n 32 W) (tP T n) R y)) → Rn xs xl e mm_Reader_readQuarter 121 [some (.inr (.inr 2)), some (.inr (.inr q)), some (.inl (1000 - ((c + 1 : Nat) : Int)))] [] g1 Q := by
        generalize qS (tO T n) (tV T n 32) (tW T n 32 W) (tP T n) R y = y' at eY
        intro g1 c1 p1 dd
        have := ih g1 y' (by omega) eY c1 p1 dd
        rw [show 1000 - (c : Int) = 1000 - ((c + 1 : Nat) : Int) + 1 by omega] at this
        exact B_Reader_readQuarter_121 hq c1.1.1 (by omega) this
      have bad : ∀ (g1 : LH) (c0 : Int), 1 ≤ c0 → (qS (tO T n) (tV T n 32) (tW T n 32 W) (tP T n) R y) = (tkE (tP T n) c0 y.1, y.2) → CSK T n W g1 (tkE (tP T n) c0 y.1) → frK g g1 → Rn xs xl e mm_Reader_readQuarter 121 [some (.inr (.inr 2)), some (.inr (.inr q)), some (.inl (1000 - ((c + 1 : Nat) : Int)))] [] g1 Q := by
        intro g1 c0 h0 eS c1 f1
        refine next g1 (by rw [eS]; exact c1) (PT_fr gP (fun a i ha => f1 _ _ (by unfold muR; omega))) (fun z3 => ?_)
        rw [eS] at z3
        exact absurd z3 (ep c0 h0)
      refine ⟨fun w1 => ?_, fun w7 => ?_, fun w11 => ?_, fun wd => ?_⟩
      · have w1' : tW T n 32 W y.1.2 = 1 := ew.symm.trans w1
        by_cases c14 : 14 ≤ y.2.2.1.length
        · have eS : (qS (tO T n) (tV T n 32) (tW T n 32 W) (tP T n) R y) = (tkE (tP T n) 5 y.1, y.2) := by unfold qS; rw [if_pos w1', if_pos c14]
          have dl := d1.1
          exact ⟨1, by omega, B_Reader_doorLine_0 hq gF gP ⟨fun z3 => by omega, fun _ => ⟨0, by omega, F_fl hs (by omega) (fun g1 c1 f1 => B_Reader_doorLine_14 hq c1.1.1 (B_Reader_readQuarter_97 hq c1.1.1 (bad g1 5 (by decide) eS c1 f1)))⟩⟩⟩
        · have eS : (qS (tO T n) (tV T n 32) (tW T n 32 W) (tP T n) R y) = (tkS (tO T n) (tV T n 32) (tP T n) 59 (drL (tO T n) (tV T n 32) (tW T n 32 W) (tP T n) R y.2.1 y.1), y.2.1 ++ [y.1.2 + 1], y.2.2.1 ++ [y.1.2 + 1], y.2.2.2.1, y.2.2.2.2) := by unfold qS; rw [if_pos w1', if_neg c14]
          refine ⟨5, by omega, F_doorLine (by omega) hq gP hs z0 no d1 (by omega) d4 d2 d3 (fun g1 c1 a1 n1 f1 => B_Reader_readQuarter_97 hq c1.1.1 (next g1 (by rw [eS]; exact c1) (PT_fr gP (fun a i ha => f1 _ _ (by unfold muR; omega) (by omega) (by omega))) (fun z3 => ?_)))⟩
          rw [eS] at z3 ⊢
          have a0 := (a1 z3).1
          obtain ⟨b1, b2, ⟨b3, b3'⟩, b4, b5⟩ := d1
          refine ⟨⟨?_, ?_, ⟨?_, b3'⟩, fun i hi => ?_, fun i hi => ?_⟩, ?_, d3, any_d _ d4, ?_, fun i hi => ?_⟩
          · show rd g1 q 2 = (((y.2.2.1 ++ [y.1.2 + 1]).length : Nat) : Int)
            rw [n1, List.length_append, List.length_singleton]; omega
          · exact (f1 _ _ (nq _) (by omega) (by omega)).trans b2
          · show (y.2.2.1 ++ [y.1.2 + 1]).length ≤ 14
            rw [List.length_append, List.length_singleton]; omega
          · have hi' : i < (y.2.2.1 ++ [y.1.2 + 1]).length := hi
            rw [List.length_append, List.length_singleton] at hi'
            show rd g1 (q + 7 + i) 0 = tV T n 32 ((y.2.2.1 ++ [y.1.2 + 1]).getD i 0)
            rcases Nat.lt_or_ge i y.2.2.1.length with u | u
            · rw [getD_l u, f1 _ _ (by unfold muR; omega) (by omega) (by omega)]
              exact b4 i u
            · have u' : i = y.2.2.1.length := by omega
              rw [u', getD_e]
              exact a0
          · have hi' : i < y.2.2.2.1.length := hi
            exact (f1 _ _ (by unfold muR; omega) (by omega) (by omega)).trans (b5 i hi)
          · exact (f1 _ _ (nq _) (by omega) (by omega)).trans d2
          · exact (f1 _ _ (nq _) (by omega) (by omega)).trans d5.1
          · exact (f1 _ _ (by unfold muR; omega) (by omega) (by omega)).trans (d5.2 i hi)
      · have w7' : tW T n 32 W y.1.2 = 7 := ew.symm.trans w7
        have n1' : ¬ tW T n 32 W y.1.2 = 1 := by omega
        by_cases c6 : 6 ≤ y.2.2.2.1.length
        · have eS : (qS (tO T n) (tV T n 32) (tW T n 32 W) (tP T n) R y) = (tkE (tP T n) 5 y.1, y.2) := by unfold qS; rw [if_neg n1', if_pos w7', if_pos c6]
          have dl := d1.2.1
          exact ⟨1, by omega, B_Reader_personLine_0 hq gF gP ⟨fun z3 => by omega, fun _ => ⟨0, by omega, F_fl hs (by omega) (fun g1 c1 f1 => B_Reader_personLine_14 hq c1.1.1 (B_Reader_readQuarter_105 hq c1.1.1 (bad g1 5 (by decide) eS c1 f1)))⟩⟩⟩
        · have eS : (qS (tO T n) (tV T n 32) (tW T n 32 W) (tP T n) R y) = (tkS (tO T n) (tV T n 32) (tP T n) 59 (psL (tO T n) (tV T n 32) (tW T n 32 W) (tP T n) R y.2.1 y.1), y.2.1 ++ [y.1.2 + 1], y.2.2.1, y.2.2.2.1 ++ [y.1.2 + 1], y.2.2.2.2) := by unfold qS; rw [if_neg n1', if_pos w7', if_neg c6]
          refine ⟨5, by omega, F_personLine (by omega) hq gP hs z0 no d1 (by omega) d4 d2 d3 (fun g1 c1 a1 n1 f1 => B_Reader_readQuarter_105 hq c1.1.1 (next g1 (by rw [eS]; exact c1) (PT_fr gP (fun a i ha => f1 _ _ (by unfold muR; omega) (by omega) (by omega))) (fun z3 => ?_)))⟩
          rw [eS] at z3 ⊢
          have a0 := (a1 z3).1
          obtain ⟨b1, b2, ⟨b3, b3'⟩, b4, b5⟩ := d1
          refine ⟨⟨?_, ?_, ⟨b3, ?_⟩, fun i hi => ?_, fun i hi => ?_⟩, ?_, d3, any_p _ d4, ?_, fun i hi => ?_⟩
          · exact (f1 _ _ (nq _) (by omega) (by omega)).trans b1
          · show rd g1 q 4 = (((y.2.2.2.1 ++ [y.1.2 + 1]).length : Nat) : Int)
            rw [n1, List.length_append, List.length_singleton]; omega
          · show (y.2.2.2.1 ++ [y.1.2 + 1]).length ≤ 6
            rw [List.length_append, List.length_singleton]; omega
          · have hi' : i < y.2.2.1.length := hi
            exact (f1 _ _ (by unfold muR; omega) (by omega) (by omega)).trans (b4 i hi)
          · have hi' : i < (y.2.2.2.1 ++ [y.1.2 + 1]).length := hi
            rw [List.length_append, List.length_singleton] at hi'
            show rd g1 (q + 21 + i) 0 = tV T n 32 ((y.2.2.2.1 ++ [y.1.2 + 1]).getD i 0)
            rcases Nat.lt_or_ge i y.2.2.2.1.length with u | u
            · rw [getD_l u, f1 _ _ (by unfold muR; omega) (by omega) (by omega)]
              exact b5 i u
            · have u' : i = y.2.2.2.1.length := by omega
              rw [u', getD_e]
              exact a0
          · exact (f1 _ _ (nq _) (by omega) (by omega)).trans d2
          · exact (f1 _ _ (nq _) (by omega) (by omega)).trans d5.1
          · exact (f1 _ _ (by unfold muR; omega) (by omega) (by omega)).trans (d5.2 i hi)
      · have w11' : tW T n 32 W y.1.2 = 11 := ew.symm.trans w11
        have n1' : ¬ tW T n 32 W y.1.2 = 1 := by omega
        have n7' : ¬ tW T n 32 W y.1.2 = 7 := by omega
        have dl := d5.1
        by_cases cl : 0 < y.2.2.2.2.length
        · have eS : (qS (tO T n) (tV T n 32) (tW T n 32 W) (tP T n) R y) = (tkE (tP T n) 3 y.1, y.2) := by unfold qS; rw [if_neg n1', if_neg n7', if_pos w11', if_pos cl]
          exact ⟨1, by omega, B_Reader_letLine_0 hq gF ⟨fun z3 => by omega, fun _ => ⟨0, by omega, F_fl hs (by omega) (fun g1 c1 f1 => B_Reader_letLine_12 hq c1.1.1 (B_Reader_readQuarter_113 hq c1.1.1 (bad g1 3 (by decide) eS c1 f1)))⟩⟩⟩
        · have eS : (qS (tO T n) (tV T n 32) (tW T n 32 W) (tP T n) R y) = (tkS (tO T n) (tV T n 32) (tP T n) 59 (qX (tO T n) (tV T n 32) (tW T n 32 W) (tP T n) y.1).1, y.2.1, y.2.2.1, y.2.2.2.1, (qX (tO T n) (tV T n 32) (tW T n 32 W) (tP T n) y.1).2) := by unfold qS; rw [if_neg n1', if_neg n7', if_pos w11', if_neg cl]
          refine ⟨40, by omega, F_letLine (by omega) hq hs z0 no (by omega) (fun g1 c1 a1 f1 => B_Reader_readQuarter_113 hq c1.1.1 (next g1 (by rw [eS]; exact c1) (PT_fr gP (fun a i ha => f1 _ _ (by unfold muE muR; omega))) (fun z3 => ?_)))⟩
          rw [eS] at z3 ⊢
          refine ⟨NCK_fr d1 (fun a i ha => f1 _ _ ?_), (f1 _ _ (by unfold muE muR; omega)).trans d2, d3, d4, a1 z3⟩
          have l14 := d1.2.2.1
          unfold muE muR
          omega
      · have n1' : ¬ tW T n 32 W y.1.2 = 1 := fun z3 => wd.1 (ew.trans z3)
        have n7' : ¬ tW T n 32 W y.1.2 = 7 := fun z3 => wd.2.1 (ew.trans z3)
        have n11' : ¬ tW T n 32 W y.1.2 = 11 := fun z3 => wd.2.2 (ew.trans z3)
        have eS : (qS (tO T n) (tV T n 32) (tW T n 32 W) (tP T n) R y) = (tkE (tP T n) 1 y.1, y.2) := by unfold qS; rw [if_neg n1', if_neg n7', if_neg n11']
        exact ⟨0, by omega, F_fl hs (by omega) (fun g1 c1 f1 => bad g1 1 (by decide) eS c1 f1)⟩
  refine B_Reader_readQuarter_0 hq hx.1 ⟨3, by omega, F_begin (by omega) hx (fun h1 s1 f1 => ?_)⟩
  have q4 : 4 < q := by omega
  have s2 : CSK T n W (wr (wr (wr (wr h1 q 0 2) q 2 0) q 4 0) q 6 0) (0, 0) := CSK_wn (CSK_wn (CSK_wn (CSK_wn s1 (hav_qf hq (by decide)) q4) (hav_qf hq (by decide)) q4) (hav_qf hq (by decide)) q4) (hav_qf hq (by decide)) q4
  refine B_Reader_readQuarter_4 hq s1.1.1 (by omega) ⟨3, by omega, F_takeWord (by omega) s2 (by decide) (fun h3 s3 f3 => ?_)⟩
  refine B_Reader_readQuarter_13 hq s3.1.1 ⟨3, by omega, F_takeNumber (by omega) s3 ⟨by unfold i32; omega, by unfold i32; omega⟩ (fun h4 r s4 f4 r0 r1 q4' => ?_)⟩
  refine B_Reader_readQuarter_21 hq s4.1.1 ⟨3, by omega, F_takeSign (by omega) (CSK_wn s4 (hav_qf hq (by decide)) q4) (fun h5 s5 f5 => B_Reader_readQuarter_30 hq s5.1.1 ?_)⟩
  have P5 : PT h5 := by
    refine PT_fr hP (fun a i ha => ?_)
    rw [f5 _ _ (by unfold muR; omega), rdw_ne (by omega), f4 _ _ (by unfold muR; omega), f3 _ _ (by unfold muR; omega), rdw_ne (by omega), rdw_ne (by omega), rdw_ne (by omega), rdw_ne (by omega), f1 _ _ (by unfold muR; omega)]
  have v : ∀ i, i ≠ 0 → rd h5 q i = rd (wr (wr (wr (wr h1 q 0 2) q 2 0) q 4 0) q 6 0) q i := by
    intro i hi
    rw [f5 _ _ (nq _), rdw_nei (Ne.symm hi), f4 _ _ (nq _), f3 _ _ (nq _)]
  refine loop (qR (tV T n 32) (tW T n 32 W) (tP T n)) 1000 h5 (qB (tO T n) (tV T n 32) (tW T n 32 W) (tP T n)) (Nat.le_refl _) eF s5 P5 (fun z => ?_)
  have er : r = qR (tV T n 32) (tW T n 32 W) (tP T n) := (q4' (tkS_z z)).1
  refine ⟨⟨?_, ?_, ⟨Nat.zero_le 14, Nat.zero_le 6⟩, fun i hi => absurd hi (Nat.not_lt_zero i), fun i hi => absurd hi (Nat.not_lt_zero i)⟩, ?_, ?_, fun f => rfl, ?_, fun i hi => absurd hi (Nat.not_lt_zero i)⟩
  · rw [v 2 (by decide), rdw_nei (by decide), rdw_nei (by decide), rdw_eq]; rfl
  · rw [v 4 (by decide), rdw_nei (by decide), rdw_eq]; rfl
  · rw [f5 _ _ (nq _), rdw_eq]; exact er
  · have := (q4' (tkS_z z)).2
    rw [← er]; omega
  · rw [v 6 (by decide), rdw_eq]; rfl
end DD
end
section
/-! LM, by program (wip/p2/hand.py): p3: rows of the class's quarter -/
def mm_Quarter_settle : LM_M := (⟨"OneSided$Quarter", "settle", "()V"⟩, prog_8_method_6_code, 3, none, 6, 1, 0, 700, 698, 699)
def mm_Memory_begin : LM_M := (⟨"OneSided$Memory", "begin", "(LOneSided$Quarter;)V"⟩, prog_5_method_2_code, 2, none, 3, 2, 0, 726, 724, 725)
theorem dd_OneSided_quarter_0 : decode mm_OneSided_quarter.2.1 0 = .ok (.aload_n 0, 1) := by decide +kernel
theorem dd_OneSided_quarter_1 : decode mm_OneSided_quarter.2.1 1 = .ok (.getfield 10, 3) := by decide +kernel
theorem dd_OneSided_quarter_4 : decode mm_OneSided_quarter.2.1 4 = .ok (.aload_n 0, 1) := by decide +kernel
theorem dd_OneSided_quarter_5 : decode mm_OneSided_quarter.2.1 5 = .ok (.getfield 23, 3) := by decide +kernel
theorem fd_11_23 : fld 11 23 = some (11, 2) := by decide +kernel
theorem dd_OneSided_quarter_8 : decode mm_OneSided_quarter.2.1 8 = .ok (.invokevirtual 90, 3) := by decide +kernel
theorem cw_11_90 : cwOk 11 90 0 16 2 3 7 = true := by decide +kernel
theorem mt_Reader_readQuarter : MTB 16 = some mm_Reader_readQuarter := rfl
theorem dd_OneSided_quarter_11 : decode mm_OneSided_quarter.2.1 11 = .ok (.istore_n 1, 1) := by decide +kernel
theorem dd_OneSided_quarter_12 : decode mm_OneSided_quarter.2.1 12 = .ok (.iload_n 1, 1) := by decide +kernel
theorem dd_OneSided_quarter_13 : decode mm_OneSided_quarter.2.1 13 = .ok (.ifCond .eq (5), 3) := by decide +kernel
theorem dd_OneSided_quarter_16 : decode mm_OneSided_quarter.2.1 16 = .ok (.iload_n 1, 1) := by decide +kernel
theorem dd_OneSided_quarter_17 : decode mm_OneSided_quarter.2.1 17 = .ok (.ireturn, 1) := by decide +kernel
theorem dd_OneSided_quarter_18 : decode mm_OneSided_quarter.2.1 18 = .ok (.aload_n 0, 1) := by decide +kernel
theorem dd_OneSided_quarter_19 : decode mm_OneSided_quarter.2.1 19 = .ok (.getfield 23, 3) := by decide +kernel
theorem dd_OneSided_quarter_22 : decode mm_OneSided_quarter.2.1 22 = .ok (.astore_n 2, 1) := by decide +kernel
theorem dd_OneSided_quarter_23 : decode mm_OneSided_quarter.2.1 23 = .ok (.aload_n 0, 1) := by decide +kernel
theorem dd_OneSided_quarter_24 : decode mm_OneSided_quarter.2.1 24 = .ok (.aload_n 0, 1) := by decide +kernel
theorem dd_OneSided_quarter_25 : decode mm_OneSided_quarter.2.1 25 = .ok (.getfield 19, 3) := by decide +kernel
theorem dd_OneSided_quarter_28 : decode mm_OneSided_quarter.2.1 28 = .ok (.putfield 23, 3) := by decide +kernel
theorem fn_11_2 : fin 11 2 = false := by decide +kernel
theorem dd_OneSided_quarter_31 : decode mm_OneSided_quarter.2.1 31 = .ok (.aload_n 0, 1) := by decide +kernel
theorem dd_OneSided_quarter_32 : decode mm_OneSided_quarter.2.1 32 = .ok (.aload_n 2, 1) := by decide +kernel
theorem dd_OneSided_quarter_33 : decode mm_OneSided_quarter.2.1 33 = .ok (.putfield 19, 3) := by decide +kernel
theorem fn_11_1 : fin 11 1 = false := by decide +kernel
theorem dd_OneSided_quarter_36 : decode mm_OneSided_quarter.2.1 36 = .ok (.aload_n 0, 1) := by decide +kernel
theorem dd_OneSided_quarter_37 : decode mm_OneSided_quarter.2.1 37 = .ok (.getfield 19, 3) := by decide +kernel
theorem dd_OneSided_quarter_40 : decode mm_OneSided_quarter.2.1 40 = .ok (.invokevirtual 94, 3) := by decide +kernel
theorem cw_11_94 : cwOk 11 94 0 44 1 3 6 = true := by decide +kernel
theorem mt_Quarter_settle : MTB 44 = some mm_Quarter_settle := rfl
theorem dd_OneSided_quarter_43 : decode mm_OneSided_quarter.2.1 43 = .ok (.aload_n 0, 1) := by decide +kernel
theorem dd_OneSided_quarter_44 : decode mm_OneSided_quarter.2.1 44 = .ok (.getfield 29, 3) := by decide +kernel
theorem dd_OneSided_quarter_47 : decode mm_OneSided_quarter.2.1 47 = .ok (.aload_n 0, 1) := by decide +kernel
theorem dd_OneSided_quarter_48 : decode mm_OneSided_quarter.2.1 48 = .ok (.getfield 19, 3) := by decide +kernel
theorem dd_OneSided_quarter_51 : decode mm_OneSided_quarter.2.1 51 = .ok (.invokevirtual 97, 3) := by decide +kernel
theorem cw_11_97 : cwOk 11 97 0 51 2 2 3 = true := by decide +kernel
theorem mt_Memory_begin : MTB 51 = some mm_Memory_begin := rfl
theorem dd_OneSided_quarter_54 : decode mm_OneSided_quarter.2.1 54 = .ok (.aload_n 0, 1) := by decide +kernel
theorem dd_OneSided_quarter_55 : decode mm_OneSided_quarter.2.1 55 = .ok (.iconst 0, 1) := by decide +kernel
theorem dd_OneSided_quarter_56 : decode mm_OneSided_quarter.2.1 56 = .ok (.putfield 101, 3) := by decide +kernel
theorem fd_11_101 : fld 11 101 = some (11, 6) := by decide +kernel
theorem fn_11_6 : fin 11 6 = false := by decide +kernel
theorem dd_OneSided_quarter_59 : decode mm_OneSided_quarter.2.1 59 = .ok (.aload_n 0, 1) := by decide +kernel
theorem dd_OneSided_quarter_60 : decode mm_OneSided_quarter.2.1 60 = .ok (.iconst 0, 1) := by decide +kernel
theorem dd_OneSided_quarter_61 : decode mm_OneSided_quarter.2.1 61 = .ok (.putfield 104, 3) := by decide +kernel
theorem fd_11_104 : fld 11 104 = some (11, 9) := by decide +kernel
theorem fn_11_9 : fin 11 9 = false := by decide +kernel
theorem dd_OneSided_quarter_64 : decode mm_OneSided_quarter.2.1 64 = .ok (.iconst 0, 1) := by decide +kernel
theorem dd_OneSided_quarter_65 : decode mm_OneSided_quarter.2.1 65 = .ok (.ireturn, 1) := by decide +kernel
theorem B_OneSided_quarter_0 {xs : Nat → Int} {xl e : Nat} {h : LH} {Q : Option LV → LH → Prop} {q t : Int} (hq : q = 5 ∨ q = 32) (ht : t = 5 ∨ t = 32) (hS : rd h 1 ((2 : Nat) : Int) = q) (hQ : rd h 1 ((1 : Nat) : Int) = t) (hF : RF h)
    (k : (∃ c, c < e ∧ Rn xs xl c mm_Reader_readQuarter 0 [some (.inr (.inr 2)), some (.inr (.inr q)), none] [] h (fun r h' => Rn xs xl e mm_OneSided_quarter 11 [some (.inr (.inr 1)), none, none] (r.toList ++ []) h' Q))) :
    Rn xs xl e mm_OneSided_quarter 0 [some (.inr (.inr 1)), none, none] [] h Q := by
  refine R_ld (v := .inr (.inr 1)) dd_OneSided_quarter_0 rfl rfl rfl rfl ?_
  refine R_gf (v := .inr (.inr 2)) dd_OneSided_quarter_1 fd_11_10 io_1 (congrArg (fun z : Int => (Sum.inr (Sum.inr z) : LV)) (rf_1_0 hF)) rfl ?_
  refine R_ld (v := .inr (.inr 1)) dd_OneSided_quarter_4 rfl rfl rfl rfl ?_
  refine R_gf (v := .inr (.inr q)) dd_OneSided_quarter_5 fd_11_23 io_1 (congrArg (fun z : Int => (Sum.inr (Sum.inr z) : LV)) (hS)) rfl ?_
  obtain ⟨c, hc, k⟩ := k
  exact R_call (as := [.inr (.inr 2), .inr (.inr q)]) (rest := []) (M' := mm_Reader_readQuarter) (ls0 := [some (.inr (.inr 2)), some (.inr (.inr q)), none]) dd_OneSided_quarter_8 rfl rfl (cw_v cw_11_90 io_2 rfl rfl (Nat.le_of_ble_eq_true rfl) (Nat.le_of_ble_eq_true rfl)) mt_Reader_readQuarter rfl hc rfl k
theorem B_OneSided_quarter_11 {xs : Nat → Int} {xl e : Nat} {h : LH} {Q : Option LV → LH → Prop} {w0 : Int} {q t : Int} (hq : q = 5 ∨ q = 32) (ht : t = 5 ∨ t = 32) (hS : rd h 1 ((2 : Nat) : Int) = q) (hQ : rd h 1 ((1 : Nat) : Int) = t) (hF : RF h)
    (k : (w0 = 0 →
        Rn xs xl e mm_OneSided_quarter 18 [some (.inr (.inr 1)), some (.inl w0), none] [] h Q) ∧
      (w0 ≠ 0 →
        Q (some (.inl w0)) h)) :
    Rn xs xl e mm_OneSided_quarter 11 [some (.inr (.inr 1)), none, none] [.inl w0] h Q := by
  refine R_st (ls' := [some (.inr (.inr 1)), some (.inl w0), none]) dd_OneSided_quarter_11 rfl rfl rfl (Nat.le_of_ble_eq_true rfl) rfl rfl ?_
  refine R_ld (v := .inl w0) dd_OneSided_quarter_12 rfl rfl rfl rfl ?_
  refine R_if dd_OneSided_quarter_13 rfl rfl (fun (c1 : w0 = 0) => ?_) (fun (c1 : w0 ≠ 0) => ?_)
  · replace k := k.1 c1
    exact k
  · replace k := k.2 c1
    refine R_ld (v := .inl w0) dd_OneSided_quarter_16 rfl rfl rfl rfl ?_
    exact R_iret dd_OneSided_quarter_17 rfl k
theorem B_OneSided_quarter_18 {xs : Nat → Int} {xl e : Nat} {h : LH} {Q : Option LV → LH → Prop} {v1 : Int} {q t : Int} (hq : q = 5 ∨ q = 32) (ht : t = 5 ∨ t = 32) (hS : rd h 1 ((2 : Nat) : Int) = q) (hQ : rd h 1 ((1 : Nat) : Int) = t) (hF : RF h)
    (k : (∃ c, c < e ∧ Rn xs xl c mm_Quarter_settle 0 [some (.inr (.inr q)), none, none] [] (wr (wr h 1 2 t) 1 1 q) (fun r h' => Rn xs xl e mm_OneSided_quarter 43 [some (.inr (.inr 1)), some (.inl v1), some (.inr (.inr q))] (r.toList ++ []) h' Q))) :
    Rn xs xl e mm_OneSided_quarter 18 [some (.inr (.inr 1)), some (.inl v1), none] [] h Q := by
  refine R_ld (v := .inr (.inr 1)) dd_OneSided_quarter_18 rfl rfl rfl rfl ?_
  refine R_gf (v := .inr (.inr q)) dd_OneSided_quarter_19 fd_11_23 io_1 (congrArg (fun z : Int => (Sum.inr (Sum.inr z) : LV)) (hS)) rfl ?_
  refine R_st (ls' := [some (.inr (.inr 1)), some (.inl v1), some (.inr (.inr q))]) dd_OneSided_quarter_22 rfl rfl rfl (Nat.le_of_ble_eq_true rfl) rfl rfl ?_
  refine R_ld (v := .inr (.inr 1)) dd_OneSided_quarter_23 rfl rfl rfl rfl ?_
  refine R_ld (v := .inr (.inr 1)) dd_OneSided_quarter_24 rfl rfl rfl rfl ?_
  refine R_gf (v := .inr (.inr t)) dd_OneSided_quarter_25 fd_11_19 io_1 (congrArg (fun z : Int => (Sum.inr (Sum.inr z) : LV)) (hQ)) rfl ?_
  refine R_pf (z := t) dd_OneSided_quarter_28 fd_11_23 io_1 fn_11_2 (by rcases ht with rfl | rfl <;> rfl) rfl ?_
  refine R_ld (v := .inr (.inr 1)) dd_OneSided_quarter_31 rfl rfl rfl rfl ?_
  refine R_ld (v := .inr (.inr q)) dd_OneSided_quarter_32 rfl rfl rfl rfl ?_
  refine R_pf (z := q) dd_OneSided_quarter_33 fd_11_19 io_1 fn_11_1 (by rcases hq with rfl | rfl <;> rfl) rfl ?_
  refine R_ld (v := .inr (.inr 1)) dd_OneSided_quarter_36 rfl rfl rfl rfl ?_
  refine R_gf (v := .inr (.inr q)) dd_OneSided_quarter_37 fd_11_19 io_1 (congrArg (fun z : Int => (Sum.inr (Sum.inr z) : LV)) (rdw_eq)) rfl ?_
  obtain ⟨c, hc, k⟩ := k
  exact R_call (as := [.inr (.inr q)]) (rest := []) (M' := mm_Quarter_settle) (ls0 := [some (.inr (.inr q)), none, none]) dd_OneSided_quarter_40 rfl rfl (cw_v cw_11_94 (io_q hq) rfl rfl (Nat.le_of_ble_eq_true rfl) (Nat.le_of_ble_eq_true rfl)) mt_Quarter_settle rfl hc rfl k
theorem B_OneSided_quarter_43 {xs : Nat → Int} {xl e : Nat} {h : LH} {Q : Option LV → LH → Prop} {v1 : Int} {q t : Int} (hq : q = 5 ∨ q = 32) (ht : t = 5 ∨ t = 32) (hS : rd h 1 ((2 : Nat) : Int) = q) (hQ : rd h 1 ((1 : Nat) : Int) = t) {x : Int} (hF : RF h)
    (k : (∃ c, c < e ∧ Rn xs xl c mm_Memory_begin 0 [some (.inr (.inr 59)), some (.inr (.inr t))] [] h (fun r h' => Rn xs xl e mm_OneSided_quarter 54 [some (.inr (.inr 1)), some (.inl v1), some (.inr (.inr x))] (r.toList ++ []) h' Q))) :
    Rn xs xl e mm_OneSided_quarter 43 [some (.inr (.inr 1)), some (.inl v1), some (.inr (.inr x))] [] h Q := by
  refine R_ld (v := .inr (.inr 1)) dd_OneSided_quarter_43 rfl rfl rfl rfl ?_
  refine R_gf (v := .inr (.inr 59)) dd_OneSided_quarter_44 fd_11_29 io_1 (congrArg (fun z : Int => (Sum.inr (Sum.inr z) : LV)) (rf_1_3 hF)) rfl ?_
  refine R_ld (v := .inr (.inr 1)) dd_OneSided_quarter_47 rfl rfl rfl rfl ?_
  refine R_gf (v := .inr (.inr t)) dd_OneSided_quarter_48 fd_11_19 io_1 (congrArg (fun z : Int => (Sum.inr (Sum.inr z) : LV)) (hQ)) rfl ?_
  obtain ⟨c, hc, k⟩ := k
  exact R_call (as := [.inr (.inr 59), .inr (.inr t)]) (rest := []) (M' := mm_Memory_begin) (ls0 := [some (.inr (.inr 59)), some (.inr (.inr t))]) dd_OneSided_quarter_51 rfl rfl (cw_v cw_11_97 io_59 rfl rfl (Nat.le_of_ble_eq_true rfl) (Nat.le_of_ble_eq_true rfl)) mt_Memory_begin rfl hc rfl k
theorem B_OneSided_quarter_54 {xs : Nat → Int} {xl e : Nat} {h : LH} {Q : Option LV → LH → Prop} {v1 : Int} {q t : Int} (hq : q = 5 ∨ q = 32) (ht : t = 5 ∨ t = 32) (hS : rd h 1 ((2 : Nat) : Int) = q) (hQ : rd h 1 ((1 : Nat) : Int) = t) {x : Int} (hF : RF h)
    (k : Q (some (.inl 0)) (wr (wr h 1 6 0) 1 9 0)) :
    Rn xs xl e mm_OneSided_quarter 54 [some (.inr (.inr 1)), some (.inl v1), some (.inr (.inr x))] [] h Q := by
  refine R_ld (v := .inr (.inr 1)) dd_OneSided_quarter_54 rfl rfl rfl rfl ?_
  refine R_ic dd_OneSided_quarter_55 (by decide) rfl ?_
  refine R_pf (z := 0) dd_OneSided_quarter_56 fd_11_101 io_1 fn_11_6 rfl rfl ?_
  refine R_ld (v := .inr (.inr 1)) dd_OneSided_quarter_59 rfl rfl rfl rfl ?_
  refine R_ic dd_OneSided_quarter_60 (by decide) rfl ?_
  refine R_pf (z := 0) dd_OneSided_quarter_61 fd_11_104 io_1 fn_11_9 rfl rfl ?_
  refine R_ic dd_OneSided_quarter_64 (by decide) rfl ?_
  exact R_iret dd_OneSided_quarter_65 rfl k
end
section
/-! p3, part e1: feed: both lay the same signs, sign by sign -/
def sgX (c m : Int) (X : Int → Int) : Int → Int := if (c = 10 ∨ (32 ≤ c ∧ c ≤ 126)) ∧ m < 1000 then (fun i => if i = m then c else X i) else X
def fedX : Nat → Int → Int → (Int → Int) → Int → Int
  | 0, _, _, X => X
  | j + 1, v, m, X => fedX j v (sgn (zand (w32 (lushr_ v (8 * (j : Int)))) 255) m) (sgX (zand (w32 (lushr_ v (8 * (j : Int)))) 255) m X)
def fedX3 (a b c m : Int) (X : Int → Int) : Int → Int := fedX 8 c (fed 8 b (fed 8 a m)) (fedX 8 b (fed 8 a m) (fedX 8 a m X))
theorem i2b_id {c : Int} (h0 : 0 ≤ c) (h1 : c ≤ 127) : (Int32.ofInt c).toInt8.toInt32.toInt = c := by
  have key : ∀ m : Nat, m < 128 → (Int32.ofInt (m : Int)).toInt8.toInt32.toInt = (m : Int) := by decide +kernel
  have := key c.toNat (by omega)
  rw [show ((c.toNat : Nat) : Int) = c by omega] at this
  exact this
theorem sgX_up {h : LH} {z m : Int} (hp : (z = 10 ∨ (32 ≤ z ∧ z ≤ 126)) ∧ m < 1000) : sgX z m (rd h 3) = rd (wr (wr h 3 m z) 2 0 (m + 1)) 3 := by
  unfold sgX
  rw [if_pos hp]
  funext i
  rw [rdw_ne (by decide), rd_wr]
  by_cases e : i = m
  · rw [if_pos e, if_pos ⟨rfl, e.symm⟩]
  · rw [if_neg e, if_neg (fun q => e q.2.symm)]
theorem sgX_up' {h : LH} {z m : Int} (hp : (z = 10 ∨ (32 ≤ z ∧ z ≤ 126)) ∧ m < 1000) : sgX z m (rd h 183) = rd (wr (wr h 183 m z) 182 2 (m + 1)) 183 := by
  unfold sgX
  rw [if_pos hp]
  funext i
  rw [rdw_ne (by decide), rd_wr]
  by_cases e : i = m
  · rw [if_pos e, if_pos ⟨rfl, e.symm⟩]
  · rw [if_neg e, if_neg (fun q => e q.2.symm)]
/-- tapes that agree go on agreeing -/
theorem fedX_ag : ∀ (j : Nat) (v m : Int) (X Y : Int → Int), (∀ i, 0 ≤ i → i < m → X i = Y i) → ∀ i, 0 ≤ i → i < fed j v m → fedX j v m X i = fedX j v m Y i
  | 0, _, _, _, _, h => h
  | j + 1, v, m, X, Y, h => by
    refine fedX_ag j v _ _ _ ?_
    intro i i0 i1
    unfold sgn at i1
    unfold sgX
    split at i1
    · next c =>
      rw [if_pos c, if_pos c]
      show (if i = m then _ else X i) = (if i = m then _ else Y i)
      by_cases e : i = m
      · rw [if_pos e, if_pos e]
      · rw [if_neg e, if_neg e]
        exact h i i0 (by omega)
    · next c =>
      rw [if_neg c, if_neg c]
      exact h i i0 i1
theorem fedX3_ag {a b c m : Int} {X Y : Int → Int} (h : ∀ i, 0 ≤ i → i < m → X i = Y i) : ∀ i, 0 ≤ i → i < fed3 a b c m → fedX3 a b c m X i = fedX3 a b c m Y i :=
  fedX_ag 8 c _ _ _ (fedX_ag 8 b _ _ _ (fedX_ag 8 a _ _ _ h))
section FEX
variable {xs : Nat → Int} {xl e : Nat} {h : LH} {Q : Option LV → LH → Prop}
theorem L_putX {v : Int} : ∀ (j : Nat) (o4 o5 : Option LV) (h : LH), j ≤ 8 → INV h → (∀ g, INV g → rd g 2 0 = fed j v (rd h 2 0) → rd g 3 = fedX j v (rd h 2 0) (rd h 3) → (∀ a i, ¬ (a = 2 ∧ i = 0) → a ≠ 3 → rd g a i = rd h a i) → Q none g) → Rn xs xl e mm_Reader_putBytes 3 [some (.inr (.inr 2)), some (.inr (.inl v)), none, some (.inl (8 * (j : Int) - 8)), o4, o5] [] h Q := by
  intro j
  induction j with
  | zero =>
    intro o4 o5 h hj hI k
    exact B_Reader_putBytes_3 (RF_of hI.1) (by omega) ⟨fun _ => k h hI rfl rfl (fun _ _ _ _ => rfl), fun z => absurd z (by omega)⟩
  | succ j ih =>
    intro o4 o5 h hj hI k
    rw [show 8 * ((j + 1 : Nat) : Int) - 8 = 8 * (j : Int) by omega]
    have n0 := rG_2_0 hI.1
    have cin := zand_r (a := w32 (lushr_ v (8 * (j : Int)))) (b := 255) (by decide) (by unfold i32; omega)
    have fe : fed (j + 1) v (rd h 2 0) = fed j v (sgn (zand (w32 (lushr_ v (8 * (j : Int)))) 255) (rd h 2 0)) := rfl
    have fx : fedX (j + 1) v (rd h 2 0) (rd h 3) = fedX j v (sgn (zand (w32 (lushr_ v (8 * (j : Int)))) 255) (rd h 2 0)) (sgX (zand (w32 (lushr_ v (8 * (j : Int)))) 255) (rd h 2 0) (rd h 3)) := rfl
    rw [fe, fx] at k
    have st : ∀ o4 o5 : Option LV, ¬ ((zand (w32 (lushr_ v (8 * (j : Int)))) 255 = 10 ∨ (32 ≤ zand (w32 (lushr_ v (8 * (j : Int)))) 255 ∧ zand (w32 (lushr_ v (8 * (j : Int)))) 255 ≤ 126)) ∧ rd h 2 0 < 1000) → Rn xs xl e mm_Reader_putBytes 82 [some (.inr (.inr 2)), some (.inr (.inl v)), none, some (.inl (8 * (j : Int))), o4, o5] [] h Q := by
      intro o4 o5 hn
      rw [show sgn (zand (w32 (lushr_ v (8 * (j : Int)))) 255) (rd h 2 0) = rd h 2 0 by unfold sgn; rw [if_neg hn], show sgX (zand (w32 (lushr_ v (8 * (j : Int)))) 255) (rd h 2 0) (rd h 3) = rd h 3 by unfold sgX; rw [if_neg hn]] at k
      exact B_Reader_putBytes_82 (RF_of hI.1) (by omega) (ih _ _ h (by omega) hI k)
    have up : ∀ (o4 o5 : Option LV) (z : Int), (-128 ≤ z ∧ z ≤ 127) → z = zand (w32 (lushr_ v (8 * (j : Int)))) 255 → ((zand (w32 (lushr_ v (8 * (j : Int)))) 255 = 10 ∨ (32 ≤ zand (w32 (lushr_ v (8 * (j : Int)))) 255 ∧ zand (w32 (lushr_ v (8 * (j : Int)))) 255 ≤ 126)) ∧ rd h 2 0 < 1000) → Rn xs xl e mm_Reader_putBytes 82 [some (.inr (.inr 2)), some (.inr (.inl v)), none, some (.inl (8 * (j : Int))), o4, o5] [] (wr (wr h 3 (rd h 2 0) z) 2 0 ((rd h 2 0) + 1)) Q := by
      intro o4 o5 z hz ez hp
      rw [show sgn (zand (w32 (lushr_ v (8 * (j : Int)))) 255) (rd h 2 0) = rd h 2 0 + 1 by unfold sgn; rw [if_pos hp], ← ez, show sgX z (rd h 2 0) (rd h 3) = rd (wr (wr h 3 (rd h 2 0) z) 2 0 ((rd h 2 0) + 1)) 3 by rw [← ez] at hp; exact sgX_up hp] at k
      have i2 := wG_2_0 (wB_3 hI (i := rd h 2 0) (v := z) hz.1 hz.2) (v := rd h 2 0 + 1) (by omega) (by omega)
      refine B_Reader_putBytes_82 (RF_of i2.1) (by omega) (ih _ _ _ (by omega) i2 (fun g gI ge gx gf => k g gI (by rw [ge, rdw_eq]) (by rw [gx, rdw_eq]) (fun a i n1 n2 => ?_)))
      rw [gf a i n1 n2, rd_wr, if_neg (fun q => n1 ⟨q.1.symm, q.2.symm⟩), rdw_ne (fun q => n2 q.symm)]
    generalize hc : zand (w32 (lushr_ v (8 * (j : Int)))) 255 = c at *
    have bb := i2b_in c
    refine B_Reader_putBytes_3 (RF_of hI.1) (by omega) ⟨fun z => absurd z (by omega), fun _ => ?_⟩
    rw [hc]
    exact ⟨fun z => ⟨fun z1 => st _ _ (by omega), fun z1 => ⟨by omega, by omega, up _ _ _ bb (i2b_id (by omega) (by omega)) (by omega)⟩⟩, fun z => ⟨fun z1 => st _ _ (by omega), fun z1 => ⟨fun z2 => st _ _ (by omega), fun z2 => ⟨fun z3 => st _ _ (by omega), fun z3 => ⟨by omega, by omega, up _ _ _ bb (i2b_id (by omega) (by omega)) (by omega)⟩⟩⟩⟩⟩
theorem L_layX {v : Int} (hv : i64 v) : ∀ (j : Nat) (o4 : Option LV) (h : LH), j ≤ 8 → INV h → (∀ g, INV g → rd g 182 2 = fed j v (rd h 182 2) → rd g 183 = fedX j v (rd h 182 2) (rd h 183) → (∀ a i, ¬ (a = 182 ∧ i = 2) → a ≠ 183 → rd g a i = rd h a i) → Q none g) → Rn xs xl e mm_lay 3 [some (.inr (.inr 182)), some (.inr (.inl v)), none, some (.inl (8 * (j : Int) - 8)), o4] [] h Q := by
  intro j
  induction j with
  | zero =>
    intro o4 h hj hI k
    exact B_lay_3 (RF_of hI.1) (by omega) ⟨fun _ => k h hI rfl rfl (fun _ _ _ _ => rfl), fun z => absurd z (by omega)⟩
  | succ j ih =>
    intro o4 h hj hI k
    rw [show 8 * ((j + 1 : Nat) : Int) - 8 = 8 * (j : Int) by omega]
    have n0 := rF_taped hI.1
    have cin := zand_r (a := w32 (lushr_ v (8 * (j : Int)))) (b := 255) (by decide) (by unfold i32; omega)
    have fe : fed (j + 1) v (rd h 182 2) = fed j v (sgn (zand (w32 (lushr_ v (8 * (j : Int)))) 255) (rd h 182 2)) := rfl
    have fx : fedX (j + 1) v (rd h 182 2) (rd h 183) = fedX j v (sgn (zand (w32 (lushr_ v (8 * (j : Int)))) 255) (rd h 182 2)) (sgX (zand (w32 (lushr_ v (8 * (j : Int)))) 255) (rd h 182 2) (rd h 183)) := rfl
    rw [fe, fx, ← byt hv (by omega)] at k
    rw [← byt hv (by omega)] at cin
    have st : ∀ o4 : Option LV, ¬ ((zand (w32 (lshr_ v (8 * (j : Int)))) 255 = 10 ∨ (32 ≤ zand (w32 (lshr_ v (8 * (j : Int)))) 255 ∧ zand (w32 (lshr_ v (8 * (j : Int)))) 255 ≤ 126)) ∧ rd h 182 2 < 1000) → Rn xs xl e mm_lay 69 [some (.inr (.inr 182)), some (.inr (.inl v)), none, some (.inl (8 * (j : Int))), o4] [] h Q := by
      intro o4 hn
      rw [show sgn (zand (w32 (lshr_ v (8 * (j : Int)))) 255) (rd h 182 2) = rd h 182 2 by unfold sgn; rw [if_neg hn], show sgX (zand (w32 (lshr_ v (8 * (j : Int)))) 255) (rd h 182 2) (rd h 183) = rd h 183 by unfold sgX; rw [if_neg hn]] at k
      exact B_lay_69 (RF_of hI.1) (by omega) (ih _ h (by omega) hI k)
    have up : ∀ (o4 : Option LV) (z : Int), (0 ≤ z ∧ z ≤ 126) → z = zand (w32 (lshr_ v (8 * (j : Int)))) 255 → ((zand (w32 (lshr_ v (8 * (j : Int)))) 255 = 10 ∨ (32 ≤ zand (w32 (lshr_ v (8 * (j : Int)))) 255 ∧ zand (w32 (lshr_ v (8 * (j : Int)))) 255 ≤ 126)) ∧ rd h 182 2 < 1000) → Rn xs xl e mm_lay 69 [some (.inr (.inr 182)), some (.inr (.inl v)), none, some (.inl (8 * (j : Int))), o4] [] (wr (wr h 183 (rd h 182 2) z) 182 2 ((rd h 182 2) + 1)) Q := by
      intro o4 z hz ez hp
      rw [show sgn (zand (w32 (lshr_ v (8 * (j : Int)))) 255) (rd h 182 2) = rd h 182 2 + 1 by unfold sgn; rw [if_pos hp], ← ez, show sgX z (rd h 182 2) (rd h 183) = rd (wr (wr h 183 (rd h 182 2) z) 182 2 ((rd h 182 2) + 1)) 183 by rw [← ez] at hp; exact sgX_up' hp] at k
      have i2 := wF_taped (wA_tape hI (i := rd h 182 2) (v := z) (by omega) hz.1 hz.2) (v := rd h 182 2 + 1) (by omega) (by omega)
      refine B_lay_69 (RF_of i2.1) (by omega) (ih _ _ (by omega) i2 (fun g gI ge gx gf => k g gI (by rw [ge, rdw_eq]) (by rw [gx, rdw_eq]) (fun a i n1 n2 => ?_)))
      rw [gf a i n1 n2, rd_wr, if_neg (fun q => n1 ⟨q.1.symm, q.2.symm⟩), rdw_ne (fun q => n2 q.symm)]
    generalize hc : zand (w32 (lshr_ v (8 * (j : Int)))) 255 = c at *
    refine B_lay_3 (RF_of hI.1) (by omega) ⟨fun z => absurd z (by omega), fun _ => ?_⟩
    rw [hc]
    exact ⟨fun z => ⟨fun z1 => st _ (by omega), fun z1 => ⟨by omega, by omega, up _ _ (by omega) rfl (by omega)⟩⟩, fun z => ⟨fun z1 => st _ (by omega), fun z1 => ⟨fun z2 => st _ (by omega), fun z2 => ⟨fun z3 => st _ (by omega), fun z3 => ⟨by omega, by omega, up _ _ (by omega) rfl (by omega)⟩⟩⟩⟩⟩
theorem D_putX {v : Int} (hI : INV h) (k : ∀ g, INV g → rd g 2 0 = fed 8 v (rd h 2 0) → rd g 3 = fedX 8 v (rd h 2 0) (rd h 3) → (∀ a i, ¬ (a = 2 ∧ i = 0) → a ≠ 3 → rd g a i = rd h a i) → Q none g) : Rn xs xl e mm_Reader_putBytes 0 [some (.inr (.inr 2)), some (.inr (.inl v)), none, none, none, none] [] h Q :=
  B_Reader_putBytes_0 (RF_of hI.1) (L_putX 8 none none h (Nat.le_refl 8) hI k)
theorem D_layX {v : Int} (hv : i64 v) (hI : INV h) (k : ∀ g, INV g → rd g 182 2 = fed 8 v (rd h 182 2) → rd g 183 = fedX 8 v (rd h 182 2) (rd h 183) → (∀ a i, ¬ (a = 182 ∧ i = 2) → a ≠ 183 → rd g a i = rd h a i) → Q none g) : Rn xs xl e mm_lay 0 [some (.inr (.inr 182)), some (.inr (.inl v)), none, none, none] [] h Q :=
  B_lay_0 (RF_of hI.1) (L_layX hv 8 none h (Nat.le_refl 8) hI k)
theorem E_feedX {a b c : Int} (he : 1 ≤ e) (hI : INV h) (k : ∀ g, INV g → rd g 2 0 = fed3 a b c (rd h 2 0) → rd g 3 = fedX3 a b c (rd h 2 0) (rd h 3) → (∀ x i, ¬ (x = 2 ∧ i = 0) → x ≠ 3 → rd g x i = rd h x i) → Q (some (.inl (fed3 a b c (rd h 2 0)))) g) : Rn xs xl e mm_OneSided_feed 0 [some (.inr (.inr 1)), some (.inr (.inl a)), none, some (.inr (.inl b)), none, some (.inr (.inl c)), none] [] h Q := by
  refine B_OneSided_feed_0 (RF_of hI.1) ⟨0, by omega, D_putX hI (fun h1 i1 e1 x1 f1 => ?_)⟩
  refine B_OneSided_feed_8 (RF_of i1.1) ⟨0, by omega, D_putX i1 (fun h2 i2 e2 x2 f2 => ?_)⟩
  refine B_OneSided_feed_16 (RF_of i2.1) ⟨0, by omega, D_putX i2 (fun h3 i3 e3 x3 f3 => ?_)⟩
  have ee : rd h3 2 0 = fed3 a b c (rd h 2 0) := by
    rw [e3, e2, e1]
    rfl
  refine B_OneSided_feed_25 (RF_of i3.1) ?_
  rw [ee]
  exact k h3 i3 ee (by rw [x3, x2, x1, e2, e1]; rfl) (fun x i n1 n2 => (f3 x i n1 n2).trans ((f2 x i n1 n2).trans (f1 x i n1 n2)))
theorem D_feedX {a b c : Int} (ha : i64 a) (hb : i64 b) (hc : i64 c) (he : 1 ≤ e) (hI : INV h) (k : ∀ g, INV g → rd g 182 2 = fed3 a b c (rd h 182 2) → rd g 183 = fedX3 a b c (rd h 182 2) (rd h 183) → (∀ x i, ¬ (x = 182 ∧ (i = 0 ∨ i = 2)) → x ≠ 183 → rd g x i = rd h x i) → Q (some (.inl (fed3 a b c (rd h 182 2)))) g) : Rn xs xl e mm_feed 0 [some (.inr (.inr 182)), some (.inr (.inl a)), none, some (.inr (.inl b)), none, some (.inr (.inl c)), none] [] h Q := by
  have i0 := wF_thrown hI (v := 0) (by omega) (by omega)
  refine B_feed_0 (RF_of hI.1) ⟨0, by omega, D_layX ha i0 (fun h1 i1 e1 x1 f1 => ?_)⟩
  refine B_feed_10 (RF_of i1.1) ⟨0, by omega, D_layX hb i1 (fun h2 i2 e2 x2 f2 => ?_)⟩
  refine B_feed_15 (RF_of i2.1) ⟨0, by omega, D_layX hc i2 (fun h3 i3 e3 x3 f3 => ?_)⟩
  have ee : rd h3 182 2 = fed3 a b c (rd h 182 2) := by
    rw [e3, e2, e1, rdw_nei (by decide)]
    rfl
  refine B_feed_21 (RF_of i3.1) ?_
  rw [ee]
  have xx : rd (wr h 182 0 0) 183 = rd h 183 := funext (fun i => rdw_ne (by decide))
  refine k h3 i3 ee (by rw [x3, x2, x1, e2, e1, rdw_nei (by decide), xx]; rfl) (fun x i n1 n2 => ?_)
  rw [f3 x i (by omega) n2, f2 x i (by omega) n2, f1 x i (by omega) n2, rd_wr, if_neg (by omega)]
end FEX
end
section
/-! p3, part e3: the first heap: words, doors and people -/
def WL : List (List Int) := [[114, 111, 111, 109, 115], [100, 111, 111, 114], [116, 111], [111, 112, 101, 110], [102, 111, 114], [104, 111, 108, 100, 115], [112, 114, 105, 99, 101], [112, 101, 114, 115, 111, 110], [97, 116], [101, 114, 114, 97, 110, 100], [98, 121], [108, 101, 116], [103, 111], [104, 111, 117, 114], [112, 108, 97, 105, 110], [116, 117, 114, 110, 105, 110, 103], [104, 105, 110, 103, 101], [98, 108, 97, 110, 107], [116, 101, 110, 97, 110, 116], [115, 111, 108, 100, 105, 101, 114], [99, 104, 105, 108, 100], [99, 97, 116], [110, 111, 116], [97, 110, 100], [111, 114], [116, 105, 109, 101], [115, 111, 114, 116], [99, 111, 115, 116], [114, 111, 111, 109]]
def VL : List Int := [34515728, 223720, 755, 781898, 8787, 15769678, 30910767, 1119812451, 57, 381368328, 99, 16633, 274, 426554, 30596128, 52805208163, 15468595, 4358056, 1396960994, 49811666194, 6040476, 4164, 19741, 1891, 573, 1025867, 983628, 173217, 932857]
def WU (i : Nat) (r : Int) : Int := (WL.getD i []).getD r.toNat 0
theorem w_chk : ∀ i : Nat, i < 29 → (rd hc_556 4 (i : Int) = enc (WU i) 32 0 (WL.getD i []).length ∧ rd hc_556 187 (i : Int) = enc (WU i) 37 0 (WL.getD i []).length ∧ (WL.getD i []).all (fun c => decide (97 ≤ c) && decide (c ≤ 122)) = true ∧ rd hc_556 187 (i : Int) = VL.getD i 0) := by decide +kernel
theorem v_chk : ∀ i : Nat, i < 29 → ∀ j : Nat, j < 29 → VL.getD i 0 = VL.getD j 0 → i = j := by decide +kernel
theorem sameW0 : SameW (rd hc_556 4) (rd hc_556 187) := by
  intro i hi
  obtain ⟨a, b, c, -⟩ := w_chk i hi
  refine ⟨WU i, (WL.getD i []).length, fun r r0 r1 => ?_, a, b⟩
  unfold WU
  generalize WL.getD i [] = L at c r1
  rw [List.all_eq_true] at c
  have lt : r.toNat < L.length := by omega
  have z := c (L[r.toNat]) (List.getElem_mem lt)
  rw [List.getD_eq_getElem?_getD, List.getElem?_eq_getElem lt]
  simp only [Bool.and_eq_true, decide_eq_true_eq] at z
  exact z
theorem vinj0 : Vinj (rd hc_556 187) := by
  intro i j hi hj q
  have a := (w_chk i hi).2.2.2
  have b := (w_chk j hj).2.2.2
  exact v_chk i hi j hj (by rw [← a, ← b]; exact q)
theorem pt_chk : (∀ k : Nat, k < 14 → rd hc_556 6 (k : Int) = 12 + (k : Int) ∧ rd hc_556 33 (k : Int) = 39 + (k : Int)) ∧ (∀ k : Nat, k < 6 → rd hc_556 7 (k : Int) = 26 + (k : Int) ∧ rd hc_556 34 (k : Int) = 53 + (k : Int)) := ⟨by decide +kernel, by decide +kernel⟩
theorem pt0 : PT hc_556 := by
  obtain ⟨p1, p2⟩ := pt_chk
  intro q hq
  refine ⟨fun i i0 i1 => ?_, fun i i0 i1 => ?_⟩
  · have k := p1 i.toNat (by omega)
    rw [show ((i.toNat : Nat) : Int) = i by omega] at k
    rcases hq with rfl | rfl
    · exact k.1
    · exact k.2
  · have k := p2 i.toNat (by omega)
    rw [show ((i.toNat : Nat) : Int) = i by omega] at k
    rcases hq with rfl | rfl
    · exact k.1
    · exact k.2
end
