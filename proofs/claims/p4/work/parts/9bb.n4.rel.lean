/-! days, part n4: names of both quarters -/
/-- one word in both bases -/
def wd (a b : Int) : Prop := ∃ (U : Int → Int) (p : Int) (m : Nat), (∀ r : Int, p ≤ r → r < p + m → 97 ≤ U r ∧ U r ≤ 122) ∧ a = enc U 32 p m ∧ b = enc U 37 p m
theorem wd_iff {a b a' b' : Int} (h : wd a b) (h' : wd a' b') : a = a' ↔ b = b' := by
  obtain ⟨U, p, m, u, rfl, rfl⟩ := h
  obtain ⟨U', p', m', u', rfl, rfl⟩ := h'
  exact enc_iff u u'
theorem tV_wd {T : Int → Int} {n : Int} (h1 : n ≤ 1000) (h2 : 0 ≤ n) {k : Nat} (ho : tO T n k = 1) : wd (tV T n 32 k) (tV T n 37 k) := by
  refine ⟨T, tP T n k, tN T n k, fun r r0 r1 => ?_, ?_, ?_⟩
  · exact tk_let h1 h2 ho r r0 r1
  · unfold tV; rw [if_pos ho]
  · unfold tV; rw [if_pos ho]
section NQ4
variable {o v w p : Nat → Int} {R : Int} {y : QY} {N : List Nat} {s : Int × Nat}
def dsN (v : Nat → Int) (N : List Nat) : Prop := ∀ i j : Nat, i < N.length → j < N.length → v (N.getD i 0) = v (N.getD j 0) → i = j
theorem dsN_app {x : Nat} (h : dsN v N) (hx : ¬ N.any (fun j => decide (v j = v x)) = true) : dsN v (N ++ [x]) := by
  have no : ∀ i : Nat, i < N.length → v (N.getD i 0) ≠ v x := fun i hi q => hx (any_ix.mpr ⟨i, hi, decide_eq_true q⟩)
  intro i j hi hj q
  rw [List.length_append, List.length_singleton] at hi hj
  rcases Nat.lt_or_ge i N.length with a | a <;> rcases Nat.lt_or_ge j N.length with b | b
  · rw [getD_l a, getD_l b] at q; exact h i j a b q
  · have e : j = N.length := by omega
    subst e
    rw [getD_l a, getD_e] at q
    exact absurd q (no i a)
  · have e : i = N.length := by omega
    subst e
    rw [getD_l b, getD_e] at q
    exact absurd q.symm (no j b)
  · omega
theorem tkM_na (hp : ∀ k, 0 ≤ p k) (h : (tkM o v w p N s).1 = 0) : ¬ N.any (fun j => decide (v j = v s.2)) = true := by
  have nm := tkM_ok hp h
  unfold tkM at h
  rw [if_pos nm] at h
  intro q
  rw [if_pos q] at h
  exact absurd h (tkE_p hp (by decide))
theorem qS_D (hp : ∀ k, 0 ≤ p k) (hz : y.1.1 = 0) (hN : dsN v y.2.1) (h : (qS o v w p R y).1.1 = 0) : dsN v (qS o v w p R y).2.1 := by
  have e1 : (tkA y.1).2 = y.1.2 + 1 := by rw [tkA_0 hz]
  unfold qS at h ⊢
  by_cases w1 : w y.1.2 = 1
  · rw [if_pos w1] at h ⊢
    by_cases c1 : 14 ≤ y.2.2.1.length
    · rw [if_pos c1] at h
      exact absurd h (tkE_p hp (by decide))
    · rw [if_neg c1] at h ⊢
      have na := tkM_na hp (drL_z (tkS_z h))
      rw [e1] at na
      exact dsN_app hN na
  · rw [if_neg w1] at h ⊢
    by_cases w7 : w y.1.2 = 7
    · rw [if_pos w7] at h ⊢
      by_cases c1 : 6 ≤ y.2.2.2.1.length
      · rw [if_pos c1] at h
        exact absurd h (tkE_p hp (by decide))
      · rw [if_neg c1] at h ⊢
        have na := tkM_na hp (psL_z (tkS_z h))
        rw [e1] at na
        exact dsN_app hN na
    · rw [if_neg w7] at h ⊢
      by_cases w11 : w y.1.2 = 11
      · rw [if_pos w11] at h ⊢
        by_cases c1 : 0 < y.2.2.2.2.length
        · rw [if_pos c1] at h
          exact absurd h (tkE_p hp (by decide))
        · rw [if_neg c1]; exact hN
      · rw [if_neg w11] at h
        exact absurd h (tkE_p hp (by decide))
theorem qL_D (hp : ∀ k, 0 ≤ p k) : ∀ (c : Nat) (y : QY), (y.1.1 = 0 → dsN v y.2.1 ∧ ∀ j ∈ y.2.1, o j = 1) → (qL o v w p R c y).1.1 = 0 → dsN v (qL o v w p R c y).2.1 ∧ ∀ j ∈ (qL o v w p R c y).2.1, o j = 1
  | 0, _, hy, h => hy h
  | c + 1, y, hy, h => by
    by_cases g : y.1.1 = 0 ∧ o y.1.2 ≠ 0
    · rw [qL_go g] at h ⊢
      exact qL_D hp c _ (fun z => ⟨qS_D hp g.1 (hy g.1).1 z, qS_N hp g.1 (hy g.1).2 z⟩) h
    · rw [qL_stop g] at h ⊢
      exact hy h
theorem qF_D (hp : ∀ k, 0 ≤ p k) (h : (qF o v w p).1.1 = 0) : dsN v (qF o v w p).2.1 ∧ ∀ j ∈ (qF o v w p).2.1, o j = 1 :=
  qL_D hp 1000 _ (fun _ => ⟨fun i j hi _ _ => absurd hi (Nat.not_lt_zero i), fun j hj => absurd hj List.not_mem_nil⟩) h
end NQ4
/-- the names of the class's quarter and of the reference's -/
def NMR (h : LH) : Prop := (0 ≤ rd h (rd h 1 1) 2 ∧ rd h (rd h 1 1) 2 ≤ 14) ∧ (0 ≤ rd h (rd h 1 1) 4 ∧ rd h (rd h 1 1) 4 ≤ 6) ∧
  (∀ k : Nat, (k : Int) < rd h 182 18 → (∃ j : Nat, (j : Int) < rd h (rd h 1 1) 2 ∧ rd h 193 k = (j : Int) ∧ wd (rd h (rd h 1 1 + 7 + j) 0) (rd h 191 k)) ∨ (∃ j : Nat, (j : Int) < rd h (rd h 1 1) 4 ∧ rd h 193 k = 20 + (j : Int) ∧ wd (rd h (rd h 1 1 + 21 + j) 0) (rd h 191 k))) ∧
  (∀ j : Nat, (j : Int) < rd h (rd h 1 1) 2 → ∃ k : Nat, (k : Int) < rd h 182 18 ∧ rd h 193 k = (j : Int)) ∧
  (∀ j : Nat, (j : Int) < rd h (rd h 1 1) 4 → ∃ k : Nat, (k : Int) < rd h 182 18 ∧ rd h 193 k = 20 + (j : Int)) ∧
  (∀ k k' : Nat, (k : Int) < rd h 182 18 → (k' : Int) < rd h 182 18 → rd h 191 k = rd h 191 k' → k = k')
theorem NMR_fr {h g : LH} (hq : rd h 1 1 = 5 ∨ rd h 1 1 = 32) (hN : NMR h) (e1 : rd g 1 1 = rd h 1 1) (e2 : rd g 182 18 = rd h 182 18) (f1 : ∀ a i, rd h 1 1 ≤ a → a ≤ rd h 1 1 + 26 → rd g a i = rd h a i) (f2 : ∀ a i, a = 191 ∨ a = 193 → rd g a i = rd h a i) : NMR g := by
  obtain ⟨n1, n2, n3, n4, n5, n6⟩ := hN
  unfold NMR
  rw [e1, e2, f1 (rd h 1 1) 2 (by omega) (by omega), f1 (rd h 1 1) 4 (by omega) (by omega)]
  refine ⟨n1, n2, fun k hk => ?_, fun j hj => ?_, fun j hj => ?_, fun k k' hk hk' q => ?_⟩
  · rw [f2 193 k (Or.inr rfl), f2 191 k (Or.inl rfl)]
    rcases n3 k hk with ⟨j, j1, j2, j3⟩ | ⟨j, j1, j2, j3⟩
    · exact Or.inl ⟨j, j1, j2, by rw [f1 _ _ (by omega) (by omega)]; exact j3⟩
    · exact Or.inr ⟨j, j1, j2, by rw [f1 _ _ (by omega) (by omega)]; exact j3⟩
  · obtain ⟨k, k1, k2⟩ := n4 j hj
    exact ⟨k, k1, by rw [f2 193 k (Or.inr rfl)]; exact k2⟩
  · obtain ⟨k, k1, k2⟩ := n5 j hj
    exact ⟨k, k1, by rw [f2 193 k (Or.inr rfl)]; exact k2⟩
  · rw [f2 191 k (Or.inl rfl), f2 191 k' (Or.inl rfl)] at q
    exact n6 k k' hk hk' q
section NR4
variable {h : LH} {T : Int → Int} {n : Int} {j : Nat}
theorem bool_eq {a b : Bool} (h : a = true ↔ b = true) : a = b := by
  cases a <;> cases b <;> simp_all
theorem kn_p (hN : NMR h) (h1 : n ≤ 1000) (h2 : 0 ≤ n) (hb : 0 ≤ rd h 182 18) (ho : tO T n j = 1) : nmC (fun i => rd h (rd h 1 1 + 21 + i) 0) (rd h (rd h 1 1) 4).toNat (tV T n 32 j) = kR h T n 20 6 j := by
  obtain ⟨n1, n2, n3, n4, n5, n6⟩ := hN
  have tw := tV_wd (T := T) h1 h2 ho
  refine bool_eq ?_
  rw [nmC_iff]
  unfold kR
  rw [decide_eq_true_iff]
  have sp := fndI_sp (f := fun i => rd h 191 i) (c := fun i => rd h 193 i) (x := tV T n 37 j) (rd h 182 18).toNat 0
  generalize fndI (fun i => rd h 191 i) (fun i => rd h 193 i) (tV T n 37 j) 0 (rd h 182 18).toNat = f at sp ⊢
  constructor
  · rintro ⟨i, i1, i2⟩
    obtain ⟨k, k1, k2⟩ := n5 i (by omega)
    have w3 : wd (rd h (rd h 1 1 + 21 + i) 0) (rd h 191 k) := by
      rcases n3 k k1 with ⟨j', j1, j2, j3⟩ | ⟨j', j1, j2, j3⟩
      · omega
      · have e : j' = i := by omega
        subst e; exact j3
    have e7 : rd h 191 k = tV T n 37 j := (wd_iff w3 tw).mp i2
    rcases sp with ⟨k', a1, a2, a3, a4⟩ | ⟨a1, a2⟩
    · have ek : k' = k := n6 k' k (by omega) k1 (a3.trans e7.symm)
      subst ek
      have a4' : f = rd h 193 (k' : Int) := a4
      omega
    · exact absurd e7 (a1 k (by omega) (by omega))
  · intro q
    rcases sp with ⟨k, a1, a2, a3, a4⟩ | ⟨a1, a2⟩
    · have a4' : f = rd h 193 (k : Int) := a4
      have a3' : rd h 191 (k : Int) = tV T n 37 j := a3
      rcases n3 k (by omega) with ⟨j', j1, j2, j3⟩ | ⟨j', j1, j2, j3⟩
      · omega
      · exact ⟨j', by omega, (wd_iff j3 tw).mpr a3'⟩
    · omega
theorem kn_d (hN : NMR h) (h1 : n ≤ 1000) (h2 : 0 ≤ n) (hb : 0 ≤ rd h 182 18) (ho : tO T n j = 1) : nmC (fun i => rd h (rd h 1 1 + 7 + i) 0) (rd h (rd h 1 1) 2).toNat (tV T n 32 j) = kR h T n 0 14 j := by
  obtain ⟨n1, n2, n3, n4, n5, n6⟩ := hN
  have tw := tV_wd (T := T) h1 h2 ho
  refine bool_eq ?_
  rw [nmC_iff]
  unfold kR
  rw [decide_eq_true_iff]
  have sp := fndI_sp (f := fun i => rd h 191 i) (c := fun i => rd h 193 i) (x := tV T n 37 j) (rd h 182 18).toNat 0
  generalize fndI (fun i => rd h 191 i) (fun i => rd h 193 i) (tV T n 37 j) 0 (rd h 182 18).toNat = f at sp ⊢
  constructor
  · rintro ⟨i, i1, i2⟩
    obtain ⟨k, k1, k2⟩ := n4 i (by omega)
    have w3 : wd (rd h (rd h 1 1 + 7 + i) 0) (rd h 191 k) := by
      rcases n3 k k1 with ⟨j', j1, j2, j3⟩ | ⟨j', j1, j2, j3⟩
      · have e : j' = i := by omega
        subst e; exact j3
      · omega
    have e7 : rd h 191 k = tV T n 37 j := (wd_iff w3 tw).mp i2
    rcases sp with ⟨k', a1, a2, a3, a4⟩ | ⟨a1, a2⟩
    · have ek : k' = k := n6 k' k (by omega) k1 (a3.trans e7.symm)
      subst ek
      have a4' : f = rd h 193 (k' : Int) := a4
      omega
    · exact absurd e7 (a1 k (by omega) (by omega))
  · intro q
    rcases sp with ⟨k, a1, a2, a3, a4⟩ | ⟨a1, a2⟩
    · have a4' : f = rd h 193 (k : Int) := a4
      have a3' : rd h 191 (k : Int) = tV T n 37 j := a3
      rcases n3 k (by omega) with ⟨j', j1, j2, j3⟩ | ⟨j', j1, j2, j3⟩
      · exact ⟨j', by omega, (wd_iff j3 tw).mpr a3'⟩
      · omega
    · omega
/-- a text without a fault gives both the same names -/
theorem NMR_of {V : Int → Int} {q : Int} (h1 : n ≤ 1000) (h2 : 0 ≤ n) (hq : rd h 1 1 = q) (hz : (qF (tO T n) (tV T n 37) (tW T n 37 V) (tP T n)).1.1 = 0) (hC : NCK T n h q (qF (tO T n) (tV T n 37) (tW T n 37 V) (tP T n)).2.2.1 (qF (tO T n) (tV T n 37) (tW T n 37 V) (tP T n)).2.2.2.1) (hR : NMK T n h (qF (tO T n) (tV T n 37) (tW T n 37 V) (tP T n))) : NMR h := by
  obtain ⟨ds, on⟩ := qF_D (fun k => tP_0 h1 h2 k) hz
  generalize qF (tO T n) (tV T n 37) (tW T n 37 V) (tP T n) = y at ds on hC hR
  obtain ⟨c1, c2, ⟨c3, c3'⟩, c4, c5⟩ := hC
  obtain ⟨r1, r2, C, ⟨r3, r4, r5, r6⟩, r7⟩ := hR
  have o1 : ∀ i : Nat, i < y.2.1.length → tO T n (y.2.1.getD i 0) = 1 := by
    intro i hi
    refine on _ ?_
    rw [List.getD_eq_getElem?_getD, List.getElem?_eq_getElem hi]
    exact List.getElem_mem hi
  unfold NMR
  rw [hq, c1, c2, r1]
  refine ⟨by omega, by omega, fun k hk => ?_, fun j hj => ?_, fun j hj => ?_, fun k k' hk hk' e => ?_⟩
  · have hk' : k < y.2.1.length := by omega
    have t := tV_wd (T := T) h1 h2 (o1 k hk')
    rw [(r7 k hk').1, (r7 k hk').2]
    rcases r4 k hk' with ⟨j, j1, j2, j3⟩ | ⟨j, j1, j2, j3⟩
    · refine Or.inl ⟨j, by omega, j2, ?_⟩
      rw [c4 j j1, j3]; exact t
    · refine Or.inr ⟨j, by omega, j2, ?_⟩
      rw [c5 j j1, j3]; exact t
  · obtain ⟨i, i1, i2, i3⟩ := r5 j (by omega)
    exact ⟨i, by omega, by rw [(r7 i i1).2]; exact i2⟩
  · obtain ⟨i, i1, i2, i3⟩ := r6 j (by omega)
    exact ⟨i, by omega, by rw [(r7 i i1).2]; exact i2⟩
  · rw [(r7 k (by omega)).1, (r7 k' (by omega)).1] at e
    exact ds k k' (by omega) (by omega) e
end NR4
