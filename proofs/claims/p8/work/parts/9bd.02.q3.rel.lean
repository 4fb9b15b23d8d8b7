/-! the quarter as read, part q3: both current quarters hold the same -/
section QI3
variable {o v w p u : Nat → Int} {R : Int} {y : QY}
/-- the fields of the lines so far are the same to both bases -/
def flS (o u v w p : Nat → Int) (y : QY) : Prop := (∀ k ∈ y.2.2.1, dfl o u w p (k - 1) = dfl o v w p (k - 1)) ∧ (∀ k ∈ y.2.2.2.1, pfl u w (k - 1) = pfl v w (k - 1))
theorem qS_fl (hs : SmV o p u v) (hz : y.1.1 = 0) (hy : flS o u v w p y) (h : (qS o v w p R y).1.1 = 0) : flS o u v w p (qS o v w p R y) := by
  obtain ⟨h1, h2⟩ := hy
  unfold qS at h ⊢
  by_cases w1 : w y.1.2 = 1
  · rw [if_pos w1] at h ⊢
    by_cases c1 : 14 ≤ y.2.2.1.length
    · rw [if_pos c1] at h
      exact absurd h (tkE_p hs.2.2 (by decide))
    · rw [if_neg c1] at h ⊢
      refine ⟨fun k hk => ?_, h2⟩
      have hk' : k ∈ y.2.2.1 ++ [y.1.2 + 1] := hk
      rw [List.mem_append, List.mem_singleton] at hk'
      rcases hk' with q | q
      · exact h1 k q
      · rw [q, Nat.add_sub_cancel]
        exact dfl_b hs hz (tkS_z h)
  · rw [if_neg w1] at h ⊢
    by_cases w7 : w y.1.2 = 7
    · rw [if_pos w7] at h ⊢
      by_cases c1 : 6 ≤ y.2.2.2.1.length
      · rw [if_pos c1] at h
        exact absurd h (tkE_p hs.2.2 (by decide))
      · rw [if_neg c1] at h ⊢
        refine ⟨h1, fun k hk => ?_⟩
        have hk' : k ∈ y.2.2.2.1 ++ [y.1.2 + 1] := hk
        rw [List.mem_append, List.mem_singleton] at hk'
        rcases hk' with q | q
        · exact h2 k q
        · rw [q, Nat.add_sub_cancel]
          exact pfl_b hs hz (tkS_z h)
    · rw [if_neg w7] at h ⊢
      by_cases w11 : w y.1.2 = 11
      · rw [if_pos w11] at h ⊢
        by_cases c1 : 0 < y.2.2.2.2.length
        · rw [if_pos c1] at h
          exact absurd h (tkE_p hs.2.2 (by decide))
        · rw [if_neg c1]; exact ⟨h1, h2⟩
      · rw [if_neg w11] at h
        exact absurd h (tkE_p hs.2.2 (by decide))
theorem qL_fl (hs : SmV o p u v) : ∀ (c : Nat) (y : QY), (y.1.1 = 0 → flS o u v w p y) → (qL o v w p R c y).1.1 = 0 → flS o u v w p (qL o v w p R c y)
  | 0, _, hy, h => hy h
  | c + 1, y, hy, h => by
    by_cases g : y.1.1 = 0 ∧ o y.1.2 ≠ 0
    · rw [qL_go g] at h ⊢
      exact qL_fl hs c _ (fun z => qS_fl hs g.1 (hy g.1) z) h
    · rw [qL_stop g] at h ⊢
      exact hy h
theorem qF_fl (hs : SmV o p u v) (h : (qF o v w p).1.1 = 0) : flS o u v w p (qF o v w p) :=
  qL_fl hs 1000 _ (fun _ => ⟨fun k hk => absurd hk List.not_mem_nil, fun k hk => absurd hk List.not_mem_nil⟩) h
end QI3
/-- both current quarters hold the same -/
def QFR (h : LH) : Prop := rd h (rd h 1 1) 0 = rd h 188 0 ∧ rd h (rd h 1 1) 2 = rd h 188 1 ∧ rd h (rd h 1 1) 4 = rd h 188 2 ∧
  (∀ i j : Nat, (i : Int) < rd h 188 1 → j < 8 → rd h (rd h 1 1 + 7 + i) ((j : Int) + 1) = rd h 188 (8 * (i : Int) + 4 + (j : Int))) ∧
  (∀ i j : Nat, (i : Int) < rd h 188 2 → j < 4 → rd h (rd h 1 1 + 21 + i) ((j : Int) + 1) = rd h 188 (116 + 4 * (i : Int) + (j : Int))) ∧
  (rd h (rd h 1 1) 6 = 0 → rd h 188 3 < 0) ∧
  (0 < rd h (rd h 1 1) 6 → 0 ≤ rd h 188 3 ∧ rd h 189 (rd h (rd h 1 1) 6) = 0 ∧ ∀ i : Nat, (i : Int) < rd h (rd h 1 1) 6 → rd h 189 i = cdO (rd h (rd h 1 1 + 3) i) ∧ rd h 190 i = cdA (rd h (rd h 1 1 + 3) i)) ∧ 0 ≤ rd h (rd h 1 1) 6
section QJ3
variable {h : LH} {T : Int → Int} {n : Int} {W V : Int → Int} {q : Int}
theorem mem_getD {L : List Nat} {i : Nat} (hi : i < L.length) : L.getD i 0 ∈ L := by
  rw [List.getD_eq_getElem?_getD, List.getElem?_eq_getElem hi]
  exact List.getElem_mem hi
theorem QFR_of (h1 : n ≤ 1000) (h2 : 0 ≤ n) (hw : SameW W V) (hq : rd h 1 1 = q) (hz : (qF (tO T n) (tV T n 37) (tW T n 37 V) (tP T n)).1.1 = 0) (hC : DCKf T n W h q (qR (tV T n 32) (tW T n 32 W) (tP T n)) (qF (tO T n) (tV T n 37) (tW T n 37 V) (tP T n))) (hR0 : rd h 188 0 = qR (tV T n 37) (tW T n 37 V) (tP T n)) (hqR : qR (tV T n 32) (tW T n 32 W) (tP T n) = qR (tV T n 37) (tW T n 37 V) (tP T n)) (hR : RFD T n V h (qF (tO T n) (tV T n 37) (tW T n 37 V) (tP T n))) : QFR h := by
  have hW : tW T n 32 W = tW T n 37 V := funext (fun k => tW_b h1 h2 hw k)
  obtain ⟨f1, f2⟩ := qF_fl (tV_sm (T := T) h1 h2) hz
  generalize qF (tO T n) (tV T n 37) (tW T n 37 V) (tP T n) = y at f1 f2 hC hR
  obtain ⟨⟨⟨c1, c2, ⟨c3, c3'⟩, -, -⟩, c5, -, -, ⟨c6, c7⟩⟩, cD, cP⟩ := hC
  obtain ⟨r1, r2, rD, rP, rL0, rL⟩ := hR
  unfold QFR
  rw [hq]
  refine ⟨by rw [c5, hR0, hqR], c1.trans r1.symm, c2.trans r2.symm, fun i j hi hj => ?_, fun i j hi hj => ?_, fun hl => rL0 (by omega), fun hl => ?_, by omega⟩
  · have hi' : i < y.2.2.1.length := by omega
    rw [(cD i hi').2 j hj, (rD i hi').2 j hj, hW, f1 _ (mem_getD hi')]
  · have hi' : i < y.2.2.2.1.length := by omega
    rw [(cP i hi').2 j hj, (rP i hi').2 j hj, hW, f2 _ (mem_getD hi')]
  · obtain ⟨a, b, c⟩ := rL (by omega)
    refine ⟨a, by rw [c6]; exact b, fun i hi => ?_⟩
    have hi' : i < y.2.2.2.2.length := by omega
    rw [(c i hi').1, (c i hi').2, c7 i hi']
    exact ⟨rfl, rfl⟩
end QJ3
