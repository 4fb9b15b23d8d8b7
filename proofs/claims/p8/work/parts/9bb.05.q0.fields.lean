/-! the quarter as read, part q0: what stands in a line without a fault -/
section QF0
variable (o v w p : Nat → Int)
/-- a door's fields, its line begins at token k -/
def dfl (k : Nat) : List Int := [w (k + 5) - 14, v (k + 2), v (k + 4), opV v w 3 0 (0, k + 6), opC o v w p (0, k + 6), opT w (opF o v w p (0, k + 6)), opV v w 5 1 (opS w p (opF o v w p (0, k + 6))), opV v w 6 0 (opN o v w p 5 1 9 (opS w p (opF o v w p (0, k + 6))))]
/-- a person's fields -/
def pfl (k : Nat) : List Int := [w (k + 2) - 18, v (k + 4), v (k + 6), v (k + 8)]
end QF0
section QF1
variable {o v w p u : Nat → Int} {R a b c : Int} {N : List Nat} {s : Int × Nat}
theorem tkW_ok (hp : ∀ k, 0 ≤ p k) (h : (tkW w p c s).1 = 0) : w s.2 = c ∧ tkW w p c s = (0, s.2 + 1) := by
  have z := tkW_z h
  unfold tkW at h ⊢
  by_cases q : w s.2 = c
  · rw [if_pos q]; exact ⟨q, tkA_0 z⟩
  · rw [if_neg q] at h; exact absurd h (tkE_p hp (by decide))
theorem tkF_ok (hp : ∀ k, 0 ≤ p k) (h : (tkF w p c s).1 = 0) : (c ≤ w s.2 ∧ w s.2 ≤ c + 3) ∧ tkF w p c s = (0, s.2 + 1) := by
  have z := tkF_z h
  unfold tkF at h ⊢
  by_cases q : c ≤ w s.2 ∧ w s.2 ≤ c + 3
  · rw [if_pos q]; exact ⟨q, tkA_0 z⟩
  · rw [if_neg q] at h; exact absurd h (tkE_p hp (by decide))
theorem tkM_go (hp : ∀ k, 0 ≤ p k) (h : (tkM o v w p N s).1 = 0) : tkM o v w p N s = (0, s.2 + 1) := by
  have z := tkM_z h
  have nm := tkM_ok hp h
  unfold tkM at h ⊢
  rw [if_pos nm] at h ⊢
  by_cases q : N.any (fun j => decide (v j = v s.2)) = true
  · rw [if_pos q] at h; exact absurd h (tkE_p hp (by decide))
  · rw [if_neg q]; exact tkA_0 z
theorem tkR_ok (hp : ∀ k, 0 ≤ p k) (h : (tkR o v p a b s).1 = 0) : o s.2 = 2 ∧ tkR o v p a b s = (0, s.2 + 1) := by
  unfold tkR at h ⊢
  by_cases q : o s.2 = 2 ∧ v s.2 = a
  · rw [if_pos q] at h; exact absurd h (tkE_p hp (by decide))
  · rw [if_neg q] at h ⊢
    have y := tkN_ok h (fun c hc => tkE_p hp hc)
    exact ⟨y.2.1, y.2.2.2.2⟩
/-- where a door's line without a fault stands, piece by piece -/
theorem dr_at (hp : ∀ k, 0 ≤ p k) (hz : s.1 = 0) (h : (drD o v w p R N s).1 = 0) : drA o v w p N s = (0, s.2 + 2) ∧ drB o v w p R N s = (0, s.2 + 4) ∧ drC o v w p R N s = (0, s.2 + 5) ∧ drD o v w p R N s = (0, s.2 + 6) ∧ o (s.2 + 2) = 2 ∧ o (s.2 + 4) = 2 := by
  have zC : (drC o v w p R N s).1 = 0 := tkF_z h
  have zB : (drB o v w p R N s).1 = 0 := tkR_z zC
  have zN := tkW_z zB
  have zA : (drA o v w p N s).1 = 0 := tkN_z zN
  have eA : drA o v w p N s = (0, s.2 + 2) := by
    have y := tkM_go hp zA
    rw [tkA_0 hz] at y
    unfold drA
    rw [tkA_0 hz]; exact y
  have yN := tkN_ok zN (fun c hc => tkE_p hp hc)
  have o2 : o (s.2 + 2) = 2 := by have y := yN.2.1; rw [eA] at y; exact y
  have eN := yN.2.2.2.2
  rw [eA] at eN
  have eB : drB o v w p R N s = (0, s.2 + 4) := by
    have y := (tkW_ok hp zB).2
    unfold drB
    rw [eA] at y ⊢
    rw [eN] at y ⊢
    exact y
  have yR := tkR_ok hp zC
  have o4 : o (s.2 + 4) = 2 := by have y := yR.1; rw [eB] at y; exact y
  have eC : drC o v w p R N s = (0, s.2 + 5) := by
    have y := yR.2
    unfold drC
    rw [eB] at y ⊢
    exact y
  have eD : drD o v w p R N s = (0, s.2 + 6) := by
    have y := (tkF_ok hp h).2
    unfold drD
    rw [eC] at y ⊢
    exact y
  exact ⟨eA, eB, eC, eD, o2, o4⟩
theorem ps_at (hp : ∀ k, 0 ≤ p k) (hz : s.1 = 0) (h : (psL o v w p R N s).1 = 0) : psA o v w p N s = (0, s.2 + 2) ∧ psB o v w p N s = (0, s.2 + 4) ∧ psC o v w p R N s = (0, s.2 + 6) ∧ psD o v w p R N s = (0, s.2 + 8) ∧ o (s.2 + 4) = 2 ∧ o (s.2 + 6) = 2 ∧ o (s.2 + 8) = 2 := by
  have zD : (psD o v w p R N s).1 = 0 := tkN_z h
  have z7 := tkW_z zD
  have zC : (psC o v w p R N s).1 = 0 := tkN_z z7
  have z5 := tkW_z zC
  have zB : (psB o v w p N s).1 = 0 := tkN_z z5
  have z3 := tkW_z zB
  have zA : (psA o v w p N s).1 = 0 := tkF_z z3
  have eA : psA o v w p N s = (0, s.2 + 2) := by
    have y := tkM_go hp zA
    rw [tkA_0 hz] at y
    unfold psA
    rw [tkA_0 hz]; exact y
  have e3 := (tkF_ok hp z3).2
  rw [eA] at e3
  have eB : psB o v w p N s = (0, s.2 + 4) := by
    have y := (tkW_ok hp zB).2
    unfold psB
    rw [eA] at y ⊢
    rw [e3] at y ⊢
    exact y
  have y5 := tkN_ok z5 (fun c hc => tkE_p hp hc)
  have o4 : o (s.2 + 4) = 2 := by have y := y5.2.1; rw [eB] at y; exact y
  have e5 := y5.2.2.2.2
  rw [eB] at e5
  have eC : psC o v w p R N s = (0, s.2 + 6) := by
    have y := (tkW_ok hp zC).2
    unfold psC
    rw [eB] at y ⊢
    rw [e5] at y ⊢
    exact y
  have y7 := tkN_ok z7 (fun c hc => tkE_p hp hc)
  have o6 : o (s.2 + 6) = 2 := by have y := y7.2.1; rw [eC] at y; exact y
  have e7 := y7.2.2.2.2
  rw [eC] at e7
  have eD : psD o v w p R N s = (0, s.2 + 8) := by
    have y := (tkW_ok hp zD).2
    unfold psD
    rw [eC] at y ⊢
    rw [e7] at y ⊢
    exact y
  have y9 := tkN_ok h (fun c hc => tkE_p hp hc)
  have o8 : o (s.2 + 8) = 2 := by have y := y9.2.1; rw [eD] at y; exact y
  exact ⟨eA, eB, eC, eD, o4, o6, o8⟩
/-- the number behind a word is a number, where there is no fault -/
theorem opV_b (h : SmV o p u v) {d : Int} (hz : (opN o v w p c a b s).1 = 0) : opV u w c d s = opV v w c d s := by
  unfold opV
  unfold opN at hz
  by_cases q : tkB w c s = true
  · rw [if_pos q, if_pos q]
    rw [if_pos q] at hz
    have y := (tkN_ok hz (fun c hc => tkE_p h.2.2 hc)).2.1
    exact h.1 _ (by omega)
  · rw [if_neg q, if_neg q]
theorem opC_b (h : SmV o p u v) (hz : (opF o v w p s).1 = 0) : opC o u w p s = opC o v w p s ∧ opV u w 3 0 s = opV v w 3 0 s := by
  have eE : opE o u w p s = opE o v w p s := by unfold opE; rw [sm_N h]
  unfold opC opV
  unfold opF at hz
  by_cases q : tkB w 3 s = true
  · rw [if_pos q, if_pos q, if_pos q, if_pos q, eE]
    rw [if_pos q] at hz
    have y := tkN_ok hz (fun c hc => tkE_p h.2.2 hc)
    have z2 : (opE o v w p s).1 = 0 := y.1
    unfold opE at z2
    rw [if_pos q] at z2
    have y2 := (tkN_ok (tkW_z z2) (fun c hc => tkE_p h.2.2 hc)).2.1
    have y1 := y.2.1
    exact ⟨h.1 _ (by omega), h.1 _ (by omega)⟩
  · rw [if_neg q, if_neg q, if_neg q, if_neg q]
    exact ⟨rfl, rfl⟩
theorem dfl_b (h : SmV o p u v) (hz : s.1 = 0) (hd : (drL o v w p R N s).1 = 0) : dfl o u w p s.2 = dfl o v w p s.2 := by
  have zD : (drD o v w p R N s).1 = 0 := opL_z hd
  obtain ⟨-, -, -, eD, o2, o4⟩ := dr_at h.2.2 hz zD
  unfold drL at hd
  rw [eD] at hd
  unfold opL at hd
  have z6 := hd
  have z5 := opN_z z6
  have zS := opN_z z5
  have zF := opS_z zS
  obtain ⟨b1, b2⟩ := opC_b h zF
  have b3 := opV_b h (d := 1) z5
  have b4 := opV_b h (d := 0) z6
  unfold dfl
  rw [h.1 (s.2 + 2) (by omega), h.1 (s.2 + 4) (by omega), b1, b2, sm_F h, sm_op h, b3, b4]
theorem pfl_b (h : SmV o p u v) (hz : s.1 = 0) (hd : (psL o v w p R N s).1 = 0) : pfl u w s.2 = pfl v w s.2 := by
  obtain ⟨-, -, -, -, o4, o6, o8⟩ := ps_at h.2.2 hz hd
  unfold pfl
  rw [h.1 (s.2 + 4) (by omega), h.1 (s.2 + 6) (by omega), h.1 (s.2 + 8) (by omega)]
end QF1
