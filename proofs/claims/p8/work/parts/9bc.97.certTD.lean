/-! LM, by program: the table D holds -/
section TB
variable {xs : Nat → Int} {xl : Nat}
noncomputable def lowD (xs : Nat → Int) (xl : Nat) (S : SM) : Prop := ∀ k T, SMsD k = some T → T.2.1 < S.2.1 → SMok xs xl INV T
theorem all_cD {P : SM → Prop} {A : SM} {L : List SM} (h : P A) (hl : ∀ B ∈ L, P B) : ∀ B ∈ A :: L, P B := fun B hB => by
  rcases List.mem_cons.mp hB with rfl | q
  · exact h
  · exact hl B q
theorem all_nD {P : SM → Prop} : ∀ B ∈ ([] : List SM), P B := fun B hB => by cases hB
theorem all_lD {P : SM → Prop} {A : List SM} {L : List (List SM)} (h : ∀ B ∈ A, P B) (hl : ∀ C ∈ L, ∀ B ∈ C, P B) : ∀ C ∈ A :: L, ∀ B ∈ C, P B := fun C hC => by
  rcases List.mem_cons.mp hC with rfl | q
  · exact h
  · exact hl C q
theorem tbD_0 : ∀ S ∈ SMtD0, lowD xs xl S → SMok xs xl INV S := all_cD (fun hS => ai_ok INV_ok hS CKD0) (all_cD (fun hS => ai_ok INV_ok hS CKD1) (all_cD (fun hS => ai_ok INV_ok hS CKD2) (all_cD (fun hS => ai_ok INV_ok hS CKD3) (all_cD (fun hS => ai_ok INV_ok hS CKD4) (all_cD (fun hS => ai_ok INV_ok hS CKD5) (all_cD (fun hS => ai_ok INV_ok hS CKD6) (all_cD (fun hS => ai_ok INV_ok hS CKD7) (all_cD (fun _ => ok_dayLine) (all_cD (fun hS => ai_ok INV_ok hS CKD9) (all_cD (fun hS => ai_ok INV_ok hS CKD10) (all_cD (fun _ => ok_copyDay) (all_cD (fun hS => ai_ok INV_ok hS CKD12) (all_cD (fun hS => ai_ok INV_ok hS CKD13) (all_cD (fun hS => ai_ok INV_ok hS CKD14) (all_cD (fun hS => ai_ok INV_ok hS CKD15) (all_cD (fun hS => ai_ok INV_ok hS CKD16) (all_cD (fun _ => ok_play) (all_cD (fun hS => ai_ok INV_ok hS CKD18) (all_cD (fun _ => ok_copyA) (all_nD))))))))))))))))))))
theorem tbD_1 : ∀ S ∈ SMtD1, lowD xs xl S → SMok xs xl INV S := all_cD (fun _ => ok_copyB) (all_cD (fun hS => ai_ok INV_ok hS CKD21) (all_nD))
theorem tblD : ∀ C ∈ SMttD, ∀ S ∈ C, lowD xs xl S → SMok xs xl INV S := (all_lD tbD_0 (all_lD tbD_1 (fun C hC => by cases hC)))
theorem tabD {j : Nat} {S : SM} (hj : SMsD j = some S) : SMok xs xl INV S := by
  refine tab_ok (SMs := SMsD) (fun j S hS hl => ?_) S.2.1 j S hj (Nat.le_refl _)
  unfold SMsD at hS
  rw [Option.bind_eq_some_iff] at hS
  obtain ⟨C, c1, c2⟩ := hS
  exact tblD C (List.mem_of_getElem? c1) S (List.mem_of_getElem? c2) hl
theorem TD_day : SMok xs xl INV SMD12 := tabD (j := 12) rfl
theorem TD_judged : SMok xs xl INV SMD18 := tabD (j := 18) rfl
theorem TD_mark : SMok xs xl INV SMD21 := tabD (j := 21) rfl
end TB
