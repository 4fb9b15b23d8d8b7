/-! LM, by program: the table R holds -/
section TB
variable {xs : Nat → Int} {xl : Nat}
noncomputable def lowR (xs : Nat → Int) (xl : Nat) (S : SM) : Prop := ∀ k T, SMsR k = some T → T.2.1 < S.2.1 → SMok xs xl INV T
theorem all_cR {P : SM → Prop} {A : SM} {L : List SM} (h : P A) (hl : ∀ B ∈ L, P B) : ∀ B ∈ A :: L, P B := fun B hB => by
  rcases List.mem_cons.mp hB with rfl | q
  · exact h
  · exact hl B q
theorem all_nR {P : SM → Prop} : ∀ B ∈ ([] : List SM), P B := fun B hB => by cases hB
theorem all_lR {P : SM → Prop} {A : List SM} {L : List (List SM)} (h : ∀ B ∈ A, P B) (hl : ∀ C ∈ L, ∀ B ∈ C, P B) : ∀ C ∈ A :: L, ∀ B ∈ C, P B := fun C hC => by
  rcases List.mem_cons.mp hC with rfl | q
  · exact h
  · exact hl C q
theorem tbR_0 : ∀ S ∈ SMtR0, lowR xs xl S → SMok xs xl INV S := all_cR (fun hS => ai_ok INV_ok hS CKR0) (all_cR (fun hS => ai_ok INV_ok hS CKR1) (all_cR (fun hS => ai_ok INV_ok hS CKR2) (all_cR (fun hS => ai_ok INV_ok hS CKR3) (all_cR (fun hS => ai_ok INV_ok hS CKR4) (all_cR (fun hS => ai_ok INV_ok hS CKR5) (all_cR (fun hS => ai_ok INV_ok hS CKR6) (all_cR (fun hS => ai_ok INV_ok hS CKR7) (all_cR (fun hS => ai_ok INV_ok hS CKR8) (all_cR (fun hS => ai_ok INV_ok hS CKR9) (all_cR (fun hS => ai_ok INV_ok hS CKR10) (all_cR (fun hS => ai_ok INV_ok hS CKR11) (all_cR (fun hS => ai_ok INV_ok hS CKR12) (all_cR (fun hS => ai_ok INV_ok hS CKR13) (all_cR (fun hS => ai_ok INV_ok hS CKR14) (all_cR (fun hS => ai_ok INV_ok hS CKR15) (all_cR (fun _ => ok_leadsTo) (all_cR (fun hS => ai_ok INV_ok hS CKR17) (all_cR (fun hS => ai_ok INV_ok hS CKR18) (all_cR (fun hS => ai_ok INV_ok hS CKR19) (all_nR))))))))))))))))))))
theorem tbR_1 : ∀ S ∈ SMtR1, lowR xs xl S → SMok xs xl INV S := all_cR (fun _ => ok_keeps) (all_cR (fun hS => ai_ok INV_ok hS CKR21) (all_cR (fun hS => ai_ok INV_ok hS CKR22) (all_cR (fun hS => ai_ok INV_ok hS CKR23) (all_cR (fun hS => ai_ok INV_ok hS CKR24) (all_cR (fun hS => ai_ok INV_ok hS CKR25) (all_cR (fun hS => ai_ok INV_ok hS CKR26) (all_cR (fun hS => ai_ok INV_ok hS CKR27) (all_cR (fun hS => ai_ok INV_ok hS CKR28) (all_cR (fun hS => ai_ok INV_ok hS CKR29) (all_cR (fun hS => ai_ok INV_ok hS CKR30) (all_cR (fun hS => ai_ok INV_ok hS CKR31) (all_cR (fun hS => ai_ok INV_ok hS CKR32) (all_cR (fun hS => ai_ok INV_ok hS CKR33) (all_cR (fun hS => ai_ok INV_ok hS CKR34) (all_cR (fun hS => ai_ok INV_ok hS CKR35) (all_cR (fun hS => ai_ok INV_ok hS CKR36) (all_cR (fun _ => ok_closure) (all_cR (fun hS => ai_ok INV_ok hS CKR38) (all_cR (fun hS => ai_ok INV_ok hS CKR39) (all_nR))))))))))))))))))))
theorem tbR_2 : ∀ S ∈ SMtR2, lowR xs xl S → SMok xs xl INV S := all_cR (fun hS => ai_ok INV_ok hS CKR40) (all_cR (fun hS => ai_ok INV_ok hS CKR41) (all_cR (fun hS => ai_ok INV_ok hS CKR42) (all_cR (fun hS => ai_ok INV_ok hS CKR43) (all_cR (fun hS => ai_ok INV_ok hS CKR44) (all_cR (fun hS => ai_ok INV_ok hS CKR45) (all_cR (fun hS => ai_ok INV_ok hS CKR46) (all_cR (fun hS => ai_ok INV_ok hS CKR47) (all_cR (fun hS => ai_ok INV_ok hS CKR48) (all_cR (fun hS => ai_ok INV_ok hS CKR49) (all_cR (fun hS => ai_ok INV_ok hS CKR50) (all_cR (fun hS => ai_ok INV_ok hS CKR51) (all_cR (fun hS => ai_ok INV_ok hS CKR52) (all_cR (fun _ => ok_goesBy) (all_cR (fun hS => ai_ok INV_ok hS CKR54) (all_cR (fun hS => ai_ok INV_ok hS CKR55) (all_cR (fun hS => ai_ok INV_ok hS CKR56) (all_cR (fun hS => ai_ok INV_ok hS CKR57) (all_cR (fun hS => ai_ok INV_ok hS CKR58) (all_cR (fun hS => ai_ok INV_ok hS CKR59) (all_nR))))))))))))))))))))
theorem tbR_3 : ∀ S ∈ SMtR3, lowR xs xl S → SMok xs xl INV S := all_cR (fun _ => ok_starts) (all_cR (fun hS => ai_ok INV_ok hS CKR61) (all_cR (fun hS => ai_ok INV_ok hS CKR62) (all_cR (fun hS => ai_ok INV_ok hS CKR63) (all_cR (fun hS => ai_ok INV_ok hS CKR64) (all_cR (fun hS => ai_ok INV_ok hS CKR65) (all_cR (fun hS => ai_ok INV_ok hS CKR66) (all_cR (fun hS => ai_ok INV_ok hS CKR67) (all_cR (fun hS => ai_ok INV_ok hS CKR68) (all_cR (fun hS => ai_ok INV_ok hS CKR69) (all_cR (fun hS => ai_ok INV_ok hS CKR70) (all_nR)))))))))))
theorem tblR : ∀ C ∈ SMttR, ∀ S ∈ C, lowR xs xl S → SMok xs xl INV S := (all_lR tbR_0 (all_lR tbR_1 (all_lR tbR_2 (all_lR tbR_3 (fun C hC => by cases hC)))))
theorem tabR {j : Nat} {S : SM} (hj : SMsR j = some S) : SMok xs xl INV S := by
  refine tab_ok (SMs := SMsR) (fun j S hS hl => ?_) S.2.1 j S hj (Nat.le_refl _)
  unfold SMsR at hS
  rw [Option.bind_eq_some_iff] at hS
  obtain ⟨C, c1, c2⟩ := hS
  exact tblR C (List.mem_of_getElem? c1) S (List.mem_of_getElem? c2) hl
theorem TR_feed : SMok xs xl INV SMR1 := tabR (j := 1) rfl
theorem TR_door : SMok xs xl INV SMR6 := tabR (j := 6) rfl
theorem TR_person : SMok xs xl INV SMR11 := tabR (j := 11) rfl
theorem TR_leads : SMok xs xl INV SMR18 := tabR (j := 18) rfl
theorem TR_hours : SMok xs xl INV SMR22 := tabR (j := 22) rfl
theorem TR_shut : SMok xs xl INV SMR24 := tabR (j := 24) rfl
theorem TR_soonest : SMok xs xl INV SMR30 := tabR (j := 30) rfl
theorem TR_reach : SMok xs xl INV SMR31 := tabR (j := 31) rfl
theorem TR_stuck : SMok xs xl INV SMR34 := tabR (j := 34) rfl
theorem TR_ring : SMok xs xl INV SMR39 := tabR (j := 39) rfl
theorem TR_homeless : SMok xs xl INV SMR40 := tabR (j := 40) rfl
theorem TR_add : SMok xs xl INV SMR42 := tabR (j := 42) rfl
theorem TR_turn : SMok xs xl INV SMR44 := tabR (j := 44) rfl
theorem TR_cut : SMok xs xl INV SMR45 := tabR (j := 45) rfl
theorem TR_told : SMok xs xl INV SMR46 := tabR (j := 46) rfl
theorem TR_found : SMok xs xl INV SMR51 := tabR (j := 51) rfl
theorem TR_rests : SMok xs xl INV SMR54 := tabR (j := 54) rfl
theorem TR_chase : SMok xs xl INV SMR56 := tabR (j := 56) rfl
theorem TR_years : SMok xs xl INV SMR69 := tabR (j := 69) rfl
theorem TR_count : SMok xs xl INV SMR70 := tabR (j := 70) rfl
end TB
