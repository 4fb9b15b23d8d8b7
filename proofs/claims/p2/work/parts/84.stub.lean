/-! LM, by program: the table C holds -/
section TB
variable {xs : Nat → Int} {xl : Nat}
def lowC (xs : Nat → Int) (xl : Nat) (S : SM) : Prop := ∀ k T, SMsC k = some T → T.2.1 < S.2.1 → SMok xs xl INV T
theorem all_cC {P : SM → Prop} {A : SM} {L : List SM} (h : P A) (hl : ∀ B ∈ L, P B) : ∀ B ∈ A :: L, P B := fun B hB => by
  rcases List.mem_cons.mp hB with rfl | q
  · exact h
  · exact hl B q
theorem all_nC {P : SM → Prop} : ∀ B ∈ ([] : List SM), P B := fun B hB => by cases hB
theorem all_lC {P : SM → Prop} {A : List SM} {L : List (List SM)} (h : ∀ B ∈ A, P B) (hl : ∀ C ∈ L, ∀ B ∈ C, P B) : ∀ C ∈ A :: L, ∀ B ∈ C, P B := fun C hC => by
  rcases List.mem_cons.mp hC with rfl | q
  · exact h
  · exact hl C q
theorem tabC {j : Nat} {S : SM} (hj : SMsC j = some S) : SMok xs xl INV S := sorry
theorem TC_step : SMok xs xl INV SMC6 := tabC (j := 6) rfl
theorem TC_begin : SMok xs xl INV SMC7 := tabC (j := 7) rfl
theorem TC_isName : SMok xs xl INV SMC14 := tabC (j := 14) rfl
theorem TC_isSign : SMok xs xl INV SMC12 := tabC (j := 12) rfl
theorem TC_personNamed_5 : SMok xs xl INV SMC16 := tabC (j := 16) rfl
theorem TC_doorNamed_5 : SMok xs xl INV SMC15 := tabC (j := 15) rfl
theorem TC_tryDoor_5 : SMok xs xl INV SMC273 := tabC (j := 273) rfl
theorem TC_into_5 : SMok xs xl INV SMC304 := tabC (j := 304) rfl
theorem TC_personNamed_32 : SMok xs xl INV SMC75 := tabC (j := 75) rfl
theorem TC_doorNamed_32 : SMok xs xl INV SMC74 := tabC (j := 74) rfl
theorem TC_tryDoor_32 : SMok xs xl INV SMC283 := tabC (j := 283) rfl
theorem TC_into_32 : SMok xs xl INV SMC307 := tabC (j := 307) rfl
theorem TC_pass : SMok xs xl INV SMC278 := tabC (j := 278) rfl
theorem TC_copy_102 : SMok xs xl INV SMC308 := tabC (j := 308) rfl
theorem TC_copyB_102 : SMok xs xl INV SMC309 := tabC (j := 309) rfl
theorem TC_copy_110 : SMok xs xl INV SMC310 := tabC (j := 310) rfl
theorem TC_copyB_110 : SMok xs xl INV SMC311 := tabC (j := 311) rfl
theorem TC_copy_118 : SMok xs xl INV SMC312 := tabC (j := 312) rfl
theorem TC_copyB_118 : SMok xs xl INV SMC313 := tabC (j := 313) rfl
theorem TC_copy_126 : SMok xs xl INV SMC314 := tabC (j := 314) rfl
theorem TC_copyB_126 : SMok xs xl INV SMC315 := tabC (j := 315) rfl
theorem TC_fill_85 : SMok xs xl INV SMC316 := tabC (j := 316) rfl
theorem TC_fill_86 : SMok xs xl INV SMC317 := tabC (j := 317) rfl
theorem TC_fill_87 : SMok xs xl INV SMC318 := tabC (j := 318) rfl
theorem TC_quarter : SMok xs xl INV SMC135 := tabC (j := 135) rfl
theorem TC_door : SMok xs xl INV SMC137 := tabC (j := 137) rfl
theorem TC_person : SMok xs xl INV SMC139 := tabC (j := 139) rfl
theorem TC_leads : SMok xs xl INV SMC148 := tabC (j := 148) rfl
theorem TC_go : SMok xs xl INV SMC154 := tabC (j := 154) rfl
theorem TC_hours : SMok xs xl INV SMC158 := tabC (j := 158) rfl
theorem TC_shut : SMok xs xl INV SMC159 := tabC (j := 159) rfl
theorem TC_undo : SMok xs xl INV SMC161 := tabC (j := 161) rfl
theorem TC_soonest : SMok xs xl INV SMC169 := tabC (j := 169) rfl
theorem TC_errand : SMok xs xl INV SMC188 := tabC (j := 188) rfl
theorem TC_reach : SMok xs xl INV SMC191 := tabC (j := 191) rfl
theorem TC_stuck : SMok xs xl INV SMC192 := tabC (j := 192) rfl
theorem TC_ring : SMok xs xl INV SMC199 := tabC (j := 199) rfl
theorem TC_homeless : SMok xs xl INV SMC200 := tabC (j := 200) rfl
theorem TC_add : SMok xs xl INV SMC205 := tabC (j := 205) rfl
theorem TC_turn : SMok xs xl INV SMC211 := tabC (j := 211) rfl
theorem TC_cut : SMok xs xl INV SMC214 := tabC (j := 214) rfl
theorem TC_told : SMok xs xl INV SMC216 := tabC (j := 216) rfl
theorem TC_found : SMok xs xl INV SMC242 := tabC (j := 242) rfl
theorem TC_rests : SMok xs xl INV SMC263 := tabC (j := 263) rfl
theorem TC_chase : SMok xs xl INV SMC268 := tabC (j := 268) rfl
theorem TC_run : SMok xs xl INV SMC288 := tabC (j := 288) rfl
theorem TC_years : SMok xs xl INV SMC300 := tabC (j := 300) rfl
theorem TC_count : SMok xs xl INV SMC301 := tabC (j := 301) rfl
end TB
