section
/-! LM, by program: the table C holds -/
section TB
variable {xs : Nat → Int} {xl : Nat}
def lowC (xs : Nat → Int) (xl : Nat) (S : SM) : Prop := ∀ k T, SMsC k = some T → T.2.1 < S.2.1 → SMok xs xl INV T
theorem all_cC {P : SM → Prop} {A : SM} {L : List SM} (h : P A) (hl : ∀ B ∈ L, P B) : ∀ B ∈ A :: L, P B := fun B hB => by
  rcases List.mem_cons.mp hB with rfl | q
  · exact h
  · exact hl B q
theorem all_nC {P : SM → Prop} : ∀ B ∈ ([] : List SM), P B := fun B hB => by cases hB
theorem all_lC {P : SM → Prop} {A : List SM} {L : List (List SM)} (h : ∀ B ∈ A, P B) (hl : ∀ C ∈ L, ∀ B ∈ C, P B) : ∀ C ∈ A :: L, ∀ B ∈ C, P B := fun C hC => by
  rcases List.mem_cons.mp hC with rfl | q
  · exact h
  · exact hl C q
theorem tbC_0 : ∀ S ∈ SMtC0, lowC xs xl S → SMok xs xl INV S := all_cC (fun hS => ai_ok INV_ok hS CKC0) (all_cC (fun hS => ai_ok INV_ok hS CKC1) (all_cC (fun hS => ai_ok INV_ok hS CKC2) (all_cC (fun hS => ai_ok INV_ok hS CKC3) (all_cC (fun hS => ai_ok INV_ok hS CKC4) (all_cC (fun hS => ai_ok INV_ok hS CKC5) (all_cC (fun hS => ai_ok INV_ok hS CKC6) (all_cC (fun hS => ai_ok INV_ok hS CKC7) (all_cC (fun hS => ai_ok INV_ok hS CKC8) (all_cC (fun hS => ai_ok INV_ok hS CKC9) (all_cC (fun hS => ai_ok INV_ok hS CKC10) (all_cC (fun hS => ai_ok INV_ok hS CKC11) (all_cC (fun hS => ai_ok INV_ok hS CKC12) (all_cC (fun hS => ai_ok INV_ok hS CKC13) (all_cC (fun hS => ai_ok INV_ok hS CKC14) (all_cC (fun hS => ai_ok INV_ok hS CKC15) (all_cC (fun hS => ai_ok INV_ok hS CKC16) (all_cC (fun hS => ai_ok INV_ok hS CKC17) (all_cC (fun hS => ai_ok INV_ok hS CKC18) (all_cC (fun hS => ai_ok INV_ok hS CKC19) (all_nC))))))))))))))))))))
theorem tbC_1 : ∀ S ∈ SMtC1, lowC xs xl S → SMok xs xl INV S := all_cC (fun hS => ai_ok INV_ok hS CKC20) (all_cC (fun hS => ai_ok INV_ok hS CKC21) (all_cC (fun hS => ai_ok INV_ok hS CKC22) (all_cC (fun hS => ai_ok INV_ok hS CKC23) (all_cC (fun hS => ai_ok INV_ok hS CKC24) (all_cC (fun hS => ai_ok INV_ok hS CKC25) (all_cC (fun hS => ai_ok INV_ok hS CKC26) (all_cC (fun hS => ai_ok INV_ok hS CKC27) (all_cC (fun hS => ai_ok INV_ok hS CKC28) (all_cC (fun hS => ai_ok INV_ok hS CKC29) (all_cC (fun hS => ai_ok INV_ok hS CKC30) (all_cC (fun hS => ai_ok INV_ok hS CKC31) (all_cC (fun hS => ai_ok INV_ok hS CKC32) (all_cC (fun hS => ai_ok INV_ok hS CKC33) (all_cC (fun hS => ai_ok INV_ok hS CKC34) (all_cC (fun hS => ai_ok INV_ok hS CKC35) (all_cC (fun hS => ai_ok INV_ok hS CKC36) (all_cC (fun hS => ai_ok INV_ok hS CKC37) (all_cC (fun hS => ai_ok INV_ok hS CKC38) (all_cC (fun hS => ai_ok INV_ok hS CKC39) (all_nC))))))))))))))))))))
theorem tbC_2 : ∀ S ∈ SMtC2, lowC xs xl S → SMok xs xl INV S := all_cC (fun hS => ai_ok INV_ok hS CKC40) (all_cC (fun hS => ai_ok INV_ok hS CKC41) (all_cC (fun hS => ai_ok INV_ok hS CKC42) (all_cC (fun hS => ai_ok INV_ok hS CKC43) (all_cC (fun hS => ai_ok INV_ok hS CKC44) (all_cC (fun hS => ai_ok INV_ok hS CKC45) (all_cC (fun hS => ai_ok INV_ok hS CKC46) (all_cC (fun hS => ai_ok INV_ok hS CKC47) (all_cC (fun hS => ai_ok INV_ok hS CKC48) (all_cC (fun hS => ai_ok INV_ok hS CKC49) (all_cC (fun hS => ai_ok INV_ok hS CKC50) (all_cC (fun hS => ai_ok INV_ok hS CKC51) (all_cC (fun hS => ai_ok INV_ok hS CKC52) (all_cC (fun hS => ai_ok INV_ok hS CKC53) (all_cC (fun hS => ai_ok INV_ok hS CKC54) (all_cC (fun hS => ai_ok INV_ok hS CKC55) (all_cC (fun hS => ai_ok INV_ok hS CKC56) (all_cC (fun hS => ai_ok INV_ok hS CKC57) (all_cC (fun hS => ai_ok INV_ok hS CKC58) (all_cC (fun hS => ai_ok INV_ok hS CKC59) (all_nC))))))))))))))))))))
theorem tbC_3 : ∀ S ∈ SMtC3, lowC xs xl S → SMok xs xl INV S := all_cC (fun hS => ai_ok INV_ok hS CKC60) (all_cC (fun hS => ai_ok INV_ok hS CKC61) (all_cC (fun hS => ai_ok INV_ok hS CKC62) (all_cC (fun hS => ai_ok INV_ok hS CKC63) (all_cC (fun hS => ai_ok INV_ok hS CKC64) (all_cC (fun hS => ai_ok INV_ok hS CKC65) (all_cC (fun hS => ai_ok INV_ok hS CKC66) (all_cC (fun hS => ai_ok INV_ok hS CKC67) (all_cC (fun hS => ai_ok INV_ok hS CKC68) (all_cC (fun hS => ai_ok INV_ok hS CKC69) (all_cC (fun hS => ai_ok INV_ok hS CKC70) (all_cC (fun hS => ai_ok INV_ok hS CKC71) (all_cC (fun hS => ai_ok INV_ok hS CKC72) (all_cC (fun hS => ai_ok INV_ok hS CKC73) (all_cC (fun hS => ai_ok INV_ok hS CKC74) (all_cC (fun hS => ai_ok INV_ok hS CKC75) (all_cC (fun hS => ai_ok INV_ok hS CKC76) (all_cC (fun hS => ai_ok INV_ok hS CKC77) (all_cC (fun hS => ai_ok INV_ok hS CKC78) (all_cC (fun hS => ai_ok INV_ok hS CKC79) (all_nC))))))))))))))))))))
theorem tbC_4 : ∀ S ∈ SMtC4, lowC xs xl S → SMok xs xl INV S := all_cC (fun hS => ai_ok INV_ok hS CKC80) (all_cC (fun hS => ai_ok INV_ok hS CKC81) (all_cC (fun hS => ai_ok INV_ok hS CKC82) (all_cC (fun hS => ai_ok INV_ok hS CKC83) (all_cC (fun hS => ai_ok INV_ok hS CKC84) (all_cC (fun hS => ai_ok INV_ok hS CKC85) (all_cC (fun hS => ai_ok INV_ok hS CKC86) (all_cC (fun hS => ai_ok INV_ok hS CKC87) (all_cC (fun hS => ai_ok INV_ok hS CKC88) (all_cC (fun hS => ai_ok INV_ok hS CKC89) (all_cC (fun hS => ai_ok INV_ok hS CKC90) (all_cC (fun hS => ai_ok INV_ok hS CKC91) (all_cC (fun hS => ai_ok INV_ok hS CKC92) (all_cC (fun hS => ai_ok INV_ok hS CKC93) (all_cC (fun hS => ai_ok INV_ok hS CKC94) (all_cC (fun hS => ai_ok INV_ok hS CKC95) (all_cC (fun hS => ai_ok INV_ok hS CKC96) (all_cC (fun hS => ai_ok INV_ok hS CKC97) (all_cC (fun hS => ai_ok INV_ok hS CKC98) (all_cC (fun hS => ai_ok INV_ok hS CKC99) (all_nC))))))))))))))))))))
theorem tbC_5 : ∀ S ∈ SMtC5, lowC xs xl S → SMok xs xl INV S := all_cC (fun hS => ai_ok INV_ok hS CKC100) (all_cC (fun hS => ai_ok INV_ok hS CKC101) (all_cC (fun hS => ai_ok INV_ok hS CKC102) (all_cC (fun hS => ai_ok INV_ok hS CKC103) (all_cC (fun hS => ai_ok INV_ok hS CKC104) (all_cC (fun hS => ai_ok INV_ok hS CKC105) (all_cC (fun hS => ai_ok INV_ok hS CKC106) (all_cC (fun hS => ai_ok INV_ok hS CKC107) (all_cC (fun hS => ai_ok INV_ok hS CKC108) (all_cC (fun hS => ai_ok INV_ok hS CKC109) (all_cC (fun hS => ai_ok INV_ok hS CKC110) (all_cC (fun hS => ai_ok INV_ok hS CKC111) (all_cC (fun hS => ai_ok INV_ok hS CKC112) (all_cC (fun hS => ai_ok INV_ok hS CKC113) (all_cC (fun hS => ai_ok INV_ok hS CKC114) (all_cC (fun hS => ai_ok INV_ok hS CKC115) (all_cC (fun hS => ai_ok INV_ok hS CKC116) (all_cC (fun hS => ai_ok INV_ok hS CKC117) (all_cC (fun hS => ai_ok INV_ok hS CKC118) (all_cC (fun hS => ai_ok INV_ok hS CKC119) (all_nC))))))))))))))))))))
theorem tbC_6 : ∀ S ∈ SMtC6, lowC xs xl S → SMok xs xl INV S := all_cC (fun hS => ai_ok INV_ok hS CKC120) (all_cC (fun hS => ai_ok INV_ok hS CKC121) (all_cC (fun hS => ai_ok INV_ok hS CKC122) (all_cC (fun hS => ai_ok INV_ok hS CKC123) (all_cC (fun hS => ai_ok INV_ok hS CKC124) (all_cC (fun hS => ai_ok INV_ok hS CKC125) (all_cC (fun hS => ai_ok INV_ok hS CKC126) (all_cC (fun hS => ai_ok INV_ok hS CKC127) (all_cC (fun hS => ai_ok INV_ok hS CKC128) (all_cC (fun hS => ai_ok INV_ok hS CKC129) (all_cC (fun hS => ai_ok INV_ok hS CKC130) (all_cC (fun hS => ai_ok INV_ok hS CKC131) (all_cC (fun hS => ai_ok INV_ok hS CKC132) (all_cC (fun hS => ai_ok INV_ok hS CKC133) (all_cC (fun hS => ai_ok INV_ok hS CKC134) (all_cC (fun hS => ai_ok INV_ok hS CKC135) (all_cC (fun hS => ai_ok INV_ok hS CKC136) (all_cC (fun hS => ai_ok INV_ok hS CKC137) (all_cC (fun hS => ai_ok INV_ok hS CKC138) (all_cC (fun hS => ai_ok INV_ok hS CKC139) (all_nC))))))))))))))))))))
theorem tbC_7 : ∀ S ∈ SMtC7, lowC xs xl S → SMok xs xl INV S := all_cC (fun hS => ai_ok INV_ok hS CKC140) (all_cC (fun hS => ai_ok INV_ok hS CKC141) (all_cC (fun hS => ai_ok INV_ok hS CKC142) (all_cC (fun hS => ai_ok INV_ok hS CKC143) (all_cC (fun hS => ai_ok INV_ok hS CKC144) (all_cC (fun hS => ai_ok INV_ok hS CKC145) (all_cC (fun hS => ai_ok INV_ok hS CKC146) (all_cC (fun hS => ai_ok INV_ok hS CKC147) (all_cC (fun hS => ai_ok INV_ok hS CKC148) (all_cC (fun hS => ai_ok INV_ok hS CKC149) (all_cC (fun hS => ai_ok INV_ok hS CKC150) (all_cC (fun hS => ai_ok INV_ok hS CKC151) (all_cC (fun hS => ai_ok INV_ok hS CKC152) (all_cC (fun hS => ai_ok INV_ok hS CKC153) (all_cC (fun hS => ai_ok INV_ok hS CKC154) (all_cC (fun hS => ai_ok INV_ok hS CKC155) (all_cC (fun hS => ai_ok INV_ok hS CKC156) (all_cC (fun hS => ai_ok INV_ok hS CKC157) (all_cC (fun hS => ai_ok INV_ok hS CKC158) (all_cC (fun hS => ai_ok INV_ok hS CKC159) (all_nC))))))))))))))))))))
theorem tbC_8 : ∀ S ∈ SMtC8, lowC xs xl S → SMok xs xl INV S := all_cC (fun hS => ai_ok INV_ok hS CKC160) (all_cC (fun hS => ai_ok INV_ok hS CKC161) (all_cC (fun hS => ai_ok INV_ok hS CKC162) (all_cC (fun hS => ai_ok INV_ok hS CKC163) (all_cC (fun hS => ai_ok INV_ok hS CKC164) (all_cC (fun hS => ai_ok INV_ok hS CKC165) (all_cC (fun hS => ai_ok INV_ok hS CKC166) (all_cC (fun hS => ai_ok INV_ok hS CKC167) (all_cC (fun hS => ai_ok INV_ok hS CKC168) (all_cC (fun hS => ai_ok INV_ok hS CKC169) (all_cC (fun hS => ai_ok INV_ok hS CKC170) (all_cC (fun hS => ai_ok INV_ok hS CKC171) (all_cC (fun hS => ai_ok INV_ok hS CKC172) (all_cC (fun hS => ai_ok INV_ok hS CKC173) (all_cC (fun hS => ai_ok INV_ok hS CKC174) (all_cC (fun hS => ai_ok INV_ok hS CKC175) (all_cC (fun hS => ai_ok INV_ok hS CKC176) (all_cC (fun hS => ai_ok INV_ok hS CKC177) (all_cC (fun hS => ai_ok INV_ok hS CKC178) (all_cC (fun hS => ai_ok INV_ok hS CKC179) (all_nC))))))))))))))))))))
theorem tbC_9 : ∀ S ∈ SMtC9, lowC xs xl S → SMok xs xl INV S := all_cC (fun hS => ai_ok INV_ok hS CKC180) (all_cC (fun hS => ai_ok INV_ok hS CKC181) (all_cC (fun hS => ai_ok INV_ok hS CKC182) (all_cC (fun hS => ai_ok INV_ok hS CKC183) (all_cC (fun hS => ai_ok INV_ok hS CKC184) (all_cC (fun hS => ai_ok INV_ok hS CKC185) (all_cC (fun hS => ai_ok INV_ok hS CKC186) (all_cC (fun hS => ai_ok INV_ok hS CKC187) (all_cC (fun hS => ai_ok INV_ok hS CKC188) (all_cC (fun hS => ai_ok INV_ok hS CKC189) (all_cC (fun hS => ai_ok INV_ok hS CKC190) (all_cC (fun hS => ai_ok INV_ok hS CKC191) (all_cC (fun hS => ai_ok INV_ok hS CKC192) (all_cC (fun hS => ai_ok INV_ok hS CKC193) (all_cC (fun hS => ai_ok INV_ok hS CKC194) (all_cC (fun hS => ai_ok INV_ok hS CKC195) (all_cC (fun hS => ai_ok INV_ok hS CKC196) (all_cC (fun hS => ai_ok INV_ok hS CKC197) (all_cC (fun hS => ai_ok INV_ok hS CKC198) (all_cC (fun hS => ai_ok INV_ok hS CKC199) (all_nC))))))))))))))))))))
theorem tbC_10 : ∀ S ∈ SMtC10, lowC xs xl S → SMok xs xl INV S := all_cC (fun hS => ai_ok INV_ok hS CKC200) (all_cC (fun hS => ai_ok INV_ok hS CKC201) (all_cC (fun hS => ai_ok INV_ok hS CKC202) (all_cC (fun hS => ai_ok INV_ok hS CKC203) (all_cC (fun hS => ai_ok INV_ok hS CKC204) (all_cC (fun hS => ai_ok INV_ok hS CKC205) (all_cC (fun hS => ai_ok INV_ok hS CKC206) (all_cC (fun hS => ai_ok INV_ok hS CKC207) (all_cC (fun hS => ai_ok INV_ok hS CKC208) (all_cC (fun hS => ai_ok INV_ok hS CKC209) (all_cC (fun hS => ai_ok INV_ok hS CKC210) (all_cC (fun hS => ai_ok INV_ok hS CKC211) (all_cC (fun hS => ai_ok INV_ok hS CKC212) (all_cC (fun hS => ai_ok INV_ok hS CKC213) (all_cC (fun hS => ai_ok INV_ok hS CKC214) (all_cC (fun hS => ai_ok INV_ok hS CKC215) (all_cC (fun hS => ai_ok INV_ok hS CKC216) (all_cC (fun hS => ai_ok INV_ok hS CKC217) (all_cC (fun hS => ai_ok INV_ok hS CKC218) (all_cC (fun hS => ai_ok INV_ok hS CKC219) (all_nC))))))))))))))))))))
theorem tbC_11 : ∀ S ∈ SMtC11, lowC xs xl S → SMok xs xl INV S := all_cC (fun hS => ai_ok INV_ok hS CKC220) (all_cC (fun hS => ai_ok INV_ok hS CKC221) (all_cC (fun hS => ai_ok INV_ok hS CKC222) (all_cC (fun hS => ai_ok INV_ok hS CKC223) (all_cC (fun hS => ai_ok INV_ok hS CKC224) (all_cC (fun hS => ai_ok INV_ok hS CKC225) (all_cC (fun hS => ai_ok INV_ok hS CKC226) (all_cC (fun hS => ai_ok INV_ok hS CKC227) (all_cC (fun hS => ai_ok INV_ok hS CKC228) (all_cC (fun hS => ai_ok INV_ok hS CKC229) (all_cC (fun hS => ai_ok INV_ok hS CKC230) (all_cC (fun hS => ai_ok INV_ok hS CKC231) (all_cC (fun hS => ai_ok INV_ok hS CKC232) (all_cC (fun hS => ai_ok INV_ok hS CKC233) (all_cC (fun hS => ai_ok INV_ok hS CKC234) (all_cC (fun hS => ai_ok INV_ok hS CKC235) (all_cC (fun hS => ai_ok INV_ok hS CKC236) (all_cC (fun hS => ai_ok INV_ok hS CKC237) (all_cC (fun hS => ai_ok INV_ok hS CKC238) (all_cC (fun hS => ai_ok INV_ok hS CKC239) (all_nC))))))))))))))))))))
theorem tbC_12 : ∀ S ∈ SMtC12, lowC xs xl S → SMok xs xl INV S := all_cC (fun hS => ai_ok INV_ok hS CKC240) (all_cC (fun hS => ai_ok INV_ok hS CKC241) (all_cC (fun hS => ai_ok INV_ok hS CKC242) (all_cC (fun hS => ai_ok INV_ok hS CKC243) (all_cC (fun hS => ai_ok INV_ok hS CKC244) (all_cC (fun hS => ai_ok INV_ok hS CKC245) (all_cC (fun hS => ai_ok INV_ok hS CKC246) (all_cC (fun hS => ai_ok INV_ok hS CKC247) (all_cC (fun hS => ai_ok INV_ok hS CKC248) (all_cC (fun hS => ai_ok INV_ok hS CKC249) (all_cC (fun hS => ai_ok INV_ok hS CKC250) (all_cC (fun hS => ai_ok INV_ok hS CKC251) (all_cC (fun hS => ai_ok INV_ok hS CKC252) (all_cC (fun hS => ai_ok INV_ok hS CKC253) (all_cC (fun hS => ai_ok INV_ok hS CKC254) (all_cC (fun hS => ai_ok INV_ok hS CKC255) (all_cC (fun hS => ai_ok INV_ok hS CKC256) (all_cC (fun hS => ai_ok INV_ok hS CKC257) (all_cC (fun hS => ai_ok INV_ok hS CKC258) (all_cC (fun hS => ai_ok INV_ok hS CKC259) (all_nC))))))))))))))))))))
theorem tbC_13 : ∀ S ∈ SMtC13, lowC xs xl S → SMok xs xl INV S := all_cC (fun hS => ai_ok INV_ok hS CKC260) (all_cC (fun hS => ai_ok INV_ok hS CKC261) (all_cC (fun hS => ai_ok INV_ok hS CKC262) (all_cC (fun hS => ai_ok INV_ok hS CKC263) (all_cC (fun hS => ai_ok INV_ok hS CKC264) (all_cC (fun hS => ai_ok INV_ok hS CKC265) (all_cC (fun hS => ai_ok INV_ok hS CKC266) (all_cC (fun hS => ai_ok INV_ok hS CKC267) (all_cC (fun hS => ai_ok INV_ok hS CKC268) (all_cC (fun hS => ai_ok INV_ok hS CKC269) (all_cC (fun hS => ai_ok INV_ok hS CKC270) (all_cC (fun hS => ai_ok INV_ok hS CKC271) (all_cC (fun hS => ai_ok INV_ok hS CKC272) (all_cC (fun hS => ai_ok INV_ok hS CKC273) (all_cC (fun hS => ai_ok INV_ok hS CKC274) (all_cC (fun hS => ai_ok INV_ok hS CKC275) (all_cC (fun hS => ai_ok INV_ok hS CKC276) (all_cC (fun hS => ai_ok INV_ok hS CKC277) (all_cC (fun hS => ai_ok INV_ok hS CKC278) (all_cC (fun hS => ai_ok INV_ok hS CKC279) (all_nC))))))))))))))))))))
theorem tbC_14 : ∀ S ∈ SMtC14, lowC xs xl S → SMok xs xl INV S := all_cC (fun hS => ai_ok INV_ok hS CKC280) (all_cC (fun hS => ai_ok INV_ok hS CKC281) (all_cC (fun hS => ai_ok INV_ok hS CKC282) (all_cC (fun hS => ai_ok INV_ok hS CKC283) (all_cC (fun hS => ai_ok INV_ok hS CKC284) (all_cC (fun hS => ai_ok INV_ok hS CKC285) (all_cC (fun hS => ai_ok INV_ok hS CKC286) (all_cC (fun hS => ai_ok INV_ok hS CKC287) (all_cC (fun hS => ai_ok INV_ok hS CKC288) (all_cC (fun hS => ai_ok INV_ok hS CKC289) (all_cC (fun hS => ai_ok INV_ok hS CKC290) (all_cC (fun hS => ai_ok INV_ok hS CKC291) (all_cC (fun hS => ai_ok INV_ok hS CKC292) (all_cC (fun hS => ai_ok INV_ok hS CKC293) (all_cC (fun hS => ai_ok INV_ok hS CKC294) (all_cC (fun hS => ai_ok INV_ok hS CKC295) (all_cC (fun hS => ai_ok INV_ok hS CKC296) (all_cC (fun hS => ai_ok INV_ok hS CKC297) (all_cC (fun hS => ai_ok INV_ok hS CKC298) (all_cC (fun hS => ai_ok INV_ok hS CKC299) (all_nC))))))))))))))))))))
theorem tbC_15 : ∀ S ∈ SMtC15, lowC xs xl S → SMok xs xl INV S := all_cC (fun hS => ai_ok INV_ok hS CKC300) (all_cC (fun hS => ai_ok INV_ok hS CKC301) (all_cC (fun hS => ai_ok INV_ok hS CKC302) (all_cC (fun hS => ai_ok INV_ok hS CKC303) (all_cC (fun hS => ai_ok INV_ok hS CKC304) (all_cC (fun hS => ai_ok INV_ok hS CKC305) (all_cC (fun hS => ai_ok INV_ok hS CKC306) (all_cC (fun hS => ai_ok INV_ok hS CKC307) (all_cC (fun hS => ai_ok INV_ok hS CKC308) (all_cC (fun hS => ai_ok INV_ok hS CKC309) (all_cC (fun hS => ai_ok INV_ok hS CKC310) (all_cC (fun hS => ai_ok INV_ok hS CKC311) (all_cC (fun hS => ai_ok INV_ok hS CKC312) (all_cC (fun hS => ai_ok INV_ok hS CKC313) (all_cC (fun hS => ai_ok INV_ok hS CKC314) (all_cC (fun hS => ai_ok INV_ok hS CKC315) (all_cC (fun hS => ai_ok INV_ok hS CKC316) (all_cC (fun hS => ai_ok INV_ok hS CKC317) (all_cC (fun hS => ai_ok INV_ok hS CKC318) (all_nC)))))))))))))))))))
theorem tblC : ∀ C ∈ SMttC, ∀ S ∈ C, lowC xs xl S → SMok xs xl INV S := (all_lC tbC_0 (all_lC tbC_1 (all_lC tbC_2 (all_lC tbC_3 (all_lC tbC_4 (all_lC tbC_5 (all_lC tbC_6 (all_lC tbC_7 (all_lC tbC_8 (all_lC tbC_9 (all_lC tbC_10 (all_lC tbC_11 (all_lC tbC_12 (all_lC tbC_13 (all_lC tbC_14 (all_lC tbC_15 (fun C hC => by cases hC)))))))))))))))))
theorem tabC {j : Nat} {S : SM} (hj : SMsC j = some S) : SMok xs xl INV S := by
  refine tab_ok (SMs := SMsC) (fun j S hS hl => ?_) S.2.1 j S hj (Nat.le_refl _)
  unfold SMsC at hS
  rw [Option.bind_eq_some_iff] at hS
  obtain ⟨C, c1, c2⟩ := hS
  exact tblC C (List.mem_of_getElem? c1) S (List.mem_of_getElem? c2) hl
theorem TC_step : SMok xs xl INV SMC6 := tabC (j := 6) rfl
theorem TC_begin : SMok xs xl INV SMC7 := tabC (j := 7) rfl
theorem TC_isName : SMok xs xl INV SMC14 := tabC (j := 14) rfl
theorem TC_isSign : SMok xs xl INV SMC12 := tabC (j := 12) rfl
theorem TC_personNamed_5 : SMok xs xl INV SMC16 := tabC (j := 16) rfl
theorem TC_doorNamed_5 : SMok xs xl INV SMC15 := tabC (j := 15) rfl
theorem TC_tryDoor_5 : SMok xs xl INV SMC273 := tabC (j := 273) rfl
theorem TC_into_5 : SMok xs xl INV SMC304 := tabC (j := 304) rfl
theorem TC_personNamed_32 : SMok xs xl INV SMC75 := tabC (j := 75) rfl
theorem TC_doorNamed_32 : SMok xs xl INV SMC74 := tabC (j := 74) rfl
theorem TC_tryDoor_32 : SMok xs xl INV SMC283 := tabC (j := 283) rfl
theorem TC_into_32 : SMok xs xl INV SMC307 := tabC (j := 307) rfl
theorem TC_pass : SMok xs xl INV SMC278 := tabC (j := 278) rfl
theorem TC_copy_102 : SMok xs xl INV SMC308 := tabC (j := 308) rfl
theorem TC_copyB_102 : SMok xs xl INV SMC309 := tabC (j := 309) rfl
theorem TC_copy_110 : SMok xs xl INV SMC310 := tabC (j := 310) rfl
theorem TC_copyB_110 : SMok xs xl INV SMC311 := tabC (j := 311) rfl
theorem TC_copy_118 : SMok xs xl INV SMC312 := tabC (j := 312) rfl
theorem TC_copyB_118 : SMok xs xl INV SMC313 := tabC (j := 313) rfl
theorem TC_copy_126 : SMok xs xl INV SMC314 := tabC (j := 314) rfl
theorem TC_copyB_126 : SMok xs xl INV SMC315 := tabC (j := 315) rfl
theorem TC_fill_85 : SMok xs xl INV SMC316 := tabC (j := 316) rfl
theorem TC_fill_86 : SMok xs xl INV SMC317 := tabC (j := 317) rfl
theorem TC_fill_87 : SMok xs xl INV SMC318 := tabC (j := 318) rfl
theorem TC_quarter : SMok xs xl INV SMC135 := tabC (j := 135) rfl
theorem TC_door : SMok xs xl INV SMC137 := tabC (j := 137) rfl
theorem TC_person : SMok xs xl INV SMC139 := tabC (j := 139) rfl
theorem TC_leads : SMok xs xl INV SMC148 := tabC (j := 148) rfl
theorem TC_go : SMok xs xl INV SMC154 := tabC (j := 154) rfl
theorem TC_hours : SMok xs xl INV SMC158 := tabC (j := 158) rfl
theorem TC_shut : SMok xs xl INV SMC159 := tabC (j := 159) rfl
theorem TC_undo : SMok xs xl INV SMC161 := tabC (j := 161) rfl
theorem TC_soonest : SMok xs xl INV SMC169 := tabC (j := 169) rfl
theorem TC_errand : SMok xs xl INV SMC188 := tabC (j := 188) rfl
theorem TC_reach : SMok xs xl INV SMC191 := tabC (j := 191) rfl
theorem TC_stuck : SMok xs xl INV SMC192 := tabC (j := 192) rfl
theorem TC_ring : SMok xs xl INV SMC199 := tabC (j := 199) rfl
theorem TC_homeless : SMok xs xl INV SMC200 := tabC (j := 200) rfl
theorem TC_add : SMok xs xl INV SMC205 := tabC (j := 205) rfl
theorem TC_turn : SMok xs xl INV SMC211 := tabC (j := 211) rfl
theorem TC_cut : SMok xs xl INV SMC214 := tabC (j := 214) rfl
theorem TC_told : SMok xs xl INV SMC216 := tabC (j := 216) rfl
theorem TC_found : SMok xs xl INV SMC242 := tabC (j := 242) rfl
theorem TC_rests : SMok xs xl INV SMC263 := tabC (j := 263) rfl
theorem TC_chase : SMok xs xl INV SMC268 := tabC (j := 268) rfl
theorem TC_run : SMok xs xl INV SMC288 := tabC (j := 288) rfl
theorem TC_years : SMok xs xl INV SMC300 := tabC (j := 300) rfl
theorem TC_count : SMok xs xl INV SMC301 := tabC (j := 301) rfl
end TB
end
section
/-! LM, part 90, by program (wip/p2/gen90.py): what the class's methods by hand call -/
theorem gAr_c {a : AV} {l : List AV} {v : LV} {vs : List LV} (h1 : gV a v) (h2 : gAr l vs) : gAr (a :: l) (v :: vs) := ⟨h1, h2⟩
theorem gAr_n : gAr [] [] := trivial
theorem inBx_f {bs : BX} {a i : Int} (h : ∀ b ∈ bs, ¬ (b.1 ≤ a ∧ a ≤ b.2.1 ∧ b.2.2.1 ≤ i ∧ i ≤ b.2.2.2)) : inBx bs a i = false := by
  unfold inBx
  rw [List.any_eq_false]
  intro b hb q
  simp only [Bool.and_eq_true, decide_eq_true_eq] at q
  exact h b hb ⟨q.1.1.1, q.1.1.2, q.1.2, q.2⟩
section KS
variable {xs : Nat → Int} {xl e : Nat} {h : LH} {Q : Option LV → LH → Prop}
theorem K_step (he : 3 ≤ e) (hI : INV h) (k : ∀ h', INV h' → (∀ a i, ¬ (a = 2 ∧ 3 ≤ i ∧ i ≤ 7) → rd h' a i = rd h a i) → Q none h') : Rn xs xl e mm_Reader_step 0 [some (.inr (.inr 2)), none] [] h Q := by
  refine use_sm TC_step (as := [.inr (.inr 2)]) rfl he hI (gAr_c (g_ref 2) gAr_n) rfl (Nat.le_of_ble_eq_true rfl) rfl (fun r h' i' f q => ?_)
  rw [res_none q]
  exact k h' i' (fun a i hn => f a i (by
    show inBx [(2, 2, 4, 4), (2, 2, 6, 6), (2, 2, 7, 7), (2, 2, 3, 3), (2, 2, 5, 5)] a i = false
    refine inBx_f (fun b hb => ?_)
    simp only [List.mem_cons, List.not_mem_nil, or_false] at hb
    rcases hb with rfl | rfl | rfl | rfl | rfl <;> (simp only; omega)))
theorem K_isName (he : 1 ≤ e) (hI : INV h) (k : ∀ r h', INV h' → (∀ a i, rd h' a i = rd h a i) → Q (some (.inl r)) h') : Rn xs xl e mm_Reader_isName 0 [some (.inr (.inr 2))] [] h Q := by
  refine use_sm TC_isName (as := [.inr (.inr 2)]) rfl he hI (gAr_c (g_ref 2) gAr_n) rfl (Nat.le_of_ble_eq_true rfl) rfl (fun r h' i' f q => ?_)
  obtain ⟨x, rfl⟩ := res_bool q rfl rfl
  exact k x h' i' (fun a i => f a i rfl)
theorem K_isSign {c : Int} (hc : 0 ≤ c ∧ c ≤ 65535) (he : 1 ≤ e) (hI : INV h) (k : ∀ r h', INV h' → (∀ a i, rd h' a i = rd h a i) → Q (some (.inl r)) h') : Rn xs xl e mm_Reader_isSign 0 [some (.inr (.inr 2)), some (.inl c)] [] h Q := by
  refine use_sm TC_isSign (as := [.inr (.inr 2), .inl c]) rfl he hI (gAr_c (g_ref 2) (gAr_c (in1 hc.1 hc.2 (by unfold i32; omega)) gAr_n)) rfl (Nat.le_of_ble_eq_true rfl) rfl (fun r h' i' f q => ?_)
  obtain ⟨x, rfl⟩ := res_bool q rfl rfl
  exact k x h' i' (fun a i => f a i rfl)
theorem K_personNamed {q v : Int} (hq : q = 5 ∨ q = 32) (hv : i64 v) (he : 1 ≤ e) (hI : INV h) (k : ∀ r h', INV h' → (∀ a i, rd h' a i = rd h a i) → -1 ≤ r → r ≤ 5 → Q (some (.inl r)) h') : Rn xs xl e mm_Quarter_personNamed 0 [some (.inr (.inr q)), some (.inr (.inl v)), none, none] [] h Q := by
  rcases hq with rfl | rfl
  · refine use_sm TC_personNamed_5 (as := [.inr (.inr 5), .inr (.inl v)]) rfl he hI (gAr_c (g_ref 5) (gAr_c (g_lng hv) gAr_n)) rfl (Nat.le_of_ble_eq_true rfl) rfl (fun r h' i' f q => ?_)
    obtain ⟨x, rfl, x0, x1, _⟩ := res_int q rfl
    exact k x h' i' (fun a i => f a i rfl) x0 x1
  · refine use_sm TC_personNamed_32 (as := [.inr (.inr 32), .inr (.inl v)]) rfl he hI (gAr_c (g_ref 32) (gAr_c (g_lng hv) gAr_n)) rfl (Nat.le_of_ble_eq_true rfl) rfl (fun r h' i' f q => ?_)
    obtain ⟨x, rfl, x0, x1, _⟩ := res_int q rfl
    exact k x h' i' (fun a i => f a i rfl) x0 x1
theorem K_doorNamed {q v : Int} (hq : q = 5 ∨ q = 32) (hv : i64 v) (he : 1 ≤ e) (hI : INV h) (k : ∀ r h', INV h' → (∀ a i, rd h' a i = rd h a i) → -1 ≤ r → r ≤ 13 → Q (some (.inl r)) h') : Rn xs xl e mm_Quarter_doorNamed 0 [some (.inr (.inr q)), some (.inr (.inl v)), none, none] [] h Q := by
  rcases hq with rfl | rfl
  · refine use_sm TC_doorNamed_5 (as := [.inr (.inr 5), .inr (.inl v)]) rfl he hI (gAr_c (g_ref 5) (gAr_c (g_lng hv) gAr_n)) rfl (Nat.le_of_ble_eq_true rfl) rfl (fun r h' i' f q => ?_)
    obtain ⟨x, rfl, x0, x1, _⟩ := res_int q rfl
    exact k x h' i' (fun a i => f a i rfl) x0 x1
  · refine use_sm TC_doorNamed_32 (as := [.inr (.inr 32), .inr (.inl v)]) rfl he hI (gAr_c (g_ref 32) (gAr_c (g_lng hv) gAr_n)) rfl (Nat.le_of_ble_eq_true rfl) rfl (fun r h' i' f q => ?_)
    obtain ⟨x, rfl, x0, x1, _⟩ := res_int q rfl
    exact k x h' i' (fun a i => f a i rfl) x0 x1
theorem K_into {q d s r0 hr sh : Int} (hq : q = 5 ∨ q = 32) (hd : 0 ≤ d ∧ d ≤ 13) (hs : 0 ≤ s ∧ s ≤ 3) (hr0 : 0 ≤ r0 ∧ r0 ≤ 9) (hhr : 0 ≤ hr ∧ hr ≤ 48) (hsh : i32 sh) (he : 2 ≤ e) (hI : INV h) (k : ∀ r h', INV h' → (∀ a i, rd h' a i = rd h a i) → -1 ≤ r → r ≤ 9 → Q (some (.inl r)) h') : Rn xs xl e mm_Quarter_into 0 [some (.inr (.inr q)), some (.inl d), some (.inl s), some (.inl r0), some (.inl hr), some (.inl sh), none] [] h Q := by
  rcases hq with rfl | rfl
  · refine use_sm TC_into_5 (as := [.inr (.inr 5), .inl d, .inl s, .inl r0, .inl hr, .inl sh]) rfl he hI (gAr_c (g_ref 5) (gAr_c (in1 hd.1 hd.2 (by unfold i32; omega)) (gAr_c (in1 hs.1 hs.2 (by unfold i32; omega)) (gAr_c (in1 hr0.1 hr0.2 (by unfold i32; omega)) (gAr_c (in1 hhr.1 hhr.2 (by unfold i32; omega)) (gAr_c (in1 hsh.1 hsh.2 hsh) gAr_n)))))) rfl (Nat.le_of_ble_eq_true rfl) rfl (fun r h' i' f q => ?_)
    obtain ⟨x, rfl, x0, x1, _⟩ := res_int q rfl
    exact k x h' i' (fun a i => f a i rfl) x0 x1
  · refine use_sm TC_into_32 (as := [.inr (.inr 32), .inl d, .inl s, .inl r0, .inl hr, .inl sh]) rfl he hI (gAr_c (g_ref 32) (gAr_c (in1 hd.1 hd.2 (by unfold i32; omega)) (gAr_c (in1 hs.1 hs.2 (by unfold i32; omega)) (gAr_c (in1 hr0.1 hr0.2 (by unfold i32; omega)) (gAr_c (in1 hhr.1 hhr.2 (by unfold i32; omega)) (gAr_c (in1 hsh.1 hsh.2 hsh) gAr_n)))))) rfl (Nat.le_of_ble_eq_true rfl) rfl (fun r h' i' f q => ?_)
    obtain ⟨x, rfl, x0, x1, _⟩ := res_int q rfl
    exact k x h' i' (fun a i => f a i rfl) x0 x1
theorem K_tryDoor {q p d : Int} (hq : q = 5 ∨ q = 32) (hp : 0 ≤ p ∧ p ≤ 5) (hd : 0 ≤ d ∧ d ≤ 13) (he : 3 ≤ e) (hI : INV h) (k : ∀ r h', INV h' → (∀ a i, ¬ (a = 68 ∧ 0 ≤ i ∧ i ≤ 3) → ¬ (a = 69 ∧ 0 ≤ i ∧ i ≤ 5) → ¬ (a = 70 ∧ 0 ≤ i ∧ i ≤ 13) → rd h' a i = rd h a i) → Q (some (.inl r)) h') : Rn xs xl e mm_Scene_tryDoor 0 [some (.inr (.inr 68)), some (.inr (.inr q)), some (.inl p), some (.inl d), none, none] [] h Q := by
  rcases hq with rfl | rfl
  · refine use_sm TC_tryDoor_5 (as := [.inr (.inr 68), .inr (.inr 5), .inl p, .inl d]) rfl he hI (gAr_c (g_ref 68) (gAr_c (g_ref 5) (gAr_c (in1 hp.1 hp.2 (by unfold i32; omega)) (gAr_c (in1 hd.1 hd.2 (by unfold i32; omega)) gAr_n)))) rfl (Nat.le_of_ble_eq_true rfl) rfl (fun r h' i' f q => ?_)
    obtain ⟨x, rfl, x0, x1, _⟩ := res_int q rfl
    exact k x h' i' (fun a i n1 n2 n3 => f a i (by
    show inBx [(69, 69, 0, 5), (70, 70, 0, 13), (68, 68, 2, 2), (68, 68, 3, 3)] a i = false
    refine inBx_f (fun b hb => ?_)
    simp only [List.mem_cons, List.not_mem_nil, or_false] at hb
    rcases hb with rfl | rfl | rfl | rfl <;> (simp only; omega)))
  · refine use_sm TC_tryDoor_32 (as := [.inr (.inr 68), .inr (.inr 32), .inl p, .inl d]) rfl he hI (gAr_c (g_ref 68) (gAr_c (g_ref 32) (gAr_c (in1 hp.1 hp.2 (by unfold i32; omega)) (gAr_c (in1 hd.1 hd.2 (by unfold i32; omega)) gAr_n)))) rfl (Nat.le_of_ble_eq_true rfl) rfl (fun r h' i' f q => ?_)
    obtain ⟨x, rfl, x0, x1, _⟩ := res_int q rfl
    exact k x h' i' (fun a i n1 n2 n3 => f a i (by
    show inBx [(69, 69, 0, 5), (70, 70, 0, 13), (68, 68, 2, 2), (68, 68, 3, 3)] a i = false
    refine inBx_f (fun b hb => ?_)
    simp only [List.mem_cons, List.not_mem_nil, or_false] at hb
    rcases hb with rfl | rfl | rfl | rfl <;> (simp only; omega)))
theorem K_pass (he : 2 ≤ e) (hI : INV h) (k : ∀ h', INV h' → (∀ a i, ¬ (a = 68 ∧ 0 ≤ i ∧ i ≤ 3) → ¬ (a = 69 ∧ 0 ≤ i ∧ i ≤ 5) → ¬ (a = 70 ∧ 0 ≤ i ∧ i ≤ 13) → rd h' a i = rd h a i) → Q none h') : Rn xs xl e mm_Scene_pass 0 [some (.inr (.inr 68)), some (.inl 1)] [] h Q := by
  refine use_sm TC_pass (as := [.inr (.inr 68), .inl 1]) rfl he hI (gAr_c (g_ref 68) (gAr_c (g_pt 1 (by unfold i32; omega)) gAr_n)) rfl (Nat.le_of_ble_eq_true rfl) rfl (fun r h' i' f q => ?_)
  rw [res_none q]
  exact k h' i' (fun a i n1 n2 n3 => f a i (by
    show inBx [(68, 68, 0, 0), (68, 68, 2, 2), (70, 70, 0, 0), (70, 70, 0, 13)] a i = false
    refine inBx_f (fun b hb => ?_)
    simp only [List.mem_cons, List.not_mem_nil, or_false] at hb
    rcases hb with rfl | rfl | rfl | rfl <;> (simp only; omega)))
theorem K_fill_85 (he : 1 ≤ e) (hI : INV h) (k : ∀ h', INV h' → (∀ a i, ¬ (a = 85 ∧ 0 ≤ i ∧ i < 336) → rd h' a i = rd h a i) → Q none h') : Rn xs xl e mm_java_util_Arrays_fill 0 [some (.inr (.inr 85)), some (.inl 0), none, none] [] h Q := by
  refine use_sm TC_fill_85 (as := [.inr (.inr 85), .inl 0]) rfl he hI (gAr_c (g_ref 85) (gAr_c (g_pt 0 (by unfold i32; omega)) gAr_n)) rfl (Nat.le_of_ble_eq_true rfl) rfl (fun r h' i' f q => ?_)
  rw [res_none q]
  exact k h' i' (fun a i hn => f a i (by
    show inBx [(85, 85, 0, 0), (85, 85, 0, 335)] a i = false
    refine inBx_f (fun b hb => ?_)
    simp only [List.mem_cons, List.not_mem_nil, or_false] at hb
    rcases hb with rfl | rfl <;> (simp only; omega)))
theorem K_fill_86 (he : 1 ≤ e) (hI : INV h) (k : ∀ h', INV h' → (∀ a i, ¬ (a = 86 ∧ 0 ≤ i ∧ i < 240) → rd h' a i = rd h a i) → Q none h') : Rn xs xl e mm_java_util_Arrays_fill 0 [some (.inr (.inr 86)), some (.inl 0), none, none] [] h Q := by
  refine use_sm TC_fill_86 (as := [.inr (.inr 86), .inl 0]) rfl he hI (gAr_c (g_ref 86) (gAr_c (g_pt 0 (by unfold i32; omega)) gAr_n)) rfl (Nat.le_of_ble_eq_true rfl) rfl (fun r h' i' f q => ?_)
  rw [res_none q]
  exact k h' i' (fun a i hn => f a i (by
    show inBx [(86, 86, 0, 0), (86, 86, 0, 239)] a i = false
    refine inBx_f (fun b hb => ?_)
    simp only [List.mem_cons, List.not_mem_nil, or_false] at hb
    rcases hb with rfl | rfl <;> (simp only; omega)))
theorem K_fill_87 (he : 1 ≤ e) (hI : INV h) (k : ∀ h', INV h' → (∀ a i, ¬ (a = 87 ∧ 0 ≤ i ∧ i < 250) → rd h' a i = rd h a i) → Q none h') : Rn xs xl e mm_java_util_Arrays_fill 0 [some (.inr (.inr 87)), some (.inl (-1)), none, none] [] h Q := by
  refine use_sm TC_fill_87 (as := [.inr (.inr 87), .inl (-1)]) rfl he hI (gAr_c (g_ref 87) (gAr_c (g_pt (-1) (by unfold i32; omega)) gAr_n)) rfl (Nat.le_of_ble_eq_true rfl) rfl (fun r h' i' f q => ?_)
  rw [res_none q]
  exact k h' i' (fun a i hn => f a i (by
    show inBx [(87, 87, 0, 0), (87, 87, 0, 249)] a i = false
    refine inBx_f (fun b hb => ?_)
    simp only [List.mem_cons, List.not_mem_nil, or_false] at hb
    rcases hb with rfl | rfl <;> (simp only; omega)))
theorem K_copy_102 (he : 1 ≤ e) (hI : INV h) (k : ∀ h', INV h' → (∀ a i, ¬ (a = 103 ∧ 0 ≤ i ∧ i ≤ 3) → ¬ (a = 104 ∧ 0 ≤ i ∧ i ≤ 6) → ¬ (a = 105 ∧ 0 ≤ i ∧ i ≤ 14) → rd h' a i = rd h a i) → Q none h') : Rn xs xl e mm_Scene_copy 0 [some (.inr (.inr 103)), some (.inr (.inr 60))] [] h Q := by
  refine use_sm TC_copy_102 (as := [.inr (.inr 103), .inr (.inr 60)]) rfl he hI (gAr_c (g_ref 103) (gAr_c (g_ref 60) gAr_n)) rfl (Nat.le_of_ble_eq_true rfl) rfl (fun r h' i' f q => ?_)
  rw [res_none q]
  exact k h' i' (fun a i n1 n2 n3 => f a i (by
    show inBx [(103, 103, 0, 0), (103, 103, 1, 1), (103, 103, 2, 2), (103, 103, 3, 3), (104, 104, 0, 6), (105, 105, 0, 14)] a i = false
    refine inBx_f (fun b hb => ?_)
    simp only [List.mem_cons, List.not_mem_nil, or_false] at hb
    rcases hb with rfl | rfl | rfl | rfl | rfl | rfl <;> (simp only; omega)))
theorem K_copyB_102 (he : 1 ≤ e) (hI : INV h) (k : ∀ h', INV h' → (∀ a i, ¬ (a = 60 ∧ 0 ≤ i ∧ i ≤ 3) → ¬ (a = 61 ∧ 0 ≤ i ∧ i ≤ 6) → ¬ (a = 62 ∧ 0 ≤ i ∧ i ≤ 14) → rd h' a i = rd h a i) → Q none h') : Rn xs xl e mm_Scene_copy 0 [some (.inr (.inr 60)), some (.inr (.inr 103))] [] h Q := by
  refine use_sm TC_copyB_102 (as := [.inr (.inr 60), .inr (.inr 103)]) rfl he hI (gAr_c (g_ref 60) (gAr_c (g_ref 103) gAr_n)) rfl (Nat.le_of_ble_eq_true rfl) rfl (fun r h' i' f q => ?_)
  rw [res_none q]
  exact k h' i' (fun a i n1 n2 n3 => f a i (by
    show inBx [(60, 60, 0, 0), (60, 60, 1, 1), (60, 60, 2, 2), (60, 60, 3, 3), (61, 61, 0, 6), (62, 62, 0, 14)] a i = false
    refine inBx_f (fun b hb => ?_)
    simp only [List.mem_cons, List.not_mem_nil, or_false] at hb
    rcases hb with rfl | rfl | rfl | rfl | rfl | rfl <;> (simp only; omega)))
theorem K_copy_110 (he : 1 ≤ e) (hI : INV h) (k : ∀ h', INV h' → (∀ a i, ¬ (a = 111 ∧ 0 ≤ i ∧ i ≤ 3) → ¬ (a = 112 ∧ 0 ≤ i ∧ i ≤ 6) → ¬ (a = 113 ∧ 0 ≤ i ∧ i ≤ 14) → rd h' a i = rd h a i) → Q none h') : Rn xs xl e mm_Scene_copy 0 [some (.inr (.inr 111)), some (.inr (.inr 60))] [] h Q := by
  refine use_sm TC_copy_110 (as := [.inr (.inr 111), .inr (.inr 60)]) rfl he hI (gAr_c (g_ref 111) (gAr_c (g_ref 60) gAr_n)) rfl (Nat.le_of_ble_eq_true rfl) rfl (fun r h' i' f q => ?_)
  rw [res_none q]
  exact k h' i' (fun a i n1 n2 n3 => f a i (by
    show inBx [(111, 111, 0, 0), (111, 111, 1, 1), (111, 111, 2, 2), (111, 111, 3, 3), (112, 112, 0, 6), (113, 113, 0, 14)] a i = false
    refine inBx_f (fun b hb => ?_)
    simp only [List.mem_cons, List.not_mem_nil, or_false] at hb
    rcases hb with rfl | rfl | rfl | rfl | rfl | rfl <;> (simp only; omega)))
theorem K_copyB_110 (he : 1 ≤ e) (hI : INV h) (k : ∀ h', INV h' → (∀ a i, ¬ (a = 60 ∧ 0 ≤ i ∧ i ≤ 3) → ¬ (a = 61 ∧ 0 ≤ i ∧ i ≤ 6) → ¬ (a = 62 ∧ 0 ≤ i ∧ i ≤ 14) → rd h' a i = rd h a i) → Q none h') : Rn xs xl e mm_Scene_copy 0 [some (.inr (.inr 60)), some (.inr (.inr 111))] [] h Q := by
  refine use_sm TC_copyB_110 (as := [.inr (.inr 60), .inr (.inr 111)]) rfl he hI (gAr_c (g_ref 60) (gAr_c (g_ref 111) gAr_n)) rfl (Nat.le_of_ble_eq_true rfl) rfl (fun r h' i' f q => ?_)
  rw [res_none q]
  exact k h' i' (fun a i n1 n2 n3 => f a i (by
    show inBx [(60, 60, 0, 0), (60, 60, 1, 1), (60, 60, 2, 2), (60, 60, 3, 3), (61, 61, 0, 6), (62, 62, 0, 14)] a i = false
    refine inBx_f (fun b hb => ?_)
    simp only [List.mem_cons, List.not_mem_nil, or_false] at hb
    rcases hb with rfl | rfl | rfl | rfl | rfl | rfl <;> (simp only; omega)))
theorem K_copy_118 (he : 1 ≤ e) (hI : INV h) (k : ∀ h', INV h' → (∀ a i, ¬ (a = 119 ∧ 0 ≤ i ∧ i ≤ 3) → ¬ (a = 120 ∧ 0 ≤ i ∧ i ≤ 6) → ¬ (a = 121 ∧ 0 ≤ i ∧ i ≤ 14) → rd h' a i = rd h a i) → Q none h') : Rn xs xl e mm_Scene_copy 0 [some (.inr (.inr 119)), some (.inr (.inr 60))] [] h Q := by
  refine use_sm TC_copy_118 (as := [.inr (.inr 119), .inr (.inr 60)]) rfl he hI (gAr_c (g_ref 119) (gAr_c (g_ref 60) gAr_n)) rfl (Nat.le_of_ble_eq_true rfl) rfl (fun r h' i' f q => ?_)
  rw [res_none q]
  exact k h' i' (fun a i n1 n2 n3 => f a i (by
    show inBx [(119, 119, 0, 0), (119, 119, 1, 1), (119, 119, 2, 2), (119, 119, 3, 3), (120, 120, 0, 6), (121, 121, 0, 14)] a i = false
    refine inBx_f (fun b hb => ?_)
    simp only [List.mem_cons, List.not_mem_nil, or_false] at hb
    rcases hb with rfl | rfl | rfl | rfl | rfl | rfl <;> (simp only; omega)))
theorem K_copyB_118 (he : 1 ≤ e) (hI : INV h) (k : ∀ h', INV h' → (∀ a i, ¬ (a = 60 ∧ 0 ≤ i ∧ i ≤ 3) → ¬ (a = 61 ∧ 0 ≤ i ∧ i ≤ 6) → ¬ (a = 62 ∧ 0 ≤ i ∧ i ≤ 14) → rd h' a i = rd h a i) → Q none h') : Rn xs xl e mm_Scene_copy 0 [some (.inr (.inr 60)), some (.inr (.inr 119))] [] h Q := by
  refine use_sm TC_copyB_118 (as := [.inr (.inr 60), .inr (.inr 119)]) rfl he hI (gAr_c (g_ref 60) (gAr_c (g_ref 119) gAr_n)) rfl (Nat.le_of_ble_eq_true rfl) rfl (fun r h' i' f q => ?_)
  rw [res_none q]
  exact k h' i' (fun a i n1 n2 n3 => f a i (by
    show inBx [(60, 60, 0, 0), (60, 60, 1, 1), (60, 60, 2, 2), (60, 60, 3, 3), (61, 61, 0, 6), (62, 62, 0, 14)] a i = false
    refine inBx_f (fun b hb => ?_)
    simp only [List.mem_cons, List.not_mem_nil, or_false] at hb
    rcases hb with rfl | rfl | rfl | rfl | rfl | rfl <;> (simp only; omega)))
theorem K_copy_126 (he : 1 ≤ e) (hI : INV h) (k : ∀ h', INV h' → (∀ a i, ¬ (a = 127 ∧ 0 ≤ i ∧ i ≤ 3) → ¬ (a = 128 ∧ 0 ≤ i ∧ i ≤ 6) → ¬ (a = 129 ∧ 0 ≤ i ∧ i ≤ 14) → rd h' a i = rd h a i) → Q none h') : Rn xs xl e mm_Scene_copy 0 [some (.inr (.inr 127)), some (.inr (.inr 60))] [] h Q := by
  refine use_sm TC_copy_126 (as := [.inr (.inr 127), .inr (.inr 60)]) rfl he hI (gAr_c (g_ref 127) (gAr_c (g_ref 60) gAr_n)) rfl (Nat.le_of_ble_eq_true rfl) rfl (fun r h' i' f q => ?_)
  rw [res_none q]
  exact k h' i' (fun a i n1 n2 n3 => f a i (by
    show inBx [(127, 127, 0, 0), (127, 127, 1, 1), (127, 127, 2, 2), (127, 127, 3, 3), (128, 128, 0, 6), (129, 129, 0, 14)] a i = false
    refine inBx_f (fun b hb => ?_)
    simp only [List.mem_cons, List.not_mem_nil, or_false] at hb
    rcases hb with rfl | rfl | rfl | rfl | rfl | rfl <;> (simp only; omega)))
theorem K_copyB_126 (he : 1 ≤ e) (hI : INV h) (k : ∀ h', INV h' → (∀ a i, ¬ (a = 60 ∧ 0 ≤ i ∧ i ≤ 3) → ¬ (a = 61 ∧ 0 ≤ i ∧ i ≤ 6) → ¬ (a = 62 ∧ 0 ≤ i ∧ i ≤ 14) → rd h' a i = rd h a i) → Q none h') : Rn xs xl e mm_Scene_copy 0 [some (.inr (.inr 60)), some (.inr (.inr 127))] [] h Q := by
  refine use_sm TC_copyB_126 (as := [.inr (.inr 60), .inr (.inr 127)]) rfl he hI (gAr_c (g_ref 60) (gAr_c (g_ref 127) gAr_n)) rfl (Nat.le_of_ble_eq_true rfl) rfl (fun r h' i' f q => ?_)
  rw [res_none q]
  exact k h' i' (fun a i n1 n2 n3 => f a i (by
    show inBx [(60, 60, 0, 0), (60, 60, 1, 1), (60, 60, 2, 2), (60, 60, 3, 3), (61, 61, 0, 6), (62, 62, 0, 14)] a i = false
    refine inBx_f (fun b hb => ?_)
    simp only [List.mem_cons, List.not_mem_nil, or_false] at hb
    rcases hb with rfl | rfl | rfl | rfl | rfl | rfl <;> (simp only; omega)))
end KS
end
section
/-! LM, part 91: the class's crowd -/
section CX
variable {xs : Nat → Int} {xl e : Nat} {h : LH} {Q : Option LV → LH → Prop}
/-- every node that was visited was come to from one that was visited, an hour off -/
def CTr (h : LH) : Prop := (∀ n, 0 ≤ n → n ≤ 249 → rd h 87 n ≠ -1 → rd h 87 (rd h 87 n) ≠ -1 ∧ (rd h 87 n < 240 ∨ n < 240)) ∧ ∀ j, 0 ≤ j → j < rd h 84 5 → rd h 87 (rd h 89 j) ≠ -1
def frX (h h' : LH) : Prop := ∀ a i, ¬ (a = 84 ∧ i = 5) → a ≠ 87 → a ≠ 88 → a ≠ 89 → rd h' a i = rd h a i
def VX (h g : LH) : Prop := INV g ∧ CTr g ∧ frX h g ∧ (∀ m, rd h 87 m ≠ -1 → rd g 87 m ≠ -1) ∧ rd h 84 5 ≤ rd g 84 5
theorem VX.trans {h g k : LH} (a : VX h g) (b : VX g k) : VX h k := ⟨b.1, b.2.1, fun x i n1 n2 n3 n4 => (b.2.2.1 x i n1 n2 n3 n4).trans (a.2.2.1 x i n1 n2 n3 n4), fun m hm => b.2.2.2.1 m (a.2.2.2.1 m hm), Int.le_trans a.2.2.2.2 b.2.2.2.2⟩
theorem CTr_same {h g : LH} (e7 : ∀ i, rd g 87 i = rd h 87 i) (e9 : ∀ i, rd g 89 i = rd h 89 i) (e5 : rd g 84 5 = rd h 84 5) (c : CTr h) : CTr g := by
  refine ⟨fun n n0 n1 hn => ?_, fun j j0 j1 => ?_⟩
  · rw [e7] at hn
    rw [e7, e7]
    exact c.1 n n0 n1 hn
  · rw [e5] at j1
    rw [e7, e9]
    exact c.2 j j0 j1
theorem VX_same {h g : LH} (hI : INV g) (c : CTr h) (f : ∀ a i, rd g a i = rd h a i) : VX h g := ⟨hI, CTr_same (fun i => f 87 i) (fun i => f 89 i) (f 84 5) c, fun a i _ _ _ _ => f a i, fun m hm => by rw [f]; exact hm, by rw [f]; exact Int.le_refl _⟩
theorem D_visit {n f y : Int} (hI : INV h) (c : CTr h) (hn : 0 ≤ n ∧ n ≤ 249) (hf : 0 ≤ f ∧ f ≤ 249) (hb : -1 ≤ y ∧ y ≤ 13) (hv : rd h 87 f ≠ -1 ∨ f = n) (hl : f < 240 ∨ n < 240) (k : ∀ g, VX h g → Q none g) : Rn xs xl e mm_Crowd_visit 0 [some (.inr (.inr 84)), some (.inl n), some (.inl f), some (.inl y)] [] h Q := by
  have q5 := rG_84_5 hI.1
  have same : VX h h := VX_same hI c (fun _ _ => rfl)
  refine B_Crowd_visit_0 (RF_of hI.1) hn ⟨fun _ => k h same, fun c1 => ⟨fun _ => k h same, fun c2 => ⟨by omega, by omega, k _ ?_⟩⟩⟩
  have i1 := wB_87 hI (i := n) (v := f) (by omega) (by omega)
  have i2 := wB_88 i1 (i := n) (v := y) (by omega) (by omega)
  have i3 := wB_89 i2 (i := rd h 84 5) (v := n) (by omega) (by omega)
  have i4 := wG_84_5 i3 (v := rd h 84 5 + 1) (by omega) (by omega)
  clear same k
  generalize hg : wr (wr (wr (wr h 87 n f) 88 n y) 89 (rd h 84 5) n) 84 5 (rd h 84 5 + 1) = g at *
  have e7 : ∀ i, i ≠ n → rd g 87 i = rd h 87 i := fun i hi => by rw [← hg, rdw_ne (by decide), rdw_ne (by decide), rdw_ne (by decide), rdw_nei (fun q => hi q.symm)]
  have e7n : rd g 87 n = f := by rw [← hg, rdw_ne (by decide), rdw_ne (by decide), rdw_ne (by decide), rdw_eq]
  have e9 : ∀ i, i ≠ rd h 84 5 → rd g 89 i = rd h 89 i := fun i hi => by rw [← hg, rdw_ne (by decide), rdw_nei (fun q => hi q.symm), rdw_ne (by decide), rdw_ne (by decide)]
  have e9t : rd g 89 (rd h 84 5) = n := by rw [← hg, rdw_ne (by decide), rdw_eq]
  have e5 : rd g 84 5 = rd h 84 5 + 1 := by rw [← hg, rdw_eq]
  have mono : ∀ m, rd h 87 m ≠ -1 → rd g 87 m ≠ -1 := fun m hm => by
    by_cases z : m = n
    · rw [z, e7n]; omega
    · rw [e7 m z]; exact hm
  refine ⟨i4, ⟨fun m m0 m1 hm => ?_, fun j j0 j1 => ?_⟩, ?_, mono, by omega⟩
  · by_cases z : m = n
    · rw [z, e7n]
      refine ⟨?_, hl⟩
      rcases hv with hv | hv
      · exact mono f hv
      · rw [hv, e7n]; omega
    · rw [e7 m z] at hm ⊢
      have t := c.1 m m0 m1 hm
      exact ⟨mono _ t.1, t.2⟩
  · by_cases z : j = rd h 84 5
    · rw [z, e9t, e7n]; omega
    · rw [e9 j z]; exact mono _ (c.2 j j0 (by omega))
  · intro a i n1 n2 n3 n4
    rw [← hg, rd_wr, if_neg (by rintro ⟨rfl, rfl⟩; exact n1 ⟨rfl, rfl⟩), rdw_ne (fun q => n4 q.symm), rdw_ne (fun q => n3 q.symm), rdw_ne (fun q => n2 q.symm)]
theorem L_goForward {q sh node : Int} (hq : q = 5 ∨ q = 32) (hsh : i32 sh) (hn : 0 ≤ node ∧ node ≤ 239) (he : 3 ≤ e) : ∀ (m : Nat) (j : Int) (o7 : Option LV) (h : LH), INV h → CTr h → rd h 87 node ≠ -1 → 0 ≤ j → j ≤ 14 → (14 - j).toNat ≤ m → (∀ g, VX h g → Q none g) → Rn xs xl e mm_Crowd_goForward 25 [some (.inr (.inr 84)), some (.inr (.inr q)), some (.inl sh), some (.inl node), some (.inl (node / 10)), some (.inl (node % 10)), some (.inl j), o7] [] h Q := by
  intro m
  induction m with
  | zero =>
    intro j o7 h hI c hv j0 j1 jm k
    have dc := rq_dc hI.1 hq
    exact B_Crowd_goForward_25 hq hI.1 (by omega) (by omega) (by omega) (by omega) ⟨fun _ => ⟨0, by omega, D_visit hI c (by omega) (by omega) (by omega) (Or.inl hv) (Or.inl (by omega)) (fun g v => B_Crowd_goForward_118 hq (RF_of v.1.1) (k g v))⟩, fun z => absurd z (by omega)⟩
  | succ m ih =>
    intro j o7 h hI c hv j0 j1 jm k
    have dc := rq_dc hI.1 hq
    have fh := rG_84_6 hI.1
    refine B_Crowd_goForward_25 hq hI.1 (by omega) (by omega) (by omega) (by omega) ⟨fun _ => ⟨0, by omega, D_visit hI c (by omega) (by omega) (by omega) (Or.inl hv) (Or.inl (by omega)) (fun g v => B_Crowd_goForward_118 hq (RF_of v.1.1) (k g v))⟩, fun z => ⟨by omega, 2, by omega, K_into hq (by omega) (by omega) (by omega) (by omega) hsh (Nat.le_refl 2) hI (fun r h' i' f r0 r1 => ?_)⟩⟩
    have v1 := VX_same i' c f
    have hv1 := v1.2.2.2.1 node hv
    have nx : ∀ (o : Option LV) (g : LH), VX h' g → Rn xs xl e mm_Crowd_goForward 102 [some (.inr (.inr 84)), some (.inr (.inr q)), some (.inl sh), some (.inl node), some (.inl (node / 10)), some (.inl (node % 10)), some (.inl j), o] [] g Q := fun o g v => B_Crowd_goForward_102 hq (RF_of v.1.1) (by omega) (ih (j + 1) o g v.1 v.2.1 (v.2.2.2.1 node hv1) (by omega) (by omega) (by omega) (fun g' v' => k g' (v1.trans (v.trans v'))))
    have s1 : VX h' h' := VX_same i' v1.2.1 (fun _ _ => rfl)
    exact B_Crowd_goForward_51 hq i'.1 (by omega) (by omega) (by omega) (by omega) ⟨r0, r1⟩ ⟨fun _ => nx _ h' s1, fun _ => ⟨fun _ => nx _ h' s1, fun _ => ⟨0, by omega, D_visit i' v1.2.1 (by omega) (by omega) (by omega) (Or.inl hv1) (Or.inl (by omega)) (fun g v => nx _ g v)⟩⟩⟩
theorem D_goForward {q sh node : Int} (hq : q = 5 ∨ q = 32) (hsh : i32 sh) (hn : 0 ≤ node ∧ node ≤ 249) (he : 3 ≤ e) (hI : INV h) (c : CTr h) (hv : rd h 87 node ≠ -1) (k : ∀ g, VX h g → Q none g) : Rn xs xl e mm_Crowd_goForward 0 [some (.inr (.inr 84)), some (.inr (.inr q)), some (.inl sh), some (.inl node), none, none, none, none] [] h Q := by
  have l7 := rG_84_7 hI.1
  exact B_Crowd_goForward_0 hq (RF_of hI.1) hn ⟨fun z => L_goForward hq hsh (by omega) he 14 0 none h hI c hv (by omega) (by omega) (by omega) k, fun _ => k h (VX_same hI c (fun _ _ => rfl))⟩
theorem L_goBack {q sh node : Int} (hq : q = 5 ∨ q = 32) (hsh : i32 sh) (hn : 10 ≤ node ∧ node ≤ 249) (he : 3 ≤ e) : ∀ (m : Nat) (j : Int) (o7 o8 : Option LV) (h : LH), INV h → CTr h → rd h 87 node ≠ -1 → 0 ≤ j → j ≤ 14 → (14 - j).toNat ≤ m → (∀ g, VX h g → Q none g) → Rn xs xl e mm_Crowd_goBack 23 [some (.inr (.inr 84)), some (.inr (.inr q)), some (.inl sh), some (.inl node), some (.inl ((node / 10) - 1)), some (.inl (node % 10)), some (.inl j), o7, o8] [] h Q := by
  intro m
  induction m with
  | zero =>
    intro j o7 o8 h hI c hv j0 j1 jm k
    have dc := rq_dc hI.1 hq
    exact B_Crowd_goBack_23 hq hI.1 (by omega) (by omega) (by omega) (by omega) ⟨fun _ => B_Crowd_goBack_128 hq (RF_of hI.1) (by omega) (by omega) (by omega) ⟨fun _ => k h (VX_same hI c (fun _ _ => rfl)), fun _ => ⟨0, by omega, D_visit hI c (by omega) (by omega) (by omega) (Or.inl hv) (Or.inr (by omega)) (fun g v => B_Crowd_goBack_154 hq (RF_of v.1.1) (k g v))⟩⟩, fun z => absurd z (by omega)⟩
  | succ m ih =>
    intro j o7 o8 h hI c hv j0 j1 jm k
    have dc := rq_dc hI.1 hq
    have fh := rG_84_6 hI.1
    have nx : ∀ (o p : Option LV) (g : LH), VX h g → j < 14 → Rn xs xl e mm_Crowd_goBack 122 [some (.inr (.inr 84)), some (.inr (.inr q)), some (.inl sh), some (.inl node), some (.inl ((node / 10) - 1)), some (.inl (node % 10)), some (.inl j), o, p] [] g Q := fun o p g v z => B_Crowd_goBack_122 hq (RF_of v.1.1) (by omega) (ih (j + 1) o p g v.1 v.2.1 (v.2.2.2.1 node hv) (by omega) (by omega) (by omega) (fun g' v' => k g' (v.trans v')))
    have s0 : VX h h := VX_same hI c (fun _ _ => rfl)
    have G : ∀ (v8 : Int) (o : Option LV), 0 ≤ v8 ∧ v8 ≤ 9 → j < 14 → Rn xs xl e mm_Crowd_goBack 85 [some (.inr (.inr 84)), some (.inr (.inr q)), some (.inl sh), some (.inl node), some (.inl ((node / 10) - 1)), some (.inl (node % 10)), some (.inl j), o, some (.inl v8)] [] h Q := by
      intro v8 o hv8 z
      refine B_Crowd_goBack_85 hq hI.1 (by omega) (by omega) (by omega) (by omega) hv8 ⟨by omega, 2, by omega, K_into hq (by omega) (by omega) hv8 (by omega) hsh (Nat.le_refl 2) hI (fun r h' i' f r0 r1 => ?_)⟩
      have v1 := VX_same i' c f
      have hv1 := v1.2.2.2.1 node hv
      exact B_Crowd_goBack_102 hq i'.1 (by omega) (by omega) (by omega) (by omega) hv8 ⟨fun _ => nx _ _ h' v1 z, fun _ => ⟨0, by omega, D_visit i' v1.2.1 (by omega) (by omega) (by omega) (Or.inl hv1) (Or.inr (by omega)) (fun g v => nx _ _ g (v1.trans v) z)⟩⟩
    exact B_Crowd_goBack_23 hq hI.1 (by omega) (by omega) (by omega) (by omega) ⟨fun _ => B_Crowd_goBack_128 hq (RF_of hI.1) (by omega) (by omega) (by omega) ⟨fun _ => k h s0, fun _ => ⟨0, by omega, D_visit hI c (by omega) (by omega) (by omega) (Or.inl hv) (Or.inr (by omega)) (fun g v => B_Crowd_goBack_154 hq (RF_of v.1.1) (k g v))⟩⟩, fun z => ⟨by omega, fun _ => ⟨by omega, fun _ => G _ _ (rd_first hI.1 hq (by omega)) (by omega), fun _ => G _ _ (rd_second hI.1 hq (by omega)) (by omega)⟩, fun _ => nx _ _ h s0 (by omega)⟩⟩
theorem D_goBack {q sh node : Int} (hq : q = 5 ∨ q = 32) (hsh : i32 sh) (hn : 0 ≤ node ∧ node ≤ 249) (he : 3 ≤ e) (hI : INV h) (c : CTr h) (hv : rd h 87 node ≠ -1) (k : ∀ g, VX h g → Q none g) : Rn xs xl e mm_Crowd_goBack 0 [some (.inr (.inr 84)), some (.inr (.inr q)), some (.inl sh), some (.inl node), none, none, none, none, none] [] h Q :=
  B_Crowd_goBack_0 hq (RF_of hI.1) hn ⟨by omega, fun z => L_goBack hq hsh (by omega) he 14 0 none none h hI c hv (by omega) (by omega) (by omega) k, fun _ => k h (VX_same hI c (fun _ _ => rfl))⟩
theorem L_fill : ∀ (m : Nat) (j : Int) (h : LH), INV h → 0 ≤ j → j ≤ 250 → (250 - j).toNat ≤ m → (∀ i, 0 ≤ i → i < j → rd h 87 i = -1) → (∀ g, INV g → (∀ a i, a ≠ 87 → rd g a i = rd h a i) → (∀ i, 0 ≤ i → i < 250 → rd g 87 i = -1) → Q none g) → Rn xs xl e mm_java_util_Arrays_fill 5 [some (.inr (.inr 87)), some (.inl (-1)), some (.inl j), some (.inl 250)] [] h Q := by
  intro m
  induction m with
  | zero =>
    intro j h hI j0 j1 jm ha k
    exact B_fill87_5 (RF_of hI.1) (by omega) ⟨fun _ => k h hI (fun _ _ _ => rfl) (fun i i0 i1 => ha i i0 (by omega)), fun z => absurd z (by omega)⟩
  | succ m ih =>
    intro j h hI j0 j1 jm ha k
    refine B_fill87_5 (RF_of hI.1) (by omega) ⟨fun _ => k h hI (fun _ _ _ => rfl) (fun i i0 i1 => ha i i0 (by omega)), fun z => ⟨by omega, ?_⟩⟩
    have i1 := wB_87 hI (i := j) (v := -1) (by omega) (by omega)
    refine ih (j + 1) _ i1 (by omega) (by omega) (by omega) (fun i i0 i2 => ?_) (fun g gI gf ga => k g gI (fun a i hn => (gf a i hn).trans (rdw_ne (fun q => hn q.symm))) ga)
    by_cases c : i = j
    · rw [c, rdw_eq]
    · rw [rdw_nei (fun q => c q.symm)]
      exact ha i i0 (by omega)
theorem D_fill (hI : INV h) (k : ∀ g, INV g → (∀ a i, a ≠ 87 → rd g a i = rd h a i) → (∀ i, 0 ≤ i → i < 250 → rd g 87 i = -1) → Q none g) : Rn xs xl e mm_java_util_Arrays_fill 0 [some (.inr (.inr 87)), some (.inl (-1)), none, none] [] h Q :=
  B_fill87_0 (RF_of hI.1) (L_fill 250 0 h hI (by omega) (by omega) (by omega) (fun i i0 i1 => by omega) k)
theorem L_findPath {q sh src sink : Int} (hq : q = 5 ∨ q = 32) (hsh : i32 sh) (hk : 0 ≤ sink ∧ sink ≤ 249) (he : 4 ≤ e) : ∀ (m : Nat) (j : Int) (h : LH), INV h → CTr h → 0 ≤ j → j ≤ 250 → (250 - j).toNat ≤ m → (∀ r g, INV g → CTr g → frX h g → (r ≠ 0 → rd g 87 sink ≠ -1) → Q (some (.inl r)) g) → Rn xs xl e mm_Crowd_findPath 23 [some (.inr (.inr 84)), some (.inr (.inr q)), some (.inl sh), some (.inl src), some (.inl sink), some (.inl j)] [] h Q := by
  intro m
  induction m with
  | zero =>
    intro j h hI c j0 j1 jm k
    have q5 := rG_84_5 hI.1
    exact B_Crowd_findPath_23 hq (RF_of hI.1) hk (by omega) ⟨fun _ => ⟨fun _ => k 0 h hI c (fun _ _ _ _ _ _ => rfl) (fun z => absurd rfl z), fun z => k 1 h hI c (fun _ _ _ _ _ _ => rfl) (fun _ => z)⟩, fun z => absurd z (by omega)⟩
  | succ m ih =>
    intro j h hI c j0 j1 jm k
    have q5 := rG_84_5 hI.1
    refine B_Crowd_findPath_23 hq (RF_of hI.1) hk (by omega) ⟨fun _ => ⟨fun _ => k 0 h hI c (fun _ _ _ _ _ _ => rfl) (fun z => absurd rfl z), fun z => k 1 h hI c (fun _ _ _ _ _ _ => rfl) (fun _ => z)⟩, fun z => ⟨fun z => k 1 h hI c (fun _ _ _ _ _ _ => rfl) (fun _ => z), fun _ => ⟨by omega, 3, by omega, D_goForward hq hsh (rB_89 hI.1 (by omega)) (Nat.le_refl 3) hI c (c.2 j j0 z) (fun g1 v1 => ?_)⟩⟩⟩
    have q6 := v1.2.2.2.2
    exact B_Crowd_findPath_56 hq (RF_of v1.1.1) (by omega) ⟨3, by omega, D_goBack hq hsh (rB_89 v1.1.1 (by omega)) (Nat.le_refl 3) v1.1 v1.2.1 (v1.2.1.2 j j0 (by omega)) (fun g2 v2 => B_Crowd_findPath_69 hq (RF_of v2.1.1) (by omega) (ih (j + 1) g2 v2.1 v2.2.1 (by omega) (by omega) (by omega) (fun r g gI gc gf gz => k r g gI gc (fun a i n1 n2 n3 n4 => (gf a i n1 n2 n3 n4).trans ((v1.trans v2).2.2.1 a i n1 n2 n3 n4)) gz)))⟩
theorem D_findPath {q sh src sink : Int} (hq : q = 5 ∨ q = 32) (hsh : i32 sh) (hs : 0 ≤ src ∧ src ≤ 9) (hk : 0 ≤ sink ∧ sink ≤ 249) (he : 4 ≤ e) (hI : INV h) (k : ∀ r g, INV g → CTr g → frX h g → (r ≠ 0 → rd g 87 sink ≠ -1) → Q (some (.inl r)) g) : Rn xs xl e mm_Crowd_findPath 0 [some (.inr (.inr 84)), some (.inr (.inr q)), some (.inl sh), some (.inl src), some (.inl sink), none] [] h Q := by
  refine B_Crowd_findPath_0 hq (RF_of hI.1) ⟨0, by omega, D_fill hI (fun g1 i1 f1 a1 => ?_)⟩
  have i2 := wG_84_5 i1 (v := 0) (by omega) (by omega)
  have c2 : CTr (wr g1 84 5 0) := by
    refine ⟨fun n n0 n1 hn => ?_, fun j j0 j1 => ?_⟩
    · rw [rdw_ne (by decide)] at hn
      exact absurd (a1 n n0 (by omega)) hn
    · rw [rdw_eq] at j1
      omega
  refine B_Crowd_findPath_8 hq (RF_of i1.1) ⟨0, by omega, D_visit i2 c2 (by omega) (by omega) (by omega) (Or.inr rfl) (Or.inl (by omega)) (fun g2 v2 => ?_)⟩
  refine B_Crowd_findPath_20 hq (RF_of v2.1.1) (L_findPath hq hsh hk he 250 0 g2 v2.1 v2.2.1 (by omega) (by omega) (by omega) (fun r g gI gc gf gz => k r g gI gc (fun a i n1 n2 n3 n4 => ?_) gz))
  rw [gf a i n1 n2 n3 n4, v2.2.2.1 a i n1 n2 n3 n4, rd_wr, if_neg (fun q => n1 ⟨q.1.symm, q.2.symm⟩), f1 a i n2]
end CX
end
section
/-! LM, part 92: the class's crowd: paths, the root -/
section CY
variable {xs : Nat → Int} {xl e : Nat} {h : LH} {Q : Option LV → LH → Prop}
theorem L_narrowest {q src sink : Int} (hq : q = 5 ∨ q = 32) (hs : 0 ≤ src ∧ src ≤ 9) (hI : INV h) (c : CTr h) (k : ∀ r, i32 r → Q (some (.inl r)) h) : ∀ (m : Nat) (i node many : Int) (o7 o8 o9 o10 : Option LV), 0 ≤ i → i ≤ 250 → (250 - i).toNat ≤ m → 0 ≤ node ∧ node ≤ 249 → rd h 87 node ≠ -1 → i32 many → Rn xs xl e mm_Crowd_narrowest 10 [some (.inr (.inr 84)), some (.inr (.inr q)), some (.inl src), some (.inl sink), some (.inl many), some (.inl node), some (.inl i), o7, o8, o9, o10] [] h Q := by
  intro m
  induction m with
  | zero =>
    intro i node many o7 o8 o9 o10 i0 i1 im hn hv hm
    exact B_Crowd_narrowest_10 hq hI.1 hs hn (by omega) ⟨fun _ => k many hm, fun z => absurd z (by omega)⟩
  | succ m ih =>
    intro i node many o7 o8 o9 o10 i0 i1 im hn hv hm
    have fr := rB_87 hI.1 (i := node) (by omega)
    have fb := rB_88 hI.1 (i := node) (by omega)
    have c1 := c.1 node hn.1 hn.2 hv
    have nx : ∀ (many' : Int) (o p r : Option LV), i < 250 → i32 many' → Rn xs xl e mm_Crowd_narrowest 131 [some (.inr (.inr 84)), some (.inr (.inr q)), some (.inl src), some (.inl sink), some (.inl many'), some (.inl node), some (.inl i), some (.inl (rd h 87 node)), o, p, r] [] h Q := fun many' o p r z hm' => B_Crowd_narrowest_131 hq (RF_of hI.1) (by omega) (ih (i + 1) (rd h 87 node) many' _ _ _ _ (by omega) (by omega) (by omega) (by omega) c1.1 hm')
    refine B_Crowd_narrowest_10 hq hI.1 hs hn (by omega) ⟨fun _ => k many hm, fun z => ⟨fun _ => k many hm, fun _ m1 hm1 => ⟨by omega, fun z2 => ⟨fun z3 => nx many _ _ _ z hm, fun z3 => ⟨by omega, fun m4 hm4 => nx m4 _ _ _ z ?_⟩⟩, fun z2 => ⟨by omega, by omega, by omega, fun z3 m8 hm8 => nx m8 _ _ _ z ?_, fun z3 => ⟨by omega, fun m10 hm10 => nx m10 _ _ _ z ?_⟩⟩⟩⟩⟩
    · have w := rB_86 hI.1 (i := node) (by omega)
      unfold i32 at hm ⊢
      omega
    · have w := rB_85 hI.1 (i := 14 * (m1 / 10) + rd h 88 node) (by omega)
      unfold i32 at hm ⊢
      omega
    · have w := w32_in (rd h (rd h (q + 1) (rd h 88 node)) 7 - rd h 85 (14 * (m1 / 10) + rd h 88 node))
      unfold i32 at hm w ⊢
      omega
theorem D_narrowest {q src sink : Int} (hq : q = 5 ∨ q = 32) (hs : 0 ≤ src ∧ src ≤ 9) (hk : 0 ≤ sink ∧ sink ≤ 249) (hI : INV h) (c : CTr h) (hv : rd h 87 sink ≠ -1) (k : ∀ r, i32 r → Q (some (.inl r)) h) : Rn xs xl e mm_Crowd_narrowest 0 [some (.inr (.inr 84)), some (.inr (.inr q)), some (.inl src), some (.inl sink), none, none, none, none, none, none, none] [] h Q :=
  B_Crowd_narrowest_0 hq (RF_of hI.1) (L_narrowest hq hs hI c k 250 0 sink _ _ _ _ _ (by omega) (by omega) (by omega) hk hv (by unfold i32; omega))
def frS (h g : LH) : Prop := ∀ a i, a ≠ 85 → a ≠ 86 → rd g a i = rd h a i
theorem L_send {src sink many : Int} (hs : 0 ≤ src ∧ src ≤ 9) : ∀ (m : Nat) (i node : Int) (o6 o7 o8 o9 : Option LV) (h : LH), INV h → CTr h → 0 ≤ i → i ≤ 250 → (250 - i).toNat ≤ m → 0 ≤ node ∧ node ≤ 249 → rd h 87 node ≠ -1 → (∀ g, INV g → frS h g → Q none g) → Rn xs xl e mm_Crowd_send 6 [some (.inr (.inr 84)), some (.inl src), some (.inl sink), some (.inl many), some (.inl node), some (.inl i), o6, o7, o8, o9] [] h Q := by
  intro m
  induction m with
  | zero =>
    intro i node o6 o7 o8 o9 h hI c i0 i1 im hn hv k
    exact B_Crowd_send_6 (RF_of hI.1) hs hn (by omega) ⟨fun _ => k h hI (fun _ _ _ _ => rfl), fun z => absurd z (by omega)⟩
  | succ m ih =>
    intro i node o6 o7 o8 o9 h hI c i0 i1 im hn hv k
    have fr := rB_87 hI.1 (i := node) (by omega)
    have fb := rB_88 hI.1 (i := node) (by omega)
    have c1 := c.1 node hn.1 hn.2 hv
    have nx : ∀ (a j v : Int) (o p r : Option LV), i < 250 → (a = 85 ∨ a = 86) → i32 v → Rn xs xl e mm_Crowd_send 104 [some (.inr (.inr 84)), some (.inl src), some (.inl sink), some (.inl many), some (.inl node), some (.inl i), some (.inl (rd h 87 node)), o, p, r] [] (wr h a j v) Q := by
      intro a j v o p r z ha hw
      have i2 : INV (wr h a j v) := by
        rcases ha with rfl | rfl
        · exact wB_85 hI hw.1 hw.2
        · exact wB_86 hI hw.1 hw.2
      have ne : ∀ b l, b ≠ 85 → b ≠ 86 → rd (wr h a j v) b l = rd h b l := fun b l n1 n2 => rdw_ne (fun q => by omega)
      exact B_Crowd_send_104 (RF_of i2.1) (by omega) (ih (i + 1) (rd h 87 node) _ _ _ _ _ i2 (CTr_same (fun l => ne 87 l (by decide) (by decide)) (fun l => ne 89 l (by decide) (by decide)) (ne 84 5 (by decide) (by decide)) c) (by omega) (by omega) (by omega) (by omega) (by rw [ne 87 _ (by decide) (by decide)]; exact c1.1) (fun g gI gf => k g gI (fun b l n1 n2 => (gf b l n1 n2).trans (ne b l n1 n2))))
    exact B_Crowd_send_6 (RF_of hI.1) hs hn (by omega) ⟨fun _ => k h hI (fun _ _ _ _ => rfl), fun z => ⟨fun _ => k h hI (fun _ _ _ _ => rfl), fun _ m1 hm1 => ⟨fun z2 => ⟨fun z3 => ⟨by omega, by omega, by omega, by omega, by omega, nx 85 _ _ _ _ _ z (Or.inl rfl) (w32_in _)⟩, fun z3 => ⟨by omega, by omega, nx 86 _ _ _ _ _ z (Or.inr rfl) (w32_in _)⟩⟩, fun z2 => ⟨fun z3 => ⟨by omega, by omega, by omega, by omega, by omega, nx 85 _ _ _ _ _ z (Or.inl rfl) (w32_in _)⟩, fun z3 => ⟨by omega, by omega, nx 86 _ _ _ _ _ z (Or.inr rfl) (w32_in _)⟩⟩⟩⟩⟩
theorem D_send {src sink many : Int} (hs : 0 ≤ src ∧ src ≤ 9) (hk : 0 ≤ sink ∧ sink ≤ 249) (hI : INV h) (c : CTr h) (hv : rd h 87 sink ≠ -1) (k : ∀ g, INV g → frS h g → Q none g) : Rn xs xl e mm_Crowd_send 0 [some (.inr (.inr 84)), some (.inl src), some (.inl sink), some (.inl many), none, none, none, none, none, none] [] h Q :=
  B_Crowd_send_0 (RF_of hI.1) (L_send hs 250 0 sink _ _ _ _ h hI c (by omega) (by omega) (by omega) hk hv k)
def frM (h g : LH) : Prop := ∀ a i, a ≠ 84 → a ≠ 85 → a ≠ 86 → a ≠ 87 → a ≠ 88 → a ≠ 89 → rd g a i = rd h a i
theorem frM.trans {h g k : LH} (a : frM h g) (b : frM g k) : frM h k := fun x i n1 n2 n3 n4 n5 n6 => (b x i n1 n2 n3 n4 n5 n6).trans (a x i n1 n2 n3 n4 n5 n6)
theorem L_most {q src to hour sink : Int} (hq : q = 5 ∨ q = 32) (hs : 0 ≤ src ∧ src ≤ 9) (hk : 0 ≤ sink ∧ sink ≤ 249) (he : 5 ≤ e) : ∀ (m : Nat) (i all : Int) (o9 : Option LV) (h : LH), INV h → 0 ≤ i → i ≤ 4000 → (4000 - i).toNat ≤ m → i32 all → (∀ r g, INV g → i32 r → frM h g → Q (some (.inl r)) g) → Rn xs xl e mm_Crowd_most 55 [some (.inr (.inr 84)), some (.inr (.inr q)), some (.inr (.inr 60)), some (.inl src), some (.inl to), some (.inl hour), some (.inl sink), some (.inl all), some (.inl i), o9] [] h Q := by
  intro m
  induction m with
  | zero =>
    intro i all o9 h hI i0 i1 im ha k
    exact B_Crowd_most_55 hq (RF_of hI.1) (by omega) ⟨fun _ => k all h hI ha (fun _ _ _ _ _ _ _ _ => rfl), fun z => absurd z (by omega)⟩
  | succ m ih =>
    intro i all o9 h hI i0 i1 im ha k
    refine B_Crowd_most_55 hq (RF_of hI.1) (by omega) ⟨fun _ => k all h hI ha (fun _ _ _ _ _ _ _ _ => rfl), fun z => ⟨4, by omega, D_findPath hq (rG_60_1 hI.1) hs hk (Nat.le_refl 4) hI (fun r g1 i1' c1 f1 v1 => ?_)⟩⟩
    have m1 : frM h g1 := fun a i n1 n2 n3 n4 n5 n6 => f1 a i (fun q => n1 q.1) n4 n5 n6
    refine B_Crowd_most_75 hq (RF_of i1'.1) ⟨fun _ => k all g1 i1' ha m1, fun z2 => ⟨0, by omega, D_narrowest hq hs hk i1' c1 (v1 z2) (fun w iw => ?_)⟩⟩
    refine B_Crowd_most_86 hq (RF_of i1'.1) ⟨0, by omega, D_send hs hk i1' c1 (v1 z2) (fun g2 i2 f2 => ?_)⟩
    have m2 : frM g1 g2 := fun a i n1 n2 n3 n4 n5 n6 => f2 a i n2 n3
    exact B_Crowd_most_97 hq (RF_of i2.1) (by omega) (ih (i + 1) _ _ g2 i2 (by omega) (by omega) (by omega) (w32_in _) (fun r g gI gr gf => k r g gI gr ((m1.trans m2).trans gf)))
theorem D_most {q src to hour : Int} (hq : q = 5 ∨ q = 32) (hs : 0 ≤ src ∧ src ≤ 9) (ht : 0 ≤ to ∧ to ≤ 9) (hh : rd h 60 0 ≤ hour ∧ hour ≤ 23) (he : 5 ≤ e) (hI : INV h) (k : ∀ r g, INV g → i32 r → frM h g → Q (some (.inl r)) g) : Rn xs xl e mm_Crowd_most 0 [some (.inr (.inr 84)), some (.inr (.inr q)), some (.inr (.inr 60)), some (.inl src), some (.inl to), some (.inl hour), none, none, none, none] [] h Q := by
  have s0 := rG_60_0 hI.1
  have i1 := wG_84_6 hI (v := rd h 60 0) (by omega) (by omega)
  have i2 := wG_84_7 i1 (v := hour - rd h 60 0 + 1) (by omega) (by omega)
  refine B_Crowd_most_0 hq (RF_of hI.1) ⟨by omega, by omega, 1, by omega, K_fill_85 (Nat.le_refl 1) i2 (fun g1 i3 f1 => ?_)⟩
  refine B_Crowd_most_29 hq (RF_of i3.1) ⟨1, by omega, K_fill_86 (Nat.le_refl 1) i3 (fun g2 i4 f2 => ?_)⟩
  have l7 := rG_84_7 i4.1
  have m1 : frM h g2 := fun a i n1 n2 n3 n4 n5 n6 => by
    rw [f2 a i (fun q => n3 q.1), f1 a i (fun q => n2 q.1), rdw_ne (fun q => n1 q.symm), rdw_ne (fun q => n1 q.symm)]
  exact B_Crowd_most_37 hq (RF_of i4.1) ⟨by omega, by omega, L_most hq hs (by omega) he 4000 0 0 none g2 i4 (by omega) (by omega) (by omega) (by unfold i32; omega) (fun r g gI gr gf => k r g gI gr (m1.trans gf))⟩
theorem rq_rm {h : LH} {q : Int} (hR : RNG h) (hq : q = 5 ∨ q = 32) : 2 ≤ rd h q 0 ∧ rd h q 0 ≤ 10 := by
  rcases hq with rfl | rfl
  · have p := rdP (a := 5) (i := 0) (lo := 2) (hi := 10) (st := 1) hR (vB_ok (by decide +kernel)) (Or.inl (by decide +kernel)) (leA1 (by decide +kernel))
    exact ⟨p.1, p.2.1⟩
  · have p := rdP (a := 32) (i := 0) (lo := 2) (hi := 10) (st := 1) hR (vB_ok (by decide +kernel)) (Or.inl (by decide +kernel)) (leA1 (by decide +kernel))
    exact ⟨p.1, p.2.1⟩
/-- the class's crowd -/
theorem E_crowd {v1 v2 v3 : Int} (he : 6 ≤ e) (hI : INV h) (k : ∀ r g, INV g → frM h g → Q (some (.inl r)) g) : Rn xs xl e mm_OneSided_crowd 0 [some (.inr (.inr 1)), some (.inl v1), some (.inl v2), some (.inl v3)] [] h Q := by
  have hq := rQf hI.1
  have rm := rq_rm hI.1 hq
  have z := k (-1) h hI (fun _ _ _ _ _ _ _ _ => rfl)
  exact B_OneSided_crowd_0 hq rfl (RF_of hI.1) (by omega) ⟨fun _ => z, fun c1 => ⟨fun _ => z, fun c2 => ⟨fun _ => z, fun c3 => ⟨fun _ => z, fun c4 => ⟨fun _ => ⟨fun _ => z, fun c5 => ⟨fun c6 => ⟨5, by omega, D_most hq (by omega) (by omega) (by omega) (Nat.le_refl 5) hI (fun r g gI gr gf => B_OneSided_crowd_66 (RF_of gI.1) (k r g gI gf))⟩, fun _ => z⟩⟩, fun _ => z⟩⟩⟩⟩⟩
end CY
end
section
/-! LM, part 93: the class's day: lines told, played -/
theorem SP_mem {h h' : LH} (e : ∀ b j, sens b j → 131 < b → rd h' b j = rd h b j) (l : linesOk h' 63 64 ∧ linesOk h' 71 72 ∧ linesOk h' 106 107 ∧ linesOk h' 114 115 ∧ linesOk h' 122 123 ∧ linesOk h' 130 131) (hs : SP h) : SP h' := by
  obtain ⟨⟨h1, h2, h3, h4, h5, h6, h7, h8⟩, hl, ht, hq, hw⟩ := hs
  have e0 : ∀ j, 0 ≤ j → j < 150 → rd h' 188 j = rd h 188 j := fun j j0 j1 => e 188 j (by unfold sens; omega) (by decide)
  refine ⟨⟨l.1, l.2.1, l.2.2.1, l.2.2.2.1, l.2.2.2.2.1, l.2.2.2.2.2, ?_, ?_⟩, ?_, ?_, ?_, ?_⟩
  · intro k k0 k1 q
    rw [e 195 _ (by unfold sens; omega) (by decide)] at q ⊢
    exact h7 k k0 k1 q
  · intro m m0 m1 k k0 k1 q
    rw [e 200 _ (sens_c (by omega)) (by decide)] at q ⊢
    exact h8 m m0 m1 k k0 k1 q
  · intro q
    rw [e0 3 (by decide) (by decide)] at q
    obtain ⟨n, n1, n2, n3⟩ := hl q
    exact ⟨n, n1, seg_same n2 (fun k k1 k2 => ⟨e 189 k (by unfold sens; omega) (by decide), e 190 k (by unfold sens; omega) (by decide)⟩), by rw [e 189 n (by unfold sens; omega) (by decide)]; exact n3⟩
  · unfold SPtok
    rw [e 184 1000 (by unfold sens; omega) (by decide)]
    exact ht
  · refine ⟨fun d d0 d1 d2 => ?_, fun p p0 p1 p2 => ?_⟩
    · rw [e0 1 (by decide) (by decide)] at d2
      rw [e0 (5 + 8 * d) (by omega) (by omega), e0 (6 + 8 * d) (by omega) (by omega), e0 0 (by decide) (by decide)]
      exact hq.1 d d0 d1 d2
    · rw [e0 2 (by decide) (by decide)] at p2
      rw [e0 (117 + 4 * p) (by omega) (by omega), e0 0 (by decide) (by decide)]
      exact hq.2 p p0 p1 p2
  · obtain ⟨w1, w2, w3⟩ := hw
    have x0 := e0 0 (by decide) (by decide)
    have x2 := e0 2 (by decide) (by decide)
    refine ⟨wOk_same x0 x2 (fun p p0 p1 => e 198 _ (by unfold sens; omega) (by decide)) w1, fun m m0 m1 q => ?_, fun j j0 j1 q => ?_⟩
    · rw [e 199 m (by unfold sens; omega) (by decide)] at q
      exact wOk_same x0 x2 (fun p p0 p1 => e 198 _ (by unfold sens; omega) (by decide)) (w2 m m0 m1 q)
    · rw [e 182 25 (by unfold sens; omega) (by decide)] at q
      exact wOk_same x0 x2 (fun p p0 p1 => e 198 _ (by unfold sens; omega) (by decide)) (w3 j j0 j1 q)
section LX
variable {xs : Nat → Int} {xl e : Nat} {h : LH} {Q : Option LV → LH → Prop}
def frFl (h g : LH) : Prop := ∀ a i, ¬ (a = 2 ∧ 3 ≤ i ∧ i ≤ 8) → rd g a i = rd h a i
theorem D_fail {v : Int} (hv : 1 ≤ v ∧ v ≤ 5) (hI : INV h) (k : ∀ g, INV g → rd g 2 8 ≠ 0 → frFl h g → Q none g) : Rn xs xl e mm_Reader_fail 0 [some (.inr (.inr 2)), some (.inl v)] [] h Q := by
  have pl := rG_2_4 hI.1
  refine B_Reader_fail_0 (RF_of hI.1) ⟨fun z => k h hI z (fun _ _ _ => rfl), fun z => ⟨by omega, by omega, k _ (wG_2_8 hI (by omega) (by omega)) (by rw [rdw_eq]; omega) (fun a i hn => ?_)⟩⟩
  rw [rd_wr, if_neg]
  rintro ⟨rfl, rfl⟩
  exact hn ⟨rfl, by decide, by decide⟩
theorem D_takeKnown {v : Int} (he : 4 ≤ e) (hI : INV h) (k : ∀ g, INV g → frFl h g → (rd h 2 8 ≠ 0 → rd g 2 8 ≠ 0) → (v = -1 → rd g 2 8 ≠ 0) → Q (some (.inl v)) g) : Rn xs xl e mm_Reader_takeKnownName 0 [some (.inr (.inr 2)), some (.inl v)] [] h Q := by
  refine B_Reader_takeKnownName_0 (RF_of hI.1) ⟨1, by omega, K_isName (Nat.le_refl 1) hI (fun r h1 i1 f1 => ?_)⟩
  have F : ∀ {g : LH}, frFl h1 g → frFl h g := fun f a i hn => (f a i hn).trans (f1 a i)
  refine B_Reader_takeKnownName_4 (RF_of i1.1) ⟨fun z => ⟨fun z1 => ⟨3, by omega, K_step (Nat.le_refl 3) i1 (fun g gI gf => B_Reader_takeKnownName_32 (RF_of gI.1) (k g gI (fun a i hn => (gf a i (by omega)).trans (f1 a i)) (fun z2 => by rw [gf 2 8 (by decide), f1]; exact z2) (fun z2 => absurd z2 z1)))⟩, fun z1 => ⟨0, by omega, D_fail (by omega) i1 (fun g gI gn gf => B_Reader_takeKnownName_25 (RF_of gI.1) (k g gI (F gf) (fun _ => gn) (fun _ => gn)))⟩⟩, fun z => ⟨0, by omega, D_fail (by omega) i1 (fun g gI gn gf => B_Reader_takeKnownName_12 (RF_of gI.1) (k g gI (F gf) (fun _ => gn) (fun _ => gn)))⟩⟩
theorem D_takeSgn {c : Int} (hc : 0 ≤ c ∧ c ≤ 65535) (he : 4 ≤ e) (hI : INV h) (k : ∀ g, INV g → frFl h g → (rd h 2 8 ≠ 0 → rd g 2 8 ≠ 0) → Q none g) : Rn xs xl e mm_Reader_takeSign 0 [some (.inr (.inr 2)), some (.inl c)] [] h Q := by
  refine B_Reader_takeSign_0 (RF_of hI.1) ⟨1, by omega, K_isSign hc (Nat.le_refl 1) hI (fun r h1 i1 f1 => ?_)⟩
  exact B_Reader_takeSign_5 (RF_of i1.1) ⟨fun z => ⟨0, by omega, D_fail (by omega) i1 (fun g gI gn gf => B_Reader_takeSign_20 (RF_of gI.1) (k g gI (fun a i hn => (gf a i hn).trans (f1 a i)) (fun _ => gn)))⟩, fun z => ⟨3, by omega, K_step (Nat.le_refl 3) i1 (fun g gI gf => B_Reader_takeSign_12 (RF_of gI.1) (k g gI (fun a i hn => (gf a i (by omega)).trans (f1 a i)) (fun z2 => by rw [gf 2 8 (by decide), f1]; exact z2)))⟩⟩
theorem D_addLine {p d : Int} (hp : -1 ≤ p ∧ p ≤ 5) (hd : -1 ≤ d ∧ d ≤ 13) (hr : 0 ≤ p → 0 ≤ d) (hI : INV h) (k : ∀ g, INV g → (∀ a i, ¬ (a = 67 ∧ i = 1) → ¬ (a = 71 ∧ 0 ≤ i ∧ i ≤ 23) → ¬ (a = 72 ∧ 0 ≤ i ∧ i ≤ 23) → rd g a i = rd h a i) → Q none g) : Rn xs xl e mm_Memory_addLine 0 [some (.inr (.inr 67)), some (.inl p), some (.inl d)] [] h Q := by
  have n0 := rG_67_1 hI.1
  refine B_Memory_addLine_0 (RF_of hI.1) ⟨fun _ => k h hI (fun _ _ _ _ _ => rfl), fun z => ⟨by omega, by omega, by omega, ?_⟩⟩
  have r2 : RNG (wr (wr h 71 (rd h 67 1) p) 72 (rd h 67 1) d) := wS_72 (wS_71 hI.1 hp.1 hp.2) hd.1 hd.2
  generalize rd h 67 1 = n at *
  have ne : ∀ b j, b ≠ 71 → b ≠ 72 → rd (wr (wr h 71 n p) 72 n d) b j = rd h b j := fun b j n1 n2 => by rw [rdw_ne (fun q => n2 q.symm), rdw_ne (fun q => n1 q.symm)]
  have sp : SP (wr (wr h 71 n p) 72 n d) := by
    refine SP_mem (fun b j hb hb2 => ne b j (by omega) (by omega)) ⟨lines_same (fun j => ne 63 j (by decide) (by decide)) (fun j => ne 64 j (by decide) (by decide)) hI.2.1.1, ?_, lines_same (fun j => ne 106 j (by decide) (by decide)) (fun j => ne 107 j (by decide) (by decide)) hI.2.1.2.2.1, lines_same (fun j => ne 114 j (by decide) (by decide)) (fun j => ne 115 j (by decide) (by decide)) hI.2.1.2.2.2.1, lines_same (fun j => ne 122 j (by decide) (by decide)) (fun j => ne 123 j (by decide) (by decide)) hI.2.1.2.2.2.2.1, lines_same (fun j => ne 130 j (by decide) (by decide)) (fun j => ne 131 j (by decide) (by decide)) hI.2.1.2.2.2.2.2.1⟩ hI.2
    intro i hi
    by_cases c : i = n
    · subst c
      rw [rdw_ne (by decide), rdw_eq] at hi
      rw [rdw_eq]
      exact hr hi
    · rw [rdw_ne (by decide), rdw_nei (fun q => c q.symm)] at hi
      rw [rdw_nei (fun q => c q.symm), rdw_ne (by decide)]
      exact hI.2.1.2.1 i hi
  have i3 := wG_67_1 (h := wr (wr h 71 n p) 72 n d) ⟨r2, sp⟩ (v := n + 1) (by omega) (by omega)
  refine k _ i3 (fun a i m1 m2 m3 => ?_)
  rw [rd_wr, if_neg (fun q => m1 ⟨q.1.symm, q.2.symm⟩), rd_wr, if_neg (by omega), rd_wr, if_neg (by omega)]
def frD (h g : LH) : Prop := ∀ a i, ¬ (a = 2 ∧ 3 ≤ i ∧ i ≤ 8) → ¬ (a = 67 ∧ i = 1) → ¬ (a = 71 ∧ 0 ≤ i ∧ i ≤ 23) → ¬ (a = 72 ∧ 0 ≤ i ∧ i ≤ 23) → rd g a i = rd h a i
theorem L_day97 {q p d v : Int} (hq : q = 5 ∨ q = 32) (he : 1 ≤ e) (hp : -1 ≤ p ∧ p ≤ 5) (hd : -1 ≤ d ∧ d ≤ 13) (hI : INV h) (hr : rd h 2 8 = 0 → 0 ≤ p → 0 ≤ d) (k : ∀ g, INV g → frD h g → Q none g) : Rn xs xl e mm_Reader_dayLine 97 [some (.inr (.inr 2)), some (.inr (.inr q)), some (.inr (.inr 67)), some (.inl v), some (.inl p), some (.inl d)] [] h Q :=
  B_Reader_dayLine_97 hq (RF_of hI.1) ⟨fun _ => k h hI (fun _ _ _ _ _ _ => rfl), fun z => ⟨0, by omega, D_addLine hp hd (hr z) hI (fun g gI gf => B_Reader_dayLine_112 hq (RF_of gI.1) (k g gI (fun a i n1 n2 n3 n4 => gf a i n2 n3 n4)))⟩⟩
theorem L_day53 {q v : Int} (hq : q = 5 ∨ q = 32) (he : 5 ≤ e) (hI : INV h) (k : ∀ g, INV g → frD h g → Q none g) : Rn xs xl e mm_Reader_dayLine 53 [some (.inr (.inr 2)), some (.inr (.inr q)), some (.inr (.inr 67)), some (.inl v), none, none] [] h Q := by
  have J : ∀ {g : LH}, INV g → i64 (rd g 2 6) := fun gI => rJ gI.1 (vB_ok (by decide +kernel)) (by decide +kernel) (by decide +kernel)
  refine B_Reader_dayLine_53 hq (RF_of hI.1) ⟨fun z => ⟨4, by omega, D_takeSgn (by omega) (Nat.le_refl 4) hI (fun g gI gf _ => L_day97 hq (by omega) (by omega) (by omega) gI (fun _ z => by omega) (fun g2 i2 f2 => k g2 i2 (fun a i n1 n2 n3 n4 => (f2 a i n1 n2 n3 n4).trans (gf a i n1))))⟩, fun z => ⟨1, by omega, K_personNamed hq (J hI) (Nat.le_refl 1) hI (fun r1 h1 i1 f1 a0 a1 => ?_)⟩⟩
  refine B_Reader_dayLine_72 hq (RF_of i1.1) ⟨4, by omega, D_takeKnown (Nat.le_refl 4) i1 (fun h2 i2 f2 _ n2 => ?_)⟩
  refine B_Reader_dayLine_75 hq (RF_of i2.1) ⟨1, by omega, K_doorNamed hq (J i2) (Nat.le_refl 1) i2 (fun r2 h3 i3 f3 b0 b1 => ?_)⟩
  refine B_Reader_dayLine_86 hq (RF_of i3.1) ⟨4, by omega, D_takeKnown (Nat.le_refl 4) i3 (fun h4 i4 f4 m4 n4 => ?_)⟩
  refine B_Reader_dayLine_89 hq (RF_of i4.1) ⟨4, by omega, D_takeSgn (by omega) (Nat.le_refl 4) i4 (fun h5 i5 f5 m5 => ?_)⟩
  refine L_day97 hq (by omega) ⟨a0, a1⟩ ⟨b0, b1⟩ i5 (fun z5 z6 => ?_) (fun g2 i6 f6 => k g2 i6 (fun a i n1 n2 n3 n4 => (f6 a i n1 n2 n3 n4).trans ((f5 a i n1).trans ((f4 a i n1).trans ((f3 a i).trans ((f2 a i n1).trans (f1 a i)))))))
  by_cases c : r2 = -1
  · exact absurd z5 (m5 (n4 c))
  · omega
theorem D_dayLine {q : Int} (hq : q = 5 ∨ q = 32) (he : 5 ≤ e) (hI : INV h) (k : ∀ g, INV g → frD h g → Q none g) : Rn xs xl e mm_Reader_dayLine 0 [some (.inr (.inr 2)), some (.inr (.inr q)), some (.inr (.inr 67)), none, none, none] [] h Q := by
  have S : ∀ v : Int, ∃ c, c < e ∧ Rn xs xl c mm_Reader_step 0 [some (.inr (.inr 2)), none] [] h (fun r h' => Rn xs xl e mm_Reader_dayLine 53 [some (.inr (.inr 2)), some (.inr (.inr q)), some (.inr (.inr 67)), some (.inl v), none, none] (r.toList ++ []) h' Q) := fun v => ⟨3, by omega, K_step (Nat.le_refl 3) hI (fun g gI gf => L_day53 hq he gI (fun g2 i2 f2 => k g2 i2 (fun a i n1 n2 n3 n4 => (f2 a i n1 n2 n3 n4).trans (gf a i (by omega)))))⟩
  have F5 : ∀ v : Int, ∃ c, c < e ∧ Rn xs xl c mm_Reader_fail 0 [some (.inr (.inr 2)), some (.inl 5)] [] h (fun r h' => Rn xs xl e mm_Reader_dayLine 48 [some (.inr (.inr 2)), some (.inr (.inr q)), some (.inr (.inr 67)), some (.inl v), none, none] (r.toList ++ []) h' Q) := fun v => ⟨0, by omega, D_fail (by omega) hI (fun g gI _ gf => B_Reader_dayLine_48 hq (RF_of gI.1) (k g gI (fun a i n1 n2 n3 n4 => gf a i n1)))⟩
  exact B_Reader_dayLine_0 hq (RF_of hI.1) ⟨fun _ => ⟨fun _ => ⟨fun _ => S 0, fun _ => F5 0⟩, fun _ => ⟨0, by omega, D_fail (by omega) hI (fun g gI _ gf => B_Reader_dayLine_33 hq (RF_of gI.1) (k g gI (fun a i n1 n2 n3 n4 => gf a i n1)))⟩⟩, fun _ => ⟨fun _ => S 1, fun _ => F5 1⟩⟩
def frP (h g : LH) : Prop := ∀ a i, ¬ (a = 68 ∧ 0 ≤ i ∧ i ≤ 3) → ¬ (a = 69 ∧ 0 ≤ i ∧ i ≤ 5) → ¬ (a = 70 ∧ 0 ≤ i ∧ i ≤ 13) → rd g a i = rd h a i
theorem L_play {q : Int} (hq : q = 5 ∨ q = 32) (he : 4 ≤ e) : ∀ (m : Nat) (j w : Int) (h : LH), INV h → 0 ≤ j → j ≤ 24 → (24 - j).toNat ≤ m → -1 ≤ w → w ≤ 23 → (∀ r g, INV g → frP h g → -1 ≤ r → r ≤ 23 → Q (some (.inl r)) g) → Rn xs xl e mm_Memory_playDay 5 [some (.inr (.inr 59)), some (.inr (.inr q)), some (.inr (.inr 68)), some (.inl w), some (.inl j)] [] h Q := by
  intro m
  induction m with
  | zero =>
    intro j w h hI j0 j1 jm w0 w1 k
    have ln := rG_59_1 hI.1
    exact B_Memory_playDay_5 hq (RF_of hI.1) (by omega) ⟨fun _ => k w h hI (fun _ _ _ _ _ => rfl) w0 w1, fun z => absurd z (by omega)⟩
  | succ m ih =>
    intro j w h hI j0 j1 jm w0 w1 k
    have ln := rG_59_1 hI.1
    refine B_Memory_playDay_5 hq (RF_of hI.1) (by omega) ⟨fun _ => k w h hI (fun _ _ _ _ _ => rfl) w0 w1, fun z => ⟨by omega, fun z1 => ⟨by omega, by omega, 3, by omega, ?_⟩, fun z1 => ⟨2, by omega, K_pass (Nat.le_refl 2) hI (fun g gI gf => B_Memory_playDay_30 hq (RF_of gI.1) (by omega) (ih (j + 1) w g gI (by omega) (by omega) (by omega) w0 w1 (fun r g2 i2 f2 r0 r1 => k r g2 i2 (fun a i n1 n2 n3 => (f2 a i n1 n2 n3).trans (gf a i n1 n2 n3)) r0 r1)))⟩⟩⟩
    have go := rB_63 hI.1 (i := j) (by omega)
    have gb := rB_64 hI.1 (i := j) (by omega)
    have rel := hI.2.1.1 j (by omega)
    refine K_tryDoor hq (by omega) (by omega) (Nat.le_refl 3) hI (fun r g gI gf => ?_)
    have nx : ∀ w' : Int, -1 ≤ w' → w' ≤ 23 → Rn xs xl e mm_Memory_playDay 5 [some (.inr (.inr 59)), some (.inr (.inr q)), some (.inr (.inr 68)), some (.inl w'), some (.inl (j + 1))] [] g Q := fun w' a b => ih (j + 1) w' g gI (by omega) (by omega) (by omega) a b (fun r g2 i2 f2 r0 r1 => k r g2 i2 (fun a i n1 n2 n3 => (f2 a i n1 n2 n3).trans (gf a i n1 n2 n3)) r0 r1)
    exact B_Memory_playDay_52 hq (RF_of gI.1) (by omega) ⟨fun _ => nx w w0 w1, fun _ => ⟨fun _ => nx w w0 w1, fun _ => nx j (by omega) (by omega)⟩⟩
theorem D_playDay {q : Int} (hq : q = 5 ∨ q = 32) (he : 4 ≤ e) (hI : INV h) (k : ∀ r g, INV g → frP h g → -1 ≤ r → r ≤ 23 → Q (some (.inl r)) g) : Rn xs xl e mm_Memory_playDay 0 [some (.inr (.inr 59)), some (.inr (.inr q)), some (.inr (.inr 68)), none, none] [] h Q :=
  B_Memory_playDay_0 hq (RF_of hI.1) (L_play hq he 24 0 (-1) h hI (by omega) (by omega) (by omega) (by omega) (by omega) k)
end LX
end
section
/-! LM, part 94, by program (wip/p2/gen93.py): copies of a day, of a memory -/
section CZ
variable {xs : Nat → Int} {xl e : Nat} {h : LH} {Q : Option LV → LH → Prop}
theorem ex24 {h h0 : LH} {A B sA sB : Int} (e1 : ∀ i, rd h0 A i = if 0 ≤ i ∧ i < 24 then rd h sA i else rd h A i) (e2 : ∀ i, rd h0 B i = if 0 ≤ i ∧ i < 24 then rd h sB i else rd h B i) (l1 : linesOk h sA sB) (l2 : linesOk h A B) : linesOk h0 A B := by
  intro i hi
  rw [e1] at hi
  rw [e2]
  by_cases c : 0 ≤ i ∧ i < 24
  · rw [if_pos c] at hi ⊢
    exact l1 i hi
  · rw [if_neg c] at hi ⊢
    exact l2 i hi
theorem D_copyDay_59_67 (hI : INV h) (k : ∀ g, INV g → (∀ a i, ¬ (a = 59 ∧ i = 1) → ¬ (a = 63 ∧ 0 ≤ i ∧ i < 24) → ¬ (a = 64 ∧ 0 ≤ i ∧ i < 24) → rd g a i = rd h a i) → Q none g) : Rn xs xl e mm_Memory_copyDay 0 [some (.inr (.inr 59)), some (.inr (.inr 67))] [] h Q := by
  have l := rG_67_1 hI.1
  have i0 := wG_59_1 hI (v := rd h 67 1) (by omega) (by omega)
  refine B_copyDay_0_59_67 (RF_of hI.1) ?_
  have n0 : ∀ b j, ¬ (b = 59 ∧ j = 1) → rd (wr h 59 1 (rd h 67 1)) b j = rd h b j := fun b j hn => by rw [rd_wr, if_neg (fun q => hn ⟨q.1.symm, q.2.symm⟩)]
  generalize wr h 59 1 (rd h 67 1) = h0 at *
  have r1 : RNG (cpyL h0 71 0 63 0 24 ++ h0) := RNG_cpk (n := 24) (fun f j hj hf => by
    have q := rB_71 i0.1 (i := 0 + (j : Int)) (by omega)
    exact wS_63 hf (by omega) (by omega)) i0.1 24 (Nat.le_refl _)
  have n1 : ∀ b j, rd (cpyL h0 71 0 63 0 24 ++ h0) b j = if b = 63 ∧ 0 ≤ j ∧ j < 24 then rd h0 71 j else rd h0 b j := fun b j => rd_cp0 24
  generalize cpyL h0 71 0 63 0 24 ++ h0 = h1 at *
  refine B_copyDay_23_59_67 (RF_of r1) ?_
  have r2 : RNG (cpyL h1 72 0 64 0 24 ++ h1) := RNG_cpk (n := 24) (fun f j hj hf => by
    have q := rB_72 r1 (i := 0 + (j : Int)) (by omega)
    exact wS_64 hf (by omega) (by omega)) r1 24 (Nat.le_refl _)
  have n2 : ∀ b j, rd (cpyL h1 72 0 64 0 24 ++ h1) b j = if b = 64 ∧ 0 ≤ j ∧ j < 24 then rd h1 72 j else rd h1 b j := fun b j => rd_cp0 24
  generalize cpyL h1 72 0 64 0 24 ++ h1 = h2 at *
  have fr : ∀ a i, ¬ (a = 59 ∧ i = 1) → ¬ (a = 63 ∧ 0 ≤ i ∧ i < 24) → ¬ (a = 64 ∧ 0 ≤ i ∧ i < 24) → rd h2 a i = rd h a i := fun a i m1 m2 m3 => by rw [n2, if_neg m3, n1, if_neg m2, n0 a i m1]
  refine B_copyDay_38_59_67 (RF_of r2) (k h2 ⟨r2, SP_mem (fun b j hb hb2 => fr b j (by omega) (by omega) (by omega)) ⟨ex24 (sA := 71) (sB := 72) (fun i => ?_) (fun i => ?_) hI.2.1.2.1 hI.2.1.1, lines_same (fun j => fr 71 j (by omega) (by omega) (by omega)) (fun j => fr 72 j (by omega) (by omega) (by omega)) hI.2.1.2.1, lines_same (fun j => fr 106 j (by omega) (by omega) (by omega)) (fun j => fr 107 j (by omega) (by omega) (by omega)) hI.2.1.2.2.1, lines_same (fun j => fr 114 j (by omega) (by omega) (by omega)) (fun j => fr 115 j (by omega) (by omega) (by omega)) hI.2.1.2.2.2.1, lines_same (fun j => fr 122 j (by omega) (by omega) (by omega)) (fun j => fr 123 j (by omega) (by omega) (by omega)) hI.2.1.2.2.2.2.1, lines_same (fun j => fr 130 j (by omega) (by omega) (by omega)) (fun j => fr 131 j (by omega) (by omega) (by omega)) hI.2.1.2.2.2.2.2.1⟩ hI.2⟩ fr)
  · rw [n2, if_neg (by omega), n1]
    by_cases c : 0 ≤ i ∧ i < 24
    · rw [if_pos ⟨rfl, c⟩, if_pos c, n0 _ _ (by omega)]
    · rw [if_neg (fun q => c q.2), if_neg c, n0 _ _ (by omega)]
  · rw [n2]
    by_cases c : 0 ≤ i ∧ i < 24
    · rw [if_pos ⟨rfl, c⟩, if_pos c, n1, if_neg (by omega), n0 _ _ (by omega)]
    · rw [if_neg (fun q => c q.2), if_neg c, n1, if_neg (by omega), n0 _ _ (by omega)]
theorem D_copyDay_102_59 (hI : INV h) (k : ∀ g, INV g → (∀ a i, ¬ (a = 102 ∧ i = 1) → ¬ (a = 106 ∧ 0 ≤ i ∧ i < 24) → ¬ (a = 107 ∧ 0 ≤ i ∧ i < 24) → rd g a i = rd h a i) → Q none g) : Rn xs xl e mm_Memory_copyDay 0 [some (.inr (.inr 102)), some (.inr (.inr 59))] [] h Q := by
  have l := rG_59_1 hI.1
  have i0 := wG_102_1 hI (v := rd h 59 1) (by omega) (by omega)
  refine B_copyDay_0_102_59 (RF_of hI.1) ?_
  have n0 : ∀ b j, ¬ (b = 102 ∧ j = 1) → rd (wr h 102 1 (rd h 59 1)) b j = rd h b j := fun b j hn => by rw [rd_wr, if_neg (fun q => hn ⟨q.1.symm, q.2.symm⟩)]
  generalize wr h 102 1 (rd h 59 1) = h0 at *
  have r1 : RNG (cpyL h0 63 0 106 0 24 ++ h0) := RNG_cpk (n := 24) (fun f j hj hf => by
    have q := rB_63 i0.1 (i := 0 + (j : Int)) (by omega)
    exact wS_106 hf (by omega) (by omega)) i0.1 24 (Nat.le_refl _)
  have n1 : ∀ b j, rd (cpyL h0 63 0 106 0 24 ++ h0) b j = if b = 106 ∧ 0 ≤ j ∧ j < 24 then rd h0 63 j else rd h0 b j := fun b j => rd_cp0 24
  generalize cpyL h0 63 0 106 0 24 ++ h0 = h1 at *
  refine B_copyDay_23_102_59 (RF_of r1) ?_
  have r2 : RNG (cpyL h1 64 0 107 0 24 ++ h1) := RNG_cpk (n := 24) (fun f j hj hf => by
    have q := rB_64 r1 (i := 0 + (j : Int)) (by omega)
    exact wS_107 hf (by omega) (by omega)) r1 24 (Nat.le_refl _)
  have n2 : ∀ b j, rd (cpyL h1 64 0 107 0 24 ++ h1) b j = if b = 107 ∧ 0 ≤ j ∧ j < 24 then rd h1 64 j else rd h1 b j := fun b j => rd_cp0 24
  generalize cpyL h1 64 0 107 0 24 ++ h1 = h2 at *
  have fr : ∀ a i, ¬ (a = 102 ∧ i = 1) → ¬ (a = 106 ∧ 0 ≤ i ∧ i < 24) → ¬ (a = 107 ∧ 0 ≤ i ∧ i < 24) → rd h2 a i = rd h a i := fun a i m1 m2 m3 => by rw [n2, if_neg m3, n1, if_neg m2, n0 a i m1]
  refine B_copyDay_38_102_59 (RF_of r2) (k h2 ⟨r2, SP_mem (fun b j hb hb2 => fr b j (by omega) (by omega) (by omega)) ⟨lines_same (fun j => fr 63 j (by omega) (by omega) (by omega)) (fun j => fr 64 j (by omega) (by omega) (by omega)) hI.2.1.1, lines_same (fun j => fr 71 j (by omega) (by omega) (by omega)) (fun j => fr 72 j (by omega) (by omega) (by omega)) hI.2.1.2.1, ex24 (sA := 63) (sB := 64) (fun i => ?_) (fun i => ?_) hI.2.1.1 hI.2.1.2.2.1, lines_same (fun j => fr 114 j (by omega) (by omega) (by omega)) (fun j => fr 115 j (by omega) (by omega) (by omega)) hI.2.1.2.2.2.1, lines_same (fun j => fr 122 j (by omega) (by omega) (by omega)) (fun j => fr 123 j (by omega) (by omega) (by omega)) hI.2.1.2.2.2.2.1, lines_same (fun j => fr 130 j (by omega) (by omega) (by omega)) (fun j => fr 131 j (by omega) (by omega) (by omega)) hI.2.1.2.2.2.2.2.1⟩ hI.2⟩ fr)
  · rw [n2, if_neg (by omega), n1]
    by_cases c : 0 ≤ i ∧ i < 24
    · rw [if_pos ⟨rfl, c⟩, if_pos c, n0 _ _ (by omega)]
    · rw [if_neg (fun q => c q.2), if_neg c, n0 _ _ (by omega)]
  · rw [n2]
    by_cases c : 0 ≤ i ∧ i < 24
    · rw [if_pos ⟨rfl, c⟩, if_pos c, n1, if_neg (by omega), n0 _ _ (by omega)]
    · rw [if_neg (fun q => c q.2), if_neg c, n1, if_neg (by omega), n0 _ _ (by omega)]
theorem D_copyDay_110_59 (hI : INV h) (k : ∀ g, INV g → (∀ a i, ¬ (a = 110 ∧ i = 1) → ¬ (a = 114 ∧ 0 ≤ i ∧ i < 24) → ¬ (a = 115 ∧ 0 ≤ i ∧ i < 24) → rd g a i = rd h a i) → Q none g) : Rn xs xl e mm_Memory_copyDay 0 [some (.inr (.inr 110)), some (.inr (.inr 59))] [] h Q := by
  have l := rG_59_1 hI.1
  have i0 := wG_110_1 hI (v := rd h 59 1) (by omega) (by omega)
  refine B_copyDay_0_110_59 (RF_of hI.1) ?_
  have n0 : ∀ b j, ¬ (b = 110 ∧ j = 1) → rd (wr h 110 1 (rd h 59 1)) b j = rd h b j := fun b j hn => by rw [rd_wr, if_neg (fun q => hn ⟨q.1.symm, q.2.symm⟩)]
  generalize wr h 110 1 (rd h 59 1) = h0 at *
  have r1 : RNG (cpyL h0 63 0 114 0 24 ++ h0) := RNG_cpk (n := 24) (fun f j hj hf => by
    have q := rB_63 i0.1 (i := 0 + (j : Int)) (by omega)
    exact wS_114 hf (by omega) (by omega)) i0.1 24 (Nat.le_refl _)
  have n1 : ∀ b j, rd (cpyL h0 63 0 114 0 24 ++ h0) b j = if b = 114 ∧ 0 ≤ j ∧ j < 24 then rd h0 63 j else rd h0 b j := fun b j => rd_cp0 24
  generalize cpyL h0 63 0 114 0 24 ++ h0 = h1 at *
  refine B_copyDay_23_110_59 (RF_of r1) ?_
  have r2 : RNG (cpyL h1 64 0 115 0 24 ++ h1) := RNG_cpk (n := 24) (fun f j hj hf => by
    have q := rB_64 r1 (i := 0 + (j : Int)) (by omega)
    exact wS_115 hf (by omega) (by omega)) r1 24 (Nat.le_refl _)
  have n2 : ∀ b j, rd (cpyL h1 64 0 115 0 24 ++ h1) b j = if b = 115 ∧ 0 ≤ j ∧ j < 24 then rd h1 64 j else rd h1 b j := fun b j => rd_cp0 24
  generalize cpyL h1 64 0 115 0 24 ++ h1 = h2 at *
  have fr : ∀ a i, ¬ (a = 110 ∧ i = 1) → ¬ (a = 114 ∧ 0 ≤ i ∧ i < 24) → ¬ (a = 115 ∧ 0 ≤ i ∧ i < 24) → rd h2 a i = rd h a i := fun a i m1 m2 m3 => by rw [n2, if_neg m3, n1, if_neg m2, n0 a i m1]
  refine B_copyDay_38_110_59 (RF_of r2) (k h2 ⟨r2, SP_mem (fun b j hb hb2 => fr b j (by omega) (by omega) (by omega)) ⟨lines_same (fun j => fr 63 j (by omega) (by omega) (by omega)) (fun j => fr 64 j (by omega) (by omega) (by omega)) hI.2.1.1, lines_same (fun j => fr 71 j (by omega) (by omega) (by omega)) (fun j => fr 72 j (by omega) (by omega) (by omega)) hI.2.1.2.1, lines_same (fun j => fr 106 j (by omega) (by omega) (by omega)) (fun j => fr 107 j (by omega) (by omega) (by omega)) hI.2.1.2.2.1, ex24 (sA := 63) (sB := 64) (fun i => ?_) (fun i => ?_) hI.2.1.1 hI.2.1.2.2.2.1, lines_same (fun j => fr 122 j (by omega) (by omega) (by omega)) (fun j => fr 123 j (by omega) (by omega) (by omega)) hI.2.1.2.2.2.2.1, lines_same (fun j => fr 130 j (by omega) (by omega) (by omega)) (fun j => fr 131 j (by omega) (by omega) (by omega)) hI.2.1.2.2.2.2.2.1⟩ hI.2⟩ fr)
  · rw [n2, if_neg (by omega), n1]
    by_cases c : 0 ≤ i ∧ i < 24
    · rw [if_pos ⟨rfl, c⟩, if_pos c, n0 _ _ (by omega)]
    · rw [if_neg (fun q => c q.2), if_neg c, n0 _ _ (by omega)]
  · rw [n2]
    by_cases c : 0 ≤ i ∧ i < 24
    · rw [if_pos ⟨rfl, c⟩, if_pos c, n1, if_neg (by omega), n0 _ _ (by omega)]
    · rw [if_neg (fun q => c q.2), if_neg c, n1, if_neg (by omega), n0 _ _ (by omega)]
theorem D_copyDay_118_59 (hI : INV h) (k : ∀ g, INV g → (∀ a i, ¬ (a = 118 ∧ i = 1) → ¬ (a = 122 ∧ 0 ≤ i ∧ i < 24) → ¬ (a = 123 ∧ 0 ≤ i ∧ i < 24) → rd g a i = rd h a i) → Q none g) : Rn xs xl e mm_Memory_copyDay 0 [some (.inr (.inr 118)), some (.inr (.inr 59))] [] h Q := by
  have l := rG_59_1 hI.1
  have i0 := wG_118_1 hI (v := rd h 59 1) (by omega) (by omega)
  refine B_copyDay_0_118_59 (RF_of hI.1) ?_
  have n0 : ∀ b j, ¬ (b = 118 ∧ j = 1) → rd (wr h 118 1 (rd h 59 1)) b j = rd h b j := fun b j hn => by rw [rd_wr, if_neg (fun q => hn ⟨q.1.symm, q.2.symm⟩)]
  generalize wr h 118 1 (rd h 59 1) = h0 at *
  have r1 : RNG (cpyL h0 63 0 122 0 24 ++ h0) := RNG_cpk (n := 24) (fun f j hj hf => by
    have q := rB_63 i0.1 (i := 0 + (j : Int)) (by omega)
    exact wS_122 hf (by omega) (by omega)) i0.1 24 (Nat.le_refl _)
  have n1 : ∀ b j, rd (cpyL h0 63 0 122 0 24 ++ h0) b j = if b = 122 ∧ 0 ≤ j ∧ j < 24 then rd h0 63 j else rd h0 b j := fun b j => rd_cp0 24
  generalize cpyL h0 63 0 122 0 24 ++ h0 = h1 at *
  refine B_copyDay_23_118_59 (RF_of r1) ?_
  have r2 : RNG (cpyL h1 64 0 123 0 24 ++ h1) := RNG_cpk (n := 24) (fun f j hj hf => by
    have q := rB_64 r1 (i := 0 + (j : Int)) (by omega)
    exact wS_123 hf (by omega) (by omega)) r1 24 (Nat.le_refl _)
  have n2 : ∀ b j, rd (cpyL h1 64 0 123 0 24 ++ h1) b j = if b = 123 ∧ 0 ≤ j ∧ j < 24 then rd h1 64 j else rd h1 b j := fun b j => rd_cp0 24
  generalize cpyL h1 64 0 123 0 24 ++ h1 = h2 at *
  have fr : ∀ a i, ¬ (a = 118 ∧ i = 1) → ¬ (a = 122 ∧ 0 ≤ i ∧ i < 24) → ¬ (a = 123 ∧ 0 ≤ i ∧ i < 24) → rd h2 a i = rd h a i := fun a i m1 m2 m3 => by rw [n2, if_neg m3, n1, if_neg m2, n0 a i m1]
  refine B_copyDay_38_118_59 (RF_of r2) (k h2 ⟨r2, SP_mem (fun b j hb hb2 => fr b j (by omega) (by omega) (by omega)) ⟨lines_same (fun j => fr 63 j (by omega) (by omega) (by omega)) (fun j => fr 64 j (by omega) (by omega) (by omega)) hI.2.1.1, lines_same (fun j => fr 71 j (by omega) (by omega) (by omega)) (fun j => fr 72 j (by omega) (by omega) (by omega)) hI.2.1.2.1, lines_same (fun j => fr 106 j (by omega) (by omega) (by omega)) (fun j => fr 107 j (by omega) (by omega) (by omega)) hI.2.1.2.2.1, lines_same (fun j => fr 114 j (by omega) (by omega) (by omega)) (fun j => fr 115 j (by omega) (by omega) (by omega)) hI.2.1.2.2.2.1, ex24 (sA := 63) (sB := 64) (fun i => ?_) (fun i => ?_) hI.2.1.1 hI.2.1.2.2.2.2.1, lines_same (fun j => fr 130 j (by omega) (by omega) (by omega)) (fun j => fr 131 j (by omega) (by omega) (by omega)) hI.2.1.2.2.2.2.2.1⟩ hI.2⟩ fr)
  · rw [n2, if_neg (by omega), n1]
    by_cases c : 0 ≤ i ∧ i < 24
    · rw [if_pos ⟨rfl, c⟩, if_pos c, n0 _ _ (by omega)]
    · rw [if_neg (fun q => c q.2), if_neg c, n0 _ _ (by omega)]
  · rw [n2]
    by_cases c : 0 ≤ i ∧ i < 24
    · rw [if_pos ⟨rfl, c⟩, if_pos c, n1, if_neg (by omega), n0 _ _ (by omega)]
    · rw [if_neg (fun q => c q.2), if_neg c, n1, if_neg (by omega), n0 _ _ (by omega)]
theorem D_copyDay_126_59 (hI : INV h) (k : ∀ g, INV g → (∀ a i, ¬ (a = 126 ∧ i = 1) → ¬ (a = 130 ∧ 0 ≤ i ∧ i < 24) → ¬ (a = 131 ∧ 0 ≤ i ∧ i < 24) → rd g a i = rd h a i) → Q none g) : Rn xs xl e mm_Memory_copyDay 0 [some (.inr (.inr 126)), some (.inr (.inr 59))] [] h Q := by
  have l := rG_59_1 hI.1
  have i0 := wG_126_1 hI (v := rd h 59 1) (by omega) (by omega)
  refine B_copyDay_0_126_59 (RF_of hI.1) ?_
  have n0 : ∀ b j, ¬ (b = 126 ∧ j = 1) → rd (wr h 126 1 (rd h 59 1)) b j = rd h b j := fun b j hn => by rw [rd_wr, if_neg (fun q => hn ⟨q.1.symm, q.2.symm⟩)]
  generalize wr h 126 1 (rd h 59 1) = h0 at *
  have r1 : RNG (cpyL h0 63 0 130 0 24 ++ h0) := RNG_cpk (n := 24) (fun f j hj hf => by
    have q := rB_63 i0.1 (i := 0 + (j : Int)) (by omega)
    exact wS_130 hf (by omega) (by omega)) i0.1 24 (Nat.le_refl _)
  have n1 : ∀ b j, rd (cpyL h0 63 0 130 0 24 ++ h0) b j = if b = 130 ∧ 0 ≤ j ∧ j < 24 then rd h0 63 j else rd h0 b j := fun b j => rd_cp0 24
  generalize cpyL h0 63 0 130 0 24 ++ h0 = h1 at *
  refine B_copyDay_23_126_59 (RF_of r1) ?_
  have r2 : RNG (cpyL h1 64 0 131 0 24 ++ h1) := RNG_cpk (n := 24) (fun f j hj hf => by
    have q := rB_64 r1 (i := 0 + (j : Int)) (by omega)
    exact wS_131 hf (by omega) (by omega)) r1 24 (Nat.le_refl _)
  have n2 : ∀ b j, rd (cpyL h1 64 0 131 0 24 ++ h1) b j = if b = 131 ∧ 0 ≤ j ∧ j < 24 then rd h1 64 j else rd h1 b j := fun b j => rd_cp0 24
  generalize cpyL h1 64 0 131 0 24 ++ h1 = h2 at *
  have fr : ∀ a i, ¬ (a = 126 ∧ i = 1) → ¬ (a = 130 ∧ 0 ≤ i ∧ i < 24) → ¬ (a = 131 ∧ 0 ≤ i ∧ i < 24) → rd h2 a i = rd h a i := fun a i m1 m2 m3 => by rw [n2, if_neg m3, n1, if_neg m2, n0 a i m1]
  refine B_copyDay_38_126_59 (RF_of r2) (k h2 ⟨r2, SP_mem (fun b j hb hb2 => fr b j (by omega) (by omega) (by omega)) ⟨lines_same (fun j => fr 63 j (by omega) (by omega) (by omega)) (fun j => fr 64 j (by omega) (by omega) (by omega)) hI.2.1.1, lines_same (fun j => fr 71 j (by omega) (by omega) (by omega)) (fun j => fr 72 j (by omega) (by omega) (by omega)) hI.2.1.2.1, lines_same (fun j => fr 106 j (by omega) (by omega) (by omega)) (fun j => fr 107 j (by omega) (by omega) (by omega)) hI.2.1.2.2.1, lines_same (fun j => fr 114 j (by omega) (by omega) (by omega)) (fun j => fr 115 j (by omega) (by omega) (by omega)) hI.2.1.2.2.2.1, lines_same (fun j => fr 122 j (by omega) (by omega) (by omega)) (fun j => fr 123 j (by omega) (by omega) (by omega)) hI.2.1.2.2.2.2.1, ex24 (sA := 63) (sB := 64) (fun i => ?_) (fun i => ?_) hI.2.1.1 hI.2.1.2.2.2.2.2.1⟩ hI.2⟩ fr)
  · rw [n2, if_neg (by omega), n1]
    by_cases c : 0 ≤ i ∧ i < 24
    · rw [if_pos ⟨rfl, c⟩, if_pos c, n0 _ _ (by omega)]
    · rw [if_neg (fun q => c q.2), if_neg c, n0 _ _ (by omega)]
  · rw [n2]
    by_cases c : 0 ≤ i ∧ i < 24
    · rw [if_pos ⟨rfl, c⟩, if_pos c, n1, if_neg (by omega), n0 _ _ (by omega)]
    · rw [if_neg (fun q => c q.2), if_neg c, n1, if_neg (by omega), n0 _ _ (by omega)]
theorem D_copyDay_59_102 (hI : INV h) (k : ∀ g, INV g → (∀ a i, ¬ (a = 59 ∧ i = 1) → ¬ (a = 63 ∧ 0 ≤ i ∧ i < 24) → ¬ (a = 64 ∧ 0 ≤ i ∧ i < 24) → rd g a i = rd h a i) → Q none g) : Rn xs xl e mm_Memory_copyDay 0 [some (.inr (.inr 59)), some (.inr (.inr 102))] [] h Q := by
  have l := rG_102_1 hI.1
  have i0 := wG_59_1 hI (v := rd h 102 1) (by omega) (by omega)
  refine B_copyDay_0_59_102 (RF_of hI.1) ?_
  have n0 : ∀ b j, ¬ (b = 59 ∧ j = 1) → rd (wr h 59 1 (rd h 102 1)) b j = rd h b j := fun b j hn => by rw [rd_wr, if_neg (fun q => hn ⟨q.1.symm, q.2.symm⟩)]
  generalize wr h 59 1 (rd h 102 1) = h0 at *
  have r1 : RNG (cpyL h0 106 0 63 0 24 ++ h0) := RNG_cpk (n := 24) (fun f j hj hf => by
    have q := rB_106 i0.1 (i := 0 + (j : Int)) (by omega)
    exact wS_63 hf (by omega) (by omega)) i0.1 24 (Nat.le_refl _)
  have n1 : ∀ b j, rd (cpyL h0 106 0 63 0 24 ++ h0) b j = if b = 63 ∧ 0 ≤ j ∧ j < 24 then rd h0 106 j else rd h0 b j := fun b j => rd_cp0 24
  generalize cpyL h0 106 0 63 0 24 ++ h0 = h1 at *
  refine B_copyDay_23_59_102 (RF_of r1) ?_
  have r2 : RNG (cpyL h1 107 0 64 0 24 ++ h1) := RNG_cpk (n := 24) (fun f j hj hf => by
    have q := rB_107 r1 (i := 0 + (j : Int)) (by omega)
    exact wS_64 hf (by omega) (by omega)) r1 24 (Nat.le_refl _)
  have n2 : ∀ b j, rd (cpyL h1 107 0 64 0 24 ++ h1) b j = if b = 64 ∧ 0 ≤ j ∧ j < 24 then rd h1 107 j else rd h1 b j := fun b j => rd_cp0 24
  generalize cpyL h1 107 0 64 0 24 ++ h1 = h2 at *
  have fr : ∀ a i, ¬ (a = 59 ∧ i = 1) → ¬ (a = 63 ∧ 0 ≤ i ∧ i < 24) → ¬ (a = 64 ∧ 0 ≤ i ∧ i < 24) → rd h2 a i = rd h a i := fun a i m1 m2 m3 => by rw [n2, if_neg m3, n1, if_neg m2, n0 a i m1]
  refine B_copyDay_38_59_102 (RF_of r2) (k h2 ⟨r2, SP_mem (fun b j hb hb2 => fr b j (by omega) (by omega) (by omega)) ⟨ex24 (sA := 106) (sB := 107) (fun i => ?_) (fun i => ?_) hI.2.1.2.2.1 hI.2.1.1, lines_same (fun j => fr 71 j (by omega) (by omega) (by omega)) (fun j => fr 72 j (by omega) (by omega) (by omega)) hI.2.1.2.1, lines_same (fun j => fr 106 j (by omega) (by omega) (by omega)) (fun j => fr 107 j (by omega) (by omega) (by omega)) hI.2.1.2.2.1, lines_same (fun j => fr 114 j (by omega) (by omega) (by omega)) (fun j => fr 115 j (by omega) (by omega) (by omega)) hI.2.1.2.2.2.1, lines_same (fun j => fr 122 j (by omega) (by omega) (by omega)) (fun j => fr 123 j (by omega) (by omega) (by omega)) hI.2.1.2.2.2.2.1, lines_same (fun j => fr 130 j (by omega) (by omega) (by omega)) (fun j => fr 131 j (by omega) (by omega) (by omega)) hI.2.1.2.2.2.2.2.1⟩ hI.2⟩ fr)
  · rw [n2, if_neg (by omega), n1]
    by_cases c : 0 ≤ i ∧ i < 24
    · rw [if_pos ⟨rfl, c⟩, if_pos c, n0 _ _ (by omega)]
    · rw [if_neg (fun q => c q.2), if_neg c, n0 _ _ (by omega)]
  · rw [n2]
    by_cases c : 0 ≤ i ∧ i < 24
    · rw [if_pos ⟨rfl, c⟩, if_pos c, n1, if_neg (by omega), n0 _ _ (by omega)]
    · rw [if_neg (fun q => c q.2), if_neg c, n1, if_neg (by omega), n0 _ _ (by omega)]
theorem D_copyDay_59_110 (hI : INV h) (k : ∀ g, INV g → (∀ a i, ¬ (a = 59 ∧ i = 1) → ¬ (a = 63 ∧ 0 ≤ i ∧ i < 24) → ¬ (a = 64 ∧ 0 ≤ i ∧ i < 24) → rd g a i = rd h a i) → Q none g) : Rn xs xl e mm_Memory_copyDay 0 [some (.inr (.inr 59)), some (.inr (.inr 110))] [] h Q := by
  have l := rG_110_1 hI.1
  have i0 := wG_59_1 hI (v := rd h 110 1) (by omega) (by omega)
  refine B_copyDay_0_59_110 (RF_of hI.1) ?_
  have n0 : ∀ b j, ¬ (b = 59 ∧ j = 1) → rd (wr h 59 1 (rd h 110 1)) b j = rd h b j := fun b j hn => by rw [rd_wr, if_neg (fun q => hn ⟨q.1.symm, q.2.symm⟩)]
  generalize wr h 59 1 (rd h 110 1) = h0 at *
  have r1 : RNG (cpyL h0 114 0 63 0 24 ++ h0) := RNG_cpk (n := 24) (fun f j hj hf => by
    have q := rB_114 i0.1 (i := 0 + (j : Int)) (by omega)
    exact wS_63 hf (by omega) (by omega)) i0.1 24 (Nat.le_refl _)
  have n1 : ∀ b j, rd (cpyL h0 114 0 63 0 24 ++ h0) b j = if b = 63 ∧ 0 ≤ j ∧ j < 24 then rd h0 114 j else rd h0 b j := fun b j => rd_cp0 24
  generalize cpyL h0 114 0 63 0 24 ++ h0 = h1 at *
  refine B_copyDay_23_59_110 (RF_of r1) ?_
  have r2 : RNG (cpyL h1 115 0 64 0 24 ++ h1) := RNG_cpk (n := 24) (fun f j hj hf => by
    have q := rB_115 r1 (i := 0 + (j : Int)) (by omega)
    exact wS_64 hf (by omega) (by omega)) r1 24 (Nat.le_refl _)
  have n2 : ∀ b j, rd (cpyL h1 115 0 64 0 24 ++ h1) b j = if b = 64 ∧ 0 ≤ j ∧ j < 24 then rd h1 115 j else rd h1 b j := fun b j => rd_cp0 24
  generalize cpyL h1 115 0 64 0 24 ++ h1 = h2 at *
  have fr : ∀ a i, ¬ (a = 59 ∧ i = 1) → ¬ (a = 63 ∧ 0 ≤ i ∧ i < 24) → ¬ (a = 64 ∧ 0 ≤ i ∧ i < 24) → rd h2 a i = rd h a i := fun a i m1 m2 m3 => by rw [n2, if_neg m3, n1, if_neg m2, n0 a i m1]
  refine B_copyDay_38_59_110 (RF_of r2) (k h2 ⟨r2, SP_mem (fun b j hb hb2 => fr b j (by omega) (by omega) (by omega)) ⟨ex24 (sA := 114) (sB := 115) (fun i => ?_) (fun i => ?_) hI.2.1.2.2.2.1 hI.2.1.1, lines_same (fun j => fr 71 j (by omega) (by omega) (by omega)) (fun j => fr 72 j (by omega) (by omega) (by omega)) hI.2.1.2.1, lines_same (fun j => fr 106 j (by omega) (by omega) (by omega)) (fun j => fr 107 j (by omega) (by omega) (by omega)) hI.2.1.2.2.1, lines_same (fun j => fr 114 j (by omega) (by omega) (by omega)) (fun j => fr 115 j (by omega) (by omega) (by omega)) hI.2.1.2.2.2.1, lines_same (fun j => fr 122 j (by omega) (by omega) (by omega)) (fun j => fr 123 j (by omega) (by omega) (by omega)) hI.2.1.2.2.2.2.1, lines_same (fun j => fr 130 j (by omega) (by omega) (by omega)) (fun j => fr 131 j (by omega) (by omega) (by omega)) hI.2.1.2.2.2.2.2.1⟩ hI.2⟩ fr)
  · rw [n2, if_neg (by omega), n1]
    by_cases c : 0 ≤ i ∧ i < 24
    · rw [if_pos ⟨rfl, c⟩, if_pos c, n0 _ _ (by omega)]
    · rw [if_neg (fun q => c q.2), if_neg c, n0 _ _ (by omega)]
  · rw [n2]
    by_cases c : 0 ≤ i ∧ i < 24
    · rw [if_pos ⟨rfl, c⟩, if_pos c, n1, if_neg (by omega), n0 _ _ (by omega)]
    · rw [if_neg (fun q => c q.2), if_neg c, n1, if_neg (by omega), n0 _ _ (by omega)]
theorem D_copyDay_59_118 (hI : INV h) (k : ∀ g, INV g → (∀ a i, ¬ (a = 59 ∧ i = 1) → ¬ (a = 63 ∧ 0 ≤ i ∧ i < 24) → ¬ (a = 64 ∧ 0 ≤ i ∧ i < 24) → rd g a i = rd h a i) → Q none g) : Rn xs xl e mm_Memory_copyDay 0 [some (.inr (.inr 59)), some (.inr (.inr 118))] [] h Q := by
  have l := rG_118_1 hI.1
  have i0 := wG_59_1 hI (v := rd h 118 1) (by omega) (by omega)
  refine B_copyDay_0_59_118 (RF_of hI.1) ?_
  have n0 : ∀ b j, ¬ (b = 59 ∧ j = 1) → rd (wr h 59 1 (rd h 118 1)) b j = rd h b j := fun b j hn => by rw [rd_wr, if_neg (fun q => hn ⟨q.1.symm, q.2.symm⟩)]
  generalize wr h 59 1 (rd h 118 1) = h0 at *
  have r1 : RNG (cpyL h0 122 0 63 0 24 ++ h0) := RNG_cpk (n := 24) (fun f j hj hf => by
    have q := rB_122 i0.1 (i := 0 + (j : Int)) (by omega)
    exact wS_63 hf (by omega) (by omega)) i0.1 24 (Nat.le_refl _)
  have n1 : ∀ b j, rd (cpyL h0 122 0 63 0 24 ++ h0) b j = if b = 63 ∧ 0 ≤ j ∧ j < 24 then rd h0 122 j else rd h0 b j := fun b j => rd_cp0 24
  generalize cpyL h0 122 0 63 0 24 ++ h0 = h1 at *
  refine B_copyDay_23_59_118 (RF_of r1) ?_
  have r2 : RNG (cpyL h1 123 0 64 0 24 ++ h1) := RNG_cpk (n := 24) (fun f j hj hf => by
    have q := rB_123 r1 (i := 0 + (j : Int)) (by omega)
    exact wS_64 hf (by omega) (by omega)) r1 24 (Nat.le_refl _)
  have n2 : ∀ b j, rd (cpyL h1 123 0 64 0 24 ++ h1) b j = if b = 64 ∧ 0 ≤ j ∧ j < 24 then rd h1 123 j else rd h1 b j := fun b j => rd_cp0 24
  generalize cpyL h1 123 0 64 0 24 ++ h1 = h2 at *
  have fr : ∀ a i, ¬ (a = 59 ∧ i = 1) → ¬ (a = 63 ∧ 0 ≤ i ∧ i < 24) → ¬ (a = 64 ∧ 0 ≤ i ∧ i < 24) → rd h2 a i = rd h a i := fun a i m1 m2 m3 => by rw [n2, if_neg m3, n1, if_neg m2, n0 a i m1]
  refine B_copyDay_38_59_118 (RF_of r2) (k h2 ⟨r2, SP_mem (fun b j hb hb2 => fr b j (by omega) (by omega) (by omega)) ⟨ex24 (sA := 122) (sB := 123) (fun i => ?_) (fun i => ?_) hI.2.1.2.2.2.2.1 hI.2.1.1, lines_same (fun j => fr 71 j (by omega) (by omega) (by omega)) (fun j => fr 72 j (by omega) (by omega) (by omega)) hI.2.1.2.1, lines_same (fun j => fr 106 j (by omega) (by omega) (by omega)) (fun j => fr 107 j (by omega) (by omega) (by omega)) hI.2.1.2.2.1, lines_same (fun j => fr 114 j (by omega) (by omega) (by omega)) (fun j => fr 115 j (by omega) (by omega) (by omega)) hI.2.1.2.2.2.1, lines_same (fun j => fr 122 j (by omega) (by omega) (by omega)) (fun j => fr 123 j (by omega) (by omega) (by omega)) hI.2.1.2.2.2.2.1, lines_same (fun j => fr 130 j (by omega) (by omega) (by omega)) (fun j => fr 131 j (by omega) (by omega) (by omega)) hI.2.1.2.2.2.2.2.1⟩ hI.2⟩ fr)
  · rw [n2, if_neg (by omega), n1]
    by_cases c : 0 ≤ i ∧ i < 24
    · rw [if_pos ⟨rfl, c⟩, if_pos c, n0 _ _ (by omega)]
    · rw [if_neg (fun q => c q.2), if_neg c, n0 _ _ (by omega)]
  · rw [n2]
    by_cases c : 0 ≤ i ∧ i < 24
    · rw [if_pos ⟨rfl, c⟩, if_pos c, n1, if_neg (by omega), n0 _ _ (by omega)]
    · rw [if_neg (fun q => c q.2), if_neg c, n1, if_neg (by omega), n0 _ _ (by omega)]
theorem D_copyDay_59_126 (hI : INV h) (k : ∀ g, INV g → (∀ a i, ¬ (a = 59 ∧ i = 1) → ¬ (a = 63 ∧ 0 ≤ i ∧ i < 24) → ¬ (a = 64 ∧ 0 ≤ i ∧ i < 24) → rd g a i = rd h a i) → Q none g) : Rn xs xl e mm_Memory_copyDay 0 [some (.inr (.inr 59)), some (.inr (.inr 126))] [] h Q := by
  have l := rG_126_1 hI.1
  have i0 := wG_59_1 hI (v := rd h 126 1) (by omega) (by omega)
  refine B_copyDay_0_59_126 (RF_of hI.1) ?_
  have n0 : ∀ b j, ¬ (b = 59 ∧ j = 1) → rd (wr h 59 1 (rd h 126 1)) b j = rd h b j := fun b j hn => by rw [rd_wr, if_neg (fun q => hn ⟨q.1.symm, q.2.symm⟩)]
  generalize wr h 59 1 (rd h 126 1) = h0 at *
  have r1 : RNG (cpyL h0 130 0 63 0 24 ++ h0) := RNG_cpk (n := 24) (fun f j hj hf => by
    have q := rB_130 i0.1 (i := 0 + (j : Int)) (by omega)
    exact wS_63 hf (by omega) (by omega)) i0.1 24 (Nat.le_refl _)
  have n1 : ∀ b j, rd (cpyL h0 130 0 63 0 24 ++ h0) b j = if b = 63 ∧ 0 ≤ j ∧ j < 24 then rd h0 130 j else rd h0 b j := fun b j => rd_cp0 24
  generalize cpyL h0 130 0 63 0 24 ++ h0 = h1 at *
  refine B_copyDay_23_59_126 (RF_of r1) ?_
  have r2 : RNG (cpyL h1 131 0 64 0 24 ++ h1) := RNG_cpk (n := 24) (fun f j hj hf => by
    have q := rB_131 r1 (i := 0 + (j : Int)) (by omega)
    exact wS_64 hf (by omega) (by omega)) r1 24 (Nat.le_refl _)
  have n2 : ∀ b j, rd (cpyL h1 131 0 64 0 24 ++ h1) b j = if b = 64 ∧ 0 ≤ j ∧ j < 24 then rd h1 131 j else rd h1 b j := fun b j => rd_cp0 24
  generalize cpyL h1 131 0 64 0 24 ++ h1 = h2 at *
  have fr : ∀ a i, ¬ (a = 59 ∧ i = 1) → ¬ (a = 63 ∧ 0 ≤ i ∧ i < 24) → ¬ (a = 64 ∧ 0 ≤ i ∧ i < 24) → rd h2 a i = rd h a i := fun a i m1 m2 m3 => by rw [n2, if_neg m3, n1, if_neg m2, n0 a i m1]
  refine B_copyDay_38_59_126 (RF_of r2) (k h2 ⟨r2, SP_mem (fun b j hb hb2 => fr b j (by omega) (by omega) (by omega)) ⟨ex24 (sA := 130) (sB := 131) (fun i => ?_) (fun i => ?_) hI.2.1.2.2.2.2.2.1 hI.2.1.1, lines_same (fun j => fr 71 j (by omega) (by omega) (by omega)) (fun j => fr 72 j (by omega) (by omega) (by omega)) hI.2.1.2.1, lines_same (fun j => fr 106 j (by omega) (by omega) (by omega)) (fun j => fr 107 j (by omega) (by omega) (by omega)) hI.2.1.2.2.1, lines_same (fun j => fr 114 j (by omega) (by omega) (by omega)) (fun j => fr 115 j (by omega) (by omega) (by omega)) hI.2.1.2.2.2.1, lines_same (fun j => fr 122 j (by omega) (by omega) (by omega)) (fun j => fr 123 j (by omega) (by omega) (by omega)) hI.2.1.2.2.2.2.1, lines_same (fun j => fr 130 j (by omega) (by omega) (by omega)) (fun j => fr 131 j (by omega) (by omega) (by omega)) hI.2.1.2.2.2.2.2.1⟩ hI.2⟩ fr)
  · rw [n2, if_neg (by omega), n1]
    by_cases c : 0 ≤ i ∧ i < 24
    · rw [if_pos ⟨rfl, c⟩, if_pos c, n0 _ _ (by omega)]
    · rw [if_neg (fun q => c q.2), if_neg c, n0 _ _ (by omega)]
  · rw [n2]
    by_cases c : 0 ≤ i ∧ i < 24
    · rw [if_pos ⟨rfl, c⟩, if_pos c, n1, if_neg (by omega), n0 _ _ (by omega)]
    · rw [if_neg (fun q => c q.2), if_neg c, n1, if_neg (by omega), n0 _ _ (by omega)]
theorem D_copy_102_59 (he : 2 ≤ e) (hI : INV h) (k : ∀ g, INV g → (∀ a i, ¬ (102 ≤ a ∧ a ≤ 109 ∧ 0 ≤ i ∧ i ≤ 23) → rd g a i = rd h a i) → Q none g) : Rn xs xl e mm_Memory_copy 0 [some (.inr (.inr 102)), some (.inr (.inr 59))] [] h Q := by
  refine B_copy_0_102_59 (RF_of hI.1) ⟨1, by omega, K_copy_102 (Nat.le_refl 1) hI (fun h1 i1 f1 => B_copy_11_102_59 (RF_of i1.1) ⟨0, by omega, D_copyDay_102_59 i1 (fun h2 i2 f2 => B_copy_16_102_59 (RF_of i2.1) ?_)⟩)⟩
  have l4 := rG_59_4 i2.1
  have l7 := rG_59_7 i2.1
  have i3 := wG_102_7 (wG_102_4 i2 (v := rd h2 59 4) (by omega) (by omega)) (v := rd h2 59 7) (by omega) (by omega)
  have n3 : ∀ b j, ¬ (b = 102 ∧ 0 ≤ j ∧ j ≤ 23) → rd (wr (wr h2 102 4 (rd h2 59 4)) 102 7 (rd h2 59 7)) b j = rd h2 b j := fun b j hn => by rw [rd_wr, if_neg (by omega), rd_wr, if_neg (by omega)]
  generalize wr (wr h2 102 4 (rd h2 59 4)) 102 7 (rd h2 59 7) = h3 at *
  have r4 : RNG (cpyL h3 65 0 108 0 10 ++ h3) := RNG_cpk (n := 10) (fun f j hj hf => by
    have q := rB_65 i3.1 (i := 0 + (j : Int)) (by omega)
    exact wS_108 hf (by omega) (by omega)) i3.1 10 (Nat.le_refl _)
  have n4 : ∀ b j, rd (cpyL h3 65 0 108 0 10 ++ h3) b j = if b = 108 ∧ 0 ≤ j ∧ j < 10 then rd h3 65 j else rd h3 b j := fun b j => rd_cp0 10
  generalize cpyL h3 65 0 108 0 10 ++ h3 = h4 at *
  have i4 : INV h4 := ⟨r4, SP_of (fun b j hb => by rw [n4, if_neg (by unfold sens at hb; omega)]) i3.2⟩
  refine B_copy_47_102_59 (RF_of i4.1) ?_
  have r5 : RNG (cpyL h4 66 0 109 0 10 ++ h4) := RNG_cpk (n := 10) (fun f j hj hf => by
    have q := rB_66 i4.1 (i := 0 + (j : Int)) (by omega)
    exact wS_109 hf (by omega) (by omega)) i4.1 10 (Nat.le_refl _)
  have n5 : ∀ b j, rd (cpyL h4 66 0 109 0 10 ++ h4) b j = if b = 109 ∧ 0 ≤ j ∧ j < 10 then rd h4 66 j else rd h4 b j := fun b j => rd_cp0 10
  generalize cpyL h4 66 0 109 0 10 ++ h4 = h5 at *
  have i5 : INV h5 := ⟨r5, SP_of (fun b j hb => by rw [n5, if_neg (by unfold sens at hb; omega)]) i4.2⟩
  refine B_copy_62_102_59 (RF_of i5.1) ?_
  refine k h5 i5 (fun a i hn => ?_)
  rw [n5, if_neg (by omega), n4, if_neg (by omega), n3 a i (by omega), f2 a i (by omega) (by omega) (by omega), f1 a i (by omega) (by omega) (by omega)]
theorem D_copy_110_59 (he : 2 ≤ e) (hI : INV h) (k : ∀ g, INV g → (∀ a i, ¬ (110 ≤ a ∧ a ≤ 117 ∧ 0 ≤ i ∧ i ≤ 23) → rd g a i = rd h a i) → Q none g) : Rn xs xl e mm_Memory_copy 0 [some (.inr (.inr 110)), some (.inr (.inr 59))] [] h Q := by
  refine B_copy_0_110_59 (RF_of hI.1) ⟨1, by omega, K_copy_110 (Nat.le_refl 1) hI (fun h1 i1 f1 => B_copy_11_110_59 (RF_of i1.1) ⟨0, by omega, D_copyDay_110_59 i1 (fun h2 i2 f2 => B_copy_16_110_59 (RF_of i2.1) ?_)⟩)⟩
  have l4 := rG_59_4 i2.1
  have l7 := rG_59_7 i2.1
  have i3 := wG_110_7 (wG_110_4 i2 (v := rd h2 59 4) (by omega) (by omega)) (v := rd h2 59 7) (by omega) (by omega)
  have n3 : ∀ b j, ¬ (b = 110 ∧ 0 ≤ j ∧ j ≤ 23) → rd (wr (wr h2 110 4 (rd h2 59 4)) 110 7 (rd h2 59 7)) b j = rd h2 b j := fun b j hn => by rw [rd_wr, if_neg (by omega), rd_wr, if_neg (by omega)]
  generalize wr (wr h2 110 4 (rd h2 59 4)) 110 7 (rd h2 59 7) = h3 at *
  have r4 : RNG (cpyL h3 65 0 116 0 10 ++ h3) := RNG_cpk (n := 10) (fun f j hj hf => by
    have q := rB_65 i3.1 (i := 0 + (j : Int)) (by omega)
    exact wS_116 hf (by omega) (by omega)) i3.1 10 (Nat.le_refl _)
  have n4 : ∀ b j, rd (cpyL h3 65 0 116 0 10 ++ h3) b j = if b = 116 ∧ 0 ≤ j ∧ j < 10 then rd h3 65 j else rd h3 b j := fun b j => rd_cp0 10
  generalize cpyL h3 65 0 116 0 10 ++ h3 = h4 at *
  have i4 : INV h4 := ⟨r4, SP_of (fun b j hb => by rw [n4, if_neg (by unfold sens at hb; omega)]) i3.2⟩
  refine B_copy_47_110_59 (RF_of i4.1) ?_
  have r5 : RNG (cpyL h4 66 0 117 0 10 ++ h4) := RNG_cpk (n := 10) (fun f j hj hf => by
    have q := rB_66 i4.1 (i := 0 + (j : Int)) (by omega)
    exact wS_117 hf (by omega) (by omega)) i4.1 10 (Nat.le_refl _)
  have n5 : ∀ b j, rd (cpyL h4 66 0 117 0 10 ++ h4) b j = if b = 117 ∧ 0 ≤ j ∧ j < 10 then rd h4 66 j else rd h4 b j := fun b j => rd_cp0 10
  generalize cpyL h4 66 0 117 0 10 ++ h4 = h5 at *
  have i5 : INV h5 := ⟨r5, SP_of (fun b j hb => by rw [n5, if_neg (by unfold sens at hb; omega)]) i4.2⟩
  refine B_copy_62_110_59 (RF_of i5.1) ?_
  refine k h5 i5 (fun a i hn => ?_)
  rw [n5, if_neg (by omega), n4, if_neg (by omega), n3 a i (by omega), f2 a i (by omega) (by omega) (by omega), f1 a i (by omega) (by omega) (by omega)]
theorem D_copy_118_59 (he : 2 ≤ e) (hI : INV h) (k : ∀ g, INV g → (∀ a i, ¬ (118 ≤ a ∧ a ≤ 125 ∧ 0 ≤ i ∧ i ≤ 23) → rd g a i = rd h a i) → Q none g) : Rn xs xl e mm_Memory_copy 0 [some (.inr (.inr 118)), some (.inr (.inr 59))] [] h Q := by
  refine B_copy_0_118_59 (RF_of hI.1) ⟨1, by omega, K_copy_118 (Nat.le_refl 1) hI (fun h1 i1 f1 => B_copy_11_118_59 (RF_of i1.1) ⟨0, by omega, D_copyDay_118_59 i1 (fun h2 i2 f2 => B_copy_16_118_59 (RF_of i2.1) ?_)⟩)⟩
  have l4 := rG_59_4 i2.1
  have l7 := rG_59_7 i2.1
  have i3 := wG_118_7 (wG_118_4 i2 (v := rd h2 59 4) (by omega) (by omega)) (v := rd h2 59 7) (by omega) (by omega)
  have n3 : ∀ b j, ¬ (b = 118 ∧ 0 ≤ j ∧ j ≤ 23) → rd (wr (wr h2 118 4 (rd h2 59 4)) 118 7 (rd h2 59 7)) b j = rd h2 b j := fun b j hn => by rw [rd_wr, if_neg (by omega), rd_wr, if_neg (by omega)]
  generalize wr (wr h2 118 4 (rd h2 59 4)) 118 7 (rd h2 59 7) = h3 at *
  have r4 : RNG (cpyL h3 65 0 124 0 10 ++ h3) := RNG_cpk (n := 10) (fun f j hj hf => by
    have q := rB_65 i3.1 (i := 0 + (j : Int)) (by omega)
    exact wS_124 hf (by omega) (by omega)) i3.1 10 (Nat.le_refl _)
  have n4 : ∀ b j, rd (cpyL h3 65 0 124 0 10 ++ h3) b j = if b = 124 ∧ 0 ≤ j ∧ j < 10 then rd h3 65 j else rd h3 b j := fun b j => rd_cp0 10
  generalize cpyL h3 65 0 124 0 10 ++ h3 = h4 at *
  have i4 : INV h4 := ⟨r4, SP_of (fun b j hb => by rw [n4, if_neg (by unfold sens at hb; omega)]) i3.2⟩
  refine B_copy_47_118_59 (RF_of i4.1) ?_
  have r5 : RNG (cpyL h4 66 0 125 0 10 ++ h4) := RNG_cpk (n := 10) (fun f j hj hf => by
    have q := rB_66 i4.1 (i := 0 + (j : Int)) (by omega)
    exact wS_125 hf (by omega) (by omega)) i4.1 10 (Nat.le_refl _)
  have n5 : ∀ b j, rd (cpyL h4 66 0 125 0 10 ++ h4) b j = if b = 125 ∧ 0 ≤ j ∧ j < 10 then rd h4 66 j else rd h4 b j := fun b j => rd_cp0 10
  generalize cpyL h4 66 0 125 0 10 ++ h4 = h5 at *
  have i5 : INV h5 := ⟨r5, SP_of (fun b j hb => by rw [n5, if_neg (by unfold sens at hb; omega)]) i4.2⟩
  refine B_copy_62_118_59 (RF_of i5.1) ?_
  refine k h5 i5 (fun a i hn => ?_)
  rw [n5, if_neg (by omega), n4, if_neg (by omega), n3 a i (by omega), f2 a i (by omega) (by omega) (by omega), f1 a i (by omega) (by omega) (by omega)]
theorem D_copy_126_59 (he : 2 ≤ e) (hI : INV h) (k : ∀ g, INV g → (∀ a i, ¬ (126 ≤ a ∧ a ≤ 133 ∧ 0 ≤ i ∧ i ≤ 23) → rd g a i = rd h a i) → Q none g) : Rn xs xl e mm_Memory_copy 0 [some (.inr (.inr 126)), some (.inr (.inr 59))] [] h Q := by
  refine B_copy_0_126_59 (RF_of hI.1) ⟨1, by omega, K_copy_126 (Nat.le_refl 1) hI (fun h1 i1 f1 => B_copy_11_126_59 (RF_of i1.1) ⟨0, by omega, D_copyDay_126_59 i1 (fun h2 i2 f2 => B_copy_16_126_59 (RF_of i2.1) ?_)⟩)⟩
  have l4 := rG_59_4 i2.1
  have l7 := rG_59_7 i2.1
  have i3 := wG_126_7 (wG_126_4 i2 (v := rd h2 59 4) (by omega) (by omega)) (v := rd h2 59 7) (by omega) (by omega)
  have n3 : ∀ b j, ¬ (b = 126 ∧ 0 ≤ j ∧ j ≤ 23) → rd (wr (wr h2 126 4 (rd h2 59 4)) 126 7 (rd h2 59 7)) b j = rd h2 b j := fun b j hn => by rw [rd_wr, if_neg (by omega), rd_wr, if_neg (by omega)]
  generalize wr (wr h2 126 4 (rd h2 59 4)) 126 7 (rd h2 59 7) = h3 at *
  have r4 : RNG (cpyL h3 65 0 132 0 10 ++ h3) := RNG_cpk (n := 10) (fun f j hj hf => by
    have q := rB_65 i3.1 (i := 0 + (j : Int)) (by omega)
    exact wS_132 hf (by omega) (by omega)) i3.1 10 (Nat.le_refl _)
  have n4 : ∀ b j, rd (cpyL h3 65 0 132 0 10 ++ h3) b j = if b = 132 ∧ 0 ≤ j ∧ j < 10 then rd h3 65 j else rd h3 b j := fun b j => rd_cp0 10
  generalize cpyL h3 65 0 132 0 10 ++ h3 = h4 at *
  have i4 : INV h4 := ⟨r4, SP_of (fun b j hb => by rw [n4, if_neg (by unfold sens at hb; omega)]) i3.2⟩
  refine B_copy_47_126_59 (RF_of i4.1) ?_
  have r5 : RNG (cpyL h4 66 0 133 0 10 ++ h4) := RNG_cpk (n := 10) (fun f j hj hf => by
    have q := rB_66 i4.1 (i := 0 + (j : Int)) (by omega)
    exact wS_133 hf (by omega) (by omega)) i4.1 10 (Nat.le_refl _)
  have n5 : ∀ b j, rd (cpyL h4 66 0 133 0 10 ++ h4) b j = if b = 133 ∧ 0 ≤ j ∧ j < 10 then rd h4 66 j else rd h4 b j := fun b j => rd_cp0 10
  generalize cpyL h4 66 0 133 0 10 ++ h4 = h5 at *
  have i5 : INV h5 := ⟨r5, SP_of (fun b j hb => by rw [n5, if_neg (by unfold sens at hb; omega)]) i4.2⟩
  refine B_copy_62_126_59 (RF_of i5.1) ?_
  refine k h5 i5 (fun a i hn => ?_)
  rw [n5, if_neg (by omega), n4, if_neg (by omega), n3 a i (by omega), f2 a i (by omega) (by omega) (by omega), f1 a i (by omega) (by omega) (by omega)]
theorem D_copy_59_102 (he : 2 ≤ e) (hI : INV h) (k : ∀ g, INV g → (∀ a i, ¬ (59 ≤ a ∧ a ≤ 66 ∧ 0 ≤ i ∧ i ≤ 23) → rd g a i = rd h a i) → Q none g) : Rn xs xl e mm_Memory_copy 0 [some (.inr (.inr 59)), some (.inr (.inr 102))] [] h Q := by
  refine B_copy_0_59_102 (RF_of hI.1) ⟨1, by omega, K_copyB_102 (Nat.le_refl 1) hI (fun h1 i1 f1 => B_copy_11_59_102 (RF_of i1.1) ⟨0, by omega, D_copyDay_59_102 i1 (fun h2 i2 f2 => B_copy_16_59_102 (RF_of i2.1) ?_)⟩)⟩
  have l4 := rG_102_4 i2.1
  have l7 := rG_102_7 i2.1
  have i3 := wG_59_7 (wG_59_4 i2 (v := rd h2 102 4) (by omega) (by omega)) (v := rd h2 102 7) (by omega) (by omega)
  have n3 : ∀ b j, ¬ (b = 59 ∧ 0 ≤ j ∧ j ≤ 23) → rd (wr (wr h2 59 4 (rd h2 102 4)) 59 7 (rd h2 102 7)) b j = rd h2 b j := fun b j hn => by rw [rd_wr, if_neg (by omega), rd_wr, if_neg (by omega)]
  generalize wr (wr h2 59 4 (rd h2 102 4)) 59 7 (rd h2 102 7) = h3 at *
  have r4 : RNG (cpyL h3 108 0 65 0 10 ++ h3) := RNG_cpk (n := 10) (fun f j hj hf => by
    have q := rB_108 i3.1 (i := 0 + (j : Int)) (by omega)
    exact wS_65 hf (by omega) (by omega)) i3.1 10 (Nat.le_refl _)
  have n4 : ∀ b j, rd (cpyL h3 108 0 65 0 10 ++ h3) b j = if b = 65 ∧ 0 ≤ j ∧ j < 10 then rd h3 108 j else rd h3 b j := fun b j => rd_cp0 10
  generalize cpyL h3 108 0 65 0 10 ++ h3 = h4 at *
  have i4 : INV h4 := ⟨r4, SP_of (fun b j hb => by rw [n4, if_neg (by unfold sens at hb; omega)]) i3.2⟩
  refine B_copy_47_59_102 (RF_of i4.1) ?_
  have r5 : RNG (cpyL h4 109 0 66 0 10 ++ h4) := RNG_cpk (n := 10) (fun f j hj hf => by
    have q := rB_109 i4.1 (i := 0 + (j : Int)) (by omega)
    exact wS_66 hf (by omega) (by omega)) i4.1 10 (Nat.le_refl _)
  have n5 : ∀ b j, rd (cpyL h4 109 0 66 0 10 ++ h4) b j = if b = 66 ∧ 0 ≤ j ∧ j < 10 then rd h4 109 j else rd h4 b j := fun b j => rd_cp0 10
  generalize cpyL h4 109 0 66 0 10 ++ h4 = h5 at *
  have i5 : INV h5 := ⟨r5, SP_of (fun b j hb => by rw [n5, if_neg (by unfold sens at hb; omega)]) i4.2⟩
  refine B_copy_62_59_102 (RF_of i5.1) ?_
  refine k h5 i5 (fun a i hn => ?_)
  rw [n5, if_neg (by omega), n4, if_neg (by omega), n3 a i (by omega), f2 a i (by omega) (by omega) (by omega), f1 a i (by omega) (by omega) (by omega)]
theorem D_copy_59_110 (he : 2 ≤ e) (hI : INV h) (k : ∀ g, INV g → (∀ a i, ¬ (59 ≤ a ∧ a ≤ 66 ∧ 0 ≤ i ∧ i ≤ 23) → rd g a i = rd h a i) → Q none g) : Rn xs xl e mm_Memory_copy 0 [some (.inr (.inr 59)), some (.inr (.inr 110))] [] h Q := by
  refine B_copy_0_59_110 (RF_of hI.1) ⟨1, by omega, K_copyB_110 (Nat.le_refl 1) hI (fun h1 i1 f1 => B_copy_11_59_110 (RF_of i1.1) ⟨0, by omega, D_copyDay_59_110 i1 (fun h2 i2 f2 => B_copy_16_59_110 (RF_of i2.1) ?_)⟩)⟩
  have l4 := rG_110_4 i2.1
  have l7 := rG_110_7 i2.1
  have i3 := wG_59_7 (wG_59_4 i2 (v := rd h2 110 4) (by omega) (by omega)) (v := rd h2 110 7) (by omega) (by omega)
  have n3 : ∀ b j, ¬ (b = 59 ∧ 0 ≤ j ∧ j ≤ 23) → rd (wr (wr h2 59 4 (rd h2 110 4)) 59 7 (rd h2 110 7)) b j = rd h2 b j := fun b j hn => by rw [rd_wr, if_neg (by omega), rd_wr, if_neg (by omega)]
  generalize wr (wr h2 59 4 (rd h2 110 4)) 59 7 (rd h2 110 7) = h3 at *
  have r4 : RNG (cpyL h3 116 0 65 0 10 ++ h3) := RNG_cpk (n := 10) (fun f j hj hf => by
    have q := rB_116 i3.1 (i := 0 + (j : Int)) (by omega)
    exact wS_65 hf (by omega) (by omega)) i3.1 10 (Nat.le_refl _)
  have n4 : ∀ b j, rd (cpyL h3 116 0 65 0 10 ++ h3) b j = if b = 65 ∧ 0 ≤ j ∧ j < 10 then rd h3 116 j else rd h3 b j := fun b j => rd_cp0 10
  generalize cpyL h3 116 0 65 0 10 ++ h3 = h4 at *
  have i4 : INV h4 := ⟨r4, SP_of (fun b j hb => by rw [n4, if_neg (by unfold sens at hb; omega)]) i3.2⟩
  refine B_copy_47_59_110 (RF_of i4.1) ?_
  have r5 : RNG (cpyL h4 117 0 66 0 10 ++ h4) := RNG_cpk (n := 10) (fun f j hj hf => by
    have q := rB_117 i4.1 (i := 0 + (j : Int)) (by omega)
    exact wS_66 hf (by omega) (by omega)) i4.1 10 (Nat.le_refl _)
  have n5 : ∀ b j, rd (cpyL h4 117 0 66 0 10 ++ h4) b j = if b = 66 ∧ 0 ≤ j ∧ j < 10 then rd h4 117 j else rd h4 b j := fun b j => rd_cp0 10
  generalize cpyL h4 117 0 66 0 10 ++ h4 = h5 at *
  have i5 : INV h5 := ⟨r5, SP_of (fun b j hb => by rw [n5, if_neg (by unfold sens at hb; omega)]) i4.2⟩
  refine B_copy_62_59_110 (RF_of i5.1) ?_
  refine k h5 i5 (fun a i hn => ?_)
  rw [n5, if_neg (by omega), n4, if_neg (by omega), n3 a i (by omega), f2 a i (by omega) (by omega) (by omega), f1 a i (by omega) (by omega) (by omega)]
theorem D_copy_59_118 (he : 2 ≤ e) (hI : INV h) (k : ∀ g, INV g → (∀ a i, ¬ (59 ≤ a ∧ a ≤ 66 ∧ 0 ≤ i ∧ i ≤ 23) → rd g a i = rd h a i) → Q none g) : Rn xs xl e mm_Memory_copy 0 [some (.inr (.inr 59)), some (.inr (.inr 118))] [] h Q := by
  refine B_copy_0_59_118 (RF_of hI.1) ⟨1, by omega, K_copyB_118 (Nat.le_refl 1) hI (fun h1 i1 f1 => B_copy_11_59_118 (RF_of i1.1) ⟨0, by omega, D_copyDay_59_118 i1 (fun h2 i2 f2 => B_copy_16_59_118 (RF_of i2.1) ?_)⟩)⟩
  have l4 := rG_118_4 i2.1
  have l7 := rG_118_7 i2.1
  have i3 := wG_59_7 (wG_59_4 i2 (v := rd h2 118 4) (by omega) (by omega)) (v := rd h2 118 7) (by omega) (by omega)
  have n3 : ∀ b j, ¬ (b = 59 ∧ 0 ≤ j ∧ j ≤ 23) → rd (wr (wr h2 59 4 (rd h2 118 4)) 59 7 (rd h2 118 7)) b j = rd h2 b j := fun b j hn => by rw [rd_wr, if_neg (by omega), rd_wr, if_neg (by omega)]
  generalize wr (wr h2 59 4 (rd h2 118 4)) 59 7 (rd h2 118 7) = h3 at *
  have r4 : RNG (cpyL h3 124 0 65 0 10 ++ h3) := RNG_cpk (n := 10) (fun f j hj hf => by
    have q := rB_124 i3.1 (i := 0 + (j : Int)) (by omega)
    exact wS_65 hf (by omega) (by omega)) i3.1 10 (Nat.le_refl _)
  have n4 : ∀ b j, rd (cpyL h3 124 0 65 0 10 ++ h3) b j = if b = 65 ∧ 0 ≤ j ∧ j < 10 then rd h3 124 j else rd h3 b j := fun b j => rd_cp0 10
  generalize cpyL h3 124 0 65 0 10 ++ h3 = h4 at *
  have i4 : INV h4 := ⟨r4, SP_of (fun b j hb => by rw [n4, if_neg (by unfold sens at hb; omega)]) i3.2⟩
  refine B_copy_47_59_118 (RF_of i4.1) ?_
  have r5 : RNG (cpyL h4 125 0 66 0 10 ++ h4) := RNG_cpk (n := 10) (fun f j hj hf => by
    have q := rB_125 i4.1 (i := 0 + (j : Int)) (by omega)
    exact wS_66 hf (by omega) (by omega)) i4.1 10 (Nat.le_refl _)
  have n5 : ∀ b j, rd (cpyL h4 125 0 66 0 10 ++ h4) b j = if b = 66 ∧ 0 ≤ j ∧ j < 10 then rd h4 125 j else rd h4 b j := fun b j => rd_cp0 10
  generalize cpyL h4 125 0 66 0 10 ++ h4 = h5 at *
  have i5 : INV h5 := ⟨r5, SP_of (fun b j hb => by rw [n5, if_neg (by unfold sens at hb; omega)]) i4.2⟩
  refine B_copy_62_59_118 (RF_of i5.1) ?_
  refine k h5 i5 (fun a i hn => ?_)
  rw [n5, if_neg (by omega), n4, if_neg (by omega), n3 a i (by omega), f2 a i (by omega) (by omega) (by omega), f1 a i (by omega) (by omega) (by omega)]
theorem D_copy_59_126 (he : 2 ≤ e) (hI : INV h) (k : ∀ g, INV g → (∀ a i, ¬ (59 ≤ a ∧ a ≤ 66 ∧ 0 ≤ i ∧ i ≤ 23) → rd g a i = rd h a i) → Q none g) : Rn xs xl e mm_Memory_copy 0 [some (.inr (.inr 59)), some (.inr (.inr 126))] [] h Q := by
  refine B_copy_0_59_126 (RF_of hI.1) ⟨1, by omega, K_copyB_126 (Nat.le_refl 1) hI (fun h1 i1 f1 => B_copy_11_59_126 (RF_of i1.1) ⟨0, by omega, D_copyDay_59_126 i1 (fun h2 i2 f2 => B_copy_16_59_126 (RF_of i2.1) ?_)⟩)⟩
  have l4 := rG_126_4 i2.1
  have l7 := rG_126_7 i2.1
  have i3 := wG_59_7 (wG_59_4 i2 (v := rd h2 126 4) (by omega) (by omega)) (v := rd h2 126 7) (by omega) (by omega)
  have n3 : ∀ b j, ¬ (b = 59 ∧ 0 ≤ j ∧ j ≤ 23) → rd (wr (wr h2 59 4 (rd h2 126 4)) 59 7 (rd h2 126 7)) b j = rd h2 b j := fun b j hn => by rw [rd_wr, if_neg (by omega), rd_wr, if_neg (by omega)]
  generalize wr (wr h2 59 4 (rd h2 126 4)) 59 7 (rd h2 126 7) = h3 at *
  have r4 : RNG (cpyL h3 132 0 65 0 10 ++ h3) := RNG_cpk (n := 10) (fun f j hj hf => by
    have q := rB_132 i3.1 (i := 0 + (j : Int)) (by omega)
    exact wS_65 hf (by omega) (by omega)) i3.1 10 (Nat.le_refl _)
  have n4 : ∀ b j, rd (cpyL h3 132 0 65 0 10 ++ h3) b j = if b = 65 ∧ 0 ≤ j ∧ j < 10 then rd h3 132 j else rd h3 b j := fun b j => rd_cp0 10
  generalize cpyL h3 132 0 65 0 10 ++ h3 = h4 at *
  have i4 : INV h4 := ⟨r4, SP_of (fun b j hb => by rw [n4, if_neg (by unfold sens at hb; omega)]) i3.2⟩
  refine B_copy_47_59_126 (RF_of i4.1) ?_
  have r5 : RNG (cpyL h4 133 0 66 0 10 ++ h4) := RNG_cpk (n := 10) (fun f j hj hf => by
    have q := rB_133 i4.1 (i := 0 + (j : Int)) (by omega)
    exact wS_66 hf (by omega) (by omega)) i4.1 10 (Nat.le_refl _)
  have n5 : ∀ b j, rd (cpyL h4 133 0 66 0 10 ++ h4) b j = if b = 66 ∧ 0 ≤ j ∧ j < 10 then rd h4 133 j else rd h4 b j := fun b j => rd_cp0 10
  generalize cpyL h4 133 0 66 0 10 ++ h4 = h5 at *
  have i5 : INV h5 := ⟨r5, SP_of (fun b j hb => by rw [n5, if_neg (by unfold sens at hb; omega)]) i4.2⟩
  refine B_copy_62_59_126 (RF_of i5.1) ?_
  refine k h5 i5 (fun a i hn => ?_)
  rw [n5, if_neg (by omega), n4, if_neg (by omega), n3 a i (by omega), f2 a i (by omega) (by omega) (by omega), f1 a i (by omega) (by omega) (by omega)]
end CZ
def SMplay : SM := (79, 4, [(2, 59, 59, 0), (2, 5, 32, 27), (2, 68, 68, 0)], [(some (0, -1, 23, 1), pv0, [], [])], [(68, 68, 0, 3), (69, 69, 0, 5), (70, 70, 0, 13)], [])
theorem ok_play {xs : Nat → Int} {xl : Nat} : SMok xs xl INV SMplay := by
  intro M as h hM hI ha hf hl
  have e : M = mm_Memory_playDay := Option.some.inj (hM.symm.trans (show MTB 79 = some mm_Memory_playDay from rfl))
  subst e
  obtain ⟨b0, rfl, ha1⟩ := ar_ref ha
  obtain ⟨q, b1, rfl, hq, ha2⟩ := ar_q ha1
  obtain ⟨b2, rfl, ha3⟩ := ar_ref ha2
  have := ar_nil ha3
  subst this
  refine D_playDay hq (by decide) hI (fun r g gI gf r0 r1 => ⟨gI, fun a i q => ?_, _, List.mem_singleton.mpr rfl, ⟨in1 r0 r1 (by unfold i32; omega), Or.inl rfl⟩, (fun q hq => absurd hq (List.not_mem_nil)), (fun q hq => absurd hq (List.not_mem_nil))⟩)
  have q' : inBx [(68, 68, 0, 3), (69, 69, 0, 5), (70, 70, 0, 13)] a i = false := q
  unfold inBx at q'
  simp only [List.any_cons, List.any_nil, Bool.or_false, Bool.or_eq_false_iff, Bool.and_eq_false_iff, decide_eq_false_iff_not] at q'
  exact gf a i (by omega) (by omega) (by omega)
def SMdayLine : SM := (56, 5, [(2, 2, 2, 0), (2, 5, 32, 27), (2, 67, 67, 0)], [(none, pv0, [], [])], [(2, 2, 3, 8), (67, 67, 1, 1), (71, 71, 0, 23), (72, 72, 0, 23)], [])
theorem ok_dayLine {xs : Nat → Int} {xl : Nat} : SMok xs xl INV SMdayLine := by
  intro M as h hM hI ha hf hl
  have e : M = mm_Reader_dayLine := Option.some.inj (hM.symm.trans (show MTB 56 = some mm_Reader_dayLine from rfl))
  subst e
  obtain ⟨b0, rfl, ha1⟩ := ar_ref ha
  obtain ⟨q, b1, rfl, hq, ha2⟩ := ar_q ha1
  obtain ⟨b2, rfl, ha3⟩ := ar_ref ha2
  have := ar_nil ha3
  subst this
  refine D_dayLine hq (by decide) hI (fun g gI gf => ⟨gI, fun a i q => ?_, _, List.mem_singleton.mpr rfl, trivial, (fun q hq => absurd hq (List.not_mem_nil)), (fun q hq => absurd hq (List.not_mem_nil))⟩)
  have q' : inBx [(2, 2, 3, 8), (67, 67, 1, 1), (71, 71, 0, 23), (72, 72, 0, 23)] a i = false := q
  unfold inBx at q'
  simp only [List.any_cons, List.any_nil, Bool.or_false, Bool.or_eq_false_iff, Bool.and_eq_false_iff, decide_eq_false_iff_not] at q'
  exact gf a i (by omega) (by omega) (by omega) (by omega)
def SMcopyDay : SM := (59, 1, [(2, 59, 59, 0), (2, 67, 67, 0)], [(none, pv0, [], [])], [(59, 59, 1, 1), (63, 63, 0, 23), (64, 64, 0, 23)], [])
theorem ok_copyDay {xs : Nat → Int} {xl : Nat} : SMok xs xl INV SMcopyDay := by
  intro M as h hM hI ha hf hl
  have e : M = mm_Memory_copyDay := Option.some.inj (hM.symm.trans (show MTB 59 = some mm_Memory_copyDay from rfl))
  subst e
  obtain ⟨b0, rfl, ha1⟩ := ar_ref ha
  obtain ⟨b2, rfl, ha3⟩ := ar_ref ha1
  have := ar_nil ha3
  subst this
  refine D_copyDay_59_67 hI (fun g gI gf => ⟨gI, fun a i q => ?_, _, List.mem_singleton.mpr rfl, trivial, (fun q hq => absurd hq (List.not_mem_nil)), (fun q hq => absurd hq (List.not_mem_nil))⟩)
  have q' : inBx [(59, 59, 1, 1), (63, 63, 0, 23), (64, 64, 0, 23)] a i = false := q
  unfold inBx at q'
  simp only [List.any_cons, List.any_nil, Bool.or_false, Bool.or_eq_false_iff, Bool.and_eq_false_iff, decide_eq_false_iff_not] at q'
  exact gf a i (by omega) (by omega) (by omega)
theorem ar_m {l : List AV} {as : List LV} (h : gAr ((2, 102, 126, 8) :: l) as) : ∃ q bs, as = .inr (.inr q) :: bs ∧ (q = 102 ∨ q = 110 ∨ q = 118 ∨ q = 126) ∧ gAr l bs := by
  cases as with
  | nil => exact absurd h id
  | cons v vs =>
    obtain ⟨h1, h2⟩ := h
    rcases v with x | x | x
    · exact absurd h1.1 (fun q => by cases q)
    · exact absurd h1.1 (fun q => by cases q)
    · have a : 102 ≤ x := h1.2.1
      have b : x ≤ 126 := h1.2.2.1
      have c : (8 : Int) ∣ (x - 102) := h1.2.2.2
      exact ⟨x, vs, rfl, by omega, h2⟩
def SMcopyA : SM := (153, 2, [(2, 102, 126, 8), (2, 59, 59, 0)], [(none, pv0, [], [])], [(102, 133, 0, 23)], [])
theorem ok_copyA {xs : Nat → Int} {xl : Nat} : SMok xs xl INV SMcopyA := by
  intro M as h hM hI ha hf hl
  have e : M = mm_Memory_copy := Option.some.inj (hM.symm.trans (show MTB 153 = some mm_Memory_copy from rfl))
  subst e
  obtain ⟨q, b0, rfl, hq, ha1⟩ := ar_m ha
  obtain ⟨b1, rfl, ha2⟩ := ar_ref ha1
  have := ar_nil ha2
  subst this
  rcases hq with rfl | rfl | rfl | rfl
  · refine D_copy_102_59 (by decide) hI (fun g gI gf => ⟨gI, fun a i q => ?_, _, List.mem_singleton.mpr rfl, trivial, (fun q hq => absurd hq (List.not_mem_nil)), (fun q hq => absurd hq (List.not_mem_nil))⟩)
    have q' : inBx [(102, 133, 0, 23)] a i = false := q
    unfold inBx at q'
    simp only [List.any_cons, List.any_nil, Bool.or_false, Bool.and_eq_false_iff, decide_eq_false_iff_not] at q'
    exact gf a i (by omega)
  · refine D_copy_110_59 (by decide) hI (fun g gI gf => ⟨gI, fun a i q => ?_, _, List.mem_singleton.mpr rfl, trivial, (fun q hq => absurd hq (List.not_mem_nil)), (fun q hq => absurd hq (List.not_mem_nil))⟩)
    have q' : inBx [(102, 133, 0, 23)] a i = false := q
    unfold inBx at q'
    simp only [List.any_cons, List.any_nil, Bool.or_false, Bool.and_eq_false_iff, decide_eq_false_iff_not] at q'
    exact gf a i (by omega)
  · refine D_copy_118_59 (by decide) hI (fun g gI gf => ⟨gI, fun a i q => ?_, _, List.mem_singleton.mpr rfl, trivial, (fun q hq => absurd hq (List.not_mem_nil)), (fun q hq => absurd hq (List.not_mem_nil))⟩)
    have q' : inBx [(102, 133, 0, 23)] a i = false := q
    unfold inBx at q'
    simp only [List.any_cons, List.any_nil, Bool.or_false, Bool.and_eq_false_iff, decide_eq_false_iff_not] at q'
    exact gf a i (by omega)
  · refine D_copy_126_59 (by decide) hI (fun g gI gf => ⟨gI, fun a i q => ?_, _, List.mem_singleton.mpr rfl, trivial, (fun q hq => absurd hq (List.not_mem_nil)), (fun q hq => absurd hq (List.not_mem_nil))⟩)
    have q' : inBx [(102, 133, 0, 23)] a i = false := q
    unfold inBx at q'
    simp only [List.any_cons, List.any_nil, Bool.or_false, Bool.and_eq_false_iff, decide_eq_false_iff_not] at q'
    exact gf a i (by omega)
def SMcopyB : SM := (153, 2, [(2, 59, 59, 0), (2, 102, 126, 8)], [(none, pv0, [], [])], [(59, 66, 0, 23)], [])
theorem ok_copyB {xs : Nat → Int} {xl : Nat} : SMok xs xl INV SMcopyB := by
  intro M as h hM hI ha hf hl
  have e : M = mm_Memory_copy := Option.some.inj (hM.symm.trans (show MTB 153 = some mm_Memory_copy from rfl))
  subst e
  obtain ⟨b0, rfl, ha1⟩ := ar_ref ha
  obtain ⟨q, b1, rfl, hq, ha2⟩ := ar_m ha1
  have := ar_nil ha2
  subst this
  rcases hq with rfl | rfl | rfl | rfl
  · refine D_copy_59_102 (by decide) hI (fun g gI gf => ⟨gI, fun a i q => ?_, _, List.mem_singleton.mpr rfl, trivial, (fun q hq => absurd hq (List.not_mem_nil)), (fun q hq => absurd hq (List.not_mem_nil))⟩)
    have q' : inBx [(59, 66, 0, 23)] a i = false := q
    unfold inBx at q'
    simp only [List.any_cons, List.any_nil, Bool.or_false, Bool.and_eq_false_iff, decide_eq_false_iff_not] at q'
    exact gf a i (by omega)
  · refine D_copy_59_110 (by decide) hI (fun g gI gf => ⟨gI, fun a i q => ?_, _, List.mem_singleton.mpr rfl, trivial, (fun q hq => absurd hq (List.not_mem_nil)), (fun q hq => absurd hq (List.not_mem_nil))⟩)
    have q' : inBx [(59, 66, 0, 23)] a i = false := q
    unfold inBx at q'
    simp only [List.any_cons, List.any_nil, Bool.or_false, Bool.and_eq_false_iff, decide_eq_false_iff_not] at q'
    exact gf a i (by omega)
  · refine D_copy_59_118 (by decide) hI (fun g gI gf => ⟨gI, fun a i q => ?_, _, List.mem_singleton.mpr rfl, trivial, (fun q hq => absurd hq (List.not_mem_nil)), (fun q hq => absurd hq (List.not_mem_nil))⟩)
    have q' : inBx [(59, 66, 0, 23)] a i = false := q
    unfold inBx at q'
    simp only [List.any_cons, List.any_nil, Bool.or_false, Bool.and_eq_false_iff, decide_eq_false_iff_not] at q'
    exact gf a i (by omega)
  · refine D_copy_59_126 (by decide) hI (fun g gI gf => ⟨gI, fun a i q => ?_, _, List.mem_singleton.mpr rfl, trivial, (fun q hq => absurd hq (List.not_mem_nil)), (fun q hq => absurd hq (List.not_mem_nil))⟩)
    have q' : inBx [(59, 66, 0, 23)] a i = false := q
    unfold inBx at q'
    simp only [List.any_cons, List.any_nil, Bool.or_false, Bool.and_eq_false_iff, decide_eq_false_iff_not] at q'
    exact gf a i (by omega)
end
section
/-! LM, part 96, by program: the contracts, table D -/
set_option maxRecDepth 100000
def SMD0 : SM := (19,1,[(2,2,2,0),(0,0,999,1)],[(some (0,1,1,0),pv0,[],[]),(some (0,0,0,0),pv0,[],[])],[],[])
def SMD1 : SM := (2,1,[(1,-9223372036854775808,9223372036854775807,1),(0,0,65535,1)],[(some (1,-9223372036854775808,9223372036854775807,1),pv0,[],[])],[],[])
def SMD2 : SM := (20,2,[(2,2,2,0)],[(none,pv0,[],[])],[(2,2,6,6),(2,2,5,5),(2,2,3,3),(2,2,7,7)],[])
def SMD3 : SM := (21,1,[(2,2,2,0),(0,0,999,1)],[(some (0,1,1,0),pv0,[],[]),(some (0,0,0,0),pv0,[],[])],[],[])
def SMD4 : SM := (22,2,[(2,2,2,0)],[(none,pv0,[],[])],[(2,2,6,6),(2,2,5,5),(2,2,3,3)],[])
def SMD5 : SM := (23,1,[(0,-2147483648,2147483647,1)],[(some (0,1,1,0),pv0,[(0,(0,40,61,1))],[]),(some (0,0,0,0),pv0,[],[])],[],[])
def SMD6 : SM := (18,3,[(2,2,2,0)],[(none,pv0,[],[])],[(2,2,4,4),(2,2,6,6),(2,2,7,7),(2,2,3,3),(2,2,5,5)],[])
def SMD7 : SM := (17,4,[(2,2,2,0)],[(none,pv0,[],[])],[(2,2,8,8),(2,2,5,5),(2,2,4,4),(2,2,6,6),(2,2,7,7),(2,2,3,3)],[])
def SMD9 : SM := (55,6,[(2,2,2,0),(2,5,5,0),(2,67,67,0)],[(some (0,0,16005,1),(2,2,8,0,0),[],[(2,0,(0,0,0,0))])],[(2,2,8,8),(2,2,5,5),(2,2,4,4),(2,2,6,6),(2,2,7,7),(2,2,3,3),(67,67,1,1),(2,2,3,8),(71,71,0,23),(72,72,0,23),(2,2,0,0)],[])
def SMD10 : SM := (55,6,[(2,2,2,0),(2,32,32,0),(2,67,67,0)],[(some (0,0,16005,1),(2,2,8,0,0),[],[(2,0,(0,0,0,0))])],[(2,2,8,8),(2,2,5,5),(2,2,4,4),(2,2,6,6),(2,2,7,7),(2,2,3,3),(67,67,1,1),(2,2,3,8),(71,71,0,23),(72,72,0,23),(2,2,0,0)],[])
def SMD12 : SM := (54,7,[(2,1,1,0)],[(some (0,0,16005,1),pv0,[],[(2,0,(0,0,0,0))])],[(2,2,8,8),(2,2,5,5),(2,2,4,4),(2,2,6,6),(2,2,7,7),(2,2,3,3),(67,67,1,1),(2,2,3,8),(71,71,0,23),(72,72,0,23),(2,2,0,0),(59,59,1,1),(63,63,0,23),(64,64,0,23)],[])
def SMD13 : SM := (63,1,[(2,1,1,0),(0,-2147483648,2147483647,1)],[(some (0,1,1,0),pv0,[(1,(0,0,5,1))],[]),(some (0,0,0,0),pv0,[],[])],[],[])
def SMD14 : SM := (53,1,[(2,70,70,0),(0,0,0,0)],[(none,pv0,[],[])],[(70,70,0,0),(70,70,0,13)],[])
def SMD15 : SM := (52,2,[(2,68,68,0),(2,5,5,0)],[(none,pv0,[],[])],[(68,68,0,0),(68,68,1,1),(68,68,2,2),(68,68,3,3),(70,70,0,0),(70,70,0,13),(69,69,0,0),(69,69,0,5)],[])
def SMD16 : SM := (52,2,[(2,68,68,0),(2,32,32,0)],[(none,pv0,[],[])],[(68,68,0,0),(68,68,1,1),(68,68,2,2),(68,68,3,3),(70,70,0,0),(70,70,0,13),(69,69,0,0),(69,69,0,5)],[])
def SMD18 : SM := (78,5,[(2,1,1,0),(0,-2147483648,2147483647,1)],[(some (0,-2,23,1),pv0,[],[])],[(68,68,0,0),(68,68,1,1),(68,68,2,2),(68,68,3,3),(70,70,0,0),(70,70,0,13),(69,69,0,0),(69,69,0,5),(68,68,0,3)],[])
def SMD21 : SM := (152,3,[(2,1,1,0),(0,-2147483648,2147483647,1),(0,0,1,1)],[(some (0,0,0,0),pv0,[],[]),(some (0,1,1,0),pv0,[(1,(0,0,3,1)),(2,(0,0,1,1))],[])],[(102,133,0,23),(1,1,6,6),(59,66,0,23),(1,1,9,9)],[])
def SMtD0 : List SM := [SMD0,SMD1,SMD2,SMD3,SMD4,SMD5,SMD6,SMD7,SMdayLine,SMD9,SMD10,SMcopyDay,SMD12,SMD13,SMD14,SMD15,SMD16,SMplay,SMD18,SMcopyA]
def SMtD1 : List SM := [SMcopyB,SMD21]
def SMttD : List (List SM) := [SMtD0,SMtD1]
def SMsD (i : Nat) : Option SM := (SMttD[i / 20]?).bind (fun B => B[i % 20]?)
end
