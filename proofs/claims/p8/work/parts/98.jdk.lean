/-! LM, part 98: the JDK's methods that the class calls beside its own: the text's length and signs, Math.floorMod -/
def TXT : String := "rooms door to open for holds price person at errand by let go hour plain turning hinge blank tenant soldier child cat not and or time sort cost room "
def SN_ : String := "java/lang/String"
def nLen : MethodName := ⟨"java/lang/String", "length", "()I"⟩
def nCod : MethodName := ⟨"java/lang/String", "coder", "()B"⟩
def nChr : MethodName := ⟨"java/lang/String", "charAt", "(I)C"⟩
def nLat : MethodName := ⟨"java/lang/String", "isLatin1", "()Z"⟩
def nLch : MethodName := ⟨"java/lang/StringLatin1", "charAt", "([BI)C"⟩
def nChk : MethodName := ⟨"java/lang/String", "checkIndex", "(II)V"⟩
def nPre : MethodName := ⟨"jdk/internal/util/Preconditions", "checkIndex", "(IILjava/util/function/BiFunction;)I"⟩
def nFlo : MethodName := ⟨"java/lang/Math", "floorMod", "(II)I"⟩
def jw (y : MethodName) (cd : ByteArray) (ml : Nat) (ret : Option FieldType) : List Cond := Cond.code y cd ml ret :: ZB
def jr (f L : Nat) : Room := { frames := f, cells := 0, slots := 0, locals := L }
/-- a pure answer: the heap is as it was -/
def jq (v : Option Value) : Array Value → State → Outcome → State → Prop := fun _ st oc t => oc = .returned v ∧ t.heap = st.heap
theorem k_len : inT 40 (Cond.code nLen prog_17_method_54_code 1 (some .int)) = true ∧ inT 39 (.selects "java/lang/String" nLen nLen) = true ∧ inT 38 (.instanceMethod nLen) = true := ⟨by decide +kernel, by decide +kernel, by decide +kernel⟩
theorem k_cod : inT 44 (Cond.code nCod prog_17_method_152_code 1 (some .byte)) = true ∧ inT 43 (.selects "java/lang/String" nCod nCod) = true ∧ inT 42 (.instanceMethod nCod) = true ∧ inT 41 (.methodLink "java/lang/String" 335 nCod) = true := ⟨by decide +kernel, by decide +kernel, by decide +kernel, by decide +kernel⟩
theorem k_chr : inT 50 (Cond.code nChr prog_17_method_56_code 2 (some .char)) = true ∧ inT 49 (.selects "java/lang/String" nChr nChr) = true ∧ inT 48 (.instanceMethod nChr) = true := ⟨by decide +kernel, by decide +kernel, by decide +kernel⟩
theorem k_lat : inT 54 (Cond.code nLat prog_17_method_154_code 1 (some .boolean)) = true ∧ inT 53 (.selects "java/lang/String" nLat nLat) = true ∧ inT 52 (.instanceMethod nLat) = true ∧ inT 51 (.methodLink "java/lang/String" 492 nLat) = true := ⟨by decide +kernel, by decide +kernel, by decide +kernel, by decide +kernel⟩
theorem k_lch : inT 57 (Cond.code nLch prog_18_method_2_code 2 (some .char)) = true ∧ inT 56 (.static nLch) = true ∧ inT 55 (.methodLink "java/lang/String" 495 nLch) = true ∧ inT 4 (.initialized "java/lang/StringLatin1") = true := ⟨by decide +kernel, by decide +kernel, by decide +kernel, by decide +kernel⟩
theorem k_chk : inT 60 (Cond.code nChk prog_17_method_155_code 2 none) = true ∧ inT 59 (.static nChk) = true ∧ inT 58 (.methodLink "java/lang/StringLatin1" 9 nChk) = true ∧ inT 3 (.initialized "java/lang/String") = true := ⟨by decide +kernel, by decide +kernel, by decide +kernel, by decide +kernel⟩
theorem k_pre : inT 65 (Cond.code nPre prog_22_method_11_code 3 (some .int)) = true ∧ inT 64 (.static nPre) = true ∧ inT 63 (.methodLink "java/lang/String" 1059 nPre) = true ∧ inT 5 (.initialized "jdk/internal/util/Preconditions") = true := ⟨by decide +kernel, by decide +kernel, by decide +kernel, by decide +kernel⟩
theorem k_flo : inT 821 (Cond.code nFlo prog_16_method_50_code 3 (some .int)) = true ∧ inT 820 (.static nFlo) = true ∧ inT 20 (.initialized "java/lang/Math") = true := ⟨by decide +kernel, by decide +kernel, by decide +kernel⟩
theorem k_fld : inT 45 (.fieldLink "java/lang/String" 38 "java/lang/String" "COMPACT_STRINGS" "Z") = true ∧ inT 61 (.fieldLink "java/lang/String" 1053 "jdk/internal/util/Preconditions" "SIOOBE_FORMATTER" "Ljava/util/function/BiFunction;") = true ∧ inT 1823 (.fieldLink "java/lang/String" 9 "java/lang/String" "value" "[B") = true ∧ inT 1824 (.fieldLink "java/lang/String" 15 "java/lang/String" "coder" "B") = true := ⟨by decide +kernel, by decide +kernel, by decide +kernel, by decide +kernel⟩
theorem jg {y : MethodName} {cd : ByteArray} {ml : Nat} {ret : Option FieldType} {p : Nat} (h : inT p (Cond.code y cd ml ret) = true) : GoodIn ZB (jw y cd ml ret) := good_ZB (fun w hw => (List.mem_cons.mp hw).elim (fun z => z ▸ inT_in h) id)
/-- the text in the heap, and two constants of the JDK's classes -/
def XT (B sA sV : Nat) (f0 : Value) (U : State) : Prop := vk_R "OneSided$Reader" 19 TXT sA U ∧ va_O "java/lang/String" sA (zA B) U U.heap ∧ va_OF "java/lang/String" "coder" "B" (.int 0) sA (zA B) U U.heap ∧ va_OF "java/lang/String" "value" "[B" (.ref sV) sA (zA B) U U.heap ∧ va_T .byte sV 149 (fun j => .int (Int32.ofInt (STRL.getD j 0))) (zA B) U U.heap ∧ va_Z "java/lang/String" "COMPACT_STRINGS" "Z" (.int 1) (zA B) U U.heap ∧ va_Z "jdk/internal/util/Preconditions" "SIOOBE_FORMATTER" "Ljava/util/function/BiFunction;" f0 (zA B) U U.heap ∧ (f0 = .null ∨ ∃ a, f0 = .ref a)
theorem XT_keep {B sA sV : Nat} {f0 : Value} : keepX B (XT B sA sV f0) := by
  intro s U h hv hz hk
  obtain ⟨x1, x2, x3, x4, x5, x6, x7, x8⟩ := h
  have al : s.vm.Alike U.vm := hv.elim (fun e => by rw [e]; exact Vm.Alike.refl _) (fun w => w.alike)
  exact ⟨hv.elim (fun e => vk_R.same e.symm x1) (fun w => vk_R.warm w x1), (va_O.moved al x2).kept hk, (va_OF.moved al x3).kept hk, (va_OF.moved al x4).kept hk, (va_T.moved al x5).kept hk, (va_Z.moved al x6).kept hk, (va_Z.moved al x7).kept hk, x8⟩
section JC
variable {p : Program} {l : Launch} {e : Env} {R : Room} {s : State} {m : MethodId} {args : Array Value} {below : List Frame} {meth : Method} {c : Code} {H : Heap} {locs : List Loc} {cells slots : Nat} {Q : State → Prop}
variable {cc : ByteArray} {pc : Nat} {sl : Array Slot} {B sA sV : Nat} {f0 : Value}
theorem XT_blind {av : List Value} : FrameBlind (va_Pc av (XT B sA sV f0)) := fun a U g mk h => ⟨h.1, XT_keep U (U.calling g mk a) h.2 (Or.inl rfl) (Nat.le_refl _) (fun _ _ _ => rfl)⟩
theorem XT_at {U : State} (hX : XT B sA sV f0 s) (hS : va_S (zA B) s.heap H locs) (hU : U.heap = H) (hW : s.WarmedH U.vm) : XT B sA sV f0 U := XT_keep s U hX (Or.inr hW) (by rw [hU]; exact hS.1) (fun q h1 h2 => by rw [hU]; exact hS.2.1 q h1 h2)
/-- behind a pure call -/
theorem j_call {st0 rest : List Value} {Qa : State → Outcome → State → Prop} (hr : va_Run p l e R s m args below meth c H locs cells slots 0 0 (F0 m pc sl st0) rest Qa (fun _ => False)) {rv : Option Value} (hQ : ∀ st v t, Qa st (.returned v) t → v = rv ∧ t.heap = st.heap)
    (kk : W p l e R s m args below meth c H locs cells slots Q (F0 m (pc + 3) sl (rv.toList ++ rest))) : W p l e R s m args below meth c H locs cells slots Q (F0 m pc sl st0) := by
  intro T hT X
  obtain ⟨v, st₀, t, T', L, h0, X', hL, e1, e2, hq, st⟩ := hr T hT X
  obtain ⟨rfl, hh⟩ := hQ _ _ _ hq
  obtain ⟨t2, a1, b1⟩ := kk T' (by rw [e1, hh, h0]) (Stand.forget X' (fun q h => (hL q h).elim))
  exact ⟨t2, st t2 a1, b1⟩
theorem jqQ {a : Array Value} {v : Option Value} : ∀ (st : State) (w : Option Value) (t : State), jq v a st (.returned w) t → w = v ∧ t.heap = st.heap := fun st w t h => ⟨Outcome.returned.inj h.1, h.2⟩
theorem d_p0 : decode prog_22_method_11_code 0 = .ok (.iload_n 0, 1) := by decide +kernel
theorem d_p1 : decode prog_22_method_11_code 1 = .ok (.ifCond .lt 8, 3) := by decide +kernel
theorem d_p4 : decode prog_22_method_11_code 4 = .ok (.iload_n 0, 1) := by decide +kernel
theorem d_p5 : decode prog_22_method_11_code 5 = .ok (.iload_n 1, 1) := by decide +kernel
theorem d_p6 : decode prog_22_method_11_code 6 = .ok (.if_icmp .lt 10, 3) := by decide +kernel
theorem d_p16 : decode prog_22_method_11_code 16 = .ok (.iload_n 0, 1) := by decide +kernel
theorem d_p17 : decode prog_22_method_11_code 17 = .ok (.ireturn, 1) := by decide +kernel
theorem c_preR {a : Nat} {i n : Int32} (h0 : ¬ i < 0) (h1 : i < n) : Met l nPre (jw nPre prog_22_method_11_code 3 (some .int)) (jr 0 0) (va_Pc [.int i, .int n, .ref a] (XT B sA sV f0)) (jq (some (.int i))) 0 0 (fun _ => False) := by
  refine Met.ofW (cc := prog_22_method_11_code) (maxL := 3) (ret := some .int) (by decide) rfl ?_
  intro p e s m args below meth c s₁ Bd hml hv
  obtain ⟨rfl, -⟩ := hv
  have hx := Bd.exec
  have hb := Bd.bytes
  have hr := Bd.returns
  have hlocks := Bd.notSynchronized
  have hl := lv_entry ([.int i, .int n, .ref a]) (n := 3) (Nat.le_of_ble_eq_true rfl)
  rw [lg_entry_eq]
  generalize (lg_sl ([.int i, .int n, .ref a]) ++ List.replicate (3 - (lg_sl ([.int i, .int n, .ref a])).length) Slot.unset).toArray = ls at hl ⊢
  refine lv_iload_n hx hb d_p0 rfl (lv_at hl 0 rfl) ?_
  refine lv_if_lt hx hb d_p1 (tgt := 9) rfl (fun z => absurd z h0) (fun _ => ?_)
  refine lv_iload_n hx hb d_p4 rfl (lv_at hl 0 rfl) ?_
  refine lv_iload_n hx hb d_p5 rfl (lv_at hl 1 rfl) ?_
  refine lv_icmp_lt hx hb d_p6 (tgt := 16) rfl (fun _ => ?_) (fun z => absurd h1 z)
  refine lv_iload_n hx hb d_p16 rfl (lv_at hl 0 rfl) ?_
  exact W.iret hx hb hr (fun t ht hW => ⟨rfl, ht⟩) (fun q h => by cases h) d_p17
theorem c_preN {i n : Int32} (h0 : ¬ i < 0) (h1 : i < n) : Met l nPre (jw nPre prog_22_method_11_code 3 (some .int)) (jr 0 0) (va_Pc [.int i, .int n, .null] (XT B sA sV f0)) (jq (some (.int i))) 0 0 (fun _ => False) := by
  refine Met.ofW (cc := prog_22_method_11_code) (maxL := 3) (ret := some .int) (by decide) rfl ?_
  intro p e s m args below meth c s₁ Bd hml hv
  obtain ⟨rfl, -⟩ := hv
  have hx := Bd.exec
  have hb := Bd.bytes
  have hr := Bd.returns
  have hlocks := Bd.notSynchronized
  have hl := lv_entry ([.int i, .int n, .null]) (n := 3) (Nat.le_of_ble_eq_true rfl)
  rw [lg_entry_eq]
  generalize (lg_sl ([.int i, .int n, .null]) ++ List.replicate (3 - (lg_sl ([.int i, .int n, .null])).length) Slot.unset).toArray = ls at hl ⊢
  refine lv_iload_n hx hb d_p0 rfl (lv_at hl 0 rfl) ?_
  refine lv_if_lt hx hb d_p1 (tgt := 9) rfl (fun z => absurd z h0) (fun _ => ?_)
  refine lv_iload_n hx hb d_p4 rfl (lv_at hl 0 rfl) ?_
  refine lv_iload_n hx hb d_p5 rfl (lv_at hl 1 rfl) ?_
  refine lv_icmp_lt hx hb d_p6 (tgt := 16) rfl (fun _ => ?_) (fun z => absurd h1 z)
  refine lv_iload_n hx hb d_p16 rfl (lv_at hl 0 rfl) ?_
  exact W.iret hx hb hr (fun t ht hW => ⟨rfl, ht⟩) (fun q h => by cases h) d_p17
theorem c_pre {i n : Int32} (h0 : ¬ i < 0) (h1 : i < n) (hf : f0 = .null ∨ ∃ a, f0 = .ref a) : Met l nPre (jw nPre prog_22_method_11_code 3 (some .int)) (jr 0 0) (va_Pc [.int i, .int n, f0] (XT B sA sV f0)) (jq (some (.int i))) 0 0 (fun _ => False) := by
  rcases hf with rfl | ⟨a, rfl⟩
  · exact c_preN h0 h1
  · exact c_preR h0 h1
theorem d_k0 : decode prog_17_method_155_code 0 = .ok (.iload_n 0, 1) := by decide +kernel
theorem d_k1 : decode prog_17_method_155_code 1 = .ok (.iload_n 1, 1) := by decide +kernel
theorem d_k2 : decode prog_17_method_155_code 2 = .ok (.getstatic 1053, 3) := by decide +kernel
theorem d_k5 : decode prog_17_method_155_code 5 = .ok (.invokestatic 1059, 3) := by decide +kernel
theorem d_k8 : decode prog_17_method_155_code 8 = .ok (.pop, 1) := by decide +kernel
theorem d_k9 : decode prog_17_method_155_code 9 = .ok (.return_, 1) := by decide +kernel
theorem c_chk {i n : Int32} (h0 : ¬ i < 0) (h1 : i < n) : Met l nChk (jw nChk prog_17_method_155_code 2 none) (jr 1 32) (va_Pc [.int i, .int n] (XT B sA sV f0)) (jq none) 0 0 (fun _ => False) := by
  refine Met.ofW (cc := prog_17_method_155_code) (maxL := 2) (ret := none) (by decide) rfl ?_
  intro p e s m args below meth c s₁ Bd hml hv
  obtain ⟨rfl, hX⟩ := hv
  have hx := Bd.exec
  have hb := Bd.bytes
  have hr := Bd.returns
  have hlocks := Bd.notSynchronized
  have hts0 := atoms_spec (ws := jw nChk prog_17_method_155_code 2 none) Bd.pre
  have hts : ∀ w ∈ ZB, w.before ([.int i, .int n] : List Value).toArray s = true := fun w hw => hts0 w (List.mem_cons_of_mem _ hw)
  have hown : s.vm.findClass "java/lang/String" = some m.cls := findClass_of_methodNamed Bd.named
  have hS : va_S (zA B) s.heap s.heap [] := va_S.rf
  have hl := lv_entry ([.int i, .int n]) (n := 2) (Nat.le_of_ble_eq_true rfl)
  rw [lg_entry_eq]
  generalize (lg_sl ([.int i, .int n]) ++ List.replicate (2 - (lg_sl ([.int i, .int n])).length) Slot.unset).toArray = ls at hl ⊢
  refine lv_iload_n hx hb d_k0 rfl (lv_at hl 0 rfl) ?_
  refine lv_iload_n hx hb d_k1 rfl (lv_at hl 1 rfl) ?_
  refine va_gets hx hb hX.2.2.2.2.2.2.1 hS hown (hts _ (inT_in k_fld.2.1)) (fun _ z => z) d_k2 ?_
  refine j_call (rv := some (.int i)) (va_runS (n := 3) (As := [.int i, .int n, f0]) (rest := []) ⟨hx, hb, hml, hown, hts⟩ (c_pre (B := B) (sA := sA) (sV := sV) (f0 := f0) h0 h1 hX.2.2.2.2.2.2.2) ⟨callB_of 3 hts (jg k_pre.1) rfl rfl rfl (hts _ (inT_in k_pre.2.2.2)) (hts _ (inT_in k_pre.2.2.1)) ⟨by decide, by decide, by decide +kernel⟩ ⟨Nat.le_of_ble_eq_true rfl, Nat.le_of_ble_eq_true rfl⟩, hts _ (inT_in k_pre.2.1)⟩ ⟨XT_blind, fun U hU hW => ⟨rfl, XT_at hX hS hU hW⟩⟩ rfl rfl hl.1 rfl (lv_room (Nat.le_of_ble_eq_true rfl)) d_k5 ⟨Nat.le_refl _, Nat.le_refl _⟩) jqQ ?_
  refine lv_pop hx hb d_k8 rfl ?_
  exact W.vret hx hb hr (fun t ht hW => ⟨rfl, ht⟩) (fun q h => by cases h) d_k9
theorem d_l0 : decode prog_18_method_2_code 0 = .ok (.iload_n 1, 1) := by decide +kernel
theorem d_l1 : decode prog_18_method_2_code 1 = .ok (.aload_n 0, 1) := by decide +kernel
theorem d_l2 : decode prog_18_method_2_code 2 = .ok (.arraylength, 1) := by decide +kernel
theorem d_l3 : decode prog_18_method_2_code 3 = .ok (.invokestatic 9, 3) := by decide +kernel
theorem d_l6 : decode prog_18_method_2_code 6 = .ok (.aload_n 0, 1) := by decide +kernel
theorem d_l7 : decode prog_18_method_2_code 7 = .ok (.iload_n 1, 1) := by decide +kernel
theorem d_l8 : decode prog_18_method_2_code 8 = .ok (.baload, 1) := by decide +kernel
theorem d_l9 : decode prog_18_method_2_code 9 = .ok (.sipush 255, 3) := by decide +kernel
theorem d_l12 : decode prog_18_method_2_code 12 = .ok (.iand, 1) := by decide +kernel
theorem d_l13 : decode prog_18_method_2_code 13 = .ok (.i2c, 1) := by decide +kernel
theorem d_l14 : decode prog_18_method_2_code 14 = .ok (.ireturn, 1) := by decide +kernel
theorem k_sgn : ∀ k : Nat, k < 149 → (((Int32.ofInt (STRL.getD k 0)) &&& (Int16.ofInt 255).toInt32).toUInt32 % 65536).toInt32 = Int32.ofInt (STRL.getD k 0) ∧ narrow .char (.int (Int32.ofInt (STRL.getD k 0))) = .int (Int32.ofInt (STRL.getD k 0)) ∧ ¬ Int32.ofInt (k : Int) < 0 ∧ Int32.ofInt (k : Int) < Int32.ofNat 149 ∧ (Int32.ofInt (k : Int)).toNatClampNeg = k := by decide +kernel
theorem k_vp : ∀ k : Nat, k < 149 → vp_in (Int32.ofInt (k : Int)) 149 := fun k hk => by
  obtain ⟨-, -, h3, -, h5⟩ := k_sgn k hk
  unfold vp_in
  rintro (q | q)
  · exact h3 q
  · rw [h5] at q
    omega
theorem c_lch {k : Nat} (hk : k < 149) : Met l nLch (jw nLch prog_18_method_2_code 2 (some .char)) (jr 2 64) (va_Pc [.ref sV, .int (Int32.ofInt (k : Int))] (XT B sA sV f0)) (jq (some (.int (Int32.ofInt (STRL.getD k 0))))) 0 0 (fun _ => False) := by
  obtain ⟨g1, g2, g3, g4, g5⟩ := k_sgn k hk
  have g6 := k_vp k hk
  generalize Int32.ofInt (k : Int) = i at *
  refine Met.ofW (cc := prog_18_method_2_code) (maxL := 2) (ret := some .char) (by decide) rfl ?_
  intro p e s m args below meth c s₁ Bd hml hv
  obtain ⟨rfl, hX⟩ := hv
  have hx := Bd.exec
  have hb := Bd.bytes
  have hr := Bd.returns
  have hlocks := Bd.notSynchronized
  have hts0 := atoms_spec (ws := jw nLch prog_18_method_2_code 2 (some .char)) Bd.pre
  have hts : ∀ w ∈ ZB, w.before ([.ref sV, .int i] : List Value).toArray s = true := fun w hw => hts0 w (List.mem_cons_of_mem _ hw)
  have hown : s.vm.findClass "java/lang/StringLatin1" = some m.cls := findClass_of_methodNamed Bd.named
  have hS : va_S (zA B) s.heap s.heap [] := va_S.rf
  have hl := lv_entry ([.ref sV, .int i]) (n := 2) (Nat.le_of_ble_eq_true rfl)
  rw [lg_entry_eq]
  generalize (lg_sl ([.ref sV, .int i]) ++ List.replicate (2 - (lg_sl ([.ref sV, .int i])).length) Slot.unset).toArray = ls at hl ⊢
  refine lv_iload_n hx hb d_l0 rfl (lv_at hl 1 rfl) ?_
  refine lv_aload_n hx hb d_l1 rfl (lv_at hl 0 rfl) ?_
  refine va_tlen hx hb hX.2.2.2.2.1 hS rfl d_l2 ?_
  refine j_call (rv := none) (va_runS (n := 2) (As := [.int i, .int (Int32.ofNat 149)]) (rest := []) ⟨hx, hb, hml, hown, hts⟩ (c_chk (B := B) (sA := sA) (sV := sV) (f0 := f0) g3 g4) ⟨callB_of 2 hts (jg k_chk.1) rfl rfl rfl (hts _ (inT_in k_chk.2.2.2)) (hts _ (inT_in k_chk.2.2.1)) ⟨by decide, by decide, by decide +kernel⟩ ⟨Nat.le_of_ble_eq_true rfl, Nat.le_of_ble_eq_true rfl⟩, hts _ (inT_in k_chk.2.1)⟩ ⟨XT_blind, fun U hU hW => ⟨rfl, XT_at hX hS hU hW⟩⟩ rfl rfl hl.1 rfl (lv_room (Nat.le_of_ble_eq_true rfl)) d_l3 ⟨Nat.le_refl _, Nat.le_refl _⟩) jqQ ?_
  refine lv_aload_n hx hb d_l6 rfl (lv_at hl 0 rfl) ?_
  refine lv_iload_n hx hb d_l7 rfl (lv_at hl 1 rfl) ?_
  refine va_tb hx hb hX.2.2.2.2.1 hS g6 rfl d_l8 ?_
  rw [g5]
  refine lv_sipush hx hb d_l9 rfl ?_
  refine lv_iand hx hb d_l12 ?_
  refine lv_i2c hx hb d_l13 g1 ?_
  exact W.zret hx hb hr g2 (fun t ht hW => ⟨rfl, ht⟩) (fun q h => by cases h) d_l14
theorem d_a0 : decode prog_17_method_154_code 0 = .ok (.getstatic 38, 3) := by decide +kernel
theorem d_a3 : decode prog_17_method_154_code 3 = .ok (.ifCond .eq 14, 3) := by decide +kernel
theorem d_a6 : decode prog_17_method_154_code 6 = .ok (.aload_n 0, 1) := by decide +kernel
theorem d_a7 : decode prog_17_method_154_code 7 = .ok (.getfield 15, 3) := by decide +kernel
theorem d_a10 : decode prog_17_method_154_code 10 = .ok (.ifCond .ne 7, 3) := by decide +kernel
theorem d_a13 : decode prog_17_method_154_code 13 = .ok (.iconst 1, 1) := by decide +kernel
theorem d_a14 : decode prog_17_method_154_code 14 = .ok (.goto 4, 3) := by decide +kernel
theorem d_a18 : decode prog_17_method_154_code 18 = .ok (.ireturn, 1) := by decide +kernel
theorem c_lat : Met l nLat (jw nLat prog_17_method_154_code 1 (some .boolean)) (jr 0 0) (va_Pc [.ref sA] (XT B sA sV f0)) (jq (some (.int 1))) 0 0 (fun _ => False) := by
  refine Met.ofW (cc := prog_17_method_154_code) (maxL := 1) (ret := some .boolean) (by decide) rfl ?_
  intro p e s m args below meth c s₁ Bd hml hv
  obtain ⟨rfl, hX⟩ := hv
  have hx := Bd.exec
  have hb := Bd.bytes
  have hr := Bd.returns
  have hlocks := Bd.notSynchronized
  have hts0 := atoms_spec (ws := jw nLat prog_17_method_154_code 1 (some .boolean)) Bd.pre
  have hts : ∀ w ∈ ZB, w.before ([.ref sA] : List Value).toArray s = true := fun w hw => hts0 w (List.mem_cons_of_mem _ hw)
  have hown : s.vm.findClass "java/lang/String" = some m.cls := findClass_of_methodNamed Bd.named
  have hS : va_S (zA B) s.heap s.heap [] := va_S.rf
  have hl := lv_entry ([.ref sA]) (n := 1) (Nat.le_of_ble_eq_true rfl)
  rw [lg_entry_eq]
  generalize (lg_sl ([.ref sA]) ++ List.replicate (1 - (lg_sl ([.ref sA])).length) Slot.unset).toArray = ls at hl ⊢
  refine va_gets hx hb hX.2.2.2.2.2.1 hS hown (hts _ (inT_in k_fld.1)) (fun _ z => z) d_a0 ?_
  refine lv_if_eq hx hb d_a3 (tgt := 17) rfl (fun z => absurd z (by decide)) (fun _ => ?_)
  refine lv_aload_n hx hb d_a6 rfl (lv_at hl 0 rfl) ?_
  refine vk_getf hx hb hX.2.2.1 hS hown (hts _ (inT_in k_fld.2.2.2)) (fun _ z => z) d_a7 ?_
  refine lv_if_ne hx hb d_a10 (tgt := 17) rfl (fun z => absurd rfl z) (fun _ => ?_)
  refine lv_iconst hx hb d_a13 (v := 1) rfl ?_
  refine lv_goto hx hb d_a14 (tgt := 18) rfl ?_
  exact W.zret hx hb hr rfl (fun t ht hW => ⟨rfl, ht⟩) (fun q h => by cases h) d_a18
theorem d_c0 : decode prog_17_method_152_code 0 = .ok (.getstatic 38, 3) := by decide +kernel
theorem d_c3 : decode prog_17_method_152_code 3 = .ok (.ifCond .eq 10, 3) := by decide +kernel
theorem d_c6 : decode prog_17_method_152_code 6 = .ok (.aload_n 0, 1) := by decide +kernel
theorem d_c7 : decode prog_17_method_152_code 7 = .ok (.getfield 15, 3) := by decide +kernel
theorem d_c10 : decode prog_17_method_152_code 10 = .ok (.goto 4, 3) := by decide +kernel
theorem d_c14 : decode prog_17_method_152_code 14 = .ok (.ireturn, 1) := by decide +kernel
theorem c_cod : Met l nCod (jw nCod prog_17_method_152_code 1 (some .byte)) (jr 0 0) (va_Pc [.ref sA] (XT B sA sV f0)) (jq (some (.int 0))) 0 0 (fun _ => False) := by
  refine Met.ofW (cc := prog_17_method_152_code) (maxL := 1) (ret := some .byte) (by decide) rfl ?_
  intro p e s m args below meth c s₁ Bd hml hv
  obtain ⟨rfl, hX⟩ := hv
  have hx := Bd.exec
  have hb := Bd.bytes
  have hr := Bd.returns
  have hlocks := Bd.notSynchronized
  have hts0 := atoms_spec (ws := jw nCod prog_17_method_152_code 1 (some .byte)) Bd.pre
  have hts : ∀ w ∈ ZB, w.before ([.ref sA] : List Value).toArray s = true := fun w hw => hts0 w (List.mem_cons_of_mem _ hw)
  have hown : s.vm.findClass "java/lang/String" = some m.cls := findClass_of_methodNamed Bd.named
  have hS : va_S (zA B) s.heap s.heap [] := va_S.rf
  have hl := lv_entry ([.ref sA]) (n := 1) (Nat.le_of_ble_eq_true rfl)
  rw [lg_entry_eq]
  generalize (lg_sl ([.ref sA]) ++ List.replicate (1 - (lg_sl ([.ref sA])).length) Slot.unset).toArray = ls at hl ⊢
  refine va_gets hx hb hX.2.2.2.2.2.1 hS hown (hts _ (inT_in k_fld.1)) (fun _ z => z) d_c0 ?_
  refine lv_if_eq hx hb d_c3 (tgt := 13) rfl (fun z => absurd z (by decide)) (fun _ => ?_)
  refine lv_aload_n hx hb d_c6 rfl (lv_at hl 0 rfl) ?_
  refine vk_getf hx hb hX.2.2.1 hS hown (hts _ (inT_in k_fld.2.2.2)) (fun _ z => z) d_c7 ?_
  refine lv_goto hx hb d_c10 (tgt := 14) rfl ?_
  exact W.zret hx hb hr rfl (fun t ht hW => ⟨rfl, ht⟩) (fun q h => by cases h) d_c14
theorem d_n0 : decode prog_17_method_54_code 0 = .ok (.aload_n 0, 1) := by decide +kernel
theorem d_n1 : decode prog_17_method_54_code 1 = .ok (.getfield 9, 3) := by decide +kernel
theorem d_n4 : decode prog_17_method_54_code 4 = .ok (.arraylength, 1) := by decide +kernel
theorem d_n5 : decode prog_17_method_54_code 5 = .ok (.aload_n 0, 1) := by decide +kernel
theorem d_n6 : decode prog_17_method_54_code 6 = .ok (.invokevirtual 335, 3) := by decide +kernel
theorem d_n9 : decode prog_17_method_54_code 9 = .ok (.ishr, 1) := by decide +kernel
theorem d_n10 : decode prog_17_method_54_code 10 = .ok (.ireturn, 1) := by decide +kernel
theorem XT_recv (hX : XT B sA sV f0 s) (hS : va_S (zA B) s.heap H locs) : ∃ cell : Cell, H[sA]? = some cell ∧ cell.vm.isStatics = false ∧ s.vm.findClass "java/lang/String" = some cell.cls := by
  obtain ⟨cell, h1, h2, h3, -⟩ := hX.2.1.kept hS.2.1
  exact ⟨cell, h1, h2, h3⟩
theorem c_len : Met l nLen (jw nLen prog_17_method_54_code 1 (some .int)) (jr 1 32) (va_Pc [.ref sA] (XT B sA sV f0)) (jq (some (.int 149))) 0 0 (fun _ => False) := by
  refine Met.ofW (cc := prog_17_method_54_code) (maxL := 1) (ret := some .int) (by decide) rfl ?_
  intro p e s m args below meth c s₁ Bd hml hv
  obtain ⟨rfl, hX⟩ := hv
  have hx := Bd.exec
  have hb := Bd.bytes
  have hr := Bd.returns
  have hlocks := Bd.notSynchronized
  have hts0 := atoms_spec (ws := jw nLen prog_17_method_54_code 1 (some .int)) Bd.pre
  have hts : ∀ w ∈ ZB, w.before ([.ref sA] : List Value).toArray s = true := fun w hw => hts0 w (List.mem_cons_of_mem _ hw)
  have hown : s.vm.findClass "java/lang/String" = some m.cls := findClass_of_methodNamed Bd.named
  have hS : va_S (zA B) s.heap s.heap [] := va_S.rf
  have hl := lv_entry ([.ref sA]) (n := 1) (Nat.le_of_ble_eq_true rfl)
  rw [lg_entry_eq]
  generalize (lg_sl ([.ref sA]) ++ List.replicate (1 - (lg_sl ([.ref sA])).length) Slot.unset).toArray = ls at hl ⊢
  refine lv_aload_n hx hb d_n0 rfl (lv_at hl 0 rfl) ?_
  refine vk_getf hx hb hX.2.2.2.1 hS hown (hts _ (inT_in k_fld.2.2.1)) (fun _ z => z) d_n1 ?_
  refine va_tlen hx hb hX.2.2.2.2.1 hS (v := 149) rfl d_n4 ?_
  refine lv_aload_n hx hb d_n5 rfl (lv_at hl 0 rfl) ?_
  refine j_call (rv := some (.int 0)) (va_runV (n := 0) (As := []) (rest := [.int 149]) ⟨hx, hb, hml, hown, hts⟩ (c_cod (B := B) (sA := sA) (sV := sV) (f0 := f0)) ⟨callB_of 0 hts (jg k_cod.1) rfl rfl rfl (hts _ (inT_in k_chk.2.2.2)) (hts _ (inT_in k_cod.2.2.2)) ⟨by decide, by decide, by decide +kernel⟩ ⟨Nat.le_of_ble_eq_true rfl, Nat.le_of_ble_eq_true rfl⟩, hts _ (inT_in k_cod.2.2.1), hts _ (inT_in k_cod.2.1)⟩ ⟨XT_blind, XT_recv hX hS, fun U hU hW => ⟨rfl, XT_at hX hS hU hW⟩⟩ rfl rfl hl.1 rfl (lv_room (Nat.le_of_ble_eq_true rfl)) d_n6 ⟨Nat.le_refl _, Nat.le_refl _⟩) jqQ ?_
  refine lv_ishr hx hb d_n9 ?_
  rw [show (149 : Int32) >>> ((0 : Int32) &&& 31) = 149 by decide +kernel]
  exact W.iret hx hb hr (fun t ht hW => ⟨rfl, ht⟩) (fun q h => by cases h) d_n10
theorem d_h0 : decode prog_17_method_56_code 0 = .ok (.aload_n 0, 1) := by decide +kernel
theorem d_h1 : decode prog_17_method_56_code 1 = .ok (.invokevirtual 492, 3) := by decide +kernel
theorem d_h4 : decode prog_17_method_56_code 4 = .ok (.ifCond .eq 12, 3) := by decide +kernel
theorem d_h7 : decode prog_17_method_56_code 7 = .ok (.aload_n 0, 1) := by decide +kernel
theorem d_h8 : decode prog_17_method_56_code 8 = .ok (.getfield 9, 3) := by decide +kernel
theorem d_h11 : decode prog_17_method_56_code 11 = .ok (.iload_n 1, 1) := by decide +kernel
theorem d_h12 : decode prog_17_method_56_code 12 = .ok (.invokestatic 495, 3) := by decide +kernel
theorem d_h15 : decode prog_17_method_56_code 15 = .ok (.ireturn, 1) := by decide +kernel
theorem c_chr {k : Nat} (hk : k < 149) : Met l nChr (jw nChr prog_17_method_56_code 2 (some .char)) (jr 3 96) (va_Pc [.ref sA, .int (Int32.ofInt (k : Int))] (XT B sA sV f0)) (jq (some (.int (Int32.ofInt (STRL.getD k 0))))) 0 0 (fun _ => False) := by
  refine Met.ofW (cc := prog_17_method_56_code) (maxL := 2) (ret := some .char) (by decide) rfl ?_
  intro p e s m args below meth c s₁ Bd hml hv
  obtain ⟨rfl, hX⟩ := hv
  have hx := Bd.exec
  have hb := Bd.bytes
  have hr := Bd.returns
  have hlocks := Bd.notSynchronized
  have hts0 := atoms_spec (ws := jw nChr prog_17_method_56_code 2 (some .char)) Bd.pre
  have hts : ∀ w ∈ ZB, w.before ([.ref sA, .int (Int32.ofInt (k : Int))] : List Value).toArray s = true := fun w hw => hts0 w (List.mem_cons_of_mem _ hw)
  have hown : s.vm.findClass "java/lang/String" = some m.cls := findClass_of_methodNamed Bd.named
  have hS : va_S (zA B) s.heap s.heap [] := va_S.rf
  have hl := lv_entry ([.ref sA, .int (Int32.ofInt (k : Int))]) (n := 2) (Nat.le_of_ble_eq_true rfl)
  rw [lg_entry_eq]
  generalize (lg_sl ([.ref sA, .int (Int32.ofInt (k : Int))]) ++ List.replicate (2 - (lg_sl ([.ref sA, .int (Int32.ofInt (k : Int))])).length) Slot.unset).toArray = ls at hl ⊢
  refine lv_aload_n hx hb d_h0 rfl (lv_at hl 0 rfl) ?_
  refine j_call (rv := some (.int 1)) (va_runV (n := 0) (As := []) (rest := []) ⟨hx, hb, hml, hown, hts⟩ (c_lat (B := B) (sA := sA) (sV := sV) (f0 := f0)) ⟨callB_of 0 hts (jg k_lat.1) rfl rfl rfl (hts _ (inT_in k_chk.2.2.2)) (hts _ (inT_in k_lat.2.2.2)) ⟨by decide, by decide, by decide +kernel⟩ ⟨Nat.le_of_ble_eq_true rfl, Nat.le_of_ble_eq_true rfl⟩, hts _ (inT_in k_lat.2.2.1), hts _ (inT_in k_lat.2.1)⟩ ⟨XT_blind, XT_recv hX hS, fun U hU hW => ⟨rfl, XT_at hX hS hU hW⟩⟩ rfl rfl hl.1 rfl (lv_room (Nat.le_of_ble_eq_true rfl)) d_h1 ⟨Nat.le_refl _, Nat.le_refl _⟩) jqQ ?_
  refine lv_if_eq hx hb d_h4 (tgt := 16) rfl (fun z => absurd z (by decide)) (fun _ => ?_)
  refine lv_aload_n hx hb d_h7 rfl (lv_at hl 0 rfl) ?_
  refine vk_getf hx hb hX.2.2.2.1 hS hown (hts _ (inT_in k_fld.2.2.1)) (fun _ z => z) d_h8 ?_
  refine lv_iload_n hx hb d_h11 rfl (lv_at hl 1 rfl) ?_
  refine j_call (rv := some (.int (Int32.ofInt (STRL.getD k 0)))) (va_runS (n := 2) (As := [.ref sV, .int (Int32.ofInt (k : Int))]) (rest := []) ⟨hx, hb, hml, hown, hts⟩ (c_lch (B := B) (sA := sA) (sV := sV) (f0 := f0) hk) ⟨callB_of 2 hts (jg k_lch.1) rfl rfl rfl (hts _ (inT_in k_lch.2.2.2)) (hts _ (inT_in k_lch.2.2.1)) ⟨by decide, by decide, by decide +kernel⟩ ⟨Nat.le_of_ble_eq_true rfl, Nat.le_of_ble_eq_true rfl⟩, hts _ (inT_in k_lch.2.1)⟩ ⟨XT_blind, fun U hU hW => ⟨rfl, XT_at hX hS hU hW⟩⟩ rfl rfl hl.1 rfl (lv_room (Nat.le_of_ble_eq_true rfl)) d_h12 ⟨Nat.le_refl _, Nat.le_refl _⟩) jqQ ?_
  exact W.zret hx hb hr (k_sgn k hk).2.1 (fun t ht hW => ⟨rfl, ht⟩) (fun q h => by cases h) d_h15
end JC
