/-! LM, part 8, by program: the words of the tables by their places -/
def tabAt (p : Nat) : Option Cond := match p / 240 with
  | 0 => tables_1_1[p % 240]?
  | 1 => tables_1_2[p % 240]?
  | 2 => tables_1_3[p % 240]?
  | 3 => tables_1_4[p % 240]?
  | 4 => tables_1_5[p % 240]?
  | 5 => tables_1_6[p % 240]?
  | 6 => tables_1_7[p % 240]?
  | 7 => tables_1_8[p % 240]?
  | _ => none
theorem tabAt_in {p : Nat} {w : Cond} (h : tabAt p = some w) : w ∈ tables_1 := by
  unfold tabAt at h
  show w ∈ tables_1_1 ++ (tables_1_2 ++ (tables_1_3 ++ (tables_1_4 ++ (tables_1_5 ++ (tables_1_6 ++ (tables_1_7 ++ tables_1_8))))))
  split at h
  · exact List.mem_append_left _ (List.mem_of_getElem? h)
  · exact List.mem_append_right _ (List.mem_append_left _ (List.mem_of_getElem? h))
  · exact List.mem_append_right _ (List.mem_append_right _ (List.mem_append_left _ (List.mem_of_getElem? h)))
  · exact List.mem_append_right _ (List.mem_append_right _ (List.mem_append_right _ (List.mem_append_left _ (List.mem_of_getElem? h))))
  · exact List.mem_append_right _ (List.mem_append_right _ (List.mem_append_right _ (List.mem_append_right _ (List.mem_append_left _ (List.mem_of_getElem? h)))))
  · exact List.mem_append_right _ (List.mem_append_right _ (List.mem_append_right _ (List.mem_append_right _ (List.mem_append_right _ (List.mem_append_left _ (List.mem_of_getElem? h))))))
  · exact List.mem_append_right _ (List.mem_append_right _ (List.mem_append_right _ (List.mem_append_right _ (List.mem_append_right _ (List.mem_append_right _ (List.mem_append_left _ (List.mem_of_getElem? h)))))))
  · exact List.mem_append_right _ (List.mem_append_right _ (List.mem_append_right _ (List.mem_append_right _ (List.mem_append_right _ (List.mem_append_right _ (List.mem_append_right _ (List.mem_of_getElem? h)))))))
  · cases h
def inT (p : Nat) (w : Cond) : Bool := decide (tabAt p = some w) && goodWord w
def ZB : List Cond := lw_tbl.filter goodWord
theorem inT_in {p : Nat} {w : Cond} (h : inT p w = true) : w ∈ ZB := by
  simp only [inT, Bool.and_eq_true, decide_eq_true_eq] at h
  exact List.mem_filter.mpr ⟨List.mem_append_right _ (tabAt_in h.1), h.2⟩
def INP (o : Nat) : Nat := match o with
  | 0 => 14
  | 1 => 8
  | 2 => 15
  | 3 => 10
  | 4 => 9
  | 5 => 12
  | 6 => 7
  | 7 => 2
  | 8 => 16
  | 9 => 11
  | 10 => 13
  | 11 => 1
  | 12 => 17
  | 13 => 0
  | 14 => 21
  | 15 => 20
  | _ => 18
def NIP (c : Nat) : Nat := [415, 131, 446, 289, 193, 375, 122, 31, 498, 295, 399, 23, 1195].getD c 0
def UWP (c : Nat) : List Nat := match c with
  | 0 => [428, 430, 432, 434, 436, 438, 440, 442]
  | 1 => [173, 175, 177, 179, 181, 183, 185, 187, 189]
  | 2 => [470, 472, 474, 476, 478, 480, 482, 484, 486, 488, 490, 492, 494]
  | 3 => [354, 356, 358, 360, 362, 364, 366, 368]
  | 4 => [217, 219, 221, 223, 225]
  | 5 => [387, 389, 391, 393, 395]
  | 6 => [267, 269, 271, 273, 275, 277, 279, 281, 283, 285]
  | 7 => [100, 102, 104, 106, 108, 110, 112, 114, 116]
  | 8 => [510, 512, 514, 516, 518, 520, 522]
  | 9 => [324, 326, 328, 330, 332, 334]
  | 10 => [407, 409, 411]
  | 11 => [541, 543, 545, 547, 549, 551, 553, 555, 557, 559, 561, 563, 565, 567, 569]
  | 12 => [1302, 1304, 1306, 1308, 1310, 1312, 1314, 1316, 1318, 1320, 1322, 1324, 1326, 1328, 1330, 1332, 1334, 1336, 1338, 1340, 1342, 1344, 1346, 1348, 1350, 1352, 1354, 1356, 1358, 1360, 1362, 1364, 1366, 1368, 1370, 1372, 1374, 1376, 1378, 1380, 1382, 1384, 1386, 1388, 1390, 1392, 1394, 1396, 1398, 1400, 1402, 1404, 1406, 1408, 1410]
  | _ => []
def chkU (c : Nat) : Bool := match zcl[c]? with
  | some q => decide ((u_ws q.1 q.2.1 q.2.2) = (UWP c).filterMap tabAt) && (u_ws q.1 q.2.1 q.2.2).all goodWord && inT (NIP c) (.instantiable q.1 q.2.2) && decide (q.1 = onm c) && decide (∀ k, k < q.2.2 → (q.2.1 k).1 = q.1)
  | none => true
def chkF (o : Nat) (e : Nat × Nat × Nat × Nat) : Bool := match zcl[e.2.1]? with
  | some q => decide (e.2.2.1 < q.2.2) && inT e.2.2.2 (.fieldLink (onm o) e.1 q.1 (q.2.1 e.2.2.1).2.1 (q.2.1 e.2.2.1).2.2.1)
  | none => false
def chkC (o : Nat) (e : Nat × Int × Nat) : Bool := inT e.2.2 (.constant (onm o) e.1 (Int32.ofInt e.2.1)) && decide (-2147483648 ≤ e.2.1 ∧ e.2.1 ≤ 2147483647)
def chkL (o : Nat) (e : Nat × Int × Nat) : Bool := inT e.2.2 (.constantLong (onm o) e.1 (Int64.ofInt e.2.1)) && decide (-9223372036854775808 ≤ e.2.1 ∧ e.2.1 ≤ 9223372036854775807)
def chkK (o : Nat) (e : Nat × Nat × Nat) : Bool := inT e.2.2 (.classLink (onm o) e.1 (onm e.2.1)) && decide (e.2.1 < 13)
def chkM (o : Nat) (e : Nat × Nat × Nat × Nat) : Bool := match MTB e.2.1 with
  | some M => if e.2.2.1 = 0 then inT e.2.2.2 (.methodLink (onm o) e.1 M.1) else decide (tabAt e.2.2.2 = some (.methodLinkNest (onm o) e.1 M.1 "OneSided"))
  | none => false
def pnm (k : Nat) : MethodName := match k with
  | 0 => objectInit
  | 1 => arraycopyName
  | 2 => ⟨"java/lang/String", "length", "()I"⟩
  | 3 => ⟨"java/lang/String", "charAt", "(I)C"⟩
  | 4 => ⟨"java/lang/Math", "min", "(II)I"⟩
  | 5 => ⟨"java/lang/Math", "max", "(II)I"⟩
  | _ => ⟨"java/lang/Math", "floorMod", "(II)I"⟩
def chkP (o : Nat) (e : Nat × Nat × Nat) : Bool := inT e.2.2 (.methodLink (onm o) e.1 (pnm e.2.1))
def selIn (p : Nat) (y : MethodName) : Bool := if 1000000 ≤ p then (match lw_privs[p - 1000000]? with | some q => decide (q.1 = y) | none => false) else inT p (.selects y.cls y y)
def chkY (M : LM_M) : Bool :=
  let y := M.1
  inT M.2.2.2.2.2.2.2.2.1 (if M.2.2.2.2.2.2.1 = 1 then .static y else .instanceMethod y) && (M.2.2.2.2.2.2.1 == 1 || y.name == "<init>" || selIn M.2.2.2.2.2.2.2.2.2 y)
    && decide (y.cls = onm M.2.2.2.2.1) && plainName y.cls && decide (y.cls ≠ "java/lang/invoke/MethodHandle") && decide (y.cls ≠ "java/lang/invoke/VarHandle") && decide ((parseMethodDescriptor y.desc).map (fun d => d.parameters.length) = some (M.2.2.2.2.2.1 - (if M.2.2.2.2.2.2.1 = 1 then 0 else 1))) && decide (M.2.2.1 ≤ 40) && decide (M.2.2.2.2.1 < 17) && (M.2.2.2.2.2.2.1 == 1 || decide (1 ≤ M.2.2.2.2.2.1)) && decide (M.2.2.2.2.2.2.1 ≤ 1) && (M.2.2.2.2.2.2.1 == 1 || decide (M.2.2.2.2.1 < 13)) && (!(y.name == "<init>") || decide (M.2.2.2.1 = none))
theorem U_ok : ∀ c, c < 13 → chkU c = true := by decide +kernel
theorem IN_ok : ∀ o, o < 17 → inT (INP o) (.initialized (onm o)) = true := by decide +kernel
theorem FT_ok17 : ∀ o, o < 17 → (FT o).all (chkF o) = true := by decide +kernel
theorem CT_ok17 : ∀ o, o < 17 → (CT o).all (chkC o) = true := by decide +kernel
theorem CLT_ok17 : ∀ o, o < 17 → (CLT o).all (chkL o) = true := by decide +kernel
theorem KT_ok17 : ∀ o, o < 17 → (KT o).all (chkK o) = true := by decide +kernel
theorem MTC_ok17 : ∀ o, o < 17 → (MTC o).all (chkM o) = true := by decide +kernel
theorem PTC_ok17 : ∀ o, o < 17 → (PTC o).all (chkP o) = true := by decide +kernel
theorem MTB0_ok : MTB0.all chkY = true := by decide +kernel
set_option maxRecDepth 100000 in
theorem MTB0_cw : MTB0.map (fun M => tabAt M.2.2.2.2.2.2.2.1) = MTB0.map (fun M => some (Cond.code M.1 M.2.1 M.2.2.1 M.2.2.2.1)) := rfl
theorem MTB1_ok : MTB1.all chkY = true := by decide +kernel
set_option maxRecDepth 100000 in
theorem MTB1_cw : MTB1.map (fun M => tabAt M.2.2.2.2.2.2.2.1) = MTB1.map (fun M => some (Cond.code M.1 M.2.1 M.2.2.1 M.2.2.2.1)) := rfl
theorem MTB2_ok : MTB2.all chkY = true := by decide +kernel
set_option maxRecDepth 100000 in
theorem MTB2_cw : MTB2.map (fun M => tabAt M.2.2.2.2.2.2.2.1) = MTB2.map (fun M => some (Cond.code M.1 M.2.1 M.2.2.1 M.2.2.2.1)) := rfl
theorem MTB3_ok : MTB3.all chkY = true := by decide +kernel
set_option maxRecDepth 100000 in
theorem MTB3_cw : MTB3.map (fun M => tabAt M.2.2.2.2.2.2.2.1) = MTB3.map (fun M => some (Cond.code M.1 M.2.1 M.2.2.1 M.2.2.2.1)) := rfl
theorem MTB4_ok : MTB4.all chkY = true := by decide +kernel
set_option maxRecDepth 100000 in
theorem MTB4_cw : MTB4.map (fun M => tabAt M.2.2.2.2.2.2.2.1) = MTB4.map (fun M => some (Cond.code M.1 M.2.1 M.2.2.1 M.2.2.2.1)) := rfl
theorem MTB5_ok : MTB5.all chkY = true := by decide +kernel
set_option maxRecDepth 100000 in
theorem MTB5_cw : MTB5.map (fun M => tabAt M.2.2.2.2.2.2.2.1) = MTB5.map (fun M => some (Cond.code M.1 M.2.1 M.2.2.1 M.2.2.2.1)) := rfl
theorem MTB6_ok : MTB6.all chkY = true := by decide +kernel
set_option maxRecDepth 100000 in
theorem MTB6_cw : MTB6.map (fun M => tabAt M.2.2.2.2.2.2.2.1) = MTB6.map (fun M => some (Cond.code M.1 M.2.1 M.2.2.1 M.2.2.2.1)) := rfl
theorem MTB_ok {i : Nat} {M : LM_M} (h : MTB i = some M) : chkY M = true ∧ Cond.code M.1 M.2.1 M.2.2.1 M.2.2.2.1 ∈ ZB := by
  have key : ∀ (L : List LM_M), L.all chkY = true → L.map (fun M => tabAt M.2.2.2.2.2.2.2.1) = L.map (fun M => some (Cond.code M.1 M.2.1 M.2.2.1 M.2.2.2.1)) → ∀ j : Nat, L[j]? = some M → chkY M = true ∧ Cond.code M.1 M.2.1 M.2.2.1 M.2.2.2.1 ∈ ZB := by
    intro L h1 h2 j hj
    refine ⟨List.all_eq_true.mp h1 M (List.mem_of_getElem? hj), List.mem_filter.mpr ⟨List.mem_append_right _ (tabAt_in (p := M.2.2.2.2.2.2.2.1) ?_), rfl⟩⟩
    have h3 := congrArg (fun (K : List (Option Cond)) => K[j]?) h2
    simpa [hj] using h3
  unfold MTB at h
  split at h
  · exact key _ MTB0_ok MTB0_cw _ h
  · exact key _ MTB1_ok MTB1_cw _ h
  · exact key _ MTB2_ok MTB2_cw _ h
  · exact key _ MTB3_ok MTB3_cw _ h
  · exact key _ MTB4_ok MTB4_cw _ h
  · exact key _ MTB5_ok MTB5_cw _ h
  · exact key _ MTB6_ok MTB6_cw _ h
  · cases h
theorem obj_ok : inT 28 (.instanceMethod objectInit) = true ∧ inT 29 (.code objectInit ⟨#[0xb1]⟩ 1 none) = true := ⟨by decide +kernel, by decide +kernel⟩
theorem cpy_ok : inT 760 (.native arraycopyName) = true ∧ inT 759 (.static arraycopyName) = true ∧ inT 19 (.initialized "java/lang/System") = true := ⟨by decide +kernel, by decide +kernel, by decide +kernel⟩
theorem mth_min : inT 831 (.static ⟨"java/lang/Math", "min", "(II)I"⟩) = true ∧ tabAt 832 = some (.code ⟨"java/lang/Math", "min", "(II)I"⟩ prog_16_method_69_code 2 (some .int)) := ⟨by decide +kernel, rfl⟩
theorem mth_max : inT 955 (.static ⟨"java/lang/Math", "max", "(II)I"⟩) = true ∧ tabAt 956 = some (.code ⟨"java/lang/Math", "max", "(II)I"⟩ prog_16_method_65_code 2 (some .int)) := ⟨by decide +kernel, rfl⟩
theorem mth_floorMod : inT 820 (.static ⟨"java/lang/Math", "floorMod", "(II)I"⟩) = true ∧ tabAt 821 = some (.code ⟨"java/lang/Math", "floorMod", "(II)I"⟩ prog_16_method_50_code 3 (some .int)) := ⟨by decide +kernel, rfl⟩
theorem arr_int : inT 192 (.arrayClass .int) = true := by decide +kernel
theorem arr_long : inT 120 (.arrayClass .long) = true := by decide +kernel
theorem arr_byte : inT 119 (.arrayClass .byte) = true := by decide +kernel
theorem arr_boolean : inT 1413 (.arrayClass .boolean) = true := by decide +kernel
def AOL : List (Nat × Nat) := [(1, 128), (4, 130), (3, 371), (9, 373)]
theorem AO_ok : AOL.all (fun q => decide (tabAt q.2 = some (.arrayOver (.object (onm q.1))))) = true := by decide +kernel
