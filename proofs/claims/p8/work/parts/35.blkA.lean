/-! LM, by program (wip/p2/hand.py): rows of closure, copies -/
def mm_closure : LM_M := (⟨"OneSidedModel", "closure", "(I)I"⟩, prog_14_method_80_code, 5, (some .int), 12, 2, 0, 1706, 1705, 1000116)
def mm_rooms : LM_M := (⟨"OneSidedModel", "rooms", "()I"⟩, prog_14_method_46_code, 1, (some .int), 12, 1, 0, 1587, 1586, 1000098)
def mm_isIn : LM_M := (⟨"OneSidedModel", "isIn", "(II)Z"⟩, prog_14_method_54_code, 2, (some .boolean), 12, 2, 1, 1598, 1597, 0)
def mm_copies : LM_M := (⟨"OneSidedModel", "copies", "(III)V"⟩, prog_14_method_42_code, 5, none, 12, 4, 0, 1617, 1616, 1000103)
theorem dd_closure_0 : decode mm_closure.2.1 0 = .ok (.iconst 1, 1) := by decide +kernel
theorem dd_closure_1 : decode mm_closure.2.1 1 = .ok (.iload_n 1, 1) := by decide +kernel
theorem dd_closure_2 : decode mm_closure.2.1 2 = .ok (.ishl, 1) := by decide +kernel
theorem dd_closure_3 : decode mm_closure.2.1 3 = .ok (.istore_n 2, 1) := by decide +kernel
theorem dd_closure_4 : decode mm_closure.2.1 4 = .ok (.iconst 0, 1) := by decide +kernel
theorem dd_closure_5 : decode mm_closure.2.1 5 = .ok (.istore_n 3, 1) := by decide +kernel
theorem dd_closure_6 : decode mm_closure.2.1 6 = .ok (.iload_n 2, 1) := by decide +kernel
theorem dd_closure_7 : decode mm_closure.2.1 7 = .ok (.iload_n 3, 1) := by decide +kernel
theorem dd_closure_8 : decode mm_closure.2.1 8 = .ok (.if_icmp .eq (49), 3) := by decide +kernel
theorem dd_closure_57 : decode mm_closure.2.1 57 = .ok (.iload_n 2, 1) := by decide +kernel
theorem dd_closure_58 : decode mm_closure.2.1 58 = .ok (.ireturn, 1) := by decide +kernel
theorem dd_closure_11 : decode mm_closure.2.1 11 = .ok (.iload_n 2, 1) := by decide +kernel
theorem dd_closure_12 : decode mm_closure.2.1 12 = .ok (.istore_n 3, 1) := by decide +kernel
theorem dd_closure_13 : decode mm_closure.2.1 13 = .ok (.iconst 0, 1) := by decide +kernel
theorem dd_closure_14 : decode mm_closure.2.1 14 = .ok (.istore 4, 2) := by decide +kernel
theorem dd_closure_16 : decode mm_closure.2.1 16 = .ok (.iload 4, 2) := by decide +kernel
theorem dd_closure_18 : decode mm_closure.2.1 18 = .ok (.aload_n 0, 1) := by decide +kernel
theorem dd_closure_19 : decode mm_closure.2.1 19 = .ok (.invokevirtual 332, 3) := by decide +kernel
theorem cw_12_332 : cwOk 12 332 0 205 1 1 12 = true := by decide +kernel
theorem io_182 : isO NC 182 12 = true := by decide +kernel
theorem mt_rooms : MTB 205 = some mm_rooms := rfl
theorem dd_rooms_0 : decode mm_rooms.2.1 0 = .ok (.aload_n 0, 1) := by decide +kernel
theorem dd_rooms_1 : decode mm_rooms.2.1 1 = .ok (.getfield 95, 3) := by decide +kernel
theorem fd_12_95 : fld 12 95 = some (12, 10) := by decide +kernel
theorem rf_182_10 {h : LH} (hF : RF h) : rd h 182 10 = 188 := hF 182 10 188 (by decide +kernel) (by decide +kernel)
theorem dd_rooms_4 : decode mm_rooms.2.1 4 = .ok (.iconst 0, 1) := by decide +kernel
theorem dd_rooms_5 : decode mm_rooms.2.1 5 = .ok (.iaload, 1) := by decide +kernel
theorem ia_188 : isA NC 188 1 = true := by decide +kernel
theorem la_188 : (lay (188 : Int).toNat).2.2 = 300 := by decide +kernel
theorem dd_rooms_6 : decode mm_rooms.2.1 6 = .ok (.ireturn, 1) := by decide +kernel
theorem dd_closure_22 : decode mm_closure.2.1 22 = .ok (.if_icmp .ge (32), 3) := by decide +kernel
theorem dd_closure_54 : decode mm_closure.2.1 54 = .ok (.goto (-48), 3) := by decide +kernel
theorem dd_closure_25 : decode mm_closure.2.1 25 = .ok (.iload_n 2, 1) := by decide +kernel
theorem dd_closure_26 : decode mm_closure.2.1 26 = .ok (.iload_n 2, 1) := by decide +kernel
theorem dd_closure_27 : decode mm_closure.2.1 27 = .ok (.iload 4, 2) := by decide +kernel
theorem dd_closure_29 : decode mm_closure.2.1 29 = .ok (.invokestatic 350, 3) := by decide +kernel
theorem cw_12_350 : cwOk 12 350 1 208 2 2 12 = true := by decide +kernel
theorem mt_isIn : MTB 208 = some mm_isIn := rfl
theorem dd_isIn_0 : decode mm_isIn.2.1 0 = .ok (.iload_n 0, 1) := by decide +kernel
theorem dd_isIn_1 : decode mm_isIn.2.1 1 = .ok (.iload_n 1, 1) := by decide +kernel
theorem dd_isIn_2 : decode mm_isIn.2.1 2 = .ok (.ishr, 1) := by decide +kernel
theorem dd_isIn_3 : decode mm_isIn.2.1 3 = .ok (.iconst 1, 1) := by decide +kernel
theorem dd_isIn_4 : decode mm_isIn.2.1 4 = .ok (.iand, 1) := by decide +kernel
theorem dd_isIn_5 : decode mm_isIn.2.1 5 = .ok (.iconst 1, 1) := by decide +kernel
theorem dd_isIn_6 : decode mm_isIn.2.1 6 = .ok (.if_icmp .ne (7), 3) := by decide +kernel
theorem dd_isIn_13 : decode mm_isIn.2.1 13 = .ok (.iconst 0, 1) := by decide +kernel
theorem dd_isIn_14 : decode mm_isIn.2.1 14 = .ok (.ireturn, 1) := by decide +kernel
theorem dd_closure_32 : decode mm_closure.2.1 32 = .ok (.ifCond .eq (13), 3) := by decide +kernel
theorem dd_closure_45 : decode mm_closure.2.1 45 = .ok (.iconst 0, 1) := by decide +kernel
theorem dd_closure_46 : decode mm_closure.2.1 46 = .ok (.ior, 1) := by decide +kernel
theorem dd_closure_47 : decode mm_closure.2.1 47 = .ok (.istore_n 2, 1) := by decide +kernel
theorem dd_closure_48 : decode mm_closure.2.1 48 = .ok (.iinc 4 1, 3) := by decide +kernel
theorem dd_closure_51 : decode mm_closure.2.1 51 = .ok (.goto (-35), 3) := by decide +kernel
theorem dd_isIn_9 : decode mm_isIn.2.1 9 = .ok (.iconst 1, 1) := by decide +kernel
theorem dd_isIn_10 : decode mm_isIn.2.1 10 = .ok (.goto 4, 3) := by decide +kernel
theorem dd_closure_35 : decode mm_closure.2.1 35 = .ok (.aload_n 0, 1) := by decide +kernel
theorem dd_closure_36 : decode mm_closure.2.1 36 = .ok (.getfield 147, 3) := by decide +kernel
theorem fd_12_147 : fld 12 147 = some (12, 37) := by decide +kernel
theorem rf_182_37 {h : LH} (hF : RF h) : rd h 182 37 = 203 := hF 182 37 203 (by decide +kernel) (by decide +kernel)
theorem dd_closure_39 : decode mm_closure.2.1 39 = .ok (.iload 4, 2) := by decide +kernel
theorem dd_closure_41 : decode mm_closure.2.1 41 = .ok (.iaload, 1) := by decide +kernel
theorem ia_203 : isA NC 203 1 = true := by decide +kernel
theorem la_203 : (lay (203 : Int).toNat).2.2 = 10 := by decide +kernel
theorem dd_closure_42 : decode mm_closure.2.1 42 = .ok (.goto 4, 3) := by decide +kernel
theorem dd_copies_0 : decode mm_copies.2.1 0 = .ok (.iconst 0, 1) := by decide +kernel
theorem dd_copies_1 : decode mm_copies.2.1 1 = .ok (.istore 4, 2) := by decide +kernel
theorem dd_copies_3 : decode mm_copies.2.1 3 = .ok (.iload 4, 2) := by decide +kernel
theorem dd_copies_5 : decode mm_copies.2.1 5 = .ok (.iload_n 3, 1) := by decide +kernel
theorem dd_copies_6 : decode mm_copies.2.1 6 = .ok (.if_icmp .ge (27), 3) := by decide +kernel
theorem dd_copies_33 : decode mm_copies.2.1 33 = .ok (.return_, 1) := by decide +kernel
theorem dd_copies_9 : decode mm_copies.2.1 9 = .ok (.aload_n 0, 1) := by decide +kernel
theorem dd_copies_10 : decode mm_copies.2.1 10 = .ok (.getfield 125, 3) := by decide +kernel
theorem fd_12_125 : fld 12 125 = some (12, 24) := by decide +kernel
theorem rf_182_24 {h : LH} (hF : RF h) : rd h 182 24 = 198 := hF 182 24 198 (by decide +kernel) (by decide +kernel)
theorem dd_copies_13 : decode mm_copies.2.1 13 = .ok (.iload_n 2, 1) := by decide +kernel
theorem dd_copies_14 : decode mm_copies.2.1 14 = .ok (.iload 4, 2) := by decide +kernel
theorem dd_copies_16 : decode mm_copies.2.1 16 = .ok (.iadd, 1) := by decide +kernel
theorem dd_copies_17 : decode mm_copies.2.1 17 = .ok (.aload_n 0, 1) := by decide +kernel
theorem dd_copies_18 : decode mm_copies.2.1 18 = .ok (.getfield 125, 3) := by decide +kernel
theorem dd_copies_21 : decode mm_copies.2.1 21 = .ok (.iload_n 1, 1) := by decide +kernel
theorem dd_copies_22 : decode mm_copies.2.1 22 = .ok (.iload 4, 2) := by decide +kernel
theorem dd_copies_24 : decode mm_copies.2.1 24 = .ok (.iadd, 1) := by decide +kernel
theorem dd_copies_25 : decode mm_copies.2.1 25 = .ok (.iaload, 1) := by decide +kernel
theorem ia_198 : isA NC 198 1 = true := by decide +kernel
theorem la_198 : (lay (198 : Int).toNat).2.2 = 1610 := by decide +kernel
theorem dd_copies_26 : decode mm_copies.2.1 26 = .ok (.iastore, 1) := by decide +kernel
theorem dd_copies_27 : decode mm_copies.2.1 27 = .ok (.iinc 4 1, 3) := by decide +kernel
theorem dd_copies_30 : decode mm_copies.2.1 30 = .ok (.goto (-27), 3) := by decide +kernel
theorem B_closure_0 {xs : Nat → Int} {xl e : Nat} {h : LH} {Q : Option LV → LH → Prop} {v1 : Int} (hF : RF h)
    (k : Rn xs xl e mm_closure 6 [some (.inr (.inr 182)), some (.inl v1), some (.inl (zshl 1 v1)), some (.inl 0), none] [] h Q) :
    Rn xs xl e mm_closure 0 [some (.inr (.inr 182)), some (.inl v1), none, none, none] [] h Q := by
  refine R_ic dd_closure_0 (by decide) rfl ?_
  refine R_ld (v := .inl v1) dd_closure_1 rfl rfl rfl rfl ?_
  refine R_A dd_closure_2 rfl rfl rfl rfl ?_
  refine R_st (ls' := [some (.inr (.inr 182)), some (.inl v1), some (.inl (zshl 1 v1)), none, none]) dd_closure_3 rfl rfl rfl (Nat.le_of_ble_eq_true rfl) rfl rfl ?_
  refine R_ic dd_closure_4 (by decide) rfl ?_
  refine R_st (ls' := [some (.inr (.inr 182)), some (.inl v1), some (.inl (zshl 1 v1)), some (.inl 0), none]) dd_closure_5 rfl rfl rfl (Nat.le_of_ble_eq_true rfl) rfl rfl ?_
  exact k
theorem B_closure_6 {xs : Nat → Int} {xl e : Nat} {h : LH} {Q : Option LV → LH → Prop} {v1 v2 v3 : Int} {o4 : Option LV} (no4 : nL o4) (hF : RF h)
    (k : (v2 = v3 →
        Q (some (.inl v2)) h) ∧
      (v2 ≠ v3 →
        Rn xs xl e mm_closure 16 [some (.inr (.inr 182)), some (.inl v1), some (.inl v2), some (.inl v2), some (.inl 0)] [] h Q)) :
    Rn xs xl e mm_closure 6 [some (.inr (.inr 182)), some (.inl v1), some (.inl v2), some (.inl v3), o4] [] h Q := by
  refine R_ld (v := .inl v2) dd_closure_6 rfl rfl rfl rfl ?_
  refine R_ld (v := .inl v3) dd_closure_7 rfl rfl rfl rfl ?_
  refine R_icmp dd_closure_8 rfl rfl (fun (c1 : v2 = v3) => ?_) (fun (c1 : v2 ≠ v3) => ?_)
  · replace k := k.1 c1
    refine R_ld (v := .inl v2) dd_closure_57 rfl rfl rfl rfl ?_
    exact R_iret dd_closure_58 rfl k
  · replace k := k.2 c1
    refine R_ld (v := .inl v2) dd_closure_11 rfl rfl rfl rfl ?_
    refine R_st (ls' := [some (.inr (.inr 182)), some (.inl v1), some (.inl v2), some (.inl v2), o4]) dd_closure_12 rfl rfl rfl (Nat.le_of_ble_eq_true rfl) rfl rfl ?_
    refine R_ic dd_closure_13 (by decide) rfl ?_
    refine R_st (ls' := [some (.inr (.inr 182)), some (.inl v1), some (.inl v2), some (.inl v2), some (.inl 0)]) dd_closure_14 rfl rfl rfl (Nat.le_of_ble_eq_true rfl) rfl rfl ?_
    exact k
theorem B_closure_16 {xs : Nat → Int} {xl e : Nat} {h : LH} {Q : Option LV → LH → Prop} {v1 v2 v3 v4 : Int} (hF : RF h) (he : 1 ≤ e)
    (k : ((rd h 188 0) ≤ v4 →
        Rn xs xl e mm_closure 6 [some (.inr (.inr 182)), some (.inl v1), some (.inl v2), some (.inl v3), some (.inl v4)] [] h Q) ∧
      (v4 < (rd h 188 0) →
        ((zand (zshr v2 v4) 1) ≠ 1 →
          (-2147483648 ≤ v4 + 1 ∧ v4 + 1 ≤ 2147483647) ∧
          Rn xs xl e mm_closure 16 [some (.inr (.inr 182)), some (.inl v1), some (.inl (zor v2 0)), some (.inl v3), some (.inl (v4 + 1))] [] h Q) ∧
        ((zand (zshr v2 v4) 1) = 1 →
          (0 ≤ v4 ∧ v4 < 10) ∧
          (-2147483648 ≤ v4 + 1 ∧ v4 + 1 ≤ 2147483647) ∧
          Rn xs xl e mm_closure 16 [some (.inr (.inr 182)), some (.inl v1), some (.inl (zor v2 (rd h 203 v4))), some (.inl v3), some (.inl (v4 + 1))] [] h Q))) :
    Rn xs xl e mm_closure 16 [some (.inr (.inr 182)), some (.inl v1), some (.inl v2), some (.inl v3), some (.inl v4)] [] h Q := by
  refine R_ld (v := .inl v4) dd_closure_16 rfl rfl rfl rfl ?_
  refine R_ld (v := .inr (.inr 182)) dd_closure_18 rfl rfl rfl rfl ?_
  refine R_call (as := [.inr (.inr 182)]) (rest := [.inl v4]) (M' := mm_rooms) (ls0 := [some (.inr (.inr 182))]) dd_closure_19 rfl rfl (cw_v cw_12_332 io_182 rfl rfl (Nat.le_of_ble_eq_true rfl) (Nat.le_of_ble_eq_true rfl)) mt_rooms rfl (c := e - 1) (by omega) rfl ?_
  refine R_ld (v := .inr (.inr 182)) dd_rooms_0 rfl rfl rfl rfl ?_
  refine R_gf (v := .inr (.inr 188)) dd_rooms_1 fd_12_95 io_182 (congrArg (fun z : Int => (Sum.inr (Sum.inr z) : LV)) (rf_182_10 hF)) rfl ?_
  refine R_ic dd_rooms_4 (by decide) rfl ?_
  refine R_iald (v := (rd h 188 0)) (n := 300) dd_rooms_5 ia_188 la_188 (by decide) (rfl) rfl ?_
  refine R_iret dd_rooms_6 rfl ?_
  change Rn xs xl e mm_closure 22 [some (.inr (.inr 182)), some (.inl v1), some (.inl v2), some (.inl v3), some (.inl v4)] [.inl (rd h 188 0), .inl v4] h _
  refine R_icmp dd_closure_22 rfl rfl (fun (c4 : (rd h 188 0) ≤ v4) => ?_) (fun (c4 : v4 < (rd h 188 0)) => ?_)
  · replace k := k.1 c4
    refine R_goto dd_closure_54 rfl ?_
    exact k
  · replace k := k.2 c4
    refine R_ld (v := .inl v2) dd_closure_25 rfl rfl rfl rfl ?_
    refine R_ld (v := .inl v2) dd_closure_26 rfl rfl rfl rfl ?_
    refine R_ld (v := .inl v4) dd_closure_27 rfl rfl rfl rfl ?_
    refine R_call (as := [.inl v2, .inl v4]) (rest := [.inl v2]) (M' := mm_isIn) (ls0 := [some (.inl v2), some (.inl v4)]) dd_closure_29 rfl rfl (cw_s cw_12_350 rfl rfl (Nat.le_of_ble_eq_true rfl) (Nat.le_of_ble_eq_true rfl)) mt_isIn rfl (c := e - 1) (by omega) rfl ?_
    refine R_ld (v := .inl v2) dd_isIn_0 rfl rfl rfl rfl ?_
    refine R_ld (v := .inl v4) dd_isIn_1 rfl rfl rfl rfl ?_
    refine R_A dd_isIn_2 rfl rfl rfl rfl ?_
    refine R_ic dd_isIn_3 (by decide) rfl ?_
    refine R_A dd_isIn_4 rfl rfl rfl rfl ?_
    refine R_ic dd_isIn_5 (by decide) rfl ?_
    refine R_icmp dd_isIn_6 rfl rfl (fun (c5 : (zand (zshr v2 v4) 1) ≠ 1) => ?_) (fun (c5 : (zand (zshr v2 v4) 1) = 1) => ?_)
    · replace k := k.1 c5
      refine R_ic dd_isIn_13 (by decide) rfl ?_
      refine R_zret dd_isIn_14 rfl (by decide) ?_
      change Rn xs xl e mm_closure 32 [some (.inr (.inr 182)), some (.inl v1), some (.inl v2), some (.inl v3), some (.inl v4)] [.inl 0, .inl v2] h _
      refine R_if dd_closure_32 rfl rfl (fun (c6 : 0 = 0) => ?_) (fun (c6 : 0 ≠ 0) => ?_)
      · skip
        refine R_ic dd_closure_45 (by decide) rfl ?_
        refine R_A dd_closure_46 rfl rfl rfl rfl ?_
        refine R_st (ls' := [some (.inr (.inr 182)), some (.inl v1), some (.inl (zor v2 0)), some (.inl v3), some (.inl v4)]) dd_closure_47 rfl rfl rfl (Nat.le_of_ble_eq_true rfl) rfl rfl ?_
        obtain ⟨s1, k⟩ := k
        refine R_inc (y := v4 + 1) (ls' := [some (.inr (.inr 182)), some (.inl v1), some (.inl (zor v2 0)), some (.inl v3), some (.inl (v4 + 1))]) dd_closure_48 rfl (by decide) (by omega) s1 rfl rfl ?_
        refine R_goto dd_closure_51 rfl ?_
        exact k
      · exact absurd c6 (by omega)
    · replace k := k.2 c5
      refine R_ic dd_isIn_9 (by decide) rfl ?_
      refine R_goto dd_isIn_10 rfl ?_
      refine R_zret dd_isIn_14 rfl (by decide) ?_
      change Rn xs xl e mm_closure 32 [some (.inr (.inr 182)), some (.inl v1), some (.inl v2), some (.inl v3), some (.inl v4)] [.inl 1, .inl v2] h _
      refine R_if dd_closure_32 rfl rfl (fun (c7 : 1 = 0) => ?_) (fun (c7 : 1 ≠ 0) => ?_)
      · exact absurd c7 (by omega)
      · skip
        refine R_ld (v := .inr (.inr 182)) dd_closure_35 rfl rfl rfl rfl ?_
        refine R_gf (v := .inr (.inr 203)) dd_closure_36 fd_12_147 io_182 (congrArg (fun z : Int => (Sum.inr (Sum.inr z) : LV)) (rf_182_37 hF)) rfl ?_
        refine R_ld (v := .inl v4) dd_closure_39 rfl rfl rfl rfl ?_
        obtain ⟨s2, k⟩ := k
        refine R_iald (v := (rd h 203 v4)) (n := 10) dd_closure_41 ia_203 la_203 s2 (rfl) rfl ?_
        refine R_goto dd_closure_42 rfl ?_
        refine R_A dd_closure_46 rfl rfl rfl rfl ?_
        refine R_st (ls' := [some (.inr (.inr 182)), some (.inl v1), some (.inl (zor v2 (rd h 203 v4))), some (.inl v3), some (.inl v4)]) dd_closure_47 rfl rfl rfl (Nat.le_of_ble_eq_true rfl) rfl rfl ?_
        obtain ⟨s3, k⟩ := k
        refine R_inc (y := v4 + 1) (ls' := [some (.inr (.inr 182)), some (.inl v1), some (.inl (zor v2 (rd h 203 v4))), some (.inl v3), some (.inl (v4 + 1))]) dd_closure_48 rfl (by decide) (by omega) s3 rfl rfl ?_
        refine R_goto dd_closure_51 rfl ?_
        exact k
theorem B_copies_0 {xs : Nat → Int} {xl e : Nat} {h : LH} {Q : Option LV → LH → Prop} {v1 v2 v3 : Int} (hF : RF h)
    (k : Rn xs xl e mm_copies 3 [some (.inr (.inr 182)), some (.inl v1), some (.inl v2), some (.inl v3), some (.inl 0)] [] h Q) :
    Rn xs xl e mm_copies 0 [some (.inr (.inr 182)), some (.inl v1), some (.inl v2), some (.inl v3), none] [] h Q := by
  refine R_ic dd_copies_0 (by decide) rfl ?_
  refine R_st (ls' := [some (.inr (.inr 182)), some (.inl v1), some (.inl v2), some (.inl v3), some (.inl 0)]) dd_copies_1 rfl rfl rfl (Nat.le_of_ble_eq_true rfl) rfl rfl ?_
  exact k
theorem B_copies_3 {xs : Nat → Int} {xl e : Nat} {h : LH} {Q : Option LV → LH → Prop} {v1 v2 v3 v4 : Int} (hF : RF h)
    (k : (v3 ≤ v4 →
        Q none h) ∧
      (v4 < v3 →
        (-2147483648 ≤ v2 + v4 ∧ v2 + v4 ≤ 2147483647) ∧
        (-2147483648 ≤ v1 + v4 ∧ v1 + v4 ≤ 2147483647) ∧
        (0 ≤ v1 + v4 ∧ v1 + v4 < 1610) ∧
        (0 ≤ v2 + v4 ∧ v2 + v4 < 1610) ∧
        (-2147483648 ≤ v4 + 1 ∧ v4 + 1 ≤ 2147483647) ∧
        Rn xs xl e mm_copies 3 [some (.inr (.inr 182)), some (.inl v1), some (.inl v2), some (.inl v3), some (.inl (v4 + 1))] [] (wr h 198 (v2 + v4) (rd h 198 (v1 + v4))) Q)) :
    Rn xs xl e mm_copies 3 [some (.inr (.inr 182)), some (.inl v1), some (.inl v2), some (.inl v3), some (.inl v4)] [] h Q := by
  refine R_ld (v := .inl v4) dd_copies_3 rfl rfl rfl rfl ?_
  refine R_ld (v := .inl v3) dd_copies_5 rfl rfl rfl rfl ?_
  refine R_icmp dd_copies_6 rfl rfl (fun (c6 : v3 ≤ v4) => ?_) (fun (c6 : v4 < v3) => ?_)
  · replace k := k.1 c6
    exact R_vret dd_copies_33 rfl k
  · replace k := k.2 c6
    refine R_ld (v := .inr (.inr 182)) dd_copies_9 rfl rfl rfl rfl ?_
    refine R_gf (v := .inr (.inr 198)) dd_copies_10 fd_12_125 io_182 (congrArg (fun z : Int => (Sum.inr (Sum.inr z) : LV)) (rf_182_24 hF)) rfl ?_
    refine R_ld (v := .inl v2) dd_copies_13 rfl rfl rfl rfl ?_
    refine R_ld (v := .inl v4) dd_copies_14 rfl rfl rfl rfl ?_
    obtain ⟨s1, k⟩ := k
    refine R_iadd (c := v2 + v4) dd_copies_16 (by omega) s1 rfl ?_
    refine R_ld (v := .inr (.inr 182)) dd_copies_17 rfl rfl rfl rfl ?_
    refine R_gf (v := .inr (.inr 198)) dd_copies_18 fd_12_125 io_182 (congrArg (fun z : Int => (Sum.inr (Sum.inr z) : LV)) (rf_182_24 hF)) rfl ?_
    refine R_ld (v := .inl v1) dd_copies_21 rfl rfl rfl rfl ?_
    refine R_ld (v := .inl v4) dd_copies_22 rfl rfl rfl rfl ?_
    obtain ⟨s2, k⟩ := k
    refine R_iadd (c := v1 + v4) dd_copies_24 (by omega) s2 rfl ?_
    obtain ⟨s3, k⟩ := k
    refine R_iald (v := (rd h 198 (v1 + v4))) (n := 1610) dd_copies_25 ia_198 la_198 s3 (rfl) rfl ?_
    obtain ⟨s4, k⟩ := k
    refine R_iast (n := 1610) dd_copies_26 ia_198 la_198 s4 rfl ?_
    obtain ⟨s5, k⟩ := k
    refine R_inc (y := v4 + 1) (ls' := [some (.inr (.inr 182)), some (.inl v1), some (.inl v2), some (.inl v3), some (.inl (v4 + 1))]) dd_copies_27 rfl (by decide) (by omega) s5 rfl rfl ?_
    refine R_goto dd_copies_30 rfl ?_
    exact k
