/-! LM, part 99: the calls of the JDK, all of them -/
theorem metF {l : Launch} {y : MethodName} {ws ws' : List Cond} {rm : Room} {Pc : Array Value → State → Prop} {Qc : Array Value → State → Outcome → State → Prop} {mc ms : Nat} {free : Addr → Prop} {cc : ByteArray} {maxL : Nat} {ret : Option FieldType}
    (hy : plainFor y = true) (hw : ws = Cond.code y cc maxL ret :: ws')
    (body : ∀ p e s m args below meth c s₁, BodyLoose p l y (headSpec ws rm) cc maxL ret e s m args below meth c s₁ → c.maxLocals = maxL → Pc args s →
      W p l e (headSpec ws rm).room s m args below meth c s.heap [] 0 0 (MQ below Qc args s mc ms free) (entryFrame m args maxL)) : Met l y ws rm Pc Qc mc ms free := by
  refine MetFree.of_bodySF (code := cc) (maxLocals := maxL) (ret := ret) hy ?_ ?_
  · intro args s m h hn
    obtain ⟨meth, c, h1, h2, h3, h4, h5, h6, -, -⟩ := Cond.code_spec hn (atoms_spec (ws := ws) h _ (by rw [hw]; exact List.mem_cons_self))
    exact ⟨meth, c, h1, h2, h3, h4, h5, h6⟩
  · intro p e s m args below meth c s₁ B hml hP _
    have hh0 : s₁.heap = s.heap := by rw [B.state]; rfl
    obtain ⟨t, a1, o, b1, b2, b3⟩ := body p e s m args below meth c s₁ B hml hP s₁ hh0 (Stand.of_body B)
    exact ⟨t, o, a1, b1, b2, ⟨b3.1, b3.2⟩⟩
def fmd (x y : Int32) : Int32 := if 0 ≤ x ^^^ y then x - x / y * y else if x - x / y * y = 0 then 0 else x - x / y * y + y
theorem d_f0 : decode prog_16_method_50_code 0 = .ok (.iload_n 0, 1) := by decide +kernel
theorem d_f1 : decode prog_16_method_50_code 1 = .ok (.iload_n 1, 1) := by decide +kernel
theorem d_f2 : decode prog_16_method_50_code 2 = .ok (.irem, 1) := by decide +kernel
theorem d_f3 : decode prog_16_method_50_code 3 = .ok (.istore_n 2, 1) := by decide +kernel
theorem d_f4 : decode prog_16_method_50_code 4 = .ok (.iload_n 0, 1) := by decide +kernel
theorem d_f5 : decode prog_16_method_50_code 5 = .ok (.iload_n 1, 1) := by decide +kernel
theorem d_f6 : decode prog_16_method_50_code 6 = .ok (.ixor, 1) := by decide +kernel
theorem d_f7 : decode prog_16_method_50_code 7 = .ok (.ifCond .ge 11, 3) := by decide +kernel
theorem d_f10 : decode prog_16_method_50_code 10 = .ok (.iload_n 2, 1) := by decide +kernel
theorem d_f11 : decode prog_16_method_50_code 11 = .ok (.ifCond .eq 7, 3) := by decide +kernel
theorem d_f14 : decode prog_16_method_50_code 14 = .ok (.iload_n 2, 1) := by decide +kernel
theorem d_f15 : decode prog_16_method_50_code 15 = .ok (.iload_n 1, 1) := by decide +kernel
theorem d_f16 : decode prog_16_method_50_code 16 = .ok (.iadd, 1) := by decide +kernel
theorem d_f17 : decode prog_16_method_50_code 17 = .ok (.ireturn, 1) := by decide +kernel
theorem d_f18 : decode prog_16_method_50_code 18 = .ok (.iload_n 2, 1) := by decide +kernel
theorem d_f19 : decode prog_16_method_50_code 19 = .ok (.ireturn, 1) := by decide +kernel
theorem c_flo {l : Launch} {x y : Int32} (hy : ¬ y = 0) : Met l nFlo (jw nFlo prog_16_method_50_code 3 (some .int)) (jr 0 0) (va_Pc [.int x, .int y] (fun _ => True)) (jq (some (.int (fmd x y)))) 0 0 (fun _ => False) := by
  refine metF (cc := prog_16_method_50_code) (maxL := 3) (ret := some .int) (by decide +kernel) rfl ?_
  intro p e s m args below meth c s₁ Bd hml hv
  obtain ⟨rfl, -⟩ := hv
  have hx := Bd.exec
  have hb := Bd.bytes
  have hr := Bd.returns
  have hlocks := Bd.notSynchronized
  have hl := lv_entry ([.int x, .int y]) (n := 3) (Nat.le_of_ble_eq_true rfl)
  rw [lg_entry_eq]
  generalize (lg_sl ([.int x, .int y]) ++ List.replicate (3 - (lg_sl ([.int x, .int y])).length) Slot.unset).toArray = ls at hl ⊢
  refine lv_iload_n hx hb d_f0 rfl (lv_at hl 0 rfl) ?_
  refine lv_iload_n hx hb d_f1 rfl (lv_at hl 1 rfl) ?_
  refine lv_irem hx hb d_f2 hy ?_
  refine lv_istore_n (lv' := [(2, .int (x - x / y * y)), (0, .int x), (1, .int y)]) hx hb d_f3 rfl hl (by decide) rfl (fun ls' hl' => ?_)
  refine lv_iload_n hx hb d_f4 rfl (lv_at hl' 1 rfl) ?_
  refine lv_iload_n hx hb d_f5 rfl (lv_at hl' 2 rfl) ?_
  refine lv_ixor hx hb d_f6 ?_
  refine lv_if_ge hx hb d_f7 (tgt := 18) rfl (fun z => ?_) (fun z => ?_)
  · refine lv_iload_n hx hb d_f18 rfl (lv_at hl' 0 rfl) ?_
    refine W.iret hx hb hr (fun t ht hW => ⟨?_, ht⟩) (fun q h => by cases h) d_f19
    rw [show fmd x y = x - x / y * y by unfold fmd; rw [if_pos z]]
  · refine lv_iload_n hx hb d_f10 rfl (lv_at hl' 0 rfl) ?_
    refine lv_if_eq hx hb d_f11 (tgt := 18) rfl (fun z2 => ?_) (fun z2 => ?_)
    · refine lv_iload_n hx hb d_f18 rfl (lv_at hl' 0 rfl) ?_
      refine W.iret hx hb hr (fun t ht hW => ⟨?_, ht⟩) (fun q h => by cases h) d_f19
      rw [show fmd x y = x - x / y * y by unfold fmd; rw [if_neg z, if_pos z2, z2]]
    · refine lv_iload_n hx hb d_f14 rfl (lv_at hl' 0 rfl) ?_
      refine lv_iload_n hx hb d_f15 rfl (lv_at hl' 2 rfl) ?_
      refine lv_iadd hx hb d_f16 ?_
      refine W.iret hx hb hr (fun t ht hW => ⟨?_, ht⟩) (fun q h => by cases h) d_f17
      rw [show fmd x y = x - x / y * y + y by unfold fmd; rw [if_neg z, if_neg z2]]
theorem fmd_zfm {a b : Int} (ha : i32 a) (hb : i32 b) : fmd (Int32.ofInt a) (Int32.ofInt b) = Int32.ofInt (zfm a b) := by
  have e : Int32.ofInt a - Int32.ofInt a / Int32.ofInt b * Int32.ofInt b = Int32.ofInt (w32 (a - w32 (w32 (a.tdiv b) * b))) := by rw [o_div ha hb, o_mul (w32_in _) hb, o_sub ha (w32_in _)]
  have c1 : (0 ≤ Int32.ofInt a ^^^ Int32.ofInt b) ↔ 0 ≤ zxor a b := by
    unfold zxor
    rw [Int32.le_iff_toInt_le]
    exact Iff.rfl
  have c2 : (Int32.ofInt (w32 (a - w32 (w32 (a.tdiv b) * b))) = 0) ↔ w32 (a - w32 (w32 (a.tdiv b) * b)) = 0 := by
    rw [o_0]
    exact o_eq (w32_in _) z32
  unfold fmd zfm
  rw [e]
  by_cases h : 0 ≤ zxor a b
  · rw [if_pos (c1.mpr h), if_pos h]
  · rw [if_neg (fun q => h (c1.mp q)), if_neg h]
    by_cases h2 : w32 (a - w32 (w32 (a.tdiv b) * b)) = 0
    · rw [if_pos (c2.mpr h2), if_pos h2]
      rfl
    · rw [if_neg (fun q => h2 (c2.mp q)), if_neg h2, o_add (w32_in _) hb]
theorem k_min : inT 832 (Cond.code Lib.Math.min.name Lib.Math.min.code 2 (some .int)) = true ∧ inT 831 (.static Lib.Math.min.name) = true := ⟨by decide +kernel, by decide +kernel⟩
theorem k_max : inT 956 (Cond.code Lib.Math.max.name Lib.Math.max.code 2 (some .int)) = true ∧ inT 955 (.static Lib.Math.max.name) = true := ⟨by decide +kernel, by decide +kernel⟩
theorem strl_len : (STRL.length : Int) = 149 := by decide +kernel
set_option maxHeartbeats 4000000 in
theorem simX_ok {B b sA sV : Nat} {f0 : Value} : SimX B b sA (XT B sA sV f0) := by
  intro p l e R s m args below meth c H locs cells slots Q cc pc sl o i len st st' hx hb hml hown hts hX hS hfr hlo hce hsl hcase hlen hd hok kk
  rcases hcase with hcase | ⟨rfl, rfl, rfl⟩
  · unfold lmX at hcase
    split at hcase
    · next x =>
      have e3 : len = 3 := by simpa [ilen] using hlen
      subst e3
      split at hcase
      · next q hq =>
        obtain ⟨q1, q2⟩ := find_of hq
        obtain ⟨-, w⟩ := all17 PTC chkP PTC_ok17 PTC_nil q1
        unfold chkP at w
        rw [q2] at w
        split at hcase
        · next h2 =>
          rw [h2] at w
          split at hcase
          · next a r =>
            split at hcase
            · next hc =>
              obtain ⟨rfl, hr⟩ := hc
              cases some_i hcase
              have k1 := kk (okS_i (by show i32 (STRL.length : Int); rw [strl_len]; unfold i32; omega) (okS_c hok).2)
              rw [List.map_cons, show cv B b sA (.inl (STRL.length : Int)) = .int 149 from congrArg Value.int (by decide +kernel)] at k1
              exact j_call (rv := some (.int 149)) (va_runV (n := 0) (As := []) (rest := r.map (cv B b sA)) (b := sA) ⟨hx, hb, hml, hown, hts⟩ (c_len (B := B) (sA := sA) (sV := sV) (f0 := f0)) ⟨callB_of 0 hts (jg k_len.1) rfl rfl rfl (hts _ (inT_in k_chk.2.2.2)) (hts _ (inT_in w)) ⟨by decide, by decide, by decide +kernel⟩ ⟨by show 1 + 1 ≤ R.frames; omega, by show 8 + (1 + 11) + 32 ≤ R.locals; omega⟩, hts _ (inT_in k_len.2.2), hts _ (inT_in k_len.2.1)⟩ ⟨XT_blind, XT_recv hX hS, fun U hU hW => ⟨rfl, XT_at hX hS hU hW⟩⟩ rfl rfl rfl rfl (lv_room (by rw [lcat_cv]; exact hr)) hd ⟨by omega, by omega⟩) jqQ k1
            · cases hcase
          · cases hcase
        · next h2 =>
          split at hcase
          · next h3 =>
            rw [h3] at w
            split at hcase
            · next i2 a r =>
              split at hcase
              · next hc =>
                obtain ⟨rfl, hr, i0, i1⟩ := hc
                have i1' : i2 < 149 := i1
                obtain ⟨k, rfl⟩ : ∃ k : Nat, i2 = (k : Int) := ⟨i2.toNat, by omega⟩
                cases some_i hcase
                have hk : k < 149 := by omega
                have hi : i32 (STRL.getD (k : Int).toNat 0) := by
                  rw [Int.toNat_natCast]
                  have := (show ∀ k : Nat, k < 149 → (-2147483648 ≤ STRL.getD k 0 ∧ STRL.getD k 0 ≤ 2147483647) by decide +kernel) k hk
                  exact this
                have k1 := kk (okS_i hi (okS_c (okS_c hok).2).2)
                rw [List.map_cons, Int.toNat_natCast] at k1
                exact j_call (rv := some (.int (Int32.ofInt (STRL.getD k 0)))) (va_runV (n := 1) (As := [.int (Int32.ofInt (k : Int))]) (rest := r.map (cv B b sA)) (b := sA) ⟨hx, hb, hml, hown, hts⟩ (c_chr (B := B) (sA := sA) (sV := sV) (f0 := f0) hk) ⟨callB_of 1 hts (jg k_chr.1) rfl rfl rfl (hts _ (inT_in k_chk.2.2.2)) (hts _ (inT_in w)) ⟨by decide, by decide, by decide +kernel⟩ ⟨by show 3 + 1 ≤ R.frames; omega, by show 8 + (2 + 11) + 96 ≤ R.locals; omega⟩, hts _ (inT_in k_chr.2.2), hts _ (inT_in k_chr.2.1)⟩ ⟨XT_blind, XT_recv hX hS, fun U hU hW => ⟨rfl, XT_at hX hS hU hW⟩⟩ rfl rfl rfl rfl (lv_room (by rw [lcat_cv]; exact hr)) hd ⟨by omega, by omega⟩) jqQ k1
              · cases hcase
            · cases hcase
          · cases hcase
      · cases hcase
    · next x =>
      have e3 : len = 3 := by simpa [ilen] using hlen
      subst e3
      split at hcase
      · next q hq =>
        obtain ⟨q1, q2⟩ := find_of hq
        obtain ⟨-, w⟩ := all17 PTC chkP PTC_ok17 PTC_nil q1
        unfold chkP at w
        rw [q2] at w
        split at hcase
        · next y a r =>
          have hy : i32 y := (okS_c hok).1
          have ha : i32 a := (okS_c (okS_c hok).2).1
          have hok2 := (okS_c (okS_c hok).2).2
          split at hcase
          · next hr =>
            have hrm : ((r.map (cv B b sA)).map fun v => v.category).sum ≤ 8 := by rw [lcat_cv]; exact hr
            split at hcase
            · next h4 =>
              cases some_i hcase
              rw [h4] at w
              have hv : i32 (if y < a then y else a) := by split <;> assumption
              have k1 := kk (okS_i hv hok2)
              rw [List.map_cons, show cv B b sA (.inl (if y < a then y else a)) = .int (if Int32.ofInt y < Int32.ofInt a then Int32.ofInt y else Int32.ofInt a) from congrArg Value.int (by
                by_cases z : y < a
                · rw [if_pos z, if_pos ((o_lt hy ha).mpr z)]
                · rw [if_neg z, if_neg (fun q => z ((o_lt hy ha).mp q))])] at k1
              exact va_mmin hx hb hml hown (hts _ (inT_in w)) (hts _ (inT_in k_min.2)) (hts _ (inT_in k_flo.2.2)) (hts _ (inT_in k_min.1)) (by omega) (by omega) hce hsl hd k1
            · next h4 =>
              split at hcase
              · next h5 =>
                cases some_i hcase
                rw [h5] at w
                have hv : i32 (if a < y then y else a) := by split <;> assumption
                have k1 := kk (okS_i hv hok2)
                rw [List.map_cons, show cv B b sA (.inl (if a < y then y else a)) = .int (if Int32.ofInt a < Int32.ofInt y then Int32.ofInt y else Int32.ofInt a) from congrArg Value.int (by
                  by_cases z : a < y
                  · rw [if_pos z, if_pos ((o_lt ha hy).mpr z)]
                  · rw [if_neg z, if_neg (fun q => z ((o_lt ha hy).mp q))])] at k1
                exact va_mmax hx hb hml hown (hts _ (inT_in w)) (hts _ (inT_in k_max.2)) (hts _ (inT_in k_flo.2.2)) (hts _ (inT_in k_max.1)) (by omega) (by omega) hce hsl hd k1
              · next h5 =>
                split at hcase
                · next h6 =>
                  obtain ⟨h6, hne⟩ := h6
                  cases some_i hcase
                  rw [h6] at w
                  have hv : i32 (zfm a y) := by
                    unfold zfm
                    split
                    · exact w32_in _
                    · split
                      · exact z32
                      · exact w32_in _
                  have k1 := kk (okS_i hv hok2)
                  rw [List.map_cons, show cv B b sA (.inl (zfm a y)) = .int (fmd (Int32.ofInt a) (Int32.ofInt y)) from congrArg Value.int (fmd_zfm ha hy).symm] at k1
                  have hn0 : ¬ Int32.ofInt y = 0 := fun z => hne ((o_eq hy z32).mp z)
                  exact j_call (rv := some (.int (fmd (Int32.ofInt a) (Int32.ofInt y)))) (va_runS (n := 2) (As := [.int (Int32.ofInt a), .int (Int32.ofInt y)]) (rest := r.map (cv B b sA)) ⟨hx, hb, hml, hown, hts⟩ (c_flo hn0) ⟨callB_of 2 hts (jg k_flo.1) rfl rfl rfl (hts _ (inT_in k_flo.2.2)) (hts _ (inT_in w)) ⟨by decide, by decide, by decide +kernel⟩ ⟨by show 0 + 1 ≤ R.frames; omega, by show 8 + (3 + 11) + 0 ≤ R.locals; omega⟩, hts _ (inT_in k_flo.2.1)⟩ ⟨fun a U g mk h => ⟨h.1, trivial⟩, fun U hU hW => ⟨rfl, trivial⟩⟩ rfl rfl rfl rfl (lv_room hrm) hd ⟨by omega, by omega⟩) jqQ k1
                · cases hcase
          · cases hcase
        · cases hcase
      · cases hcase
    · cases hcase
  · have e2 : len = 2 := by simpa [ilen] using hlen
    subst e2
    exact va_ldcS hx hb hown hX.1 hd (kk (okS_i trivial hok))
