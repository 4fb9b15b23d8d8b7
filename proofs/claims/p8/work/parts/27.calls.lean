/-! LM, part 27: Math, arraycopy and calls by bounds -/
def acat (st : List SE) : Nat := (st.map (fun e => if e.1.1 = 1 then 2 else 1)).sum
section CA
variable {INV : LH → Prop} {prot : Int → Int → Int → Bool} {ls : LL} {h : LH} {xs : Nat → Int} {xl : Nat}
theorem acat_ok : ∀ {ast : List SE} {st : List LV}, gS ls h ast st → lcat st = acat ast
  | [], [], _ => rfl
  | e :: r, v :: s, hs => by
    have ih := acat_ok hs.2
    unfold lcat acat at ih ⊢
    simp only [List.map_cons, List.sum_cons]
    rw [ih]
    congr 1
    unfold vcat
    rw [gV_cat hs.1.1]
    simp
  | [], _ :: _, hs => by cases hs
  | _ :: _, [], hs => by cases hs
theorem gS_take : ∀ (n : Nat) {ast : List SE} {st : List LV}, gS ls h ast st → gS ls h (ast.take n) (st.take n) ∧ gS ls h (ast.drop n) (st.drop n)
  | 0, ast, st, hs => ⟨trivial, hs⟩
  | n + 1, [], [], hs => ⟨trivial, trivial⟩
  | n + 1, e :: r, v :: s, hs => by
    obtain ⟨h1, h2⟩ := gS_take n hs.2
    exact ⟨⟨hs.1, h1⟩, h2⟩
  | n + 1, [], _ :: _, hs => by cases hs
  | n + 1, _ :: _, [], hs => by cases hs
theorem gS_app : ∀ {a b : List SE} {s t : List LV}, gS ls h a s → gS ls h b t → gS ls h (a ++ b) (s ++ t)
  | [], b, [], t, _, hb => hb
  | e :: r, b, v :: s, t, ha, hb => ⟨ha.1, gS_app ha.2 hb⟩
  | [], _, _ :: _, _, ha, _ => by cases ha
  | _ :: _, _, [], _, ha, _ => by cases ha
theorem gS_rev : ∀ {a : List SE} {s : List LV}, gS ls h a s → gS ls h a.reverse s.reverse
  | [], [], _ => trivial
  | e :: r, v :: s, hs => by
    rw [List.reverse_cons, List.reverse_cons]
    exact gS_app (gS_rev hs.2) ⟨hs.1, trivial⟩
  | [], _ :: _, hs => by cases hs
  | _ :: _, [], hs => by cases hs
theorem lent_cat : ∀ as : List LV, (lent as).length = lcat as
  | [] => rfl
  | a :: as => by
    have ih := lent_cat as
    rw [lent.eq_2]
    unfold lcat at ih ⊢
    simp only [List.map_cons, List.sum_cons]
    rw [show vcat a = if isL a then 2 else 1 from rfl]
    cases isL a <;> simp [ih] <;> omega
theorem zxor_b {a b : Int} (h0 : 0 ≤ a) (h1 : i32 a) (h2 : 0 ≤ b) (h3 : i32 b) : 0 ≤ zxor a b := by
  have e1 := ofI h0 h1
  have e2 := ofI h2 h3
  have e3 : (Int32.ofInt a ^^^ Int32.ofInt b).toBitVec.toNat = a.toNat ^^^ b.toNat := by
    rw [Int32.toBitVec_xor, BitVec.toNat_xor, e1, e2]
  unfold i32 at h1 h3
  have e4 : a.toNat ^^^ b.toNat < 2 ^ 31 := Nat.xor_lt_two_pow (by omega) (by omega)
  unfold zxor
  rw [small e3 (by omega)]
  omega
theorem zfm_b {a b : Int} (h0 : 0 ≤ a) (h1 : i32 a) (h2 : 0 < b) (h3 : i32 b) : 0 ≤ zfm a b ∧ zfm a b ≤ b - 1 ∧ i32 (zfm a b) := by
  obtain ⟨d1, d2, d3, d4⟩ := rem_eq h1 h0 h2
  unfold zfm
  rw [if_pos (zxor_b h0 h1 (by omega) h3), d1]
  exact ⟨d2, by omega, by unfold i32 at h1 ⊢; omega⟩
def noM (o x : Nat) : Bool := ((MTC o).find? (fun q => q.1 == x)).isNone
theorem noM_ok {o n x : Nat} {st : List LV} (h : noM o x = true) : lmK o n (.invokestatic x) st = none := by
  unfold noM at h
  rw [Option.isNone_iff_eq_none] at h
  unfold lmK
  simp only
  rw [h]
def aX (o : Nat) (i : Instr) (ast : List SE) : Option (List SE) := match i with
  | .invokestatic x => if noM o x = false then none else match (PTC o).find? (fun q => q.1 == x) with
    | some q => match ast with
      | b :: a :: r => if a.1.1 = 0 ∧ b.1.1 = 0 ∧ acat r ≤ 8 then (if q.2.1 = 4 then some ((mkA 0 (min a.1.2.1 b.1.2.1) (min a.1.2.2.1 b.1.2.2.1) 1, pv0) :: r) else if q.2.1 = 5 then some ((mkA 0 (max a.1.2.1 b.1.2.1) (max a.1.2.2.1 b.1.2.2.1) 1, pv0) :: r) else if q.2.1 = 6 ∧ b.1.2.2.2 = 0 ∧ 0 < b.1.2.1 ∧ 0 ≤ a.1.2.1 then some ((mkA 0 0 (b.1.2.1 - 1) 1, pv0) :: r) else none) else none
      | _ => none
    | none => none
  | _ => none
set_option maxHeartbeats 4000000 in
theorem aX_ok {o : Nat} {i : Instr} {ast ast' : List SE} {st : List LV} (ha : aX o i ast = some ast') (hs : gS ls h ast st) : ∃ (x : Nat) (st' : List LV), i = .invokestatic x ∧ noM o x = true ∧ lmQ o NC i st h = none ∧ lmX o i st = some st' ∧ gS ls h ast' st' := by
  cases i with
  | invokestatic x =>
    simp only [aX] at ha
    split at ha
    · cases ha
    · next hno =>
      have hno : noM o x = true := by simpa using hno
      split at ha
      · next q hq =>
        split at ha
        · next b a r =>
          split at ha
          · next hk =>
            obtain ⟨w1, s1, rfl, g1, -, hs1⟩ := gS_c hs
            obtain ⟨w2, s2, rfl, g2, -, hs2⟩ := gS_c hs1
            obtain ⟨y, rfl, y1, y2⟩ := gV_i g1 hk.2.1
            obtain ⟨x', rfl, x1, x2⟩ := gV_i g2 hk.1
            have hcat : lcat s2 ≤ 8 := by rw [acat_ok hs2]; exact hk.2.2
            have a1 := x2.1
            have a2 := x2.2.1
            have b1 := y2.1
            have b2 := y2.2.1
            split at ha
            · next e =>
              cases some_i ha
              refine ⟨x, _, rfl, hno, by simp only [lmQ]; rw [hq]; simp only; rw [if_neg (by omega)], by simp only [lmX]; rw [hq]; simp only; rw [if_pos hcat, if_pos e], gS_p (gV_mk01 ?_ ?_ ?_) hs2⟩
              · split <;> assumption
              · split <;> omega
              · split <;> omega
            · next e =>
              split at ha
              · next e2 =>
                cases some_i ha
                refine ⟨x, _, rfl, hno, by simp only [lmQ]; rw [hq]; simp only; rw [if_neg (by omega)], by simp only [lmX]; rw [hq]; simp only; rw [if_pos hcat, if_neg e, if_pos e2], gS_p (gV_mk01 ?_ ?_ ?_) hs2⟩
                · split <;> assumption
                · split <;> omega
                · split <;> omega
              · next e2 =>
                split at ha
                · next e3 =>
                  cases some_i ha
                  have ey := inV_c y2 e3.2.1
                  obtain ⟨z1, z2, z3⟩ := zfm_b (a := x') (b := y) (by omega) x1 (by omega) y1
                  exact ⟨x, _, rfl, hno, by simp only [lmQ]; rw [hq]; simp only; rw [if_neg (by omega)], by simp only [lmX]; rw [hq]; simp only; rw [if_pos hcat, if_neg e, if_neg e2, if_pos ⟨e3.1, by omega⟩], gS_p (gV_mk01 z3 z1 (by omega)) hs2⟩
                · cases ha
          · cases ha
        · cases ha
      · cases ha
  | _ => simp only [aX] at ha; cases ha
/-- arraycopy: the cells written, the places, the rest -/
def aQ (prot : Int → Int → Int → Bool) (o : Nat) (i : Instr) (ast : List SE) : Option (AV × AV × List SE) := match i with
  | .invokestatic x => if noM o x = false then none else match (PTC o).find? (fun q => q.1 == x) with
    | some q => match ast with
      | m :: dp :: eb :: sp :: ea :: r => match cellsOf ea, cellsOf eb with
        | some ca, some cb => if q.2.1 = 1 ∧ m.1.1 = 0 ∧ dp.1.1 = 0 ∧ sp.1.1 = 0 ∧ 0 ≤ m.1.2.1 ∧ 0 ≤ dp.1.2.1 ∧ 0 ≤ sp.1.2.1 ∧ acat r ≤ 8 ∧
            ca.all (fun a => isA NC a 1 && decide (sp.1.2.2.1 + m.1.2.2.1 ≤ ((lay a.toNat).2.2 : Int))) = true ∧ cb.all (fun b => isA NC b 1 && decide (dp.1.2.2.1 + m.1.2.2.1 ≤ ((lay b.toNat).2.2 : Int)) && !(prot b 0 3000)) = true ∧
            ca.all (fun a => cb.all (fun b => match RGL[a.toNat]?, RGL[b.toNat]? with | some [u], some [w] => leA u w | _, _ => false)) = true
          then some (eb.1, mkA 0 dp.1.2.1 (dp.1.2.2.1 + m.1.2.2.1) 1, r) else none
        | _, _ => none
      | _ => none
    | none => none
  | _ => none
theorem cpy_inv (hI : INVok INV prot) (hh : INV h) {a b sp dp : Int} {u w : AV} (ka : isA NC a 1 = true) (kb : isA NC b 1 = true) (hp : prot b 0 3000 = false) (h1 : RGL[a.toNat]? = some [u]) (h2 : RGL[b.toNat]? = some [w]) (hle : leA u w = true) (s0 : 0 ≤ sp) (d0 : 0 ≤ dp) : ∀ m : Nat, sp + m ≤ ((lay a.toNat).2.2 : Int) → dp + m ≤ ((lay b.toNat).2.2 : Int) → INV (cpyL h a sp b dp m ++ h)
  | 0, _, _ => hh
  | m + 1, m1, m2 => by
    have ih := cpy_inv hI hh ka kb hp h1 h2 hle s0 d0 m (by omega) (by omega)
    obtain ⟨a1, a2, a3⟩ := isA_of ka
    obtain ⟨b1, b2, b3⟩ := isA_of kb
    have hv : gV (hav a (sp + m)) (hval h a (sp + m)) := hI.1 h hh a (sp + m) ⟨a1, a2, by omega, by omega⟩
    have e1 : hav a (sp + m) = u := by unfold hav; rw [h1]; simp [Nat.mod_one]
    have e2 : hav b (dp + m) = w := by unfold hav; rw [h2]; simp [Nat.mod_one]
    rw [e1] at hv
    have hv2 := leA_ok hle hv
    refine hI.2.1 _ ih b (dp + m) (rd h a (sp + m)) ⟨b1, b2, by omega, by omega⟩ (hI.2.2 b 0 3000 (dp + m) hp (by omega) (by have := lay_len b.toNat; omega)) ?_
    rw [e2]
    unfold hval at hv2
    rw [lkd_1 a3] at hv2
    rw [lkd_1 b3]
    exact hv2
set_option maxHeartbeats 4000000 in
theorem aQ_ok (hI : INVok INV prot) (hh : INV h) {o : Nat} {i : Instr} {ast r : List SE} {ea ix : AV} {st : List LV} (ha : aQ prot o i ast = some (ea, ix, r)) (hs : gS ls h ast st) : ∃ (x : Nat) (st' : List LV) (h' : LH), i = .invokestatic x ∧ noM o x = true ∧ lmQ o NC i st h = some (st', h') ∧ INV h' ∧ frm [boxOf ea ix] h h' ∧ gS ls h r st' := by
  cases i with
  | invokestatic x =>
    simp only [aQ] at ha
    split at ha
    · cases ha
    · next hno =>
      have hno : noM o x = true := by simpa using hno
      split at ha
      · next q hq =>
        split at ha
        · next m dp eb sp ea' r' =>
          split at ha
          · next ca cb hca hcb =>
            split at ha
            · next hk =>
              obtain ⟨k1, k2, k3, k4, k5, k6, k7, k8, k9, k10, k11⟩ := hk
              cases some_i ha
              obtain ⟨w1, s1, rfl, g1, -, hs1⟩ := gS_c hs
              obtain ⟨w2, s2, rfl, g2, -, hs2⟩ := gS_c hs1
              obtain ⟨w3, s3, rfl, g3, -, hs3⟩ := gS_c hs2
              obtain ⟨w4, s4, rfl, g4, -, hs4⟩ := gS_c hs3
              obtain ⟨w5, s5, rfl, g5, -, hs5⟩ := gS_c hs4
              obtain ⟨mm, rfl, m1, m2⟩ := gV_i g1 k2
              obtain ⟨dd, rfl, d1, d2⟩ := gV_i g2 k3
              obtain ⟨b, rfl, b1, b2⟩ := cellsOf_ok hcb g3
              obtain ⟨ss, rfl, t1, t2⟩ := gV_i g4 k4
              obtain ⟨a, rfl, a1, a2⟩ := cellsOf_ok hca g5
              have ka := List.all_eq_true.mp k9 a a2
              have kb := List.all_eq_true.mp k10 b b2
              have kc := List.all_eq_true.mp (List.all_eq_true.mp k11 a a2) b b2
              simp only [Bool.and_eq_true, decide_eq_true_eq, Bool.not_eq_true'] at ka kb
              have hcat : lcat s5 ≤ 8 := by rw [acat_ok hs5]; exact k8
              have f1 := m2.1
              have f2 := m2.2.1
              have f3 := d2.1
              have f4 := d2.2.1
              have f5 := t2.1
              have f6 := t2.2.1
              split at kc
              · next u w hu hw =>
                refine ⟨x, s5, cpyL h a ss b dd mm.toNat ++ h, rfl, hno, ?_, cpy_inv hI hh ka.1 kb.1.1 kb.2 hu hw kc (by omega) (by omega) mm.toNat (by omega) (by omega), ?_, hs5⟩
                · simp only [lmQ]
                  rw [hq]
                  simp only
                  rw [if_pos k1, if_pos]
                  simp only [Bool.and_eq_true, decide_eq_true_eq]
                  exact ⟨⟨⟨ka.1, kb.1.1⟩, by omega, by omega, by omega, by omega, by omega⟩, hcat⟩
                · intro a' i' hb
                  rw [rd_cpy, if_neg]
                  rintro ⟨rfl, z1, z2⟩
                  have hbb := b1
                  obtain ⟨y1, y2, -⟩ := hbb
                  have hm1 : (mkA 0 dp.1.2.1 (dp.1.2.2.1 + m.1.2.2.1) 1).2.1 = dp.1.2.1 := by unfold mkA; split <;> rfl
                  have hm2 : (mkA 0 dp.1.2.1 (dp.1.2.2.1 + m.1.2.2.1) 1).2.2.1 = dp.1.2.2.1 + m.1.2.2.1 := by unfold mkA; split <;> rfl
                  unfold inBx boxOf at hb
                  simp only [List.any_cons, List.any_nil, Bool.or_false, Bool.and_eq_false_iff, decide_eq_false_iff_not] at hb
                  rw [hm1, hm2] at hb
                  omega
              · cases kc
            · cases ha
          · cases ha
        · cases ha
      · cases ha
  | _ => simp only [aQ] at ha; cases ha
end CA
