/-! LM, part 12: constants, Object.<init>, arraycopy, and what makes cells, on the machine -/
/-- what isn't made yet was never written -/
def okF (n : Nat) (h : LH) : Prop := ∀ a j : Int, (n : Int) < a → rd h a j = 0
theorem okF_wr {n : Nat} {h : LH} {a i v : Int} (hh : okF n h) (ha : a ≤ n) : okF n (wr h a i v) := fun b j hb => by
  rw [rd_ne (by omega)]
  exact hh b j hb
theorem okF_s {n : Nat} {h : LH} (hh : okF n h) : okF (n + 1) h := fun a j ha => hh a j (by omega)
theorem lmP_F {o n : Nat} {ini : Bool} {i : Instr} {st st' : List LV} {h h' : LH} (hg : lmP o n ini i st h = some (st', h')) (hF : okF n h) : okF n h' := by
  unfold lmP at hg
  split at hg
  · split at hg
    · split at hg
      · split at hg
        · next hO =>
          simp only [Bool.and_eq_true] at hO
          obtain ⟨g1, g2, -⟩ := isO_of hO.1
          rw [Option.map_eq_some_iff] at hg
          obtain ⟨z, -, hz⟩ := hg
          cases hz
          exact okF_wr hF g2
        · cases hg
      · cases hg
    · cases hg
  · split at hg
    · split at hg
      · next hA =>
        simp only [Bool.and_eq_true] at hA
        cases some_i hg
        exact okF_wr hF (isA_of hA.1).2.1
      · cases hg
    · cases hg
  · split at hg
    · split at hg
      · next hA =>
        simp only [Bool.and_eq_true] at hA
        cases some_i hg
        exact okF_wr hF (isA_of hA.1).2.1
      · cases hg
    · cases hg
  · split at hg
    · split at hg
      · next hA =>
        simp only [Bool.and_eq_true, Bool.or_eq_true] at hA
        cases some_i hg
        rcases hA.2 with q | q
        · exact okF_wr hF (isA_of q.1).2.1
        · exact okF_wr hF (isA_of q.1).2.1
      · cases hg
    · cases hg
  · split at hg
    · split at hg
      · next hA =>
        simp only [Bool.and_eq_true] at hA
        cases some_i hg
        exact okF_wr hF (isA_of hA.1.1).2.1
      · cases hg
    · cases hg
  · cases hg
theorem rd_cpy (h : LH) (a sp b dp : Int) (x y : Int) : ∀ k : Nat, rd (cpyL h a sp b dp k ++ h) x y = if x = b ∧ dp ≤ y ∧ y < dp + k then rd h a (sp + (y - dp)) else rd h x y
  | 0 => by
    rw [if_neg (by omega)]
    rfl
  | k + 1 => by
    have ih := rd_cpy h a sp b dp x y k
    show (if b = x ∧ dp + (k : Int) = y then rd h a (sp + k) else rd (cpyL h a sp b dp k ++ h) x y) = _
    by_cases e : b = x ∧ dp + (k : Int) = y
    · rw [if_pos e, if_pos ⟨e.1.symm, by omega⟩]
      congr 1
      omega
    · rw [if_neg e, ih]
      by_cases e2 : x = b ∧ dp ≤ y ∧ y < dp + k
      · rw [if_pos e2, if_pos ⟨e2.1, by omega⟩]
      · rw [if_neg e2, if_neg]
        rintro ⟨q1, q2, q3⟩
        by_cases q4 : y < dp + k
        · exact e2 ⟨q1, q2, q4⟩
        · exact e ⟨q1.symm, by omega⟩
theorem cpy_keep {h : LH} {a sp b dp : Int} (k : Nat) (ka : (lay a.toNat).1 = 1) (kb : (lay b.toNat).1 = 1) (hh : okH h) (hN : okN h) : okH (cpyL h a sp b dp k ++ h) ∧ okN (cpyL h a sp b dp k ++ h) := by
  refine ⟨fun x y => ?_, fun x y hk => ?_⟩
  · rw [rd_cpy]
    split
    · next e =>
      rw [e.1, lkd_1 kb]
      exact okX0 hh (Or.inl ka)
    · exact hh x y
  · rw [rd_cpy]
    split
    · next e =>
      rw [e.1, lkd_1 kb] at hk
      cases hk
    · exact hN x y hk
theorem lmQ_F {o n : Nat} {i : Instr} {st st' : List LV} {h h' : LH} (hg : lmQ o n i st h = some (st', h')) (hF : okF n h) : okF n h' := by
  unfold lmQ at hg
  split at hg
  · split at hg
    · split at hg
      · split at hg
        · split at hg
          · cases some_i hg; exact hF
          · cases hg
        · cases hg
      · cases hg
    · cases hg
  · split at hg
    · split at hg
      · split at hg
        · split at hg
          · next hA =>
            simp only [Bool.and_eq_true] at hA
            cases some_i hg
            have hb := (isA_of hA.1.1.2).2.1
            intro x y hx
            rw [rd_cpy, if_neg (by rintro ⟨q, -⟩; omega)]
            exact hF x y hx
          · cases hg
        · cases hg
      · cases hg
    · cases hg
  · cases hg
section SN
variable {p : Program} {l : Launch} {e : Env} {R : Room} {s : State} {m : MethodId} {args : Array Value} {below : List Frame} {meth : Method} {c : Code} {H : Heap} {locs : List Loc} {cells slots : Nat} {Q : State → Prop}
variable {cc : ByteArray} {pc : Nat} {sl : Array Slot} {B b sA nL o n : Nat} {D : va_G} {cA : Nat → ClassId} {H0 : Heap}
theorem W_sz {g : JFrame} (k : H.size ≤ s.heap.size + cells → W p l e R s m args below meth c H locs cells slots Q g) : W p l e R s m args below meth c H locs cells slots Q g := fun T hT X => k (by rw [← hT]; exact X.heapSize) T hT X
set_option maxHeartbeats 4000000 in
theorem sim_C (hx : p.tables.exec = Jvm.exec) (hb : c.code = cc) (hown : s.vm.findClass (onm o) = some m.cls) (hts : ∀ w ∈ ZB, w.before args s = true)
    {i : Instr} {len : Nat} {st : List LV} {v : LV} (hg : lmC o i = some v) (hns : ¬ (o = 7 ∧ i = .ldc 19)) (hlen : ilen i len = true) (hd : decode cc pc = .ok (i, len)) (hst : okS st)
    (k : okS (v :: st) → W p l e R s m args below meth c H locs cells slots Q (F0 m (pc + len) sl ((v :: st).map (cv B b sA)))) :
    W p l e R s m args below meth c H locs cells slots Q (F0 m pc sl (st.map (cv B b sA))) := by
  cases i with
  | ldc x =>
    simp only [lmC] at hg
    rw [if_neg (fun q => hns ⟨q.1, by rw [q.2]⟩), Option.map_eq_some_iff] at hg
    obtain ⟨q, h1, h2⟩ := hg
    obtain ⟨h3, h4⟩ := find_of h1
    obtain ⟨-, h5⟩ := all17 CT chkC CT_ok17 CT_nil h3
    simp only [chkC, Bool.and_eq_true, decide_eq_true_eq] at h5
    rw [h4] at h5
    subst h2
    have e : len = 2 := by simpa [ilen] using hlen
    subst e
    exact lv_ldc hx hb hown (hts _ (inT_in h5.1)) hd (k (okS_i h5.2 hst))
  | ldc_w x =>
    simp only [lmC] at hg
    rw [Option.map_eq_some_iff] at hg
    obtain ⟨q, h1, h2⟩ := hg
    obtain ⟨h3, h4⟩ := find_of h1
    obtain ⟨-, h5⟩ := all17 CT chkC CT_ok17 CT_nil h3
    simp only [chkC, Bool.and_eq_true, decide_eq_true_eq] at h5
    rw [h4] at h5
    subst h2
    have e : len = 3 := by simpa [ilen] using hlen
    subst e
    exact lv_ldcw hx hb hown (hts _ (inT_in h5.1)) hd (k (okS_i h5.2 hst))
  | ldc2_w x =>
    simp only [lmC] at hg
    rw [Option.map_eq_some_iff] at hg
    obtain ⟨q, h1, h2⟩ := hg
    obtain ⟨h3, h4⟩ := find_of h1
    obtain ⟨-, h5⟩ := all17 CLT chkL CLT_ok17 CLT_nil h3
    simp only [chkL, Bool.and_eq_true, decide_eq_true_eq] at h5
    rw [h4] at h5
    subst h2
    have e : len = 3 := by simpa [ilen] using hlen
    subst e
    exact lv_ldc2 hx hb hown (hts _ (inT_in h5.1)) hd (k (okS_i h5.2 hst))
  | _ => simp only [lmC] at hg; cases hg
set_option maxHeartbeats 4000000 in
theorem sim_Q (hx : p.tables.exec = Jvm.exec) (hb : c.code = cc) (hml : c.maxLocals = sl.size) (hown : s.vm.findClass (onm o) = some m.cls) (hts : ∀ w ∈ ZB, w.before args s = true) (hK : va_K D zcl (zty cA) s)
    (hR : 8 ≤ R.frames ∧ 512 ≤ R.locals) {h h' : LH} (hh : okH h) (hN : okN h)
    (hP : va_P D zcl (zws B b sA cA n h) H) (hS : va_S (zA B) H0 H locs)
    {i : Instr} {len : Nat} {st st' : List LV} (hg : lmQ o n i st h = some (st', h')) (hlen : ilen i len = true) (hd : decode cc pc = .ok (i, len)) (hst : okS st)
    (k : ∀ (H1 : Heap) (locs1 : List Loc), okS st' → okH h' → okN h' → va_P D zcl (zws B b sA cA n h') H1 → va_S (zA B) H0 H1 locs1 → W p l e R s m args below meth c H1 locs1 cells slots Q (F0 m (pc + len) sl (st'.map (cv B b sA)))) :
    W p l e R s m args below meth c H locs cells slots Q (F0 m pc sl (st.map (cv B b sA))) := by
  cases i with
  | invokespecial x =>
    simp only [lmQ] at hg
    split at hg
    · next q hq =>
      obtain ⟨h3, h4⟩ := find_of hq
      obtain ⟨-, h5⟩ := all17 PTC chkP PTC_ok17 PTC_nil h3
      split at hg
      · next hz =>
        split at hg
        · next a r =>
          split at hg
          · next ha =>
            cases some_i hg
            have e : len = 3 := by simpa [ilen] using hlen
            subst e
            obtain ⟨-, h6⟩ := okS_c hst
            unfold chkP at h5
            rw [hz, h4] at h5
            have K := k H locs h6 hh hN hP hS
            have hc := lcat_cv B b sA st'
            rw [List.map_cons, cv_pos ha.1]
            refine W.objInit hx hb hown (hts _ (inT_in h5)) (hts _ (inT_in obj_ok.1)) (hts _ (inT_in obj_ok.2)) rfl hml.symm rfl hd (by omega) ?_ K
            show 2 * 0 + _ + 12 ≤ _
            rw [hc]
            omega
          · cases hg
        · cases hg
      · cases hg
    · cases hg
  | invokestatic x =>
    simp only [lmQ] at hg
    split at hg
    · next q hq =>
      obtain ⟨h3, h4⟩ := find_of hq
      obtain ⟨-, h5⟩ := all17 PTC chkP PTC_ok17 PTC_nil h3
      split at hg
      · next hz =>
        split at hg
        · next mm dp b' sp a r =>
          split at hg
          · next hA =>
            simp only [Bool.and_eq_true, decide_eq_true_eq] at hA
            obtain ⟨⟨⟨hA1, hA2⟩, hA3⟩, hA4⟩ := hA
            cases some_i hg
            have e : len = 3 := by simpa [ilen] using hlen
            subst e
            obtain ⟨o1, h6⟩ := okS_c hst
            obtain ⟨o2, h6⟩ := okS_c h6
            obtain ⟨-, h6⟩ := okS_c h6
            obtain ⟨o3, h6⟩ := okS_c h6
            obtain ⟨-, h6⟩ := okS_c h6
            obtain ⟨g1, g2, g3⟩ := isA_of hA1
            obtain ⟨g4, g5, g6⟩ := isA_of hA2
            have la := lay_len a.toNat
            have lb := lay_len b'.toNat
            have i1 : i32 mm := o1
            have i2 : i32 dp := o2
            have i3 : i32 sp := o3
            unfold chkP at h5
            rw [hz, h4] at h5
            have he := zws_at (B := B) (b := b) (sA := sA) (cA := cA) (h := h) (a := a.toNat) (n := n) (by omega) (by omega)
            rw [cellE_1 g3] at he
            have he2 := zws_at (B := B) (b := b) (sA := sA) (cA := cA) (h := h) (a := b'.toNat) (n := n) (by omega) (by omega)
            rw [cellE_1 g6] at he2
            have hc := lcat_cv B b sA st'
            rw [List.map_cons, List.map_cons, List.map_cons, List.map_cons, List.map_cons, cv_pos g1, cv_pos g4]
            refine va_copyi hx hb hml hown (hts _ (inT_in h5)) (hts _ (inT_in cpy_ok.1)) (hts _ (inT_in cpy_ok.2.1)) (hts _ (inT_in cpy_ok.2.2)) hK hP (zD n h) hS (a.toNat - 1) (b'.toNat - 1) 0 0 he he2 (zty_at cA (by omega)) (zty_at cA (by omega)) rfl
              (fun q => by have := (o_lt i3 z32).mp q; omega) (fun q => by have := (o_lt i2 z32).mp q; omega) (fun q => by have := (o_lt i1 z32).mp q; omega) (by rw [o_clamp i3, o_clamp i1]; omega) (by rw [o_clamp i2, o_clamp i1]; omega) (fun _ _ => rfl) (by omega) ?_ hd (fun H1 locs1 q1 q2 q3 => ?_)
            · rw [hc]
              show lcat st' + (5 + 2 + 11) ≤ R.locals
              omega
            · obtain ⟨k1, k2⟩ := cpy_keep (h := h) (sp := sp) (dp := dp) mm.toNat g3 g6 hh hN
              rw [zws_set (h' := cpyL h a sp b' dp mm.toNat ++ h) (by omega) (by omega) ?_ (fun q j hq => by rw [rd_cpy, if_neg (fun z => hq (by omega))])] at q1
              · exact k H1 locs1 h6 k1 k2 q1 q3
              · rw [cellE_1 g6, o_clamp i3, o_clamp i1, o_clamp i2]
                congr 4
                funext q
                unfold va_cpy
                rw [tn g4, rd_cpy, tn g1]
                by_cases e2 : dp.toNat ≤ q ∧ q < dp.toNat + mm.toNat
                · rw [if_pos e2, if_pos ⟨rfl, by omega, by omega⟩]
                  congr 2
                  omega
                · rw [if_neg e2, if_neg (fun z => e2 (by omega))]
          · cases hg
        · cases hg
      · cases hg
    · cases hg
  | _ => simp only [lmQ] at hg; cases hg
end SN
