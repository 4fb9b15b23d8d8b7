/-! LM, part 31: the check is sound -/
theorem lmI_A {o n : Nat} {ini : Bool} {xs : Nat → Int} {xl : Nat} {i : Instr} {pc len : Nat} {ls : LL} {st st' : List LV} {h : LH} (e : lmA i st = some st') : lmI o n ini xs xl i pc len ls st h = some (pc + len, ls, st', n, h) := by
  unfold lmI
  rw [e]
theorem lmI_Ld {o n : Nat} {ini : Bool} {xs : Nat → Int} {xl : Nat} {i : Instr} {pc len : Nat} {ls : LL} {st : List LV} {v : LV} {h : LH} (hc : icls i = 2) (e : lmLd i ls = some v) : lmI o n ini xs xl i pc len ls st h = some (pc + len, ls, v :: st, n, h) := by
  unfold lmI
  rw [cls_A (by omega)]
  simp only
  rw [e]
theorem lmI_G {o n : Nat} {ini : Bool} {xs : Nat → Int} {xl : Nat} {i : Instr} {pc len : Nat} {ls : LL} {st st' : List LV} {h : LH} (hc : icls i = 3) (e : lmG o n xs xl i st h = some st') : lmI o n ini xs xl i pc len ls st h = some (pc + len, ls, st', n, h) := by
  unfold lmI
  rw [cls_A (by omega), cls_Ld (by omega)]
  simp only
  rw [e]
theorem lmI_J {o n : Nat} {ini : Bool} {xs : Nat → Int} {xl : Nat} {i : Instr} {pc len : Nat} {ls : LL} {st st' : List LV} {t : Int} {h : LH} (hc : icls i = 4) (e : lmJ i pc len st = some (t, st')) (ht : 0 ≤ t) : lmI o n ini xs xl i pc len ls st h = some (t.toNat, ls, st', n, h) := by
  unfold lmI
  rw [cls_A (by omega), cls_Ld (by omega), cls_G (by omega)]
  simp only
  rw [e]
  simp only
  rw [if_pos ht]
theorem lmI_Inc {o n : Nat} {ini : Bool} {xs : Nat → Int} {xl : Nat} {i : Instr} {pc len : Nat} {ls ls' : LL} {st : List LV} {h : LH} (hc : icls i = 5) (e : lmInc i ls = some ls') : lmI o n ini xs xl i pc len ls st h = some (pc + len, ls', st, n, h) := by
  unfold lmI
  rw [cls_A (by omega), cls_Ld (by omega), cls_G (by omega), cls_J (by omega)]
  simp only
  rw [e]
theorem lmI_P {o n : Nat} {ini : Bool} {xs : Nat → Int} {xl : Nat} {i : Instr} {pc len : Nat} {ls : LL} {st st' : List LV} {h h' : LH} (hc : icls i = 6) (e : lmP o n ini i st h = some (st', h')) : lmI o n ini xs xl i pc len ls st h = some (pc + len, ls, st', n, h') := by
  unfold lmI
  rw [cls_A (by omega), cls_Ld (by omega), cls_G (by omega), cls_J (by omega), cls_Inc (by omega)]
  simp only
  rw [e]
theorem lmI_C {o n : Nat} {ini : Bool} {xs : Nat → Int} {xl : Nat} {i : Instr} {pc len : Nat} {ls : LL} {st : List LV} {v : LV} {h : LH} (hc : icls i = 7) (e : lmC o i = some v) : lmI o n ini xs xl i pc len ls st h = some (pc + len, ls, v :: st, n, h) := by
  unfold lmI
  rw [cls_A (by omega), cls_Ld (by omega), cls_G (by omega), cls_J (by omega), cls_Inc (by omega), cls_P (by omega) (by omega)]
  simp only
  rw [e]
theorem lmI_Q {o n : Nat} {ini : Bool} {xs : Nat → Int} {xl : Nat} {i : Instr} {pc len : Nat} {ls : LL} {st st' : List LV} {h h' : LH} (hc : icls i = 9) (e : lmQ o n i st h = some (st', h')) : lmI o n ini xs xl i pc len ls st h = some (pc + len, ls, st', n, h') := by
  unfold lmI
  rw [cls_A (by omega), cls_Ld (by omega), cls_G (by omega), cls_J (by omega), cls_Inc (by omega), cls_P (by omega) (by omega), cls_C (by omega)]
  simp only
  rw [e]
theorem lmI_X {o n : Nat} {ini : Bool} {xs : Nat → Int} {xl : Nat} {i : Instr} {pc len : Nat} {ls : LL} {st st' : List LV} {h : LH} (hc : icls i = 9) (eq : lmQ o n i st h = none) (e : lmX o i st = some st') : lmI o n ini xs xl i pc len ls st h = some (pc + len, ls, st', n, h) := by
  unfold lmI
  rw [cls_A (by omega), cls_Ld (by omega), cls_G (by omega), cls_J (by omega), cls_Inc (by omega), cls_P (by omega) (by omega), cls_C (by omega), eq, cls_N (by omega)]
  simp only
  rw [e]
theorem lmI_St {o n : Nat} {ini : Bool} {xs : Nat → Int} {xl : Nat} {i : Instr} {pc len : Nat} {ls : LL} {r : List LV} {v : LV} {k : Nat} {h : LH} (hc : icls i = 8) (e : lmSt i v = some k) (hk : k + (if isL v then 1 else 0) < ls.length) : lmI o n ini xs xl i pc len ls (v :: r) h = some (pc + len, lst ls k v, r, n, h) := by
  unfold lmI
  rw [cls_A (by omega), cls_Ld (by omega), cls_G (by omega), cls_J (by omega), cls_Inc (by omega), cls_P (by omega) (by omega), cls_C (by omega), cls_Q (by omega), cls_N (by omega), cls_X (by omega)]
  simp only
  rw [e]
  simp only
  rw [if_pos hk]
def KPok (KP : List (Nat × Nat)) (as : List LV) (ls : LL) : Prop := ∀ q ∈ KP, ∃ v, as[q.1]? = some v ∧ lget ls q.2 = some v
theorem KP_lst {KP : List (Nat × Nat)} {as : List LV} {ls : LL} {als : AL} {k kd : Nat} {v : LV} (hk : kpOk KP als k kd = true) (hg : gL als ls) (hv : isL v = (kd == 1)) (h : KPok KP as ls) : KPok KP as (lst ls k v) := by
  intro q hq
  obtain ⟨w, w1, w2⟩ := h q hq
  have h1 := List.all_eq_true.mp hk q hq
  simp only [Bool.and_eq_true, Bool.or_eq_true, decide_eq_true_eq] at h1
  refine ⟨w, w1, lget_lst_ne h1.1.1 w2 (fun e => ?_) (fun e => ?_)⟩
  · rcases h1.2 with q | q
    · exact absurd e q
    · split at q
      · next a ha =>
        obtain ⟨x, x1, x2⟩ := hg.2 _ _ ha
        rw [w2] at x1
        cases x1
        rw [gV_cat x2]
        simpa using q
      · cases q
  · rcases h1.1.2 with q | q
    · have := e.2
      rw [hv] at this
      exact q (by simpa using this)
    · exact q e.1
section MN
variable {INV : LH → Prop} {prot : Int → Int → Int → Bool} {xs : Nat → Int} {xl : Nat}
set_option maxHeartbeats 8000000 in
theorem ai_main (hI : INVok INV prot) {SMs : Nat → Option SM} {S : SM} {M : LM_M} {KP : List (Nat × Nat)} {N : List (List ND)} {as : List LV} {h0 : LH} (hS : ∀ j T, SMs j = some T → T.2.1 < S.2.1 → SMok xs xl INV T) (hC : N.all (fun B => B.all (chkN prot SMs S M KP N)) = true) : ∀ (n : Nat) (u : ND) (ls : LL) (st : List LV) (h : LH), u ∈ N.flatten → (mv u ls).toNat < n → gA ls st h u.2.1 → INV h → frm S.2.2.2.2.1 h0 h → KPok KP as ls → Rn xs xl S.2.1 M u.1 ls st h (fun r h' => INV h' ∧ frm S.2.2.2.2.1 h0 h' ∧ ∃ c ∈ S.2.2.2.1, resOk c r h' as) := by
  have hC : ∀ v ∈ N.flatten, chkN prot SMs S M KP N v = true := by
    intro v hv
    obtain ⟨B, b1, b2⟩ := List.mem_flatten.mp hv
    exact List.all_eq_true.mp (List.all_eq_true.mp hC B b1) v b2
  intro n
  induction n with
  | zero => intro u ls st h _ hm; omega
  | succ n ih =>
    intro u ls st h hu hm hg hh hf hkp
    have lb : ∀ v ∈ N.flatten, ∀ ls', gL v.2.1.1 ls' → 0 ≤ mv v ls' := by
      intro v hv ls' hl
      have h1 := hC v hv
      unfold chkN at h1
      rw [Bool.and_eq_true] at h1
      exact lbM_ok h1.1 (gL_r hl)
    have hm0 := lb u hu ls hg.1
    have go : ∀ v ∈ N.flatten, ∀ ls' st' h', mv v ls' < mv u ls → gA ls' st' h' v.2.1 → INV h' → frm S.2.2.2.2.1 h0 h' → KPok KP as ls' → Rn xs xl S.2.1 M v.1 ls' st' h' (fun r h' => INV h' ∧ frm S.2.2.2.2.1 h0 h' ∧ ∃ c ∈ S.2.2.2.1, resOk c r h' as) := fun v hv ls' st' h' h1 h2 h3 h4 h5 => ih v ls' st' h' hv (by have := lb v hv ls' h2.1; omega) h2 h3 h4 h5
    have hk := hC u hu
    unfold chkN at hk
    rw [Bool.and_eq_true] at hk
    have hk := hk.2
    split at hk
    · cases hk
    · next i len hdec =>
      rw [Bool.and_eq_true] at hk
      obtain ⟨hlen, hk⟩ := hk
      split at hk
      · next hc =>
        obtain ⟨r1, r2⟩ := cls_noRK (i := i) (by omega) (by omega)
        split at hk
        · next st2 ha =>
          obtain ⟨st', e, hs'⟩ := aA_ok (h := h) ha hg.2.1
          obtain ⟨v, v1, v2, v3, v4⟩ := covA_ok hI hk _ List.mem_cons_self (ls := ls) (st := st') (hp := h) hh ⟨hg.1, hs', hg.2.2⟩
          refine Rn.step hdec hlen (r1 _ _) (r2 _ _ _) (lmI_A e) ?_
          have e2 : u.1 + len = v.1 := by simp only at v2; omega
          rw [e2]
          exact go v v1 ls st' h v4 v3 hh hf hkp
        · cases hk
      · next hc =>
        obtain ⟨r1, r2⟩ := cls_noRK (i := i) (by omega) (by omega)
        split at hk
        · next se ha =>
          obtain ⟨w, e, hs', hp'⟩ := aLd_ok (h := h) ha hg.1
          obtain ⟨v, v1, v2, v3, v4⟩ := covA_ok hI hk _ List.mem_cons_self (ls := ls) (st := w :: st) (hp := h) hh ⟨hg.1, ⟨⟨hs', hp'⟩, hg.2.1⟩, hg.2.2⟩
          refine Rn.step hdec hlen (r1 _ _) (r2 _ _ _) (lmI_Ld hc e) ?_
          have e2 : u.1 + len = v.1 := by simp only at v2; omega
          rw [e2]
          exact go v v1 ls (w :: st) h v4 v3 hh hf hkp
        · cases hk
      · next hc =>
        obtain ⟨r1, r2⟩ := cls_noRK (i := i) (by omega) (by omega)
        split at hk
        · next L ha =>
          obtain ⟨st', e, q, q1, q2⟩ := aG_ok (xs := xs) (xl := xl) hI hh hg.2.2 ha hg.2.1
          obtain ⟨v, v1, v2, v3, v4⟩ := covA_ok hI hk _ (List.mem_map_of_mem q1) (ls := ls) (st := st') (hp := h) hh ⟨hg.1, q2, hg.2.2⟩
          refine Rn.step hdec hlen (r1 _ _) (r2 _ _ _) (lmI_G hc e) ?_
          have e2 : u.1 + len = v.1 := by simp only at v2; omega
          rw [e2]
          exact go v v1 ls st' h v4 v3 hh hf hkp
        · cases hk
      · next hc =>
        obtain ⟨r1, r2⟩ := cls_noRK (i := i) (by omega) (by omega)
        split at hk
        · next L ha =>
          obtain ⟨t, st', e, q, q1, q2, q3⟩ := aJ_ok hI hh ha hg
          obtain ⟨v, v1, v2, v3, v4⟩ := covA_ok hI hk q q1 (ls := ls) (st := st') (hp := h) hh q3
          refine Rn.step hdec hlen (r1 _ _) (r2 _ _ _) (lmI_J hc e (by omega)) ?_
          have e2 : t.toNat = v.1 := by omega
          rw [e2]
          exact go v v1 ls st' h v4 v3 hh hf hkp
        · cases hk
      · next hc =>
        obtain ⟨r1, r2⟩ := cls_noRK (i := i) (by omega) (by omega)
        split at hk
        · next k m =>
          split at hk
          · next a ha =>
            split at hk
            · next hcc =>
              obtain ⟨c1, c2, c3, c4⟩ := hcc
              split at hk
              · next v hv =>
                obtain ⟨w, w1, w2⟩ := hg.1.2 k a ha
                obtain ⟨x, rfl, x1, x2⟩ := gV_i w2 c1
                have hwv : gV (w0 (a.2.1 + m) (a.2.2.1 + m) a.2.2.2) (.inl (w32 (x + m))) := w0_ok (by have := x2.1; omega) (by have := x2.2.1; omega) (by have := x2.2.2; rw [show x + m - (a.2.1 + m) = x - a.2.1 by omega]; exact this)
                have hkl : k + (if isL (.inl (w32 (x + m))) then 1 else 0) < ls.length := by
                  have := lget_lt w1
                  simpa [isL] using this
                obtain ⟨v1, v2, v3⟩ := covE_ok hI hv (ls := lst ls k (.inl (w32 (x + m)))) (st := st) (hp := h) hh ⟨gL_put hg.1 hwv hkl, killL_ok hg.2.1, hg.2.2⟩
                have hd : mv v (lst ls k (.inl (w32 (x + m)))) < mv u ls := by
                  rw [Bool.or_eq_true] at hk
                  rcases hk with hk | hk
                  · exact edI_ok hk hg.1 w1 x2
                  · exact edS_ok hk hg.1 hwv hkl
                have e : lmInc (.iinc k m) ls = some (lst ls k (.inl (w32 (x + m)))) := by
                  simp only [lmInc]
                  rw [w1]
                  simp only
                  rw [if_pos ⟨c2, c3⟩]
                refine Rn.step hdec hlen (r1 _ _) (r2 _ _ _) (lmI_Inc hc e) ?_
                have e2 : u.1 + len = v.1 := by omega
                rw [e2]
                exact go v v1 _ st h hd v3 hh hf (KP_lst c4 hg.1 rfl hkp)
              · cases hk
            · cases hk
          · cases hk
        · cases hk
      · next hc =>
        obtain ⟨r1, r2⟩ := cls_noRK (i := i) (by omega) (by omega)
        split at hk
        · next ea ix va r ha =>
          simp only [Bool.and_eq_true] at hk
          obtain ⟨⟨k1, k2⟩, k3⟩ := hk
          obtain ⟨a, j, z, s, e, a1, a2, a3, a4, a5⟩ := aP_ok (ini := (M.1.name == "<init>")) ha hg.2.1
          have hfr : frm [boxOf ea ix] h (wr h a j z) := frm_wr a1 a2
          have hh' : INV (wr h a j z) := stOk_ok hI hh k1 a1 a2 a3 a4
          obtain ⟨v, v1, v2, v3, v4⟩ := covA_ok hI k3 _ List.mem_cons_self (ls := ls) (st := s) (hp := wr h a j z) hh' ⟨hg.1, killS_ok hfr a5, setF_ok a1 a2 a4 hg.2.2⟩
          refine Rn.step hdec hlen (r1 _ _) (r2 _ _ _) (lmI_P hc e) ?_
          have e2 : u.1 + len = v.1 := by simp only at v2; omega
          rw [e2]
          exact go v v1 ls s _ v4 v3 hh' (frm_tr hf hfr (by simp [k2])) hkp
        · cases hk
      · next hc =>
        obtain ⟨r1, r2⟩ := cls_noRK (i := i) (by omega) (by omega)
        split at hk
        · next a ha =>
          obtain ⟨w, e, w1⟩ := aC_ok ha
          obtain ⟨v, v1, v2, v3, v4⟩ := covA_ok hI hk _ List.mem_cons_self (ls := ls) (st := w :: st) (hp := h) hh ⟨hg.1, gS_p w1 hg.2.1, hg.2.2⟩
          refine Rn.step hdec hlen (r1 _ _) (r2 _ _ _) (lmI_C hc e) ?_
          have e2 : u.1 + len = v.1 := by simp only at v2; omega
          rw [e2]
          exact go v v1 ls (w :: st) h v4 v3 hh hf hkp
        · cases hk
      · next hc =>
        obtain ⟨r1, r2⟩ := cls_noRK (i := i) (by omega) (by omega)
        split at hk
        · next e r hst =>
          split at hk
          · next k ha =>
            by_cases hcc : k + (if e.1.1 = 1 then 1 else 0) < u.2.1.1.length ∧ kpOk KP u.2.1.1 k e.1.1 = true
            · rw [if_pos hcc] at hk
              split at hk
              · next v hv =>
                have hg2 := hg.2.1
                rw [hst] at hg2
                obtain ⟨w, s, rfl, w1, -, w3⟩ := gS_c hg2
                have hkl : k + (if isL w then 1 else 0) < ls.length := by
                  have h1 := hcc.1
                  rw [hg.1.1] at h1
                  have h2 := gV_cat w1
                  by_cases hq : e.1.1 = 1
                  · rw [if_pos hq] at h1
                    rw [if_pos (by rw [h2, hq]; rfl)]
                    exact h1
                  · rw [if_neg hq] at h1
                    rw [if_neg (by rw [h2]; simpa using hq)]
                    exact h1
                obtain ⟨v1, v2, v3⟩ := covE_ok hI hv (ls := lst ls k w) (st := s) (hp := h) hh ⟨gL_put hg.1 w1 hkl, killL_ok w3, hg.2.2⟩
                refine Rn.step hdec hlen (r1 _ _) (r2 _ _ _) (lmI_St hc (aSt_ok ha w1) hkl) ?_
                have e2 : u.1 + len = v.1 := by omega
                rw [e2]
                exact go v v1 _ s h (edS_ok hk hg.1 w1 hkl) v3 hh hf (KP_lst hcc.2 hg.1 (gV_cat w1) hkp)
              · cases hk
            · rw [if_neg hcc] at hk
              cases hk
          · cases hk
        · cases hk
      · next hc =>
        have r1 := cls_R hc
        split at hk
        · next st2 ha =>
          obtain ⟨x, st', rfl, x1, x2, x3, x4⟩ := aX_ok ha hg.2.1
          obtain ⟨v, v1, v2, v3, v4⟩ := covA_ok hI hk _ List.mem_cons_self (ls := ls) (st := st') (hp := h) hh ⟨hg.1, x4, hg.2.2⟩
          refine Rn.step hdec hlen (r1 _ _) (noM_ok x1) (lmI_X hc x2 x3) ?_
          have e2 : u.1 + len = v.1 := by simp only at v2; omega
          rw [e2]
          exact go v v1 ls st' h v4 v3 hh hf hkp
        · split at hk
          · next ea ix r ha =>
            rw [Bool.and_eq_true] at hk
            obtain ⟨x, st', h', rfl, x1, x2, x3, x4, x5⟩ := aQ_ok hI hh ha hg.2.1
            obtain ⟨v, v1, v2, v3, v4⟩ := covA_ok hI hk.2 _ List.mem_cons_self (ls := ls) (st := st') (hp := h') x3 ⟨hg.1, killS_ok x4 x5, killF_ok x4 hg.2.2⟩
            refine Rn.step hdec hlen (r1 _ _) (noM_ok x1) (lmI_Q hc x2) ?_
            have e2 : u.1 + len = v.1 := by simp only at v2; omega
            rw [e2]
            exact go v v1 ls st' h' v4 v3 x3 (frm_tr hf x4 (by simp [hk.1])) hkp
          · split at hk
            · next k aas ar ha =>
              split at hk
              · next T hT =>
                simp only [Bool.and_eq_true, decide_eq_true_eq, beq_iff_eq] at hk
                obtain ⟨⟨⟨⟨⟨k1, k2⟩, k3⟩, k6⟩, k4⟩, k5⟩ := hk
                obtain ⟨bs, rest, e, b1, b2⟩ := aK_ok ha hg.2.1
                obtain ⟨-, -, M', -, -, -, m1, -, -, -, m2, -⟩ := lmK_of e
                obtain ⟨d, hd⟩ : ∃ d, S.2.1 = d + 1 := ⟨S.2.1 - 1, by omega⟩
                have hcall := (hS _ T hT k2 M' bs h (by rw [k1]; exact m1) hh (leAr_ok k3 b1) (pre_ok hI hh hg.2.2 k6) m2).deep (d' := d) (by omega)
                rw [hd]
                refine Rn.call hdec hlen (r1 _ _) e m1 hcall (fun r h' hq => ?_)
                obtain ⟨q1, q2, c, q3, q4⟩ := hq
                obtain ⟨j, hj⟩ := covC_ok k5 c q3
                obtain ⟨t, t1, t2⟩ := caseS_ok hI q1 q2 b1 (s := (u.2.1.1, ar, u.2.1.2.2)) (st := rest) ⟨hg.1, b2, hg.2.2⟩ q4
                obtain ⟨v, v1, v2, v3, v4⟩ := covK_ok hI (hj t t1) (ls := ls) (st := r.toList ++ rest) (hp := h') q1 t2
                have e2 : u.1 + 3 = v.1 := by omega
                rw [e2, ← hd]
                exact go v v1 ls _ h' v4 v3 q1 (frm_tr hf q2 k4) hkp
              · cases hk
            · cases hk
      · next hc =>
        split at hk
        · simp only [Bool.and_eq_true, decide_eq_true_eq, beq_iff_eq] at hk
          have hs := hg.2.1
          rw [hk.1.1] at hs
          have e0 : st = [] := by
            cases st with
            | nil => rfl
            | cons _ _ => cases hs
          subst e0
          refine Rn.ret hdec hlen (r := none) ?_ ⟨hh, hf, retOk_ok hI hk.2 hh hg.2.2 hg.1 (Or.inl ⟨rfl, rfl⟩) hkp⟩
          simp only [lmR]
          rw [if_pos hk.1.2]
        · split at hk
          · next e hst =>
            simp only [Bool.and_eq_true, Bool.or_eq_true, decide_eq_true_eq, beq_iff_eq] at hk
            have hs := hg.2.1
            rw [hst] at hs
            obtain ⟨w, s, rfl, w1, w2, w3⟩ := gS_c hs
            have e0 : s = [] := by
              cases s with
              | nil => rfl
              | cons _ _ => cases w3
            subst e0
            obtain ⟨x, rfl, x1, x2⟩ := gV_i w1 hk.1.1
            refine Rn.ret hdec hlen (r := some (.inl x)) ?_ ⟨hh, hf, retOk_ok hI hk.2 hh hg.2.2 hg.1 (Or.inr ⟨e, _, rfl, rfl, w1, w2⟩) hkp⟩
            simp only [lmR]
            rcases hk.1.2 with q | q
            · rw [if_pos q]
            · rw [if_neg (by rw [q.1.1]; decide), if_pos ⟨q.1.1, by have := x2.1; have := x2.2.1; omega⟩]
          · cases hk
        · split at hk
          · next e hst =>
            simp only [Bool.and_eq_true, decide_eq_true_eq, beq_iff_eq] at hk
            have hs := hg.2.1
            rw [hst] at hs
            obtain ⟨w, s, rfl, w1, w2, w3⟩ := gS_c hs
            have e0 : s = [] := by
              cases s with
              | nil => rfl
              | cons _ _ => cases w3
            subst e0
            have hl : isL w = true := by rw [gV_cat w1, hk.1.1]; rfl
            match w, hl, w1, w2 with
            | .inr (.inl x), _, w1, w2 =>
              refine Rn.ret hdec hlen (r := some (.inr (.inl x))) ?_ ⟨hh, hf, retOk_ok hI hk.2 hh hg.2.2 hg.1 (Or.inr ⟨e, _, rfl, rfl, w1, w2⟩) hkp⟩
              simp only [lmR]
              rw [if_pos hk.1.2]
          · cases hk
        · cases hk
      · cases hk
-- where a method begins
def alent : List AV → AL
  | [] => []
  | a :: r => if a.1 = 1 then some a :: none :: alent r else some a :: alent r
def apad (n : Nat) (als : AL) : AL := als ++ List.replicate (n - als.length) none
def posL : List AV → Nat → Nat
  | [], _ => 0
  | _ :: _, 0 => 0
  | a :: r, j + 1 => (if a.1 = 1 then 2 else 1) + posL r j
theorem aget_none (m j : Nat) : aget (List.replicate m none) j = none := by
  unfold aget
  rw [List.getElem?_replicate]
  split <;> rfl
theorem gAr_ent : ∀ {A : List AV} {as : List LV}, gAr A as → (alent A).length = (lent as).length ∧ ∀ (B : AL) (l : LL), (∀ j a, aget B j = some a → ∃ v, lget l j = some v ∧ gV a v) → ∀ (j : Nat) (a : AV), aget (alent A ++ B) j = some a → ∃ v, lget (lent as ++ l) j = some v ∧ gV a v
  | [], [], _ => ⟨rfl, fun B l h j a ha => h j a ha⟩
  | a :: A, v :: as, h => by
    obtain ⟨i1, i2⟩ := gAr_ent h.2
    have hc := gV_cat h.1
    unfold alent lent
    by_cases hq : a.1 = 1
    · have hl : isL v = true := by rw [hc, hq]; rfl
      rw [if_pos hq, if_pos hl]
      refine ⟨by simp only [List.length_cons]; omega, fun B l hB j b hb => ?_⟩
      match j, hb with
      | 0, hb => cases hb; exact ⟨v, rfl, h.1⟩
      | 1, hb => cases hb
      | j + 2, hb => exact i2 B l hB j b hb
    · have hl : ¬ isL v = true := by rw [hc]; simpa using hq
      rw [if_neg hq, if_neg hl]
      refine ⟨by simp only [List.length_cons]; omega, fun B l hB j b hb => ?_⟩
      match j, hb with
      | 0, hb => cases hb; exact ⟨v, rfl, h.1⟩
      | j + 1, hb => exact i2 B l hB j b hb
  | [], _ :: _, h => by cases h
  | _ :: _, [], h => by cases h
theorem gAr_pos : ∀ {A : List AV} {as : List LV}, gAr A as → ∀ (l : LL) (j : Nat), j < A.length → ∃ v, as[j]? = some v ∧ lget (lent as ++ l) (posL A j) = some v
  | [], _, _, _, _, hj => by cases hj
  | a :: A, v :: as, h, l, 0, hj => by
    refine ⟨v, rfl, ?_⟩
    unfold lent
    split <;> rfl
  | a :: A, v :: as, h, l, j + 1, hj => by
    obtain ⟨w, w1, w2⟩ := gAr_pos h.2 l j (by simpa using hj)
    refine ⟨w, w1, ?_⟩
    have hc := gV_cat h.1
    unfold lent posL
    by_cases hq : a.1 = 1
    · have hl : isL v = true := by rw [hc, hq]; rfl
      rw [if_pos hq, if_pos hl, Nat.add_comm]
      exact w2
    · have hl : ¬ isL v = true := by rw [hc]; simpa using hq
      rw [if_neg hq, if_neg hl, Nat.add_comm]
      exact w2
  | _ :: _, [], h, _, _, _ => by cases h
def chkS (prot : Int → Int → Int → Bool) (SMs : Nat → Option SM) (S : SM) (KP : List (Nat × Nat)) (N : List (List ND)) : Bool := match MTB S.1 with
  | some M => N.all (fun B => B.all (chkN prot SMs S M KP N)) && KP.all (fun q => decide (q.1 < S.2.2.1.length) && decide (q.2 = posL S.2.2.1 q.1)) && (match covE N 0 (apad M.2.2.1 (alent S.2.2.1), [], S.2.2.2.2.2) 0 with
    | some _ => true
    | none => false)
  | none => true
theorem ai_ok (hI : INVok INV prot) {SMs : Nat → Option SM} {S : SM} {KP : List (Nat × Nat)} {N : List (List ND)} (hS : ∀ j T, SMs j = some T → T.2.1 < S.2.1 → SMok xs xl INV T) (hC : chkS prot SMs S KP N = true) : SMok xs xl INV S := by
  intro M as h hM hh ha hpre hl
  unfold chkS at hC
  rw [hM] at hC
  simp only [Bool.and_eq_true] at hC
  obtain ⟨⟨c1, c2⟩, c3⟩ := hC
  split at c3
  · next u hu =>
    obtain ⟨g1, g2⟩ := gAr_ent ha
    have hg : gA (lpad M.2.2.1 (lent as)) [] h (apad M.2.2.1 (alent S.2.2.1), [], S.2.2.2.2.2) := by
      refine ⟨⟨?_, ?_⟩, trivial, hpre⟩
      · show (apad M.2.2.1 (alent S.2.2.1)).length = _
        unfold apad lpad
        rw [List.length_append, List.length_append, List.length_replicate, List.length_replicate, g1]
      · intro j a hj
        refine g2 _ _ (fun k b hb => ?_) j a hj
        rw [aget_none] at hb
        cases hb
    obtain ⟨v1, v2, v3⟩ := covE_ok hI hu hh hg
    have e : u.1 = 0 := by omega
    have hk : KPok KP as (lpad M.2.2.1 (lent as)) := by
      intro q hq
      have h1 := List.all_eq_true.mp c2 q hq
      simp only [Bool.and_eq_true, decide_eq_true_eq] at h1
      rw [h1.2]
      exact gAr_pos ha _ _ h1.1
    have := ai_main hI hS c1 ((mv u (lpad M.2.2.1 (lent as))).toNat + 1) u _ _ h v1 (by omega) v3 hh (fun _ _ _ => rfl) hk
    rw [e] at this
    exact this
  · cases c3
-- the same, row by row
def chkB (prot : Int → Int → Int → Bool) (SMs : Nat → Option SM) (S : SM) (KP : List (Nat × Nat)) (N : List (List ND)) (B : List ND) : Bool := match MTB S.1 with
  | some M => B.all (chkN prot SMs S M KP N)
  | none => true
def chkE (S : SM) (KP : List (Nat × Nat)) (N : List (List ND)) : Bool := match MTB S.1 with
  | some M => KP.all (fun q => decide (q.1 < S.2.2.1.length) && decide (q.2 = posL S.2.2.1 q.1)) && (match covE N 0 (apad M.2.2.1 (alent S.2.2.1), [], S.2.2.2.2.2) 0 with
    | some _ => true
    | none => false)
  | none => true
theorem alln {P : List ND → Prop} : ∀ B ∈ ([] : List (List ND)), P B := fun B hB => by cases hB
theorem allc {P : List ND → Prop} {A : List ND} {L : List (List ND)} (h : P A) (hl : ∀ B ∈ L, P B) : ∀ B ∈ A :: L, P B := fun B hB => by
  rcases List.mem_cons.mp hB with rfl | h1
  · exact h
  · exact hl B h1
theorem chkS_of {prot : Int → Int → Int → Bool} {SMs : Nat → Option SM} {S : SM} {KP : List (Nat × Nat)} {N : List (List ND)} (h1 : ∀ B ∈ N, chkB prot SMs S KP N B = true) (h2 : chkE S KP N = true) : chkS prot SMs S KP N = true := by
  unfold chkS
  unfold chkE at h2
  split
  · next M hM =>
    rw [hM] at h2
    simp only [Bool.and_eq_true] at h2 ⊢
    refine ⟨⟨List.all_eq_true.mpr (fun B hB => ?_), h2.1⟩, h2.2⟩
    have h3 := h1 B hB
    unfold chkB at h3
    rw [hM] at h3
    exact h3
  · rfl
theorem tab_ok {SMs : Nat → Option SM} (h : ∀ j S, SMs j = some S → (∀ k T, SMs k = some T → T.2.1 < S.2.1 → SMok xs xl INV T) → SMok xs xl INV S) : ∀ (d j : Nat) (S : SM), SMs j = some S → S.2.1 ≤ d → SMok xs xl INV S
  | 0, j, S, hj, hd => h j S hj (fun k T _ ht => by omega)
  | d + 1, j, S, hj, hd => h j S hj (fun k T hk ht => tab_ok h d k T hk (by omega))
end MN
