section
/-! LM, part 30: a checked method keeps its contract -/
def kpOk (KP : List (Nat × Nat)) (als : AL) (k kd : Nat) : Bool := KP.all (fun q => decide (q.2 ≠ k) && (decide (kd ≠ 1) || decide (q.2 ≠ k + 1)) && (decide (q.2 + 1 ≠ k) || match aget als q.2 with | some a => decide (a.1 ≠ 1) | none => false))
def refsS (aas : List SE) (mods : BX) : List (Nat × AV) → AS → Option AS
  | [], s => some s
  | q :: r, s => match aas[q.1]? with
    | some e => if e.2.1 = 1 ∨ (e.2.1 = 2 ∧ inBx mods e.2.2.1 e.2.2.2.1 = false) then (match meetA e.1 q.2.2.1 q.2.2.2.1 with
        | some m => refsS aas mods r (putP e.2 m s)
        | none => none) else refsS aas mods r s
    | none => refsS aas mods r s
def caseS (aas : List SE) (mods : BX) (s : AS) (c : CS) : Option AS := match refsS aas mods c.2.2.1 (s.1, killS mods s.2.1, c.2.2.2 ++ killF mods s.2.2) with
  | some t => match c.1 with
    | none => some t
    | some r => if c.2.1.1 = 2 then (match meetA r (fget t.2.2 c.2.1.2.1 c.2.1.2.2.1).2.1 (fget t.2.2 c.2.1.2.1 c.2.1.2.2.1).2.2.1 with
        | some m => some (t.1, (m, c.2.1) :: t.2.1, t.2.2)
        | none => none) else some (t.1, (r, pv0) :: t.2.1, t.2.2)
  | none => none
def covC (N : List (List ND)) (u : ND) (t : Int) (aas : List SE) (mods : BX) (s : AS) : List CS → List Nat → Bool
  | [], _ => true
  | c :: L, j :: js => (match caseS aas mods s c with
    | some s' => covK N u t s' j
    | none => true) && covC N u t aas mods s L js
  | _ :: _, [] => false
def leAr : List SE → List AV → Bool
  | [], [] => true
  | e :: r, a :: s => leA e.1 a && leAr r s
  | _, _ => false
theorem leAr_ok {ls : LL} {h : LH} : ∀ {e : List SE} {a : List AV} {v : List LV}, leAr e a = true → gS ls h e v → gAr a v
  | [], [], [], _, _ => trivial
  | e :: r, a :: s, v :: vs, hl, hs => by
    simp only [leAr, Bool.and_eq_true] at hl
    exact ⟨leA_ok hl.1 hs.1.1, leAr_ok hl.2 hs.2⟩
  | [], [], _ :: _, _, hs => by cases hs
  | _ :: _, _ :: _, [], _, hs => by cases hs
  | [], _ :: _, _, hl, _ => by cases hl
  | _ :: _, [], _, hl, _ => by cases hl
theorem gS_nth {ls : LL} {h : LH} : ∀ {a : List SE} {s : List LV} {j : Nat} {e : SE} {v : LV}, gS ls h a s → a[j]? = some e → s[j]? = some v → gV e.1 v ∧ gP ls h e.2 v
  | e :: r, v :: s, 0, _, _, hs, h1, h2 => by cases h1; cases h2; exact hs.1
  | e :: r, v :: s, j + 1, _, _, hs, h1, h2 => gS_nth hs.2 (by simpa using h1) (by simpa using h2)
  | [], _, _, _, _, _, h1, _ => by simp at h1
  | _ :: _, [], _, _, _, hs, _, _ => by cases hs
def pre (fa L : FA) : Bool := L.all (fun q => leA (fget fa q.1 q.2.1) q.2.2 && vB q.1 q.2.1)
theorem pre_ok {INV : LH → Prop} {prot : Int → Int → Int → Bool} (hI : INVok INV prot) {h : LH} (hh : INV h) {fa L : FA} (hf : gF h fa) (hp : pre fa L = true) : gF h L := by
  intro q hq
  have h1 := List.all_eq_true.mp hp q hq
  simp only [Bool.and_eq_true] at h1
  exact leA_ok h1.1 (fget_ok hI hh hf (vB_ok h1.2))
def retOk (S : SM) (KP : List (Nat × Nat)) (u : ND) (e : Option SE) : Bool := match S.2.2.2.1[u.2.2.2.2.2]? with
  | some c => (match c.1, e with
    | none, none => true
    | some a, some e => leA e.1 a && (c.2.1.1 == 0 || (c.2.1.1 == 2 && decide (c.2.1 = e.2)))
    | _, _ => false) && c.2.2.1.all (fun q => KP.any (fun p => p.1 == q.1 && (match aget u.2.1.1 p.2 with | some b => leA b q.2 | none => false))) && pre u.2.1.2.2 c.2.2.2
  | none => false
def chkN (prot : Int → Int → Int → Bool) (SMs : Nat → Option SM) (S : SM) (M : LM_M) (KP : List (Nat × Nat)) (N : List (List ND)) (u : ND) : Bool :=
  lbM u.2.2.1 u.2.2.2.1 u.2.1.1 && match decode M.2.1 u.1 with
  | .error _ => false
  | .ok (i, len) => ilen i len && match icls i with
    | 1 => (match aA i u.2.1.2.1 with
      | some st => covA N u [((u.1 : Int) + len, (u.2.1.1, st, u.2.1.2.2))] u.2.2.2.2.1
      | none => false)
    | 2 => (match aLd i u.2.1.1 with
      | some e => covA N u [((u.1 : Int) + len, (u.2.1.1, e :: u.2.1.2.1, u.2.1.2.2))] u.2.2.2.2.1
      | none => false)
    | 3 => (match aG M.2.2.2.2.1 i u.2.1.2.1 u.2.1.2.2 with
      | some L => covA N u (L.map (fun st => ((u.1 : Int) + len, (u.2.1.1, st, u.2.1.2.2)))) u.2.2.2.2.1
      | none => false)
    | 4 => (match aJ u.1 len i u.2.1 with
      | some L => covA N u L u.2.2.2.2.1
      | none => false)
    | 5 => (match i with
      | .iinc k n => (match aget u.2.1.1 k with
        | some a => if a.1 = 0 ∧ -32768 ≤ n ∧ n ≤ 32767 ∧ kpOk KP u.2.1.1 k 0 = true then (match covE N ((u.1 : Int) + len) (aput u.2.1.1 k (w0 (a.2.1 + n) (a.2.2.1 + n) a.2.2.2), killL k u.2.1.2.1, u.2.1.2.2) (u.2.2.2.2.1.getD 0 0) with
          | some v => edI u v k a n || edS u v k (w0 (a.2.1 + n) (a.2.2.1 + n) a.2.2.2)
          | none => false) else false
        | none => false)
      | _ => false)
    | 6 => (match aP M.2.2.2.2.1 i u.2.1.2.1 with
      | some (ea, ix, va, r) => stOk prot ea ix va && bxIn S.2.2.2.2.1 (boxOf ea ix) && covA N u [((u.1 : Int) + len, (u.2.1.1, killS [boxOf ea ix] r, setF ea ix va u.2.1.2.2))] u.2.2.2.2.1
      | none => false)
    | 7 => (match aC M.2.2.2.2.1 i with
      | some a => covA N u [((u.1 : Int) + len, (u.2.1.1, (a, pv0) :: u.2.1.2.1, u.2.1.2.2))] u.2.2.2.2.1
      | none => false)
    | 8 => (match u.2.1.2.1 with
      | e :: r => (match aSt i e.1 with
        | some k => if k + (if e.1.1 = 1 then 1 else 0) < u.2.1.1.length ∧ kpOk KP u.2.1.1 k e.1.1 = true then (match covE N ((u.1 : Int) + len) (aput u.2.1.1 k e.1, killL k r, u.2.1.2.2) (u.2.2.2.2.1.getD 0 0) with
          | some v => edS u v k e.1
          | none => false) else false
        | none => false)
      | [] => false)
    | 9 => (match aX M.2.2.2.2.1 i u.2.1.2.1 with
      | some st => covA N u [((u.1 : Int) + len, (u.2.1.1, st, u.2.1.2.2))] u.2.2.2.2.1
      | none => match aQ prot M.2.2.2.2.1 i u.2.1.2.1 with
        | some (ea, ix, r) => bxIn S.2.2.2.2.1 (boxOf ea ix) && covA N u [((u.1 : Int) + len, (u.2.1.1, killS [boxOf ea ix] r, killF [boxOf ea ix] u.2.1.2.2))] u.2.2.2.2.1
        | none => match aK M.2.2.2.2.1 i u.2.1.2.1 with
          | some (k, aas, ar) => (match SMs u.2.2.2.2.2 with
            | some T => T.1 == k && decide (T.2.1 < S.2.1) && leAr aas T.2.2.1 && pre u.2.1.2.2 T.2.2.2.2.2 && T.2.2.2.2.1.all (bxIn S.2.2.2.2.1) && covC N u ((u.1 : Int) + 3) aas T.2.2.2.2.1 (u.2.1.1, ar, u.2.1.2.2) T.2.2.2.1 u.2.2.2.2.1
            | none => false)
          | none => false)
    | 10 => (match i with
      | .return_ => u.2.1.2.1 == [] && decide (M.2.2.2.1 = none) && retOk S KP u none
      | .ireturn => (match u.2.1.2.1 with
        | [e] => e.1.1 == 0 && (decide (M.2.2.2.1 = some .int) || (decide (M.2.2.2.1 = some .boolean) && decide (0 ≤ e.1.2.1) && decide (e.1.2.2.1 ≤ 1))) && retOk S KP u (some e)
        | _ => false)
      | .lreturn => (match u.2.1.2.1 with
        | [e] => e.1.1 == 1 && decide (M.2.2.2.1 = some .long) && retOk S KP u (some e)
        | _ => false)
      | _ => false)
    | _ => false
section MA
variable {INV : LH → Prop} {prot : Int → Int → Int → Bool} {xs : Nat → Int} {xl : Nat}
theorem refsS_ok {ls : LL} {h h' : LH} {aas : List SE} {as : List LV} {mods : BX} (hf : frm mods h h') (ha : gS ls h aas as) : ∀ (R : List (Nat × AV)) (s : AS) (st : List LV), (∀ q ∈ R, ∃ v, as[q.1]? = some v ∧ gV q.2 v) → gA ls st h' s → ∃ t, refsS aas mods R s = some t ∧ gA ls st h' t
  | [], s, st, _, hs => ⟨s, rfl, hs⟩
  | q :: R, s, st, hq, hs => by
    have hq' := fun p hp => hq p (List.mem_cons_of_mem _ hp)
    unfold refsS
    split
    · next e he =>
      split
      · next hc =>
        obtain ⟨v, v1, v2⟩ := hq q List.mem_cons_self
        obtain ⟨g1, p1⟩ := gS_nth ha he v1
        have p2 : gP ls h' e.2 v := by
          unfold gP at p1 ⊢
          rcases hc with c1 | ⟨c1, c2⟩
          · rw [c1] at p1 ⊢; exact p1
          · rw [c1] at p1 ⊢
            simp only at p1 ⊢
            rw [hf _ _ c2]
            exact p1
        have hin : ∃ m, meetA e.1 q.2.2.1 q.2.2.2.1 = some m ∧ gV m v := by
          match v, g1, v2 with
          | .inl x, g1, v2 =>
            obtain ⟨m, m1, m2⟩ := meetA_in g1.2.2 v2.2.2.1 v2.2.2.2.1
            exact ⟨m, m1, (meetA_k m1).trans g1.1, g1.2.1, m2⟩
          | .inr (.inl x), g1, v2 =>
            obtain ⟨m, m1, m2⟩ := meetA_in g1.2.2 v2.2.2.1 v2.2.2.2.1
            exact ⟨m, m1, (meetA_k m1).trans g1.1, g1.2.1, m2⟩
          | .inr (.inr x), g1, v2 =>
            obtain ⟨m, m1, m2⟩ := meetA_in g1.2 v2.2.1 v2.2.2.1
            exact ⟨m, m1, (meetA_k m1).trans g1.1, m2⟩
        obtain ⟨m, m1, m2⟩ := hin
        rw [m1]
        exact refsS_ok hf ha R _ st hq' (putP_ok p2 m2 hs)
      · exact refsS_ok hf ha R s st hq' hs
    · exact refsS_ok hf ha R s st hq' hs
theorem caseS_ok (hI : INVok INV prot) {ls : LL} {h h' : LH} (hh : INV h') {aas : List SE} {as : List LV} {mods : BX} (hf : frm mods h h') (ha : gS ls h aas as) {s : AS} {st : List LV} (hs : gA ls st h s) {c : CS} {r : Option LV} (hc : resOk c r h' as) : ∃ t, caseS aas mods s c = some t ∧ gA ls (r.toList ++ st) h' t := by
  obtain ⟨t, t1, t2⟩ := refsS_ok hf ha c.2.2.1 (s.1, killS mods s.2.1, c.2.2.2 ++ killF mods s.2.2) st hc.2.1 ⟨hs.1, killS_ok hf hs.2.1, fun q hq => (List.mem_append.mp hq).elim (hc.2.2 q) (killF_ok hf hs.2.2 q)⟩
  unfold caseS
  rw [t1]
  simp only
  have h1 := hc.1
  split at h1
  · next e => rw [e]; exact ⟨t, rfl, t2⟩
  · next a v e =>
    rw [e]
    simp only
    split
    · next hp =>
      have hp2 : gP [] h' c.2.1 v := by
        rcases h1.2 with q | q
        · rw [hp] at q; cases q
        · exact q.2
      have hp3 : valid c.2.1.2.1 c.2.1.2.2.1 ∧ v = hval h' c.2.1.2.1 c.2.1.2.2.1 := by
        unfold gP at hp2
        rw [hp] at hp2
        exact hp2
      have hg := fget_ok hI hh t2.2.2 hp3.1
      rw [← hp3.2] at hg
      have hin : ∃ m, meetA a (fget t.2.2 c.2.1.2.1 c.2.1.2.2.1).2.1 (fget t.2.2 c.2.1.2.1 c.2.1.2.2.1).2.2.1 = some m ∧ gV m v := by
        have g1 := h1.1
        match v, g1, hg with
        | .inl x, g1, v2 =>
          obtain ⟨m, m1, m2⟩ := meetA_in g1.2.2 v2.2.2.1 v2.2.2.2.1
          exact ⟨m, m1, (meetA_k m1).trans g1.1, g1.2.1, m2⟩
        | .inr (.inl x), g1, v2 =>
          obtain ⟨m, m1, m2⟩ := meetA_in g1.2.2 v2.2.2.1 v2.2.2.2.1
          exact ⟨m, m1, (meetA_k m1).trans g1.1, g1.2.1, m2⟩
        | .inr (.inr x), g1, v2 =>
          obtain ⟨m, m1, m2⟩ := meetA_in g1.2 v2.2.1 v2.2.2.1
          exact ⟨m, m1, (meetA_k m1).trans g1.1, m2⟩
      obtain ⟨m, m1, m2⟩ := hin
      rw [m1]
      refine ⟨_, rfl, t2.1, ⟨⟨m2, ?_⟩, t2.2.1⟩, t2.2.2⟩
      unfold gP
      show (match c.2.1.1 with | 0 => True | 1 => _ | 2 => _ | 3 => _ | 4 => _ | _ => False)
      rw [hp]
      exact hp3
    · exact ⟨_, rfl, t2.1, ⟨⟨h1.1, trivial⟩, t2.2.1⟩, t2.2.2⟩
  · cases h1
theorem covC_ok {N : List (List ND)} {u : ND} {t : Int} {aas : List SE} {mods : BX} {s : AS} : ∀ {L : List CS} {js : List Nat}, covC N u t aas mods s L js = true → ∀ c ∈ L, ∃ j, ∀ s', caseS aas mods s c = some s' → covK N u t s' j = true
  | [], _, _, c, hc => by cases hc
  | d :: L, j :: js, h, c, hc => by
    simp only [covC, Bool.and_eq_true] at h
    rcases List.mem_cons.mp hc with rfl | hc
    · refine ⟨j, fun s' hs' => ?_⟩
      have h1 := h.1
      rw [hs'] at h1
      exact h1
    · exact covC_ok h.2 c hc
  | _ :: _, [], h, _, _ => by cases h
theorem retOk_ok (hI : INVok INV prot) {S : SM} {KP : List (Nat × Nat)} {u : ND} {e : Option SE} {r : Option LV} {ls : LL} {h : LH} {as : List LV} (hk : retOk S KP u e = true) (hh : INV h) (hfa : gF h u.2.1.2.2) (hl : gL u.2.1.1 ls) (he : (e = none ∧ r = none) ∨ ∃ e' v, e = some e' ∧ r = some v ∧ gV e'.1 v ∧ gP ls h e'.2 v) (hkp : ∀ q ∈ KP, ∃ v, as[q.1]? = some v ∧ lget ls q.2 = some v) : ∃ c ∈ S.2.2.2.1, resOk c r h as := by
  unfold retOk at hk
  split at hk
  · next c hc =>
    simp only [Bool.and_eq_true] at hk
    refine ⟨c, List.mem_of_getElem? hc, ?_, fun q hq => ?_, pre_ok hI hh hfa hk.2⟩
    · have h1 := hk.1.1
      split at h1
      · next e1 =>
        rcases he with ⟨-, rfl⟩ | ⟨e', v, h2, -⟩
        · rw [e1]; trivial
        · cases h2
      · next a e' e1 =>
        rcases he with ⟨h2, -⟩ | ⟨e'', v, h2, rfl, h3, h4⟩
        · cases h2
        · cases h2
          rw [e1]
          simp only [Bool.and_eq_true, Bool.or_eq_true, beq_iff_eq, decide_eq_true_eq] at h1
          refine ⟨leA_ok h1.1 h3, ?_⟩
          rcases h1.2 with q | q
          · exact Or.inl q
          · right
            refine ⟨q.1, ?_⟩
            have q1 := q.1
            rw [q.2] at q1 ⊢
            unfold gP at h4 ⊢
            rw [q1] at h4 ⊢
            exact h4
      · cases h1
    · have h2 := List.all_eq_true.mp hk.1.2 q hq
      rw [List.any_eq_true] at h2
      obtain ⟨p, p1, p2⟩ := h2
      simp only [Bool.and_eq_true, beq_iff_eq] at p2
      obtain ⟨v, v1, v2⟩ := hkp p p1
      have p3 := p2.2
      split at p3
      · next b hb =>
        obtain ⟨w, w1, w2⟩ := hl.2 p.2 b hb
        rw [v2] at w1
        cases w1
        exact ⟨v, by rw [← p2.1]; exact v1, leA_ok p3 w2⟩
      · cases p3
  · cases hk
end MA
end
section
/-! LM, part 31: the check is sound -/
theorem lmI_A {o n : Nat} {ini : Bool} {xs : Nat → Int} {xl : Nat} {i : Instr} {pc len : Nat} {ls : LL} {st st' : List LV} {h : LH} (e : lmA i st = some st') : lmI o n ini xs xl i pc len ls st h = some (pc + len, ls, st', n, h) := by
  unfold lmI
  rw [e]
theorem lmI_Ld {o n : Nat} {ini : Bool} {xs : Nat → Int} {xl : Nat} {i : Instr} {pc len : Nat} {ls : LL} {st : List LV} {v : LV} {h : LH} (hc : icls i = 2) (e : lmLd i ls = some v) : lmI o n ini xs xl i pc len ls st h = some (pc + len, ls, v :: st, n, h) := by
  unfold lmI
  rw [cls_A (by omega)]
  simp only
  rw [e]
theorem lmI_G {o n : Nat} {ini : Bool} {xs : Nat → Int} {xl : Nat} {i : Instr} {pc len : Nat} {ls : LL} {st st' : List LV} {h : LH} (hc : icls i = 3) (e : lmG o n xs xl i st h = some st') : lmI o n ini xs xl i pc len ls st h = some (pc + len, ls, st', n, h) := by
  unfold lmI
  rw [cls_A (by omega), cls_Ld (by omega)]
  simp only
  rw [e]
theorem lmI_J {o n : Nat} {ini : Bool} {xs : Nat → Int} {xl : Nat} {i : Instr} {pc len : Nat} {ls : LL} {st st' : List LV} {t : Int} {h : LH} (hc : icls i = 4) (e : lmJ i pc len st = some (t, st')) (ht : 0 ≤ t) : lmI o n ini xs xl i pc len ls st h = some (t.toNat, ls, st', n, h) := by
  unfold lmI
  rw [cls_A (by omega), cls_Ld (by omega), cls_G (by omega)]
  simp only
  rw [e]
  simp only
  rw [if_pos ht]
theorem lmI_Inc {o n : Nat} {ini : Bool} {xs : Nat → Int} {xl : Nat} {i : Instr} {pc len : Nat} {ls ls' : LL} {st : List LV} {h : LH} (hc : icls i = 5) (e : lmInc i ls = some ls') : lmI o n ini xs xl i pc len ls st h = some (pc + len, ls', st, n, h) := by
  unfold lmI
  rw [cls_A (by omega), cls_Ld (by omega), cls_G (by omega), cls_J (by omega)]
  simp only
  rw [e]
theorem lmI_P {o n : Nat} {ini : Bool} {xs : Nat → Int} {xl : Nat} {i : Instr} {pc len : Nat} {ls : LL} {st st' : List LV} {h h' : LH} (hc : icls i = 6) (e : lmP o n ini i st h = some (st', h')) : lmI o n ini xs xl i pc len ls st h = some (pc + len, ls, st', n, h') := by
  unfold lmI
  rw [cls_A (by omega), cls_Ld (by omega), cls_G (by omega), cls_J (by omega), cls_Inc (by omega)]
  simp only
  rw [e]
theorem lmI_C {o n : Nat} {ini : Bool} {xs : Nat → Int} {xl : Nat} {i : Instr} {pc len : Nat} {ls : LL} {st : List LV} {v : LV} {h : LH} (hc : icls i = 7) (e : lmC o i = some v) : lmI o n ini xs xl i pc len ls st h = some (pc + len, ls, v :: st, n, h) := by
  unfold lmI
  rw [cls_A (by omega), cls_Ld (by omega), cls_G (by omega), cls_J (by omega), cls_Inc (by omega), cls_P (by omega) (by omega)]
  simp only
  rw [e]
theorem lmI_Q {o n : Nat} {ini : Bool} {xs : Nat → Int} {xl : Nat} {i : Instr} {pc len : Nat} {ls : LL} {st st' : List LV} {h h' : LH} (hc : icls i = 9) (e : lmQ o n i st h = some (st', h')) : lmI o n ini xs xl i pc len ls st h = some (pc + len, ls, st', n, h') := by
  unfold lmI
  rw [cls_A (by omega), cls_Ld (by omega), cls_G (by omega), cls_J (by omega), cls_Inc (by omega), cls_P (by omega) (by omega), cls_C (by omega)]
  simp only
  rw [e]
theorem lmI_X {o n : Nat} {ini : Bool} {xs : Nat → Int} {xl : Nat} {i : Instr} {pc len : Nat} {ls : LL} {st st' : List LV} {h : LH} (hc : icls i = 9) (eq : lmQ o n i st h = none) (e : lmX o i st = some st') : lmI o n ini xs xl i pc len ls st h = some (pc + len, ls, st', n, h) := by
  unfold lmI
  rw [cls_A (by omega), cls_Ld (by omega), cls_G (by omega), cls_J (by omega), cls_Inc (by omega), cls_P (by omega) (by omega), cls_C (by omega), eq, cls_N (by omega)]
  simp only
  rw [e]
theorem lmI_St {o n : Nat} {ini : Bool} {xs : Nat → Int} {xl : Nat} {i : Instr} {pc len : Nat} {ls : LL} {r : List LV} {v : LV} {k : Nat} {h : LH} (hc : icls i = 8) (e : lmSt i v = some k) (hk : k + (if isL v then 1 else 0) < ls.length) : lmI o n ini xs xl i pc len ls (v :: r) h = some (pc + len, lst ls k v, r, n, h) := by
  unfold lmI
  rw [cls_A (by omega), cls_Ld (by omega), cls_G (by omega), cls_J (by omega), cls_Inc (by omega), cls_P (by omega) (by omega), cls_C (by omega), cls_Q (by omega), cls_N (by omega), cls_X (by omega)]
  simp only
  rw [e]
  simp only
  rw [if_pos hk]
def KPok (KP : List (Nat × Nat)) (as : List LV) (ls : LL) : Prop := ∀ q ∈ KP, ∃ v, as[q.1]? = some v ∧ lget ls q.2 = some v
theorem KP_lst {KP : List (Nat × Nat)} {as : List LV} {ls : LL} {als : AL} {k kd : Nat} {v : LV} (hk : kpOk KP als k kd = true) (hg : gL als ls) (hv : isL v = (kd == 1)) (h : KPok KP as ls) : KPok KP as (lst ls k v) := by
  intro q hq
  obtain ⟨w, w1, w2⟩ := h q hq
  have h1 := List.all_eq_true.mp hk q hq
  simp only [Bool.and_eq_true, Bool.or_eq_true, decide_eq_true_eq] at h1
  refine ⟨w, w1, lget_lst_ne h1.1.1 w2 (fun e => ?_) (fun e => ?_)⟩
  · rcases h1.2 with q | q
    · exact absurd e q
    · split at q
      · next a ha =>
        obtain ⟨x, x1, x2⟩ := hg.2 _ _ ha
        rw [w2] at x1
        cases x1
        rw [gV_cat x2]
        simpa using q
      · cases q
  · rcases h1.1.2 with q | q
    · have := e.2
      rw [hv] at this
      exact q (by simpa using this)
    · exact q e.1
section MN
variable {INV : LH → Prop} {prot : Int → Int → Int → Bool} {xs : Nat → Int} {xl : Nat}
set_option maxHeartbeats 8000000 in
theorem ai_main (hI : INVok INV prot) {SMs : Nat → Option SM} {S : SM} {M : LM_M} {KP : List (Nat × Nat)} {N : List (List ND)} {as : List LV} {h0 : LH} (hS : ∀ j T, SMs j = some T → T.2.1 < S.2.1 → SMok xs xl INV T) (hC : N.all (fun B => B.all (chkN prot SMs S M KP N)) = true) : ∀ (n : Nat) (u : ND) (ls : LL) (st : List LV) (h : LH), u ∈ N.flatten → (mv u ls).toNat < n → gA ls st h u.2.1 → INV h → frm S.2.2.2.2.1 h0 h → KPok KP as ls → Rn xs xl S.2.1 M u.1 ls st h (fun r h' => INV h' ∧ frm S.2.2.2.2.1 h0 h' ∧ ∃ c ∈ S.2.2.2.1, resOk c r h' as) := by
  have hC : ∀ v ∈ N.flatten, chkN prot SMs S M KP N v = true := by
    intro v hv
    obtain ⟨B, b1, b2⟩ := List.mem_flatten.mp hv
    exact List.all_eq_true.mp (List.all_eq_true.mp hC B b1) v b2
  intro n
  induction n with
  | zero => intro u ls st h _ hm; omega
  | succ n ih =>
    intro u ls st h hu hm hg hh hf hkp
    have lb : ∀ v ∈ N.flatten, ∀ ls', gL v.2.1.1 ls' → 0 ≤ mv v ls' := by
      intro v hv ls' hl
      have h1 := hC v hv
      unfold chkN at h1
      rw [Bool.and_eq_true] at h1
      exact lbM_ok h1.1 (gL_r hl)
    have hm0 := lb u hu ls hg.1
    have go : ∀ v ∈ N.flatten, ∀ ls' st' h', mv v ls' < mv u ls → gA ls' st' h' v.2.1 → INV h' → frm S.2.2.2.2.1 h0 h' → KPok KP as ls' → Rn xs xl S.2.1 M v.1 ls' st' h' (fun r h' => INV h' ∧ frm S.2.2.2.2.1 h0 h' ∧ ∃ c ∈ S.2.2.2.1, resOk c r h' as) := fun v hv ls' st' h' h1 h2 h3 h4 h5 => ih v ls' st' h' hv (by have := lb v hv ls' h2.1; omega) h2 h3 h4 h5
    have hk := hC u hu
    unfold chkN at hk
    rw [Bool.and_eq_true] at hk
    have hk := hk.2
    split at hk
    · cases hk
    · next i len hdec =>
      rw [Bool.and_eq_true] at hk
      obtain ⟨hlen, hk⟩ := hk
      split at hk
      · next hc =>
        obtain ⟨r1, r2⟩ := cls_noRK (i := i) (by omega) (by omega)
        split at hk
        · next st2 ha =>
          obtain ⟨st', e, hs'⟩ := aA_ok (h := h) ha hg.2.1
          obtain ⟨v, v1, v2, v3, v4⟩ := covA_ok hI hk _ List.mem_cons_self (ls := ls) (st := st') (hp := h) hh ⟨hg.1, hs', hg.2.2⟩
          refine Rn.step hdec hlen (r1 _ _) (r2 _ _ _) (lmI_A e) ?_
          have e2 : u.1 + len = v.1 := by simp only at v2; omega
          rw [e2]
          exact go v v1 ls st' h v4 v3 hh hf hkp
        · cases hk
      · next hc =>
        obtain ⟨r1, r2⟩ := cls_noRK (i := i) (by omega) (by omega)
        split at hk
        · next se ha =>
          obtain ⟨w, e, hs', hp'⟩ := aLd_ok (h := h) ha hg.1
          obtain ⟨v, v1, v2, v3, v4⟩ := covA_ok hI hk _ List.mem_cons_self (ls := ls) (st := w :: st) (hp := h) hh ⟨hg.1, ⟨⟨hs', hp'⟩, hg.2.1⟩, hg.2.2⟩
          refine Rn.step hdec hlen (r1 _ _) (r2 _ _ _) (lmI_Ld hc e) ?_
          have e2 : u.1 + len = v.1 := by simp only at v2; omega
          rw [e2]
          exact go v v1 ls (w :: st) h v4 v3 hh hf hkp
        · cases hk
      · next hc =>
        obtain ⟨r1, r2⟩ := cls_noRK (i := i) (by omega) (by omega)
        split at hk
        · next L ha =>
          obtain ⟨st', e, q, q1, q2⟩ := aG_ok (xs := xs) (xl := xl) hI hh hg.2.2 ha hg.2.1
          obtain ⟨v, v1, v2, v3, v4⟩ := covA_ok hI hk _ (List.mem_map_of_mem q1) (ls := ls) (st := st') (hp := h) hh ⟨hg.1, q2, hg.2.2⟩
          refine Rn.step hdec hlen (r1 _ _) (r2 _ _ _) (lmI_G hc e) ?_
          have e2 : u.1 + len = v.1 := by simp only at v2; omega
          rw [e2]
          exact go v v1 ls st' h v4 v3 hh hf hkp
        · cases hk
      · next hc =>
        obtain ⟨r1, r2⟩ := cls_noRK (i := i) (by omega) (by omega)
        split at hk
        · next L ha =>
          obtain ⟨t, st', e, q, q1, q2, q3⟩ := aJ_ok hI hh ha hg
          obtain ⟨v, v1, v2, v3, v4⟩ := covA_ok hI hk q q1 (ls := ls) (st := st') (hp := h) hh q3
          refine Rn.step hdec hlen (r1 _ _) (r2 _ _ _) (lmI_J hc e (by omega)) ?_
          have e2 : t.toNat = v.1 := by omega
          rw [e2]
          exact go v v1 ls st' h v4 v3 hh hf hkp
        · cases hk
      · next hc =>
        obtain ⟨r1, r2⟩ := cls_noRK (i := i) (by omega) (by omega)
        split at hk
        · next k m =>
          split at hk
          · next a ha =>
            split at hk
            · next hcc =>
              obtain ⟨c1, c2, c3, c4⟩ := hcc
              split at hk
              · next v hv =>
                obtain ⟨w, w1, w2⟩ := hg.1.2 k a ha
                obtain ⟨x, rfl, x1, x2⟩ := gV_i w2 c1
                have hwv : gV (w0 (a.2.1 + m) (a.2.2.1 + m) a.2.2.2) (.inl (w32 (x + m))) := w0_ok (by have := x2.1; omega) (by have := x2.2.1; omega) (by have := x2.2.2; rw [show x + m - (a.2.1 + m) = x - a.2.1 by omega]; exact this)
                have hkl : k + (if isL (.inl (w32 (x + m))) then 1 else 0) < ls.length := by
                  have := lget_lt w1
                  simpa [isL] using this
                obtain ⟨v1, v2, v3⟩ := covE_ok hI hv (ls := lst ls k (.inl (w32 (x + m)))) (st := st) (hp := h) hh ⟨gL_put hg.1 hwv hkl, killL_ok hg.2.1, hg.2.2⟩
                have hd : mv v (lst ls k (.inl (w32 (x + m)))) < mv u ls := by
                  rw [Bool.or_eq_true] at hk
                  rcases hk with hk | hk
                  · exact edI_ok hk hg.1 w1 x2
                  · exact edS_ok hk hg.1 hwv hkl
                have e : lmInc (.iinc k m) ls = some (lst ls k (.inl (w32 (x + m)))) := by
                  simp only [lmInc]
                  rw [w1]
                  simp only
                  rw [if_pos ⟨c2, c3⟩]
                refine Rn.step hdec hlen (r1 _ _) (r2 _ _ _) (lmI_Inc hc e) ?_
                have e2 : u.1 + len = v.1 := by omega
                rw [e2]
                exact go v v1 _ st h hd v3 hh hf (KP_lst c4 hg.1 rfl hkp)
              · cases hk
            · cases hk
          · cases hk
        · cases hk
      · next hc =>
        obtain ⟨r1, r2⟩ := cls_noRK (i := i) (by omega) (by omega)
        split at hk
        · next ea ix va r ha =>
          simp only [Bool.and_eq_true] at hk
          obtain ⟨⟨k1, k2⟩, k3⟩ := hk
          obtain ⟨a, j, z, s, e, a1, a2, a3, a4, a5⟩ := aP_ok (ini := (M.1.name == "<init>")) ha hg.2.1
          have hfr : frm [boxOf ea ix] h (wr h a j z) := frm_wr a1 a2
          have hh' : INV (wr h a j z) := stOk_ok hI hh k1 a1 a2 a3 a4
          obtain ⟨v, v1, v2, v3, v4⟩ := covA_ok hI k3 _ List.mem_cons_self (ls := ls) (st := s) (hp := wr h a j z) hh' ⟨hg.1, killS_ok hfr a5, setF_ok a1 a2 a4 hg.2.2⟩
          refine Rn.step hdec hlen (r1 _ _) (r2 _ _ _) (lmI_P hc e) ?_
          have e2 : u.1 + len = v.1 := by simp only at v2; omega
          rw [e2]
          exact go v v1 ls s _ v4 v3 hh' (frm_tr hf hfr (by simp [k2])) hkp
        · cases hk
      · next hc =>
        obtain ⟨r1, r2⟩ := cls_noRK (i := i) (by omega) (by omega)
        split at hk
        · next a ha =>
          obtain ⟨w, e, w1⟩ := aC_ok ha
          obtain ⟨v, v1, v2, v3, v4⟩ := covA_ok hI hk _ List.mem_cons_self (ls := ls) (st := w :: st) (hp := h) hh ⟨hg.1, gS_p w1 hg.2.1, hg.2.2⟩
          refine Rn.step hdec hlen (r1 _ _) (r2 _ _ _) (lmI_C hc e) ?_
          have e2 : u.1 + len = v.1 := by simp only at v2; omega
          rw [e2]
          exact go v v1 ls (w :: st) h v4 v3 hh hf hkp
        · cases hk
      · next hc =>
        obtain ⟨r1, r2⟩ := cls_noRK (i := i) (by omega) (by omega)
        split at hk
        · next e r hst =>
          split at hk
          · next k ha =>
            by_cases hcc : k + (if e.1.1 = 1 then 1 else 0) < u.2.1.1.length ∧ kpOk KP u.2.1.1 k e.1.1 = true
            · rw [if_pos hcc] at hk
              split at hk
              · next v hv =>
                have hg2 := hg.2.1
                rw [hst] at hg2
                obtain ⟨w, s, rfl, w1, -, w3⟩ := gS_c hg2
                have hkl : k + (if isL w then 1 else 0) < ls.length := by
                  have h1 := hcc.1
                  rw [hg.1.1] at h1
                  have h2 := gV_cat w1
                  by_cases hq : e.1.1 = 1
                  · rw [if_pos hq] at h1
                    rw [if_pos (by rw [h2, hq]; rfl)]
                    exact h1
                  · rw [if_neg hq] at h1
                    rw [if_neg (by rw [h2]; simpa using hq)]
                    exact h1
                obtain ⟨v1, v2, v3⟩ := covE_ok hI hv (ls := lst ls k w) (st := s) (hp := h) hh ⟨gL_put hg.1 w1 hkl, killL_ok w3, hg.2.2⟩
                refine Rn.step hdec hlen (r1 _ _) (r2 _ _ _) (lmI_St hc (aSt_ok ha w1) hkl) ?_
                have e2 : u.1 + len = v.1 := by omega
                rw [e2]
                exact go v v1 _ s h (edS_ok hk hg.1 w1 hkl) v3 hh hf (KP_lst hcc.2 hg.1 (gV_cat w1) hkp)
              · cases hk
            · rw [if_neg hcc] at hk
              cases hk
          · cases hk
        · cases hk
      · next hc =>
        have r1 := cls_R hc
        split at hk
        · next st2 ha =>
          obtain ⟨x, st', rfl, x1, x2, x3, x4⟩ := aX_ok ha hg.2.1
          obtain ⟨v, v1, v2, v3, v4⟩ := covA_ok hI hk _ List.mem_cons_self (ls := ls) (st := st') (hp := h) hh ⟨hg.1, x4, hg.2.2⟩
          refine Rn.step hdec hlen (r1 _ _) (noM_ok x1) (lmI_X hc x2 x3) ?_
          have e2 : u.1 + len = v.1 := by simp only at v2; omega
          rw [e2]
          exact go v v1 ls st' h v4 v3 hh hf hkp
        · split at hk
          · next ea ix r ha =>
            rw [Bool.and_eq_true] at hk
            obtain ⟨x, st', h', rfl, x1, x2, x3, x4, x5⟩ := aQ_ok hI hh ha hg.2.1
            obtain ⟨v, v1, v2, v3, v4⟩ := covA_ok hI hk.2 _ List.mem_cons_self (ls := ls) (st := st') (hp := h') x3 ⟨hg.1, killS_ok x4 x5, killF_ok x4 hg.2.2⟩
            refine Rn.step hdec hlen (r1 _ _) (noM_ok x1) (lmI_Q hc x2) ?_
            have e2 : u.1 + len = v.1 := by simp only at v2; omega
            rw [e2]
            exact go v v1 ls st' h' v4 v3 x3 (frm_tr hf x4 (by simp [hk.1])) hkp
          · split at hk
            · next k aas ar ha =>
              split at hk
              · next T hT =>
                simp only [Bool.and_eq_true, decide_eq_true_eq, beq_iff_eq] at hk
                obtain ⟨⟨⟨⟨⟨k1, k2⟩, k3⟩, k6⟩, k4⟩, k5⟩ := hk
                obtain ⟨bs, rest, e, b1, b2⟩ := aK_ok ha hg.2.1
                obtain ⟨-, -, M', -, -, -, m1, -, -, -, m2, -⟩ := lmK_of e
                obtain ⟨d, hd⟩ : ∃ d, S.2.1 = d + 1 := ⟨S.2.1 - 1, by omega⟩
                have hcall := (hS _ T hT k2 M' bs h (by rw [k1]; exact m1) hh (leAr_ok k3 b1) (pre_ok hI hh hg.2.2 k6) m2).deep (d' := d) (by omega)
                rw [hd]
                refine Rn.call hdec hlen (r1 _ _) e m1 hcall (fun r h' hq => ?_)
                obtain ⟨q1, q2, c, q3, q4⟩ := hq
                obtain ⟨j, hj⟩ := covC_ok k5 c q3
                obtain ⟨t, t1, t2⟩ := caseS_ok hI q1 q2 b1 (s := (u.2.1.1, ar, u.2.1.2.2)) (st := rest) ⟨hg.1, b2, hg.2.2⟩ q4
                obtain ⟨v, v1, v2, v3, v4⟩ := covK_ok hI (hj t t1) (ls := ls) (st := r.toList ++ rest) (hp := h') q1 t2
                have e2 : u.1 + 3 = v.1 := by omega
                rw [e2, ← hd]
                exact go v v1 ls _ h' v4 v3 q1 (frm_tr hf q2 k4) hkp
              · cases hk
            · cases hk
      · next hc =>
        split at hk
        · simp only [Bool.and_eq_true, decide_eq_true_eq, beq_iff_eq] at hk
          have hs := hg.2.1
          rw [hk.1.1] at hs
          have e0 : st = [] := by
            cases st with
            | nil => rfl
            | cons _ _ => cases hs
          subst e0
          refine Rn.ret hdec hlen (r := none) ?_ ⟨hh, hf, retOk_ok hI hk.2 hh hg.2.2 hg.1 (Or.inl ⟨rfl, rfl⟩) hkp⟩
          simp only [lmR]
          rw [if_pos hk.1.2]
        · split at hk
          · next e hst =>
            simp only [Bool.and_eq_true, Bool.or_eq_true, decide_eq_true_eq, beq_iff_eq] at hk
            have hs := hg.2.1
            rw [hst] at hs
            obtain ⟨w, s, rfl, w1, w2, w3⟩ := gS_c hs
            have e0 : s = [] := by
              cases s with
              | nil => rfl
              | cons _ _ => cases w3
            subst e0
            obtain ⟨x, rfl, x1, x2⟩ := gV_i w1 hk.1.1
            refine Rn.ret hdec hlen (r := some (.inl x)) ?_ ⟨hh, hf, retOk_ok hI hk.2 hh hg.2.2 hg.1 (Or.inr ⟨e, _, rfl, rfl, w1, w2⟩) hkp⟩
            simp only [lmR]
            rcases hk.1.2 with q | q
            · rw [if_pos q]
            · rw [if_neg (by rw [q.1.1]; decide), if_pos ⟨q.1.1, by have := x2.1; have := x2.2.1; omega⟩]
          · cases hk
        · split at hk
          · next e hst =>
            simp only [Bool.and_eq_true, decide_eq_true_eq, beq_iff_eq] at hk
            have hs := hg.2.1
            rw [hst] at hs
            obtain ⟨w, s, rfl, w1, w2, w3⟩ := gS_c hs
            have e0 : s = [] := by
              cases s with
              | nil => rfl
              | cons _ _ => cases w3
            subst e0
            have hl : isL w = true := by rw [gV_cat w1, hk.1.1]; rfl
            match w, hl, w1, w2 with
            | .inr (.inl x), _, w1, w2 =>
              refine Rn.ret hdec hlen (r := some (.inr (.inl x))) ?_ ⟨hh, hf, retOk_ok hI hk.2 hh hg.2.2 hg.1 (Or.inr ⟨e, _, rfl, rfl, w1, w2⟩) hkp⟩
              simp only [lmR]
              rw [if_pos hk.1.2]
          · cases hk
        · cases hk
      · cases hk
-- where a method begins
def alent : List AV → AL
  | [] => []
  | a :: r => if a.1 = 1 then some a :: none :: alent r else some a :: alent r
def apad (n : Nat) (als : AL) : AL := als ++ List.replicate (n - als.length) none
def posL : List AV → Nat → Nat
  | [], _ => 0
  | _ :: _, 0 => 0
  | a :: r, j + 1 => (if a.1 = 1 then 2 else 1) + posL r j
theorem aget_none (m j : Nat) : aget (List.replicate m none) j = none := by
  unfold aget
  rw [List.getElem?_replicate]
  split <;> rfl
theorem gAr_ent : ∀ {A : List AV} {as : List LV}, gAr A as → (alent A).length = (lent as).length ∧ ∀ (B : AL) (l : LL), (∀ j a, aget B j = some a → ∃ v, lget l j = some v ∧ gV a v) → ∀ (j : Nat) (a : AV), aget (alent A ++ B) j = some a → ∃ v, lget (lent as ++ l) j = some v ∧ gV a v
  | [], [], _ => ⟨rfl, fun B l h j a ha => h j a ha⟩
  | a :: A, v :: as, h => by
    obtain ⟨i1, i2⟩ := gAr_ent h.2
    have hc := gV_cat h.1
    unfold alent lent
    by_cases hq : a.1 = 1
    · have hl : isL v = true := by rw [hc, hq]; rfl
      rw [if_pos hq, if_pos hl]
      refine ⟨by simp only [List.length_cons]; omega, fun B l hB j b hb => ?_⟩
      match j, hb with
      | 0, hb => cases hb; exact ⟨v, rfl, h.1⟩
      | 1, hb => cases hb
      | j + 2, hb => exact i2 B l hB j b hb
    · have hl : ¬ isL v = true := by rw [hc]; simpa using hq
      rw [if_neg hq, if_neg hl]
      refine ⟨by simp only [List.length_cons]; omega, fun B l hB j b hb => ?_⟩
      match j, hb with
      | 0, hb => cases hb; exact ⟨v, rfl, h.1⟩
      | j + 1, hb => exact i2 B l hB j b hb
  | [], _ :: _, h => by cases h
  | _ :: _, [], h => by cases h
theorem gAr_pos : ∀ {A : List AV} {as : List LV}, gAr A as → ∀ (l : LL) (j : Nat), j < A.length → ∃ v, as[j]? = some v ∧ lget (lent as ++ l) (posL A j) = some v
  | [], _, _, _, _, hj => by cases hj
  | a :: A, v :: as, h, l, 0, hj => by
    refine ⟨v, rfl, ?_⟩
    unfold lent
    split <;> rfl
  | a :: A, v :: as, h, l, j + 1, hj => by
    obtain ⟨w, w1, w2⟩ := gAr_pos h.2 l j (by simpa using hj)
    refine ⟨w, w1, ?_⟩
    have hc := gV_cat h.1
    unfold lent posL
    by_cases hq : a.1 = 1
    · have hl : isL v = true := by rw [hc, hq]; rfl
      rw [if_pos hq, if_pos hl, Nat.add_comm]
      exact w2
    · have hl : ¬ isL v = true := by rw [hc]; simpa using hq
      rw [if_neg hq, if_neg hl, Nat.add_comm]
      exact w2
  | _ :: _, [], h, _, _, _ => by cases h
def chkS (prot : Int → Int → Int → Bool) (SMs : Nat → Option SM) (S : SM) (KP : List (Nat × Nat)) (N : List (List ND)) : Bool := match MTB S.1 with
  | some M => N.all (fun B => B.all (chkN prot SMs S M KP N)) && KP.all (fun q => decide (q.1 < S.2.2.1.length) && decide (q.2 = posL S.2.2.1 q.1)) && (match covE N 0 (apad M.2.2.1 (alent S.2.2.1), [], S.2.2.2.2.2) 0 with
    | some _ => true
    | none => false)
  | none => true
theorem ai_ok (hI : INVok INV prot) {SMs : Nat → Option SM} {S : SM} {KP : List (Nat × Nat)} {N : List (List ND)} (hS : ∀ j T, SMs j = some T → T.2.1 < S.2.1 → SMok xs xl INV T) (hC : chkS prot SMs S KP N = true) : SMok xs xl INV S := by
  intro M as h hM hh ha hpre hl
  unfold chkS at hC
  rw [hM] at hC
  simp only [Bool.and_eq_true] at hC
  obtain ⟨⟨c1, c2⟩, c3⟩ := hC
  split at c3
  · next u hu =>
    obtain ⟨g1, g2⟩ := gAr_ent ha
    have hg : gA (lpad M.2.2.1 (lent as)) [] h (apad M.2.2.1 (alent S.2.2.1), [], S.2.2.2.2.2) := by
      refine ⟨⟨?_, ?_⟩, trivial, hpre⟩
      · show (apad M.2.2.1 (alent S.2.2.1)).length = _
        unfold apad lpad
        rw [List.length_append, List.length_append, List.length_replicate, List.length_replicate, g1]
      · intro j a hj
        refine g2 _ _ (fun k b hb => ?_) j a hj
        rw [aget_none] at hb
        cases hb
    obtain ⟨v1, v2, v3⟩ := covE_ok hI hu hh hg
    have e : u.1 = 0 := by omega
    have hk : KPok KP as (lpad M.2.2.1 (lent as)) := by
      intro q hq
      have h1 := List.all_eq_true.mp c2 q hq
      simp only [Bool.and_eq_true, decide_eq_true_eq] at h1
      rw [h1.2]
      exact gAr_pos ha _ _ h1.1
    have := ai_main hI hS c1 ((mv u (lpad M.2.2.1 (lent as))).toNat + 1) u _ _ h v1 (by omega) v3 hh (fun _ _ _ => rfl) hk
    rw [e] at this
    exact this
  · cases c3
-- the same, row by row
def chkB (prot : Int → Int → Int → Bool) (SMs : Nat → Option SM) (S : SM) (KP : List (Nat × Nat)) (N : List (List ND)) (B : List ND) : Bool := match MTB S.1 with
  | some M => B.all (chkN prot SMs S M KP N)
  | none => true
def chkE (S : SM) (KP : List (Nat × Nat)) (N : List (List ND)) : Bool := match MTB S.1 with
  | some M => KP.all (fun q => decide (q.1 < S.2.2.1.length) && decide (q.2 = posL S.2.2.1 q.1)) && (match covE N 0 (apad M.2.2.1 (alent S.2.2.1), [], S.2.2.2.2.2) 0 with
    | some _ => true
    | none => false)
  | none => true
theorem alln {P : List ND → Prop} : ∀ B ∈ ([] : List (List ND)), P B := fun B hB => by cases hB
theorem allc {P : List ND → Prop} {A : List ND} {L : List (List ND)} (h : P A) (hl : ∀ B ∈ L, P B) : ∀ B ∈ A :: L, P B := fun B hB => by
  rcases List.mem_cons.mp hB with rfl | h1
  · exact h
  · exact hl B h1
theorem chkS_of {prot : Int → Int → Int → Bool} {SMs : Nat → Option SM} {S : SM} {KP : List (Nat × Nat)} {N : List (List ND)} (h1 : ∀ B ∈ N, chkB prot SMs S KP N B = true) (h2 : chkE S KP N = true) : chkS prot SMs S KP N = true := by
  unfold chkS
  unfold chkE at h2
  split
  · next M hM =>
    rw [hM] at h2
    simp only [Bool.and_eq_true] at h2 ⊢
    refine ⟨⟨List.all_eq_true.mpr (fun B hB => ?_), h2.1⟩, h2.2⟩
    have h3 := h1 B hB
    unfold chkB at h3
    rw [hM] at h3
    exact h3
  · rfl
theorem tab_ok {SMs : Nat → Option SM} (h : ∀ j S, SMs j = some S → (∀ k T, SMs k = some T → T.2.1 < S.2.1 → SMok xs xl INV T) → SMok xs xl INV S) : ∀ (d j : Nat) (S : SM), SMs j = some S → S.2.1 ≤ d → SMok xs xl INV S
  | 0, j, S, hj, hd => h j S hj (fun k T _ ht => by omega)
  | d + 1, j, S, hj, hd => h j S hj (fun k T hk ht => tab_ok h d k T hk (by omega))
end MN
end
section
/-! LM, part 33: the invariant of both objects: every place within its bounds, and what the protected places say together -/
/-- places that the invariant tells together: goer, goneBy of the class's six memories; the reference's end of the tokens, quarter, law, lines, marks, undos, where all are -/
def sens (b j : Int) : Prop := b = 63 ∨ b = 64 ∨ b = 71 ∨ b = 72 ∨ b = 106 ∨ b = 107 ∨ b = 114 ∨ b = 115 ∨ b = 122 ∨ b = 123 ∨ b = 130 ∨ b = 131 ∨ (b = 184 ∧ j = 1000) ∨ (b = 188 ∧ 0 ≤ j ∧ j < 150) ∨ (b = 189 ∧ j ≤ 1000) ∨ (b = 190 ∧ j ≤ 1000) ∨ (b = 195 ∧ 1 ≤ j ∧ j ≤ 48) ∨ b = 199 ∨ b = 200 ∨ (b = 182 ∧ j = 25) ∨ (b = 198 ∧ 0 ≤ j ∧ j ≤ 1407 ∧ 2 ≤ j % 70 ∧ j % 70 ≤ 7)
/-- whether one of the places lo .. hi of a cell is protected -/
def prot (a lo hi : Int) : Bool := [63, 64, 71, 72, 106, 107, 114, 115, 122, 123, 130, 131, 184, 188, 189, 190, 195, 199, 200].any (fun b => b == a) || (a == 182 && decide (lo ≤ 25) && decide (25 ≤ hi)) || (a == 198 && (List.range 21).any (fun k => decide (lo ≤ 70 * (k : Int) + 7) && decide (70 * (k : Int) + 2 ≤ hi)))
theorem prot_sub {a lo hi i : Int} (h : prot a lo hi = false) (h0 : lo ≤ i) (h1 : i ≤ hi) : prot a i i = false := by
  unfold prot at h ⊢
  simp only [Bool.or_eq_false_iff, Bool.and_eq_false_iff, decide_eq_false_iff_not, List.any_eq_false, Bool.and_eq_true, decide_eq_true_eq] at h ⊢
  refine ⟨⟨h.1.1, ?_⟩, ?_⟩
  · rcases h.1.2 with (q | q) | q
    · exact Or.inl (Or.inl q)
    · exact Or.inl (Or.inr (by omega))
    · exact Or.inr (by omega)
  · rcases h.2 with q | q
    · exact Or.inl q
    · exact Or.inr (fun k hk => by have := q k hk; omega)
theorem sens_prot {b j : Int} (h : sens b j) : prot b j j = true := by
  cases hq : prot b j j with
  | true => rfl
  | false =>
    exfalso
    unfold prot at hq
    simp only [Bool.or_eq_false_iff, Bool.and_eq_false_iff, decide_eq_false_iff_not, List.any_eq_false, Bool.and_eq_true, decide_eq_true_eq, beq_iff_eq, beq_eq_false_iff_ne, List.mem_cons, List.not_mem_nil, or_false, forall_eq_or_imp, forall_eq, ne_eq] at hq
    unfold sens at h
    obtain ⟨⟨q1, q2⟩, q3⟩ := hq
    by_cases e : b = 198 ∧ 0 ≤ j ∧ j ≤ 1407 ∧ 2 ≤ j % 70 ∧ j % 70 ≤ 7
    · rcases q3 with q3 | q3
      · exact q3 e.1
      · have := q3 (j / 70).toNat (List.mem_range.mpr (by omega))
        omega
    · omega
def RNG (h : LH) : Prop := ∀ a i, valid a i → gV (hav a i) (hval h a i)
theorem RNG_wr {h : LH} (hr : RNG h) {a i v : Int} (hv : gV (hav a i) (mkv (lkd a i) v)) : RNG (wr h a i v) := by
  intro b j hb
  unfold hval
  rw [rd_wr]
  split
  · next e =>
    obtain ⟨rfl, rfl⟩ := e
    exact hv
  · exact hr b j hb
/-- the day's lines: who goes goes by a door -/
def linesOk (h : LH) (a b : Int) : Prop := ∀ i : Int, 0 ≤ rd h a i → 0 ≤ rd h b i
/-- the reference's lines: pairs from place o on -/
def pairsOk (h : LH) (a o : Int) : Prop := ∀ k : Int, 0 ≤ k → k < 24 → 0 ≤ rd h a (o + 2 * k) → 0 ≤ rd h a (o + 2 * k + 1)
def SPlines (h : LH) : Prop := linesOk h 63 64 ∧ linesOk h 71 72 ∧ linesOk h 106 107 ∧ linesOk h 114 115 ∧ linesOk h 122 123 ∧ linesOk h 130 131 ∧ pairsOk h 195 1 ∧ ∀ m : Int, 0 ≤ m → m < 4 → pairsOk h 200 (50 * m + 1)
/-- the reference's law: a row of codes that is one expression, from place i to place j -/
def seg (op ar : Int → Int) (i j : Int) : Prop := ∀ R : Int → Int → Prop, (∀ p, op p = 1 → R p (p + 1)) → (∀ p, op p = 2 → 0 ≤ ar p → ar p ≤ 3 → R p (p + 1)) → (∀ p q, R p q → op q = 3 → R p (q + 1)) → (∀ p q r, R p q → R q r → 4 ≤ op r → op r ≤ 10 → R p (r + 1)) → R i j
theorem seg_num {op ar : Int → Int} {p : Int} (h : op p = 1) : seg op ar p (p + 1) := fun R r1 _ _ _ => r1 p h
theorem seg_fact {op ar : Int → Int} {p : Int} (h : op p = 2) (h0 : 0 ≤ ar p) (h1 : ar p ≤ 3) : seg op ar p (p + 1) := fun R _ r2 _ _ => r2 p h h0 h1
theorem seg_not {op ar : Int → Int} {p q : Int} (h : seg op ar p q) (h1 : op q = 3) : seg op ar p (q + 1) := fun R r1 r2 r3 r4 => r3 p q (h R r1 r2 r3 r4) h1
theorem seg_bin {op ar : Int → Int} {p q r : Int} (h : seg op ar p q) (h2 : seg op ar q r) (h0 : 4 ≤ op r) (h1 : op r ≤ 10) : seg op ar p (r + 1) := fun R r1 r2 r3 r4 => r4 p q r (h R r1 r2 r3 r4) (h2 R r1 r2 r3 r4) h0 h1
theorem seg_lt {op ar : Int → Int} {p q : Int} (h : seg op ar p q) : p < q := h (fun i j => i < j) (fun p _ => by omega) (fun p _ _ _ => by omega) (fun p q h _ => by omega) (fun p q r h1 h2 _ _ => by omega)
/-- it lies within its own places -/
theorem seg_of {op ar op' ar' : Int → Int} {i j d : Int} (h : seg op ar i j) (e : ∀ k, i ≤ k → k < j → op' (k + d) = op k ∧ ar' (k + d) = ar k) : seg op' ar' (i + d) (j + d) := by
  have key := h (fun i j => i < j ∧ ((∀ k, i ≤ k → k < j → op' (k + d) = op k ∧ ar' (k + d) = ar k) → seg op' ar' (i + d) (j + d)))
    (fun p hp => ⟨by omega, fun e => by rw [show p + 1 + d = p + d + 1 by omega]; exact seg_num ((e p (by omega) (by omega)).1.trans hp)⟩)
    (fun p hp h0 h1 => ⟨by omega, fun e => by rw [show p + 1 + d = p + d + 1 by omega]; have q := e p (by omega) (by omega); exact seg_fact (q.1.trans hp) (by rw [q.2]; exact h0) (by rw [q.2]; exact h1)⟩)
    (fun p q hq h1 => ⟨by omega, fun e => by rw [show q + 1 + d = q + d + 1 by omega]; exact seg_not (hq.2 (fun k k1 k2 => e k k1 (by omega))) ((e q (by omega) (by omega)).1.trans h1)⟩)
    (fun p q r hq hr h0 h1 => ⟨by omega, fun e => by rw [show r + 1 + d = r + d + 1 by omega]; have x := (e r (by omega) (by omega)).1; exact seg_bin (hq.2 (fun k k1 k2 => e k k1 (by omega))) (hr.2 (fun k k1 k2 => e k (by omega) (by omega))) (by rw [x]; exact h0) (by rw [x]; exact h1)⟩)
  exact key.2 e
def lawOk (op ar : Int → Int) : Prop := ∃ n, n ≤ 1000 ∧ seg op ar 0 n ∧ op n = 0
def SPlaw (h : LH) : Prop := rd h 188 3 = 0 → lawOk (rd h 189) (rd h 190)
/-- the tokens end -/
def SPtok (h : LH) : Prop := rd h 184 1000 = 0
/-- doors lead to rooms, homes are rooms -/
def SPq (h : LH) : Prop := (∀ d, 0 ≤ d → d ≤ 13 → d < rd h 188 1 → rd h 188 (5 + 8 * d) < rd h 188 0 ∧ rd h 188 (6 + 8 * d) < rd h 188 0) ∧ ∀ p, 0 ≤ p → p ≤ 5 → p < rd h 188 2 → rd h 188 (117 + 4 * p) < rd h 188 0
/-- all are in rooms, in the state from place b on -/
def wOk (h : LH) (b : Int) : Prop := ∀ p, 0 ≤ p → p ≤ 5 → p < rd h 188 2 → rd h 198 (b + 2 + p) < rd h 188 0
def SPw (h : LH) : Prop := wOk h 0 ∧ (∀ m, 0 ≤ m → m < 4 → rd h 199 m = 1 → wOk h (70 * (1 + m))) ∧ ∀ j, 0 ≤ j → j ≤ 15 → j < rd h 182 25 → wOk h (70 * (5 + j))
def SP (h : LH) : Prop := SPlines h ∧ SPlaw h ∧ SPtok h ∧ SPq h ∧ SPw h
theorem seg_same {op ar op' ar' : Int → Int} {i j : Int} (h : seg op ar i j) (e : ∀ k, i ≤ k → k < j → op' k = op k ∧ ar' k = ar k) : seg op' ar' i j := by
  have := seg_of (d := 0) h (fun k k1 k2 => by rw [Int.add_zero]; exact e k k1 k2)
  rw [Int.add_zero, Int.add_zero] at this
  exact this
theorem lines_same {h h' : LH} {a b : Int} (ea : ∀ j, rd h' a j = rd h a j) (eb : ∀ j, rd h' b j = rd h b j) (hl : linesOk h a b) : linesOk h' a b := by
  intro k h1
  rw [ea] at h1
  rw [eb]
  exact hl k h1
theorem wOk_same {h h' : LH} {b : Int} (e0 : rd h' 188 0 = rd h 188 0) (e2 : rd h' 188 2 = rd h 188 2) (e : ∀ p, 0 ≤ p → p ≤ 5 → rd h' 198 (b + 2 + p) = rd h 198 (b + 2 + p)) (hw : wOk h b) : wOk h' b := by
  intro p p0 p1 p2
  rw [e2] at p2
  rw [e p p0 p1, e0]
  exact hw p p0 p1 p2
theorem sens_c {b j : Int} (hb : b = 63 ∨ b = 64 ∨ b = 71 ∨ b = 72 ∨ b = 106 ∨ b = 107 ∨ b = 114 ∨ b = 115 ∨ b = 122 ∨ b = 123 ∨ b = 130 ∨ b = 131 ∨ b = 200) : sens b j := by
  rcases hb with rfl | rfl | rfl | rfl | rfl | rfl | rfl | rfl | rfl | rfl | rfl | rfl | rfl <;> (unfold sens; simp)
theorem SP_of {h h' : LH} (e : ∀ b j, sens b j → rd h' b j = rd h b j) (hs : SP h) : SP h' := by
  obtain ⟨⟨h1, h2, h3, h4, h5, h6, h7, h8⟩, hl, ht, hq, hw⟩ := hs
  have c : ∀ b j, (b = 63 ∨ b = 64 ∨ b = 71 ∨ b = 72 ∨ b = 106 ∨ b = 107 ∨ b = 114 ∨ b = 115 ∨ b = 122 ∨ b = 123 ∨ b = 130 ∨ b = 131 ∨ b = 200) → rd h' b j = rd h b j := fun b j hb => e b j (sens_c hb)
  have e0 : ∀ j, 0 ≤ j → j < 150 → rd h' 188 j = rd h 188 j := fun j j0 j1 => e 188 j (by unfold sens; omega)
  refine ⟨⟨lines_same (fun j => c _ j (by omega)) (fun j => c _ j (by omega)) h1, lines_same (fun j => c _ j (by omega)) (fun j => c _ j (by omega)) h2, lines_same (fun j => c _ j (by omega)) (fun j => c _ j (by omega)) h3, lines_same (fun j => c _ j (by omega)) (fun j => c _ j (by omega)) h4, lines_same (fun j => c _ j (by omega)) (fun j => c _ j (by omega)) h5, lines_same (fun j => c _ j (by omega)) (fun j => c _ j (by omega)) h6, ?_, ?_⟩, ?_, ?_, ?_, ?_⟩
  · intro k k0 k1 q
    rw [e 195 _ (by unfold sens; omega)] at q ⊢
    exact h7 k k0 k1 q
  · intro m m0 m1 k k0 k1 q
    rw [c 200 _ (by omega)] at q ⊢
    exact h8 m m0 m1 k k0 k1 q
  · intro q
    rw [e0 3 (by decide) (by decide)] at q
    obtain ⟨n, n1, n2, n3⟩ := hl q
    exact ⟨n, n1, seg_same n2 (fun k k1 k2 => ⟨e 189 k (by unfold sens; omega), e 190 k (by unfold sens; omega)⟩), by rw [e 189 n (by unfold sens; omega)]; exact n3⟩
  · unfold SPtok
    rw [e 184 1000 (by unfold sens; omega)]
    exact ht
  · refine ⟨fun d d0 d1 d2 => ?_, fun p p0 p1 p2 => ?_⟩
    · rw [e0 1 (by decide) (by decide)] at d2
      rw [e0 (5 + 8 * d) (by omega) (by omega), e0 (6 + 8 * d) (by omega) (by omega), e0 0 (by decide) (by decide)]
      exact hq.1 d d0 d1 d2
    · rw [e0 2 (by decide) (by decide)] at p2
      rw [e0 (117 + 4 * p) (by omega) (by omega), e0 0 (by decide) (by decide)]
      exact hq.2 p p0 p1 p2
  · obtain ⟨w1, w2, w3⟩ := hw
    have x0 := e0 0 (by decide) (by decide)
    have x2 := e0 2 (by decide) (by decide)
    refine ⟨wOk_same x0 x2 (fun p p0 p1 => e 198 _ (by unfold sens; omega)) w1, fun m m0 m1 q => ?_, fun j j0 j1 q => ?_⟩
    · rw [e 199 m (by unfold sens; omega)] at q
      exact wOk_same x0 x2 (fun p p0 p1 => e 198 _ (by unfold sens; omega)) (w2 m m0 m1 q)
    · rw [e 182 25 (by unfold sens; omega)] at q
      exact wOk_same x0 x2 (fun p p0 p1 => e 198 _ (by unfold sens; omega)) (w3 j j0 j1 q)
def INV (h : LH) : Prop := RNG h ∧ SP h
/-- a put within bounds, elsewhere -/
theorem INV_wr {h : LH} (hI : INV h) {a i v : Int} (hn : ¬ sens a i) (hv : gV (hav a i) (mkv (lkd a i) v)) : INV (wr h a i v) := by
  refine ⟨RNG_wr hI.1 hv, SP_of (fun b j hb => ?_) hI.2⟩
  rw [rd_wr, if_neg]
  rintro ⟨rfl, rfl⟩
  exact hn hb
theorem INV_ok : INVok INV prot := by
  refine ⟨fun h hh => hh.1, fun h hh a i v _ hp hv => INV_wr hh (fun q => ?_) hv, fun a lo hi i h1 h2 h3 => prot_sub h1 h2 h3⟩
  rw [sens_prot q] at hp
  cases hp
end
section
/-! LM, part 34: rows, an instruction each, for methods by hand -/
section RW
variable {xs : Nat → Int} {xl d : Nat} {M : LM_M} {pc p' : Nat} {ls ls' : LL} {st : List LV} {h : LH} {Q : Option LV → LH → Prop}
theorem R_A {i : Instr} {len : Nat} {st' : List LV} (hd : decode M.2.1 pc = .ok (i, len)) (hc : icls i = 1) (hl : ilen i len = true) (e : lmA i st = some st') (hp : pc + len = p') (k : Rn xs xl d M p' ls st' h Q) : Rn xs xl d M pc ls st h Q := by
  subst hp
  obtain ⟨r1, r2⟩ := cls_noRK (i := i) (by omega) (by omega)
  exact Rn.step hd hl (r1 _ _) (r2 _ _ _) (lmI_A e) k
theorem R_ic {v : Int} (hd : decode M.2.1 pc = .ok (.iconst v, 1)) (hv : -1 ≤ v ∧ v ≤ 5) (hp : pc + 1 = p') (k : Rn xs xl d M p' ls (.inl v :: st) h Q) : Rn xs xl d M pc ls st h Q :=
  R_A hd rfl rfl (by simp only [lmA]; rw [if_pos hv]) hp k
theorem R_bi {v : Int} (hd : decode M.2.1 pc = .ok (.bipush v, 2)) (hv : -128 ≤ v ∧ v ≤ 127) (hp : pc + 2 = p') (k : Rn xs xl d M p' ls (.inl v :: st) h Q) : Rn xs xl d M pc ls st h Q :=
  R_A hd rfl rfl (by simp only [lmA]; rw [if_pos hv]) hp k
theorem R_si {v : Int} (hd : decode M.2.1 pc = .ok (.sipush v, 3)) (hv : -32768 ≤ v ∧ v ≤ 32767) (hp : pc + 3 = p') (k : Rn xs xl d M p' ls (.inl v :: st) h Q) : Rn xs xl d M pc ls st h Q :=
  R_A hd rfl rfl (by simp only [lmA]; rw [if_pos hv]) hp k
theorem R_iadd {a b c : Int} (hd : decode M.2.1 pc = .ok (.iadd, 1)) (e : a + b = c) (hb : -2147483648 ≤ c ∧ c ≤ 2147483647) (hp : pc + 1 = p') (k : Rn xs xl d M p' ls (.inl c :: st) h Q) : Rn xs xl d M pc ls (.inl b :: .inl a :: st) h Q := by
  subst e
  exact R_A hd rfl rfl (by simp only [lmA]; rw [w32_id hb]) hp k
theorem R_isub {a b c : Int} (hd : decode M.2.1 pc = .ok (.isub, 1)) (e : a - b = c) (hb : -2147483648 ≤ c ∧ c ≤ 2147483647) (hp : pc + 1 = p') (k : Rn xs xl d M p' ls (.inl c :: st) h Q) : Rn xs xl d M pc ls (.inl b :: .inl a :: st) h Q := by
  subst e
  exact R_A hd rfl rfl (by simp only [lmA]; rw [w32_id hb]) hp k
theorem R_imul {a b c : Int} (hd : decode M.2.1 pc = .ok (.imul, 1)) (e : a * b = c) (hb : -2147483648 ≤ c ∧ c ≤ 2147483647) (hp : pc + 1 = p') (k : Rn xs xl d M p' ls (.inl c :: st) h Q) : Rn xs xl d M pc ls (.inl b :: .inl a :: st) h Q := by
  subst e
  exact R_A hd rfl rfl (by simp only [lmA]; rw [w32_id hb]) hp k
theorem R_iaddw {a b : Int} (hd : decode M.2.1 pc = .ok (.iadd, 1)) (hp : pc + 1 = p') (k : Rn xs xl d M p' ls (.inl (w32 (a + b)) :: st) h Q) : Rn xs xl d M pc ls (.inl b :: .inl a :: st) h Q := R_A hd rfl rfl rfl hp k
theorem R_isubw {a b : Int} (hd : decode M.2.1 pc = .ok (.isub, 1)) (hp : pc + 1 = p') (k : Rn xs xl d M p' ls (.inl (w32 (a - b)) :: st) h Q) : Rn xs xl d M pc ls (.inl b :: .inl a :: st) h Q := R_A hd rfl rfl rfl hp k
theorem R_imulw {a b : Int} (hd : decode M.2.1 pc = .ok (.imul, 1)) (hp : pc + 1 = p') (k : Rn xs xl d M p' ls (.inl (w32 (a * b)) :: st) h Q) : Rn xs xl d M pc ls (.inl b :: .inl a :: st) h Q := R_A hd rfl rfl rfl hp k
theorem R_idiv {a b : Int} (hd : decode M.2.1 pc = .ok (.idiv, 1)) (ha : 0 ≤ a ∧ a ≤ 2147483647) (hb : 0 < b) (hp : pc + 1 = p') (k : Rn xs xl d M p' ls (.inl (a / b) :: st) h Q) : Rn xs xl d M pc ls (.inl b :: .inl a :: st) h Q := by
  obtain ⟨d1, d2, d3⟩ := div_pos (x := a) (y := b) ha.1 hb
  exact R_A hd rfl rfl (by simp only [lmA]; rw [if_neg (by omega), d1, w32_id (by unfold i32; omega)]) hp k
theorem R_irem {a b : Int} (hd : decode M.2.1 pc = .ok (.irem, 1)) (ha : 0 ≤ a ∧ a ≤ 2147483647) (hb : 0 < b) (hp : pc + 1 = p') (k : Rn xs xl d M p' ls (.inl (a % b) :: st) h Q) : Rn xs xl d M pc ls (.inl b :: .inl a :: st) h Q := by
  obtain ⟨d1, d2, d3⟩ := div_pos (x := a) (y := b) ha.1 hb
  have h1 := Int.emod_nonneg a (b := b) (by omega)
  have h2 := Int.emod_add_mul_ediv a b
  have h3 : b * (a / b) = a / b * b := Int.mul_comm _ _
  have h4 : a - a / b * b = a % b := by omega
  have h5 : 0 ≤ a / b * b := Int.mul_nonneg d2 (by omega)
  exact R_A hd rfl rfl (by simp only [lmA]; rw [if_neg (by omega), d1, w32_id (x := a / b) (by unfold i32; omega), w32_id (x := a / b * b) (by unfold i32; omega), h4, w32_id (by unfold i32; omega)]) hp k
theorem R_ineg {a c : Int} (hd : decode M.2.1 pc = .ok (.ineg, 1)) (e : -a = c) (hb : -2147483648 ≤ c ∧ c ≤ 2147483647) (hp : pc + 1 = p') (k : Rn xs xl d M p' ls (.inl c :: st) h Q) : Rn xs xl d M pc ls (.inl a :: st) h Q := by
  subst e
  exact R_A hd rfl rfl (by simp only [lmA]; rw [w32_id hb]) hp k
theorem R_ld {i : Instr} {len : Nat} {v : LV} (hd : decode M.2.1 pc = .ok (i, len)) (hc : icls i = 2) (hl : ilen i len = true) (e : lmLd i ls = some v) (hp : pc + len = p') (k : Rn xs xl d M p' ls (v :: st) h Q) : Rn xs xl d M pc ls st h Q := by
  subst hp
  obtain ⟨r1, r2⟩ := cls_noRK (i := i) (by omega) (by omega)
  exact Rn.step hd hl (r1 _ _) (r2 _ _ _) (lmI_Ld hc e) k
theorem R_st {i : Instr} {len : Nat} {v : LV} {j : Nat} (hd : decode M.2.1 pc = .ok (i, len)) (hc : icls i = 8) (hl : ilen i len = true) (e : lmSt i v = some j) (hk : j + (if isL v then 1 else 0) < ls.length) (hs : lst ls j v = ls') (hp : pc + len = p') (k : Rn xs xl d M p' ls' st h Q) : Rn xs xl d M pc ls (v :: st) h Q := by
  subst hp
  subst hs
  obtain ⟨r1, r2⟩ := cls_noRK (i := i) (by omega) (by omega)
  exact Rn.step hd hl (r1 _ _) (r2 _ _ _) (lmI_St hc e hk) k
theorem R_inc {j : Nat} {n x y : Int} (hd : decode M.2.1 pc = .ok (.iinc j n, 3)) (e : lget ls j = some (.inl x)) (hn : -32768 ≤ n ∧ n ≤ 32767) (hy : x + n = y) (hb : -2147483648 ≤ y ∧ y ≤ 2147483647) (hs : lst ls j (.inl y) = ls') (hp : pc + 3 = p') (k : Rn xs xl d M p' ls' st h Q) : Rn xs xl d M pc ls st h Q := by
  subst hp
  subst hs
  subst hy
  obtain ⟨r1, r2⟩ := cls_noRK (i := .iinc j n) (by show (5:Nat) ≠ 9; decide) (by show (5:Nat) ≠ 10; decide)
  refine Rn.step hd rfl (r1 _ _) (r2 _ _ _) (lmI_Inc rfl ?_) k
  simp only [lmInc]
  rw [e]
  simp only
  rw [if_pos hn, w32_id hb]
-- jumps
theorem R_J {i : Instr} {len : Nat} {t : Int} {st' : List LV} (hd : decode M.2.1 pc = .ok (i, len)) (hc : icls i = 4) (hl : ilen i len = true) (e : lmJ i pc len st = some (t, st')) (hp : t = (p' : Int)) (k : Rn xs xl d M p' ls st' h Q) : Rn xs xl d M pc ls st h Q := by
  obtain ⟨r1, r2⟩ := cls_noRK (i := i) (by omega) (by omega)
  refine Rn.step hd hl (r1 _ _) (r2 _ _ _) (lmI_J hc e (by omega)) ?_
  rw [hp, Int.toNat_natCast]
  exact k
theorem R_goto {off : Int} (hd : decode M.2.1 pc = .ok (.goto off, 3)) (hp : (pc : Int) + off = (p' : Int)) (k : Rn xs xl d M p' ls st h Q) : Rn xs xl d M pc ls st h Q := R_J hd rfl rfl rfl hp k
def cndP (c : ClassFile.Cond) (a b : Int) : Prop := match c with
  | .eq => a = b
  | .ne => a ≠ b
  | .lt => a < b
  | .ge => b ≤ a
  | .gt => b < a
  | .le => a ≤ b
def cndN (c : ClassFile.Cond) (a b : Int) : Prop := match c with
  | .eq => a ≠ b
  | .ne => a = b
  | .lt => b ≤ a
  | .ge => a < b
  | .gt => a ≤ b
  | .le => b < a
theorem cnd_cases (c : ClassFile.Cond) (a b : Int) : (cnd c a b = true ∧ cndP c a b) ∨ (cnd c a b = false ∧ cndN c a b) := by
  cases c <;> simp only [cnd, cndP, cndN, decide_eq_true_eq, decide_eq_false_iff_not] <;> omega
theorem R_icmp {c : ClassFile.Cond} {off a b : Int} {pt pf : Nat} (hd : decode M.2.1 pc = .ok (.if_icmp c off, 3)) (ht : (pc : Int) + off = (pt : Int)) (hf : pc + 3 = pf) (k1 : cndP c a b → Rn xs xl d M pt ls st h Q) (k2 : cndN c a b → Rn xs xl d M pf ls st h Q) : Rn xs xl d M pc ls (.inl b :: .inl a :: st) h Q := by
  rcases cnd_cases c a b with ⟨e, q⟩ | ⟨e, q⟩
  · exact R_J hd rfl rfl (by simp only [lmJ]; rw [if_pos (by omega), e]; rfl) ht (k1 q)
  · exact R_J hd rfl rfl (t := (pc : Int) + 3) (by simp only [lmJ]; rw [if_pos (by omega), e]; rfl) (by omega) (k2 q)
theorem R_if {c : ClassFile.Cond} {off a : Int} {pt pf : Nat} (hd : decode M.2.1 pc = .ok (.ifCond c off, 3)) (ht : (pc : Int) + off = (pt : Int)) (hf : pc + 3 = pf) (k1 : cndP c a 0 → Rn xs xl d M pt ls st h Q) (k2 : cndN c a 0 → Rn xs xl d M pf ls st h Q) : Rn xs xl d M pc ls (.inl a :: st) h Q := by
  rcases cnd_cases c a 0 with ⟨e, q⟩ | ⟨e, q⟩
  · exact R_J hd rfl rfl (by simp only [lmJ]; rw [if_pos (by omega), e]; rfl) ht (k1 q)
  · exact R_J hd rfl rfl (t := (pc : Int) + 3) (by simp only [lmJ]; rw [if_pos (by omega), e]; rfl) (by omega) (k2 q)
-- cells
theorem R_G {i : Instr} {len : Nat} {st' : List LV} (hd : decode M.2.1 pc = .ok (i, len)) (hc : icls i = 3) (hl : ilen i len = true) (e : lmG M.2.2.2.2.1 NC xs xl i st h = some st') (hp : pc + len = p') (k : Rn xs xl d M p' ls st' h Q) : Rn xs xl d M pc ls st h Q := by
  subst hp
  obtain ⟨r1, r2⟩ := cls_noRK (i := i) (by omega) (by omega)
  exact Rn.step hd hl (r1 _ _) (r2 _ _ _) (lmI_G hc e) k
theorem R_gf {x c j : Nat} {a : Int} {v : LV} (hd : decode M.2.1 pc = .ok (.getfield x, 3)) (hf : fld M.2.2.2.2.1 x = some (c, j)) (ho : isO NC a c = true) (hv : mkv (fkd c j) (rd h a j) = v) (hp : pc + 3 = p') (k : Rn xs xl d M p' ls (v :: st) h Q) : Rn xs xl d M pc ls (.inr (.inr a) :: st) h Q := by
  subst hv
  refine R_G hd rfl rfl ?_ hp k
  simp only [lmG]
  rw [hf]
  simp only
  rw [if_pos ho]
theorem inA_k {a i : Int} {n : Nat} (hl : (lay a.toNat).2.2 = n) (h0 : 0 ≤ i ∧ i < (n : Int)) : inA a i = true := by
  unfold inA
  rw [hl, decide_eq_true h0.1, decide_eq_true h0.2]
  rfl
theorem R_iald {a i v : Int} {n : Nat} (hd : decode M.2.1 pc = .ok (.iaload, 1)) (ha : isA NC a 1 = true) (hl : (lay a.toNat).2.2 = n) (hi : 0 ≤ i ∧ i < (n : Int)) (hv : rd h a i = v) (hp : pc + 1 = p') (k : Rn xs xl d M p' ls (.inl v :: st) h Q) : Rn xs xl d M pc ls (.inl i :: .inr (.inr a) :: st) h Q := by
  subst hv
  have h1 := (isA_of ha).1
  refine R_G hd rfl rfl ?_ hp k
  simp only [lmG]
  rw [if_neg (by omega), ha, inA_k hl hi]
  rfl
theorem R_lald {a i v : Int} {n : Nat} (hd : decode M.2.1 pc = .ok (.laload, 1)) (ha : isA NC a 2 = true) (hl : (lay a.toNat).2.2 = n) (hi : 0 ≤ i ∧ i < (n : Int)) (hv : rd h a i = v) (hp : pc + 1 = p') (k : Rn xs xl d M p' ls (.inr (.inl v) :: st) h Q) : Rn xs xl d M pc ls (.inl i :: .inr (.inr a) :: st) h Q := by
  subst hv
  refine R_G hd rfl rfl ?_ hp k
  simp only [lmG]
  rw [ha, inA_k hl hi]
  rfl
theorem R_zald {a i v : Int} {n : Nat} (hd : decode M.2.1 pc = .ok (.baload, 1)) (ha : isA NC a 4 = true) (hl : (lay a.toNat).2.2 = n) (hi : 0 ≤ i ∧ i < (n : Int)) (hv : rd h a i = v) (hp : pc + 1 = p') (k : Rn xs xl d M p' ls (.inl v :: st) h Q) : Rn xs xl d M pc ls (.inl i :: .inr (.inr a) :: st) h Q := by
  subst hv
  refine R_G hd rfl rfl ?_ hp k
  simp only [lmG]
  rw [ha, inA_k hl hi, Bool.or_true]
  rfl
theorem R_bald {a i v : Int} {n : Nat} (hd : decode M.2.1 pc = .ok (.baload, 1)) (ha : isA NC a 3 = true) (hl : (lay a.toNat).2.2 = n) (hi : 0 ≤ i ∧ i < (n : Int)) (hv : rd h a i = v) (hp : pc + 1 = p') (k : Rn xs xl d M p' ls (.inl v :: st) h Q) : Rn xs xl d M pc ls (.inl i :: .inr (.inr a) :: st) h Q := by
  subst hv
  refine R_G hd rfl rfl ?_ hp k
  simp only [lmG]
  rw [ha, inA_k hl hi]
  rfl
theorem R_aald {a i v : Int} {n : Nat} (hd : decode M.2.1 pc = .ok (.aaload, 1)) (ha : isA NC a 5 = true) (hl : (lay a.toNat).2.2 = n) (hi : 0 ≤ i ∧ i < (n : Int)) (hv : rd h a i = v) (hp : pc + 1 = p') (k : Rn xs xl d M p' ls (.inr (.inr v) :: st) h Q) : Rn xs xl d M pc ls (.inl i :: .inr (.inr a) :: st) h Q := by
  subst hv
  refine R_G hd rfl rfl ?_ hp k
  simp only [lmG]
  rw [ha, inA_k hl hi]
  rfl
theorem R_P {i : Instr} {len : Nat} {st' : List LV} {h' : LH} (hd : decode M.2.1 pc = .ok (i, len)) (hc : icls i = 6) (hl : ilen i len = true) (e : lmP M.2.2.2.2.1 NC (M.1.name == "<init>") i st h = some (st', h')) (hp : pc + len = p') (k : Rn xs xl d M p' ls st' h' Q) : Rn xs xl d M pc ls st h Q := by
  subst hp
  obtain ⟨r1, r2⟩ := cls_noRK (i := i) (by omega) (by omega)
  exact Rn.step hd hl (r1 _ _) (r2 _ _ _) (lmI_P hc e) k
theorem R_pf {x c j : Nat} {a z : Int} {v : LV} (hd : decode M.2.1 pc = .ok (.putfield x, 3)) (hf : fld M.2.2.2.2.1 x = some (c, j)) (ho : isO NC a c = true) (hn : fin c j = false) (hv : okk (fkd c j) v = some z) (hp : pc + 3 = p') (k : Rn xs xl d M p' ls st (wr h a j z) Q) : Rn xs xl d M pc ls (v :: .inr (.inr a) :: st) h Q := by
  refine R_P hd rfl rfl ?_ hp k
  simp only [lmP]
  rw [hf]
  simp only
  rw [ho, hn, hv]
  rfl
theorem R_iast {a i z : Int} {n : Nat} (hd : decode M.2.1 pc = .ok (.iastore, 1)) (ha : isA NC a 1 = true) (hl : (lay a.toNat).2.2 = n) (hi : 0 ≤ i ∧ i < (n : Int)) (hp : pc + 1 = p') (k : Rn xs xl d M p' ls st (wr h a i z) Q) : Rn xs xl d M pc ls (.inl z :: .inl i :: .inr (.inr a) :: st) h Q := by
  refine R_P hd rfl rfl ?_ hp k
  simp only [lmP]
  rw [ha, inA_k hl hi]
  rfl
theorem R_last {a i z : Int} {n : Nat} (hd : decode M.2.1 pc = .ok (.lastore, 1)) (ha : isA NC a 2 = true) (hl : (lay a.toNat).2.2 = n) (hi : 0 ≤ i ∧ i < (n : Int)) (hp : pc + 1 = p') (k : Rn xs xl d M p' ls st (wr h a i z) Q) : Rn xs xl d M pc ls (.inr (.inl z) :: .inl i :: .inr (.inr a) :: st) h Q := by
  refine R_P hd rfl rfl ?_ hp k
  simp only [lmP]
  rw [ha, inA_k hl hi]
  rfl
theorem R_zast {a i z : Int} {n : Nat} (hd : decode M.2.1 pc = .ok (.bastore, 1)) (ha : isA NC a 4 = true) (hl : (lay a.toNat).2.2 = n) (hi : 0 ≤ i ∧ i < (n : Int)) (hz : z = 0 ∨ z = 1) (hp : pc + 1 = p') (k : Rn xs xl d M p' ls st (wr h a i z) Q) : Rn xs xl d M pc ls (.inl z :: .inl i :: .inr (.inr a) :: st) h Q := by
  refine R_P hd rfl rfl ?_ hp k
  simp only [lmP]
  rw [ha, inA_k hl hi, decide_eq_true hz]
  simp
theorem R_C {i : Instr} {len : Nat} {v : LV} (hd : decode M.2.1 pc = .ok (i, len)) (hc : icls i = 7) (hl : ilen i len = true) (e : lmC M.2.2.2.2.1 i = some v) (hp : pc + len = p') (k : Rn xs xl d M p' ls (v :: st) h Q) : Rn xs xl d M pc ls st h Q := by
  subst hp
  obtain ⟨r1, r2⟩ := cls_noRK (i := i) (by omega) (by omega)
  exact Rn.step hd hl (r1 _ _) (r2 _ _ _) (lmI_C hc e) k
-- returns
theorem R_iret {x : Int} (hd : decode M.2.1 pc = .ok (.ireturn, 1)) (hr : M.2.2.2.1 = some .int) (k : Q (some (.inl x)) h) : Rn xs xl d M pc ls [.inl x] h Q :=
  Rn.ret hd rfl (by simp only [lmR]; rw [if_pos hr]) k
theorem R_zret {x : Int} (hd : decode M.2.1 pc = .ok (.ireturn, 1)) (hr : M.2.2.2.1 = some .boolean) (hx : x = 0 ∨ x = 1) (k : Q (some (.inl x)) h) : Rn xs xl d M pc ls [.inl x] h Q :=
  Rn.ret hd rfl (by simp only [lmR]; rw [if_neg (by rw [hr]; decide), if_pos ⟨hr, hx⟩]) k
theorem R_vret (hd : decode M.2.1 pc = .ok (.return_, 1)) (hr : M.2.2.2.1 = none) (k : Q none h) : Rn xs xl d M pc ls [] h Q :=
  Rn.ret hd rfl (by simp only [lmR]; rw [if_pos hr]) k
-- calls
def cwOk (o x kind k np ml own : Nat) : Bool := match (MTC o).find? (fun q => q.1 == x) with
  | some q => q.2.1 == k && q.2.2.1 == 0 && match MTB k with
    | some M => M.2.2.2.2.2.1 == np && M.2.2.1 == ml && M.2.2.2.2.2.2.1 == (if kind = 1 then 1 else 0) && M.2.2.2.2.1 == own && !(M.1.name == "<init>")
    | none => false
  | none => false
theorem cw_v {o x k np ml own : Nat} (hc : cwOk o x 0 k np ml own = true) {a : Int} {as rest st : List LV} (ho : isO NC a own = true) (hs : st = (.inr (.inr a) :: as).reverse ++ rest) (hn : as.length + 1 = np) (h1 : lcat rest ≤ 8) (h2 : (lent (.inr (.inr a) :: as)).length ≤ ml) : lmK o NC (.invokevirtual x) st = some (k, .inr (.inr a) :: as, rest) := by
  unfold cwOk at hc
  split at hc
  · next q hq =>
    simp only [Bool.and_eq_true, beq_iff_eq] at hc
    obtain ⟨⟨hk, hz⟩, hc⟩ := hc
    split at hc
    · next M hM =>
      simp only [Bool.and_eq_true, beq_iff_eq, Bool.not_eq_true'] at hc
      obtain ⟨⟨⟨⟨e1, e2⟩, e3⟩, e4⟩, e5⟩ := hc
      have t1 : (((.inr (.inr a) : LV) :: as).reverse ++ rest).take np = ((.inr (.inr a) : LV) :: as).reverse := by
        rw [List.take_append_of_le_length (by simp; omega), List.take_of_length_le (by simp; omega)]
      have t2 : (((.inr (.inr a) : LV) :: as).reverse ++ rest).drop np = rest := by
        rw [List.drop_append_of_le_length (by simp; omega), List.drop_of_length_le (by simp; omega)]
        rfl
      subst hs
      simp only [lmK]
      rw [hq]
      simp only
      rw [hk, hM]
      simp only
      rw [e1, e3, t1, t2, List.reverse_reverse, if_pos ⟨by simp; omega, h1, by rw [e2]; exact h2, rfl⟩]
      simp only [Nat.zero_ne_one, if_false]
      rw [e4, ho, e5, hz]
      rfl
    · cases hc
  · cases hc
theorem cw_s {o x k np ml own : Nat} (hc : cwOk o x 1 k np ml own = true) {as rest st : List LV} (hs : st = as.reverse ++ rest) (hn : as.length = np) (h1 : lcat rest ≤ 8) (h2 : (lent as).length ≤ ml) : lmK o NC (.invokestatic x) st = some (k, as, rest) := by
  unfold cwOk at hc
  split at hc
  · next q hq =>
    simp only [Bool.and_eq_true, beq_iff_eq] at hc
    obtain ⟨⟨hk, hz⟩, hc⟩ := hc
    split at hc
    · next M hM =>
      simp only [Bool.and_eq_true, beq_iff_eq, Bool.not_eq_true'] at hc
      obtain ⟨⟨⟨⟨e1, e2⟩, e3⟩, e4⟩, e5⟩ := hc
      have t1 : (as.reverse ++ rest).take np = as.reverse := by
        rw [List.take_append_of_le_length (by simp; omega), List.take_of_length_le (by simp; omega)]
      have t2 : (as.reverse ++ rest).drop np = rest := by
        rw [List.drop_append_of_le_length (by simp; omega), List.drop_of_length_le (by simp; omega)]
        rfl
      subst hs
      simp only [lmK]
      rw [hq]
      simp only
      rw [hk, hM]
      simp only
      rw [e1, e3, t1, t2, List.reverse_reverse, if_pos ⟨by simp; omega, h1, by rw [e2]; exact h2, rfl⟩, if_pos trivial, if_pos hz]
    · cases hc
  · cases hc
theorem R_call {i : Instr} {k c : Nat} {as rest : List LV} {M' : LM_M} {ls0 : LL} (hd : decode M.2.1 pc = .ok (i, 3)) (hcl : icls i = 9) (hl : ilen i 3 = true) (hK : lmK M.2.2.2.2.1 NC i st = some (k, as, rest)) (hM : MTB k = some M') (he : lpad M'.2.2.1 (lent as) = ls0) (hcd : c < d) (hp : pc + 3 = p') (hc : Rn xs xl c M' 0 ls0 [] h (fun r h' => Rn xs xl d M p' ls (r.toList ++ rest) h' Q)) : Rn xs xl d M pc ls st h Q := by
  subst hp
  subst he
  obtain ⟨e, rfl⟩ : ∃ e, d = e + 1 := ⟨d - 1, by omega⟩
  exact Rn.call hd hl (cls_R hcl _ _) hK hM (hc.deep (d' := e) (by omega)) (fun r h' hq => hq)
end RW
-- heaps
theorem rdw_ne {h : LH} {a b i j v : Int} (hab : a ≠ b) : rd (wr h a i v) b j = rd h b j := by rw [rd_wr, if_neg (fun q => hab q.1)]
theorem rdw_nei {h : LH} {a b i j v : Int} (hij : i ≠ j) : rd (wr h a i v) b j = rd h b j := by rw [rd_wr, if_neg (fun q => hij q.2)]
theorem rdw_eq {h : LH} {a i v : Int} : rd (wr h a i v) a i = v := by rw [rd_wr, if_pos ⟨rfl, rfl⟩]
-- locals that aren't read any more
def nL (o : Option LV) : Prop := ∀ w, o = some w → isL w = false
theorem lst_i {ls : LL} {k : Nat} {v : LV} (hv : isL v = false) (hn : nL (lget ls k)) : lst ls (k + 1) v = ls.set (k + 1) (some v) := by
  unfold lst
  rw [if_neg (by rw [hv]; decide)]
  have : lkill ls (k + 1) = ls := by
    show (match lget ls k with
      | some v => if isL v then ls.set k none else ls
      | none => ls) = ls
    split
    · next w hw => rw [if_neg (by rw [hn w hw]; decide)]
    · rfl
  rw [this]
theorem nL_n : nL none := fun w hw => by cases hw
theorem nL_i {x : Int} : nL (some (.inl x)) := fun w hw => by cases hw; rfl
theorem nL_r {x : Int} : nL (some (.inr (.inr x))) := fun w hw => by cases hw; rfl
/-- what fields hold that never change -/
def RF (h : LH) : Prop := ∀ (a : Int) (j : Nat) (c : Int), vB a j = true → hav a j = (2, c, c, 0) → rd h a j = c
theorem RF_of {h : LH} (hr : RNG h) : RF h := by
  intro a j c hv e
  have h1 := hr a j (vB_ok hv)
  rw [e] at h1
  obtain ⟨x, x1, x2⟩ := gV_r h1 rfl
  have h2 := inV_c x2 rfl
  unfold hval mkv at x1
  split at x1
  · cases x1
  · cases x1
    exact h2
  · cases x1
end
section
/-! LM, by program (wip/p2/hand.py): rows of closure, copies -/
def mm_closure : LM_M := (⟨"OneSidedModel", "closure", "(I)I"⟩, prog_14_method_80_code, 5, (some .int), 12, 2, 0, 1706, 1705, 1000116)
def mm_rooms : LM_M := (⟨"OneSidedModel", "rooms", "()I"⟩, prog_14_method_46_code, 1, (some .int), 12, 1, 0, 1587, 1586, 1000098)
def mm_isIn : LM_M := (⟨"OneSidedModel", "isIn", "(II)Z"⟩, prog_14_method_54_code, 2, (some .boolean), 12, 2, 1, 1598, 1597, 0)
def mm_copies : LM_M := (⟨"OneSidedModel", "copies", "(III)V"⟩, prog_14_method_42_code, 5, none, 12, 4, 0, 1617, 1616, 1000103)
theorem dd_closure_0 : decode mm_closure.2.1 0 = .ok (.iconst 1, 1) := by decide +kernel
theorem dd_closure_1 : decode mm_closure.2.1 1 = .ok (.iload_n 1, 1) := by decide +kernel
theorem dd_closure_2 : decode mm_closure.2.1 2 = .ok (.ishl, 1) := by decide +kernel
theorem dd_closure_3 : decode mm_closure.2.1 3 = .ok (.istore_n 2, 1) := by decide +kernel
theorem dd_closure_4 : decode mm_closure.2.1 4 = .ok (.iconst 0, 1) := by decide +kernel
theorem dd_closure_5 : decode mm_closure.2.1 5 = .ok (.istore_n 3, 1) := by decide +kernel
theorem dd_closure_6 : decode mm_closure.2.1 6 = .ok (.iload_n 2, 1) := by decide +kernel
theorem dd_closure_7 : decode mm_closure.2.1 7 = .ok (.iload_n 3, 1) := by decide +kernel
theorem dd_closure_8 : decode mm_closure.2.1 8 = .ok (.if_icmp .eq (49), 3) := by decide +kernel
theorem dd_closure_57 : decode mm_closure.2.1 57 = .ok (.iload_n 2, 1) := by decide +kernel
theorem dd_closure_58 : decode mm_closure.2.1 58 = .ok (.ireturn, 1) := by decide +kernel
theorem dd_closure_11 : decode mm_closure.2.1 11 = .ok (.iload_n 2, 1) := by decide +kernel
theorem dd_closure_12 : decode mm_closure.2.1 12 = .ok (.istore_n 3, 1) := by decide +kernel
theorem dd_closure_13 : decode mm_closure.2.1 13 = .ok (.iconst 0, 1) := by decide +kernel
theorem dd_closure_14 : decode mm_closure.2.1 14 = .ok (.istore 4, 2) := by decide +kernel
theorem dd_closure_16 : decode mm_closure.2.1 16 = .ok (.iload 4, 2) := by decide +kernel
theorem dd_closure_18 : decode mm_closure.2.1 18 = .ok (.aload_n 0, 1) := by decide +kernel
theorem dd_closure_19 : decode mm_closure.2.1 19 = .ok (.invokevirtual 332, 3) := by decide +kernel
theorem cw_12_332 : cwOk 12 332 0 205 1 1 12 = true := by decide +kernel
theorem io_182 : isO NC 182 12 = true := by decide +kernel
theorem mt_rooms : MTB 205 = some mm_rooms := rfl
theorem dd_rooms_0 : decode mm_rooms.2.1 0 = .ok (.aload_n 0, 1) := by decide +kernel
theorem dd_rooms_1 : decode mm_rooms.2.1 1 = .ok (.getfield 95, 3) := by decide +kernel
theorem fd_12_95 : fld 12 95 = some (12, 10) := by decide +kernel
theorem rf_182_10 {h : LH} (hF : RF h) : rd h 182 10 = 188 := hF 182 10 188 (by decide +kernel) (by decide +kernel)
theorem dd_rooms_4 : decode mm_rooms.2.1 4 = .ok (.iconst 0, 1) := by decide +kernel
theorem dd_rooms_5 : decode mm_rooms.2.1 5 = .ok (.iaload, 1) := by decide +kernel
theorem ia_188 : isA NC 188 1 = true := by decide +kernel
theorem la_188 : (lay (188 : Int).toNat).2.2 = 300 := by decide +kernel
theorem dd_rooms_6 : decode mm_rooms.2.1 6 = .ok (.ireturn, 1) := by decide +kernel
theorem dd_closure_22 : decode mm_closure.2.1 22 = .ok (.if_icmp .ge (32), 3) := by decide +kernel
theorem dd_closure_54 : decode mm_closure.2.1 54 = .ok (.goto (-48), 3) := by decide +kernel
theorem dd_closure_25 : decode mm_closure.2.1 25 = .ok (.iload_n 2, 1) := by decide +kernel
theorem dd_closure_26 : decode mm_closure.2.1 26 = .ok (.iload_n 2, 1) := by decide +kernel
theorem dd_closure_27 : decode mm_closure.2.1 27 = .ok (.iload 4, 2) := by decide +kernel
theorem dd_closure_29 : decode mm_closure.2.1 29 = .ok (.invokestatic 350, 3) := by decide +kernel
theorem cw_12_350 : cwOk 12 350 1 208 2 2 12 = true := by decide +kernel
theorem mt_isIn : MTB 208 = some mm_isIn := rfl
theorem dd_isIn_0 : decode mm_isIn.2.1 0 = .ok (.iload_n 0, 1) := by decide +kernel
theorem dd_isIn_1 : decode mm_isIn.2.1 1 = .ok (.iload_n 1, 1) := by decide +kernel
theorem dd_isIn_2 : decode mm_isIn.2.1 2 = .ok (.ishr, 1) := by decide +kernel
theorem dd_isIn_3 : decode mm_isIn.2.1 3 = .ok (.iconst 1, 1) := by decide +kernel
theorem dd_isIn_4 : decode mm_isIn.2.1 4 = .ok (.iand, 1) := by decide +kernel
theorem dd_isIn_5 : decode mm_isIn.2.1 5 = .ok (.iconst 1, 1) := by decide +kernel
theorem dd_isIn_6 : decode mm_isIn.2.1 6 = .ok (.if_icmp .ne (7), 3) := by decide +kernel
theorem dd_isIn_13 : decode mm_isIn.2.1 13 = .ok (.iconst 0, 1) := by decide +kernel
theorem dd_isIn_14 : decode mm_isIn.2.1 14 = .ok (.ireturn, 1) := by decide +kernel
theorem dd_closure_32 : decode mm_closure.2.1 32 = .ok (.ifCond .eq (13), 3) := by decide +kernel
theorem dd_closure_45 : decode mm_closure.2.1 45 = .ok (.iconst 0, 1) := by decide +kernel
theorem dd_closure_46 : decode mm_closure.2.1 46 = .ok (.ior, 1) := by decide +kernel
theorem dd_closure_47 : decode mm_closure.2.1 47 = .ok (.istore_n 2, 1) := by decide +kernel
theorem dd_closure_48 : decode mm_closure.2.1 48 = .ok (.iinc 4 1, 3) := by decide +kernel
theorem dd_closure_51 : decode mm_closure.2.1 51 = .ok (.goto (-35), 3) := by decide +kernel
theorem dd_isIn_9 : decode mm_isIn.2.1 9 = .ok (.iconst 1, 1) := by decide +kernel
theorem dd_isIn_10 : decode mm_isIn.2.1 10 = .ok (.goto 4, 3) := by decide +kernel
theorem dd_closure_35 : decode mm_closure.2.1 35 = .ok (.aload_n 0, 1) := by decide +kernel
theorem dd_closure_36 : decode mm_closure.2.1 36 = .ok (.getfield 147, 3) := by decide +kernel
theorem fd_12_147 : fld 12 147 = some (12, 37) := by decide +kernel
theorem rf_182_37 {h : LH} (hF : RF h) : rd h 182 37 = 203 := hF 182 37 203 (by decide +kernel) (by decide +kernel)
theorem dd_closure_39 : decode mm_closure.2.1 39 = .ok (.iload 4, 2) := by decide +kernel
theorem dd_closure_41 : decode mm_closure.2.1 41 = .ok (.iaload, 1) := by decide +kernel
theorem ia_203 : isA NC 203 1 = true := by decide +kernel
theorem la_203 : (lay (203 : Int).toNat).2.2 = 10 := by decide +kernel
theorem dd_closure_42 : decode mm_closure.2.1 42 = .ok (.goto 4, 3) := by decide +kernel
theorem dd_copies_0 : decode mm_copies.2.1 0 = .ok (.iconst 0, 1) := by decide +kernel
theorem dd_copies_1 : decode mm_copies.2.1 1 = .ok (.istore 4, 2) := by decide +kernel
theorem dd_copies_3 : decode mm_copies.2.1 3 = .ok (.iload 4, 2) := by decide +kernel
theorem dd_copies_5 : decode mm_copies.2.1 5 = .ok (.iload_n 3, 1) := by decide +kernel
theorem dd_copies_6 : decode mm_copies.2.1 6 = .ok (.if_icmp .ge (27), 3) := by decide +kernel
theorem dd_copies_33 : decode mm_copies.2.1 33 = .ok (.return_, 1) := by decide +kernel
theorem dd_copies_9 : decode mm_copies.2.1 9 = .ok (.aload_n 0, 1) := by decide +kernel
theorem dd_copies_10 : decode mm_copies.2.1 10 = .ok (.getfield 125, 3) := by decide +kernel
theorem fd_12_125 : fld 12 125 = some (12, 24) := by decide +kernel
theorem rf_182_24 {h : LH} (hF : RF h) : rd h 182 24 = 198 := hF 182 24 198 (by decide +kernel) (by decide +kernel)
theorem dd_copies_13 : decode mm_copies.2.1 13 = .ok (.iload_n 2, 1) := by decide +kernel
theorem dd_copies_14 : decode mm_copies.2.1 14 = .ok (.iload 4, 2) := by decide +kernel
theorem dd_copies_16 : decode mm_copies.2.1 16 = .ok (.iadd, 1) := by decide +kernel
theorem dd_copies_17 : decode mm_copies.2.1 17 = .ok (.aload_n 0, 1) := by decide +kernel
theorem dd_copies_18 : decode mm_copies.2.1 18 = .ok (.getfield 125, 3) := by decide +kernel
theorem dd_copies_21 : decode mm_copies.2.1 21 = .ok (.iload_n 1, 1) := by decide +kernel
theorem dd_copies_22 : decode mm_copies.2.1 22 = .ok (.iload 4, 2) := by decide +kernel
theorem dd_copies_24 : decode mm_copies.2.1 24 = .ok (.iadd, 1) := by decide +kernel
theorem dd_copies_25 : decode mm_copies.2.1 25 = .ok (.iaload, 1) := by decide +kernel
theorem ia_198 : isA NC 198 1 = true := by decide +kernel
theorem la_198 : (lay (198 : Int).toNat).2.2 = 1610 := by decide +kernel
theorem dd_copies_26 : decode mm_copies.2.1 26 = .ok (.iastore, 1) := by decide +kernel
theorem dd_copies_27 : decode mm_copies.2.1 27 = .ok (.iinc 4 1, 3) := by decide +kernel
theorem dd_copies_30 : decode mm_copies.2.1 30 = .ok (.goto (-27), 3) := by decide +kernel
theorem B_closure_0 {xs : Nat → Int} {xl e : Nat} {h : LH} {Q : Option LV → LH → Prop} {v1 : Int} (hF : RF h)
    (k : Rn xs xl e mm_closure 6 [some (.inr (.inr 182)), some (.inl v1), some (.inl (zshl 1 v1)), some (.inl 0), none] [] h Q) :
    Rn xs xl e mm_closure 0 [some (.inr (.inr 182)), some (.inl v1), none, none, none] [] h Q := by
  refine R_ic dd_closure_0 (by decide) rfl ?_
  refine R_ld (v := .inl v1) dd_closure_1 rfl rfl rfl rfl ?_
  refine R_A dd_closure_2 rfl rfl rfl rfl ?_
  refine R_st (ls' := [some (.inr (.inr 182)), some (.inl v1), some (.inl (zshl 1 v1)), none, none]) dd_closure_3 rfl rfl rfl (Nat.le_of_ble_eq_true rfl) rfl rfl ?_
  refine R_ic dd_closure_4 (by decide) rfl ?_
  refine R_st (ls' := [some (.inr (.inr 182)), some (.inl v1), some (.inl (zshl 1 v1)), some (.inl 0), none]) dd_closure_5 rfl rfl rfl (Nat.le_of_ble_eq_true rfl) rfl rfl ?_
  exact k
theorem B_closure_6 {xs : Nat → Int} {xl e : Nat} {h : LH} {Q : Option LV → LH → Prop} {v1 v2 v3 : Int} {o4 : Option LV} (no4 : nL o4) (hF : RF h)
    (k : (v2 = v3 →
        Q (some (.inl v2)) h) ∧
      (v2 ≠ v3 →
        Rn xs xl e mm_closure 16 [some (.inr (.inr 182)), some (.inl v1), some (.inl v2), some (.inl v2), some (.inl 0)] [] h Q)) :
    Rn xs xl e mm_closure 6 [some (.inr (.inr 182)), some (.inl v1), some (.inl v2), some (.inl v3), o4] [] h Q := by
  refine R_ld (v := .inl v2) dd_closure_6 rfl rfl rfl rfl ?_
  refine R_ld (v := .inl v3) dd_closure_7 rfl rfl rfl rfl ?_
  refine R_icmp dd_closure_8 rfl rfl (fun (c1 : v2 = v3) => ?_) (fun (c1 : v2 ≠ v3) => ?_)
  · replace k := k.1 c1
    refine R_ld (v := .inl v2) dd_closure_57 rfl rfl rfl rfl ?_
    exact R_iret dd_closure_58 rfl k
  · replace k := k.2 c1
    refine R_ld (v := .inl v2) dd_closure_11 rfl rfl rfl rfl ?_
    refine R_st (ls' := [some (.inr (.inr 182)), some (.inl v1), some (.inl v2), some (.inl v2), o4]) dd_closure_12 rfl rfl rfl (Nat.le_of_ble_eq_true rfl) rfl rfl ?_
    refine R_ic dd_closure_13 (by decide) rfl ?_
    refine R_st (ls' := [some (.inr (.inr 182)), some (.inl v1), some (.inl v2), some (.inl v2), some (.inl 0)]) dd_closure_14 rfl rfl rfl (Nat.le_of_ble_eq_true rfl) rfl rfl ?_
    exact k
theorem B_closure_16 {xs : Nat → Int} {xl e : Nat} {h : LH} {Q : Option LV → LH → Prop} {v1 v2 v3 v4 : Int} (hF : RF h) (he : 1 ≤ e)
    (k : ((rd h 188 0) ≤ v4 →
        Rn xs xl e mm_closure 6 [some (.inr (.inr 182)), some (.inl v1), some (.inl v2), some (.inl v3), some (.inl v4)] [] h Q) ∧
      (v4 < (rd h 188 0) →
        ((zand (zshr v2 v4) 1) ≠ 1 →
          (-2147483648 ≤ v4 + 1 ∧ v4 + 1 ≤ 2147483647) ∧
          Rn xs xl e mm_closure 16 [some (.inr (.inr 182)), some (.inl v1), some (.inl (zor v2 0)), some (.inl v3), some (.inl (v4 + 1))] [] h Q) ∧
        ((zand (zshr v2 v4) 1) = 1 →
          (0 ≤ v4 ∧ v4 < 10) ∧
          (-2147483648 ≤ v4 + 1 ∧ v4 + 1 ≤ 2147483647) ∧
          Rn xs xl e mm_closure 16 [some (.inr (.inr 182)), some (.inl v1), some (.inl (zor v2 (rd h 203 v4))), some (.inl v3), some (.inl (v4 + 1))] [] h Q))) :
    Rn xs xl e mm_closure 16 [some (.inr (.inr 182)), some (.inl v1), some (.inl v2), some (.inl v3), some (.inl v4)] [] h Q := by
  refine R_ld (v := .inl v4) dd_closure_16 rfl rfl rfl rfl ?_
  refine R_ld (v := .inr (.inr 182)) dd_closure_18 rfl rfl rfl rfl ?_
  refine R_call (as := [.inr (.inr 182)]) (rest := [.inl v4]) (M' := mm_rooms) (ls0 := [some (.inr (.inr 182))]) dd_closure_19 rfl rfl (cw_v cw_12_332 io_182 rfl rfl (Nat.le_of_ble_eq_true rfl) (Nat.le_of_ble_eq_true rfl)) mt_rooms rfl (c := e - 1) (by omega) rfl ?_
  refine R_ld (v := .inr (.inr 182)) dd_rooms_0 rfl rfl rfl rfl ?_
  refine R_gf (v := .inr (.inr 188)) dd_rooms_1 fd_12_95 io_182 (congrArg (fun z : Int => (Sum.inr (Sum.inr z) : LV)) (rf_182_10 hF)) rfl ?_
  refine R_ic dd_rooms_4 (by decide) rfl ?_
  refine R_iald (v := (rd h 188 0)) (n := 300) dd_rooms_5 ia_188 la_188 (by decide) (rfl) rfl ?_
  refine R_iret dd_rooms_6 rfl ?_
  change Rn xs xl e mm_closure 22 [some (.inr (.inr 182)), some (.inl v1), some (.inl v2), some (.inl v3), some (.inl v4)] [.inl (rd h 188 0), .inl v4] h _
  refine R_icmp dd_closure_22 rfl rfl (fun (c4 : (rd h 188 0) ≤ v4) => ?_) (fun (c4 : v4 < (rd h 188 0)) => ?_)
  · replace k := k.1 c4
    refine R_goto dd_closure_54 rfl ?_
    exact k
  · replace k := k.2 c4
    refine R_ld (v := .inl v2) dd_closure_25 rfl rfl rfl rfl ?_
    refine R_ld (v := .inl v2) dd_closure_26 rfl rfl rfl rfl ?_
    refine R_ld (v := .inl v4) dd_closure_27 rfl rfl rfl rfl ?_
    refine R_call (as := [.inl v2, .inl v4]) (rest := [.inl v2]) (M' := mm_isIn) (ls0 := [some (.inl v2), some (.inl v4)]) dd_closure_29 rfl rfl (cw_s cw_12_350 rfl rfl (Nat.le_of_ble_eq_true rfl) (Nat.le_of_ble_eq_true rfl)) mt_isIn rfl (c := e - 1) (by omega) rfl ?_
    refine R_ld (v := .inl v2) dd_isIn_0 rfl rfl rfl rfl ?_
    refine R_ld (v := .inl v4) dd_isIn_1 rfl rfl rfl rfl ?_
    refine R_A dd_isIn_2 rfl rfl rfl rfl ?_
    refine R_ic dd_isIn_3 (by decide) rfl ?_
    refine R_A dd_isIn_4 rfl rfl rfl rfl ?_
    refine R_ic dd_isIn_5 (by decide) rfl ?_
    refine R_icmp dd_isIn_6 rfl rfl (fun (c5 : (zand (zshr v2 v4) 1) ≠ 1) => ?_) (fun (c5 : (zand (zshr v2 v4) 1) = 1) => ?_)
    · replace k := k.1 c5
      refine R_ic dd_isIn_13 (by decide) rfl ?_
      refine R_zret dd_isIn_14 rfl (by decide) ?_
      change Rn xs xl e mm_closure 32 [some (.inr (.inr 182)), some (.inl v1), some (.inl v2), some (.inl v3), some (.inl v4)] [.inl 0, .inl v2] h _
      refine R_if dd_closure_32 rfl rfl (fun (c6 : 0 = 0) => ?_) (fun (c6 : 0 ≠ 0) => ?_)
      · skip
        refine R_ic dd_closure_45 (by decide) rfl ?_
        refine R_A dd_closure_46 rfl rfl rfl rfl ?_
        refine R_st (ls' := [some (.inr (.inr 182)), some (.inl v1), some (.inl (zor v2 0)), some (.inl v3), some (.inl v4)]) dd_closure_47 rfl rfl rfl (Nat.le_of_ble_eq_true rfl) rfl rfl ?_
        obtain ⟨s1, k⟩ := k
        refine R_inc (y := v4 + 1) (ls' := [some (.inr (.inr 182)), some (.inl v1), some (.inl (zor v2 0)), some (.inl v3), some (.inl (v4 + 1))]) dd_closure_48 rfl (by decide) (by omega) s1 rfl rfl ?_
        refine R_goto dd_closure_51 rfl ?_
        exact k
      · exact absurd c6 (by omega)
    · replace k := k.2 c5
      refine R_ic dd_isIn_9 (by decide) rfl ?_
      refine R_goto dd_isIn_10 rfl ?_
      refine R_zret dd_isIn_14 rfl (by decide) ?_
      change Rn xs xl e mm_closure 32 [some (.inr (.inr 182)), some (.inl v1), some (.inl v2), some (.inl v3), some (.inl v4)] [.inl 1, .inl v2] h _
      refine R_if dd_closure_32 rfl rfl (fun (c7 : 1 = 0) => ?_) (fun (c7 : 1 ≠ 0) => ?_)
      · exact absurd c7 (by omega)
      · skip
        refine R_ld (v := .inr (.inr 182)) dd_closure_35 rfl rfl rfl rfl ?_
        refine R_gf (v := .inr (.inr 203)) dd_closure_36 fd_12_147 io_182 (congrArg (fun z : Int => (Sum.inr (Sum.inr z) : LV)) (rf_182_37 hF)) rfl ?_
        refine R_ld (v := .inl v4) dd_closure_39 rfl rfl rfl rfl ?_
        obtain ⟨s2, k⟩ := k
        refine R_iald (v := (rd h 203 v4)) (n := 10) dd_closure_41 ia_203 la_203 s2 (rfl) rfl ?_
        refine R_goto dd_closure_42 rfl ?_
        refine R_A dd_closure_46 rfl rfl rfl rfl ?_
        refine R_st (ls' := [some (.inr (.inr 182)), some (.inl v1), some (.inl (zor v2 (rd h 203 v4))), some (.inl v3), some (.inl v4)]) dd_closure_47 rfl rfl rfl (Nat.le_of_ble_eq_true rfl) rfl rfl ?_
        obtain ⟨s3, k⟩ := k
        refine R_inc (y := v4 + 1) (ls' := [some (.inr (.inr 182)), some (.inl v1), some (.inl (zor v2 (rd h 203 v4))), some (.inl v3), some (.inl (v4 + 1))]) dd_closure_48 rfl (by decide) (by omega) s3 rfl rfl ?_
        refine R_goto dd_closure_51 rfl ?_
        exact k
theorem B_copies_0 {xs : Nat → Int} {xl e : Nat} {h : LH} {Q : Option LV → LH → Prop} {v1 v2 v3 : Int} (hF : RF h)
    (k : Rn xs xl e mm_copies 3 [some (.inr (.inr 182)), some (.inl v1), some (.inl v2), some (.inl v3), some (.inl 0)] [] h Q) :
    Rn xs xl e mm_copies 0 [some (.inr (.inr 182)), some (.inl v1), some (.inl v2), some (.inl v3), none] [] h Q := by
  refine R_ic dd_copies_0 (by decide) rfl ?_
  refine R_st (ls' := [some (.inr (.inr 182)), some (.inl v1), some (.inl v2), some (.inl v3), some (.inl 0)]) dd_copies_1 rfl rfl rfl (Nat.le_of_ble_eq_true rfl) rfl rfl ?_
  exact k
theorem B_copies_3 {xs : Nat → Int} {xl e : Nat} {h : LH} {Q : Option LV → LH → Prop} {v1 v2 v3 v4 : Int} (hF : RF h)
    (k : (v3 ≤ v4 →
        Q none h) ∧
      (v4 < v3 →
        (-2147483648 ≤ v2 + v4 ∧ v2 + v4 ≤ 2147483647) ∧
        (-2147483648 ≤ v1 + v4 ∧ v1 + v4 ≤ 2147483647) ∧
        (0 ≤ v1 + v4 ∧ v1 + v4 < 1610) ∧
        (0 ≤ v2 + v4 ∧ v2 + v4 < 1610) ∧
        (-2147483648 ≤ v4 + 1 ∧ v4 + 1 ≤ 2147483647) ∧
        Rn xs xl e mm_copies 3 [some (.inr (.inr 182)), some (.inl v1), some (.inl v2), some (.inl v3), some (.inl (v4 + 1))] [] (wr h 198 (v2 + v4) (rd h 198 (v1 + v4))) Q)) :
    Rn xs xl e mm_copies 3 [some (.inr (.inr 182)), some (.inl v1), some (.inl v2), some (.inl v3), some (.inl v4)] [] h Q := by
  refine R_ld (v := .inl v4) dd_copies_3 rfl rfl rfl rfl ?_
  refine R_ld (v := .inl v3) dd_copies_5 rfl rfl rfl rfl ?_
  refine R_icmp dd_copies_6 rfl rfl (fun (c6 : v3 ≤ v4) => ?_) (fun (c6 : v4 < v3) => ?_)
  · replace k := k.1 c6
    exact R_vret dd_copies_33 rfl k
  · replace k := k.2 c6
    refine R_ld (v := .inr (.inr 182)) dd_copies_9 rfl rfl rfl rfl ?_
    refine R_gf (v := .inr (.inr 198)) dd_copies_10 fd_12_125 io_182 (congrArg (fun z : Int => (Sum.inr (Sum.inr z) : LV)) (rf_182_24 hF)) rfl ?_
    refine R_ld (v := .inl v2) dd_copies_13 rfl rfl rfl rfl ?_
    refine R_ld (v := .inl v4) dd_copies_14 rfl rfl rfl rfl ?_
    obtain ⟨s1, k⟩ := k
    refine R_iadd (c := v2 + v4) dd_copies_16 (by omega) s1 rfl ?_
    refine R_ld (v := .inr (.inr 182)) dd_copies_17 rfl rfl rfl rfl ?_
    refine R_gf (v := .inr (.inr 198)) dd_copies_18 fd_12_125 io_182 (congrArg (fun z : Int => (Sum.inr (Sum.inr z) : LV)) (rf_182_24 hF)) rfl ?_
    refine R_ld (v := .inl v1) dd_copies_21 rfl rfl rfl rfl ?_
    refine R_ld (v := .inl v4) dd_copies_22 rfl rfl rfl rfl ?_
    obtain ⟨s2, k⟩ := k
    refine R_iadd (c := v1 + v4) dd_copies_24 (by omega) s2 rfl ?_
    obtain ⟨s3, k⟩ := k
    refine R_iald (v := (rd h 198 (v1 + v4))) (n := 1610) dd_copies_25 ia_198 la_198 s3 (rfl) rfl ?_
    obtain ⟨s4, k⟩ := k
    refine R_iast (n := 1610) dd_copies_26 ia_198 la_198 s4 rfl ?_
    obtain ⟨s5, k⟩ := k
    refine R_inc (y := v4 + 1) (ls' := [some (.inr (.inr 182)), some (.inl v1), some (.inl v2), some (.inl v3), some (.inl (v4 + 1))]) dd_copies_27 rfl (by decide) (by omega) s5 rfl rfl ?_
    refine R_goto dd_copies_30 rfl ?_
    exact k
end
section
/-! LM, part 36, by program (wip/p2/accs.py): the reference's places: what they hold, what may be put there -/
theorem fi32 {k : Nat} {lo hi : Int} {st : Nat} {x : Int} (hx : inV (k, lo, hi, st) x) : lo ≤ x ∧ x ≤ hi := ⟨hx.1, hx.2.1⟩
theorem rdP {h : LH} (hr : RNG h) {a i : Int} (hv : valid a i) (hk : lkd a i = 0 ∨ lkd a i = 3) {lo hi : Int} {st : Nat} (hg : ∀ v, gV (hav a i) v → gV (0, lo, hi, st) v) : lo ≤ rd h a i ∧ rd h a i ≤ hi ∧ i32 (rd h a i) := by
  have h1 := hg _ (hr a i hv)
  have h2 : hval h a i = .inl (rd h a i) := by
    unfold hval
    rcases hk with q | q <;> rw [q] <;> rfl
  rw [h2] at h1
  exact ⟨h1.2.2.1, h1.2.2.2.1, h1.2.1⟩
theorem wrP {h : LH} (hh : INV h) {a i v : Int} (hp : ¬ sens a i) (hk : lkd a i = 0 ∨ lkd a i = 3) {lo hi : Int} (hg : ∀ v, gV (0, lo, hi, 1) v → gV (hav a i) v) (h0 : lo ≤ v) (h1 : v ≤ hi) (h2 : i32 v) : INV (wr h a i v) := by
  refine INV_wr hh hp ?_
  have h2 : mkv (lkd a i) v = .inl v := by rcases hk with q | q <;> rw [q] <;> rfl
  rw [h2]
  exact hg _ ⟨rfl, by assumption, h0, h1, Int.one_dvd _⟩
theorem wrR {h : LH} (hr : RNG h) {a i v : Int} (hk : lkd a i = 0 ∨ lkd a i = 3) {lo hi : Int} (hg : ∀ v, gV (0, lo, hi, 1) v → gV (hav a i) v) (h0 : lo ≤ v) (h1 : v ≤ hi) (h2 : i32 v) : RNG (wr h a i v) := by
  refine RNG_wr hr ?_
  have h2 : mkv (lkd a i) v = .inl v := by rcases hk with q | q <;> rw [q] <;> rfl
  rw [h2]
  exact hg _ ⟨rfl, by assumption, h0, h1, Int.one_dvd _⟩
theorem vldA {a i : Int} {k n : Nat} (ia : isA NC a k = true) (la : (lay a.toNat).2.2 = n) (hi : 0 ≤ i ∧ i < (n : Int)) : valid a i := ⟨(isA_of ia).1, (isA_of ia).2.1, hi.1, by rw [la]; exact hi.2⟩
theorem inv1 {lo hi i : Int} (h0 : lo ≤ i) (h1 : i ≤ hi) : inV (0, lo, hi, 1) i := ⟨h0, h1, Int.one_dvd _⟩
theorem invs {lo hi : Int} {s : Nat} {k i : Int} (e : i = lo + s * k) (h0 : 0 ≤ k) (h1 : i ≤ hi) : inV (0, lo, hi, s) i := by
  subst e
  exact ⟨by have : 0 ≤ (s : Int) * k := Int.mul_nonneg (by omega) h0; show lo ≤ lo + s * k; omega, h1, ⟨k, by show lo + s * k - lo = s * k; omega⟩⟩
theorem leA1 {a b : AV} (h : leA a b = true) : ∀ v, gV a v → gV b v := fun v hv => leA_ok h hv
theorem rF_thrown {h : LH} (hr : RNG h) : -2147483648 ≤ rd h 182 0 ∧ rd h 182 0 ≤ 2147483647 := by
  have q := rdP (a := 182) (i := 0) (lo := -2147483648) (hi := 2147483647) (st := 1) hr (vB_ok (by decide +kernel)) (Or.inl (by decide +kernel)) (leA1 (by decide +kernel))
  exact ⟨q.1, q.2.1⟩
theorem wF_thrown {h : LH} (hh : INV h) {v : Int} (h0 : -2147483648 ≤ v) (h1 : v ≤ 2147483647) : INV (wr h 182 0 v) := wrP hh (by unfold sens; omega) (Or.inl (by decide +kernel)) (leA1 (by decide +kernel)) h0 h1 ⟨by omega, by omega⟩
theorem rF_taped {h : LH} (hr : RNG h) : 0 ≤ rd h 182 2 ∧ rd h 182 2 ≤ 1000 := by
  have q := rdP (a := 182) (i := 2) (lo := 0) (hi := 1000) (st := 1) hr (vB_ok (by decide +kernel)) (Or.inl (by decide +kernel)) (leA1 (by decide +kernel))
  exact ⟨q.1, q.2.1⟩
theorem wF_taped {h : LH} (hh : INV h) {v : Int} (h0 : 0 ≤ v) (h1 : v ≤ 1000) : INV (wr h 182 2 v) := wrP hh (by unfold sens; omega) (Or.inl (by decide +kernel)) (leA1 (by decide +kernel)) h0 h1 ⟨by omega, by omega⟩
theorem rF_size {h : LH} (hr : RNG h) : 0 ≤ rd h 182 3 ∧ rd h 182 3 ≤ 1000 := by
  have q := rdP (a := 182) (i := 3) (lo := 0) (hi := 1000) (st := 1) hr (vB_ok (by decide +kernel)) (Or.inl (by decide +kernel)) (leA1 (by decide +kernel))
  exact ⟨q.1, q.2.1⟩
theorem wF_size {h : LH} (hh : INV h) {v : Int} (h0 : 0 ≤ v) (h1 : v ≤ 1000) : INV (wr h 182 3 v) := wrP hh (by unfold sens; omega) (Or.inl (by decide +kernel)) (leA1 (by decide +kernel)) h0 h1 ⟨by omega, by omega⟩
theorem rF_at {h : LH} (hr : RNG h) : 0 ≤ rd h 182 7 ∧ rd h 182 7 ≤ 1000 := by
  have q := rdP (a := 182) (i := 7) (lo := 0) (hi := 1000) (st := 1) hr (vB_ok (by decide +kernel)) (Or.inl (by decide +kernel)) (leA1 (by decide +kernel))
  exact ⟨q.1, q.2.1⟩
theorem wF_at {h : LH} (hh : INV h) {v : Int} (h0 : 0 ≤ v) (h1 : v ≤ 1000) : INV (wr h 182 7 v) := wrP hh (by unfold sens; omega) (Or.inl (by decide +kernel)) (leA1 (by decide +kernel)) h0 h1 ⟨by omega, by omega⟩
theorem rF_fault {h : LH} (hr : RNG h) : 0 ≤ rd h 182 8 ∧ rd h 182 8 ≤ 16005 := by
  have q := rdP (a := 182) (i := 8) (lo := 0) (hi := 16005) (st := 1) hr (vB_ok (by decide +kernel)) (Or.inl (by decide +kernel)) (leA1 (by decide +kernel))
  exact ⟨q.1, q.2.1⟩
theorem wF_fault {h : LH} (hh : INV h) {v : Int} (h0 : 0 ≤ v) (h1 : v ≤ 16005) : INV (wr h 182 8 v) := wrP hh (by unfold sens; omega) (Or.inl (by decide +kernel)) (leA1 (by decide +kernel)) h0 h1 ⟨by omega, by omega⟩
theorem rF_codes {h : LH} (hr : RNG h) : 0 ≤ rd h 182 13 ∧ rd h 182 13 ≤ 1000 := by
  have q := rdP (a := 182) (i := 13) (lo := 0) (hi := 1000) (st := 1) hr (vB_ok (by decide +kernel)) (Or.inl (by decide +kernel)) (leA1 (by decide +kernel))
  exact ⟨q.1, q.2.1⟩
theorem wF_codes {h : LH} (hh : INV h) {v : Int} (h0 : 0 ≤ v) (h1 : v ≤ 1000) : INV (wr h 182 13 v) := wrP hh (by unfold sens; omega) (Or.inl (by decide +kernel)) (leA1 (by decide +kernel)) h0 h1 ⟨by omega, by omega⟩
theorem rF_namesMany {h : LH} (hr : RNG h) : 0 ≤ rd h 182 18 ∧ rd h 182 18 ≤ 20 := by
  have q := rdP (a := 182) (i := 18) (lo := 0) (hi := 20) (st := 1) hr (vB_ok (by decide +kernel)) (Or.inl (by decide +kernel)) (leA1 (by decide +kernel))
  exact ⟨q.1, q.2.1⟩
theorem wF_namesMany {h : LH} (hh : INV h) {v : Int} (h0 : 0 ≤ v) (h1 : v ≤ 20) : INV (wr h 182 18 v) := wrP hh (by unfold sens; omega) (Or.inl (by decide +kernel)) (leA1 (by decide +kernel)) h0 h1 ⟨by omega, by omega⟩
theorem rF_readMany {h : LH} (hr : RNG h) : 0 ≤ rd h 182 19 ∧ rd h 182 19 ≤ 20 := by
  have q := rdP (a := 182) (i := 19) (lo := 0) (hi := 20) (st := 1) hr (vB_ok (by decide +kernel)) (Or.inl (by decide +kernel)) (leA1 (by decide +kernel))
  exact ⟨q.1, q.2.1⟩
theorem wF_readMany {h : LH} (hh : INV h) {v : Int} (h0 : 0 ≤ v) (h1 : v ≤ 20) : INV (wr h 182 19 v) := wrP hh (by unfold sens; omega) (Or.inl (by decide +kernel)) (leA1 (by decide +kernel)) h0 h1 ⟨by omega, by omega⟩
theorem rF_readLines {h : LH} (hr : RNG h) : 0 ≤ rd h 182 21 ∧ rd h 182 21 ≤ 24 := by
  have q := rdP (a := 182) (i := 21) (lo := 0) (hi := 24) (st := 1) hr (vB_ok (by decide +kernel)) (Or.inl (by decide +kernel)) (leA1 (by decide +kernel))
  exact ⟨q.1, q.2.1⟩
theorem wF_readLines {h : LH} (hh : INV h) {v : Int} (h0 : 0 ≤ v) (h1 : v ≤ 24) : INV (wr h 182 21 v) := wrP hh (by unfold sens; omega) (Or.inl (by decide +kernel)) (leA1 (by decide +kernel)) h0 h1 ⟨by omega, by omega⟩
theorem rF_undos {h : LH} (hr : RNG h) : 0 ≤ rd h 182 25 ∧ rd h 182 25 ≤ 16 := by
  have q := rdP (a := 182) (i := 25) (lo := 0) (hi := 16) (st := 1) hr (vB_ok (by decide +kernel)) (Or.inl (by decide +kernel)) (leA1 (by decide +kernel))
  exact ⟨q.1, q.2.1⟩
theorem rF_setOne {h : LH} (hr : RNG h) : -1 ≤ rd h 182 28 ∧ rd h 182 28 ≤ 13 := by
  have q := rdP (a := 182) (i := 28) (lo := -1) (hi := 13) (st := 1) hr (vB_ok (by decide +kernel)) (Or.inl (by decide +kernel)) (leA1 (by decide +kernel))
  exact ⟨q.1, q.2.1⟩
theorem wF_setOne {h : LH} (hh : INV h) {v : Int} (h0 : -1 ≤ v) (h1 : v ≤ 13) : INV (wr h 182 28 v) := wrP hh (by unfold sens; omega) (Or.inl (by decide +kernel)) (leA1 (by decide +kernel)) h0 h1 ⟨by omega, by omega⟩
theorem rF_setOther {h : LH} (hr : RNG h) : -1 ≤ rd h 182 29 ∧ rd h 182 29 ≤ 13 := by
  have q := rdP (a := 182) (i := 29) (lo := -1) (hi := 13) (st := 1) hr (vB_ok (by decide +kernel)) (Or.inl (by decide +kernel)) (leA1 (by decide +kernel))
  exact ⟨q.1, q.2.1⟩
theorem wF_setOther {h : LH} (hh : INV h) {v : Int} (h0 : -1 ≤ v) (h1 : v ≤ 13) : INV (wr h 182 29 v) := wrP hh (by unfold sens; omega) (Or.inl (by decide +kernel)) (leA1 (by decide +kernel)) h0 h1 ⟨by omega, by omega⟩
theorem rF_priceOne {h : LH} (hr : RNG h) : 0 ≤ rd h 182 30 ∧ rd h 182 30 ≤ 9 := by
  have q := rdP (a := 182) (i := 30) (lo := 0) (hi := 9) (st := 1) hr (vB_ok (by decide +kernel)) (Or.inl (by decide +kernel)) (leA1 (by decide +kernel))
  exact ⟨q.1, q.2.1⟩
theorem wF_priceOne {h : LH} (hh : INV h) {v : Int} (h0 : 0 ≤ v) (h1 : v ≤ 9) : INV (wr h 182 30 v) := wrP hh (by unfold sens; omega) (Or.inl (by decide +kernel)) (leA1 (by decide +kernel)) h0 h1 ⟨by omega, by omega⟩
theorem rF_priceOther {h : LH} (hr : RNG h) : 0 ≤ rd h 182 31 ∧ rd h 182 31 ≤ 9 := by
  have q := rdP (a := 182) (i := 31) (lo := 0) (hi := 9) (st := 1) hr (vB_ok (by decide +kernel)) (Or.inl (by decide +kernel)) (leA1 (by decide +kernel))
  exact ⟨q.1, q.2.1⟩
theorem wF_priceOther {h : LH} (hh : INV h) {v : Int} (h0 : 0 ≤ v) (h1 : v ≤ 9) : INV (wr h 182 31 v) := wrP hh (by unfold sens; omega) (Or.inl (by decide +kernel)) (leA1 (by decide +kernel)) h0 h1 ⟨by omega, by omega⟩
theorem rF_wayMany {h : LH} (hr : RNG h) : 0 ≤ rd h 182 34 ∧ rd h 182 34 ≤ 30 := by
  have q := rdP (a := 182) (i := 34) (lo := 0) (hi := 30) (st := 1) hr (vB_ok (by decide +kernel)) (Or.inl (by decide +kernel)) (leA1 (by decide +kernel))
  exact ⟨q.1, q.2.1⟩
theorem wF_wayMany {h : LH} (hh : INV h) {v : Int} (h0 : 0 ≤ v) (h1 : v ≤ 30) : INV (wr h 182 34 v) := wrP hh (by unfold sens; omega) (Or.inl (by decide +kernel)) (leA1 (by decide +kernel)) h0 h1 ⟨by omega, by omega⟩
theorem rF_nextState {h : LH} (hr : RNG h) : 0 ≤ rd h 182 35 ∧ rd h 182 35 ≤ 19 := by
  have q := rdP (a := 182) (i := 35) (lo := 0) (hi := 19) (st := 1) hr (vB_ok (by decide +kernel)) (Or.inl (by decide +kernel)) (leA1 (by decide +kernel))
  exact ⟨q.1, q.2.1⟩
theorem wF_nextState {h : LH} (hh : INV h) {v : Int} (h0 : 0 ≤ v) (h1 : v ≤ 19) : INV (wr h 182 35 v) := wrP hh (by unfold sens; omega) (Or.inl (by decide +kernel)) (leA1 (by decide +kernel)) h0 h1 ⟨by omega, by omega⟩
theorem rF_nextHour {h : LH} (hr : RNG h) : 0 ≤ rd h 182 36 ∧ rd h 182 36 ≤ 24 := by
  have q := rdP (a := 182) (i := 36) (lo := 0) (hi := 24) (st := 1) hr (vB_ok (by decide +kernel)) (Or.inl (by decide +kernel)) (leA1 (by decide +kernel))
  exact ⟨q.1, q.2.1⟩
theorem wF_nextHour {h : LH} (hh : INV h) {v : Int} (h0 : 0 ≤ v) (h1 : v ≤ 24) : INV (wr h 182 36 v) := wrP hh (by unfold sens; omega) (Or.inl (by decide +kernel)) (leA1 (by decide +kernel)) h0 h1 ⟨by omega, by omega⟩
theorem rF_tail0 {h : LH} (hr : RNG h) : 0 ≤ rd h 182 42 ∧ rd h 182 42 ≤ 250 := by
  have q := rdP (a := 182) (i := 42) (lo := 0) (hi := 250) (st := 1) hr (vB_ok (by decide +kernel)) (Or.inl (by decide +kernel)) (leA1 (by decide +kernel))
  exact ⟨q.1, q.2.1⟩
theorem wF_tail0 {h : LH} (hh : INV h) {v : Int} (h0 : 0 ≤ v) (h1 : v ≤ 250) : INV (wr h 182 42 v) := wrP hh (by unfold sens; omega) (Or.inl (by decide +kernel)) (leA1 (by decide +kernel)) h0 h1 ⟨by omega, by omega⟩
theorem rF_foundMany {h : LH} (hr : RNG h) : -2147483648 ≤ rd h 182 45 ∧ rd h 182 45 ≤ 2147483647 := by
  have q := rdP (a := 182) (i := 45) (lo := -2147483648) (hi := 2147483647) (st := 1) hr (vB_ok (by decide +kernel)) (Or.inl (by decide +kernel)) (leA1 (by decide +kernel))
  exact ⟨q.1, q.2.1⟩
theorem wF_foundMany {h : LH} (hh : INV h) {v : Int} (h0 : -2147483648 ≤ v) (h1 : v ≤ 2147483647) : INV (wr h 182 45 v) := wrP hh (by unfold sens; omega) (Or.inl (by decide +kernel)) (leA1 (by decide +kernel)) h0 h1 ⟨by omega, by omega⟩
theorem rF_foundAll {h : LH} (hr : RNG h) : -2147483648 ≤ rd h 182 46 ∧ rd h 182 46 ≤ 2147483647 := by
  have q := rdP (a := 182) (i := 46) (lo := -2147483648) (hi := 2147483647) (st := 1) hr (vB_ok (by decide +kernel)) (Or.inl (by decide +kernel)) (leA1 (by decide +kernel))
  exact ⟨q.1, q.2.1⟩
theorem wF_foundAll {h : LH} (hh : INV h) {v : Int} (h0 : -2147483648 ≤ v) (h1 : v ≤ 2147483647) : INV (wr h 182 46 v) := wrP hh (by unfold sens; omega) (Or.inl (by decide +kernel)) (leA1 (by decide +kernel)) h0 h1 ⟨by omega, by omega⟩
theorem rF_foundSome {h : LH} (hr : RNG h) : -2147483648 ≤ rd h 182 47 ∧ rd h 182 47 ≤ 2147483647 := by
  have q := rdP (a := 182) (i := 47) (lo := -2147483648) (hi := 2147483647) (st := 1) hr (vB_ok (by decide +kernel)) (Or.inl (by decide +kernel)) (leA1 (by decide +kernel))
  exact ⟨q.1, q.2.1⟩
theorem wF_foundSome {h : LH} (hh : INV h) {v : Int} (h0 : -2147483648 ≤ v) (h1 : v ≤ 2147483647) : INV (wr h 182 47 v) := wrP hh (by unfold sens; omega) (Or.inl (by decide +kernel)) (leA1 (by decide +kernel)) h0 h1 ⟨by omega, by omega⟩
theorem rF_foundLeast {h : LH} (hr : RNG h) : -2147483648 ≤ rd h 182 48 ∧ rd h 182 48 ≤ 2147483647 := by
  have q := rdP (a := 182) (i := 48) (lo := -2147483648) (hi := 2147483647) (st := 1) hr (vB_ok (by decide +kernel)) (Or.inl (by decide +kernel)) (leA1 (by decide +kernel))
  exact ⟨q.1, q.2.1⟩
theorem wF_foundLeast {h : LH} (hh : INV h) {v : Int} (h0 : -2147483648 ≤ v) (h1 : v ≤ 2147483647) : INV (wr h 182 48 v) := wrP hh (by unfold sens; omega) (Or.inl (by decide +kernel)) (leA1 (by decide +kernel)) h0 h1 ⟨by omega, by omega⟩
theorem rF_runInTime {h : LH} (hr : RNG h) : -2147483648 ≤ rd h 182 52 ∧ rd h 182 52 ≤ 2147483647 := by
  have q := rdP (a := 182) (i := 52) (lo := -2147483648) (hi := 2147483647) (st := 1) hr (vB_ok (by decide +kernel)) (Or.inl (by decide +kernel)) (leA1 (by decide +kernel))
  exact ⟨q.1, q.2.1⟩
theorem wF_runInTime {h : LH} (hh : INV h) {v : Int} (h0 : -2147483648 ≤ v) (h1 : v ≤ 2147483647) : INV (wr h 182 52 v) := wrP hh (by unfold sens; omega) (Or.inl (by decide +kernel)) (leA1 (by decide +kernel)) h0 h1 ⟨by omega, by omega⟩
theorem rF_runNot {h : LH} (hr : RNG h) : -2147483648 ≤ rd h 182 53 ∧ rd h 182 53 ≤ 2147483647 := by
  have q := rdP (a := 182) (i := 53) (lo := -2147483648) (hi := 2147483647) (st := 1) hr (vB_ok (by decide +kernel)) (Or.inl (by decide +kernel)) (leA1 (by decide +kernel))
  exact ⟨q.1, q.2.1⟩
theorem wF_runNot {h : LH} (hh : INV h) {v : Int} (h0 : -2147483648 ≤ v) (h1 : v ≤ 2147483647) : INV (wr h 182 53 v) := wrP hh (by unfold sens; omega) (Or.inl (by decide +kernel)) (leA1 (by decide +kernel)) h0 h1 ⟨by omega, by omega⟩
theorem hA_tape (i : Int) : hav 183 i = (0, 0, 126, 1) := by
  unfold hav
  rw [show RGL[(183 : Int).toNat]? = some [(0, 0, 126, 1)] by decide +kernel]
  simp only [List.length_singleton, Nat.mod_one]
  rfl
theorem rA_tape {h : LH} (hr : RNG h) {i : Int} (hi : 0 ≤ i ∧ i < 1000) : 0 ≤ rd h 183 i ∧ rd h 183 i ≤ 126 := by
  have q := rdP (a := 183) (i := i) (lo := 0) (hi := 126) (st := 1) hr (vldA (n := 1000) (k := 1) (by decide +kernel) (by decide +kernel) hi) (Or.inl (lkd_1 (by decide +kernel))) (fun v hv => by rw [hA_tape] at hv; exact hv)
  exact ⟨q.1, q.2.1⟩
theorem wA_tape {h : LH} (hh : INV h) {i v : Int} (hi : 0 ≤ i ∧ i < 1000) (h0 : 0 ≤ v) (h1 : v ≤ 126) : INV (wr h 183 i v) := wrP hh (by unfold sens; omega) (Or.inl (lkd_1 (by decide +kernel))) (fun v hv => by rw [hA_tape]; exact hv) h0 h1 ⟨by omega, by omega⟩
theorem wR_tape {h : LH} (hr : RNG h) {i v : Int} (h0 : 0 ≤ v) (h1 : v ≤ 126) : RNG (wr h 183 i v) := wrR hr (Or.inl (lkd_1 (by decide +kernel))) (fun v hv => by rw [hA_tape]; exact hv) h0 h1 ⟨by omega, by omega⟩
theorem hA_sort (i : Int) : hav 184 i = (0, 0, 4, 1) := by
  unfold hav
  rw [show RGL[(184 : Int).toNat]? = some [(0, 0, 4, 1)] by decide +kernel]
  simp only [List.length_singleton, Nat.mod_one]
  rfl
theorem rA_sort {h : LH} (hr : RNG h) {i : Int} (hi : 0 ≤ i ∧ i < 1002) : 0 ≤ rd h 184 i ∧ rd h 184 i ≤ 4 := by
  have q := rdP (a := 184) (i := i) (lo := 0) (hi := 4) (st := 1) hr (vldA (n := 1002) (k := 1) (by decide +kernel) (by decide +kernel) hi) (Or.inl (lkd_1 (by decide +kernel))) (fun v hv => by rw [hA_sort] at hv; exact hv)
  exact ⟨q.1, q.2.1⟩
theorem wR_sort {h : LH} (hr : RNG h) {i v : Int} (h0 : 0 ≤ v) (h1 : v ≤ 4) : RNG (wr h 184 i v) := wrR hr (Or.inl (lkd_1 (by decide +kernel))) (fun v hv => by rw [hA_sort]; exact hv) h0 h1 ⟨by omega, by omega⟩
theorem hA_place (i : Int) : hav 185 i = (0, 0, 1000, 1) := by
  unfold hav
  rw [show RGL[(185 : Int).toNat]? = some [(0, 0, 1000, 1)] by decide +kernel]
  simp only [List.length_singleton, Nat.mod_one]
  rfl
theorem rA_place {h : LH} (hr : RNG h) {i : Int} (hi : 0 ≤ i ∧ i < 1002) : 0 ≤ rd h 185 i ∧ rd h 185 i ≤ 1000 := by
  have q := rdP (a := 185) (i := i) (lo := 0) (hi := 1000) (st := 1) hr (vldA (n := 1002) (k := 1) (by decide +kernel) (by decide +kernel) hi) (Or.inl (lkd_1 (by decide +kernel))) (fun v hv => by rw [hA_place] at hv; exact hv)
  exact ⟨q.1, q.2.1⟩
theorem wA_place {h : LH} (hh : INV h) {i v : Int} (hi : 0 ≤ i ∧ i < 1002) (h0 : 0 ≤ v) (h1 : v ≤ 1000) : INV (wr h 185 i v) := wrP hh (by unfold sens; omega) (Or.inl (lkd_1 (by decide +kernel))) (fun v hv => by rw [hA_place]; exact hv) h0 h1 ⟨by omega, by omega⟩
theorem wR_place {h : LH} (hr : RNG h) {i v : Int} (h0 : 0 ≤ v) (h1 : v ≤ 1000) : RNG (wr h 185 i v) := wrR hr (Or.inl (lkd_1 (by decide +kernel))) (fun v hv => by rw [hA_place]; exact hv) h0 h1 ⟨by omega, by omega⟩
theorem wA_value {h : LH} (hh : INV h) {i v : Int} (hi : 0 ≤ i ∧ i < 1002) (hv : i64 v) : INV (wr h 186 i v) := by
  refine INV_wr hh (by unfold sens; omega) ?_
  have e : hav 186 i = (1, -9223372036854775808, 9223372036854775807, 1) := by
    unfold hav
    rw [show RGL[(186 : Int).toNat]? = some [(1, -9223372036854775808, 9223372036854775807, 1)] by decide +kernel]
    simp only [List.length_singleton, Nat.mod_one]
    rfl
  rw [e, lkd_2 (by decide +kernel)]
  exact ⟨rfl, hv, hv.1, hv.2, Int.one_dvd _⟩
theorem wA_words {h : LH} (hh : INV h) {i v : Int} (hi : 0 ≤ i ∧ i < 29) (hv : i64 v) : INV (wr h 187 i v) := by
  refine INV_wr hh (by unfold sens; omega) ?_
  have e : hav 187 i = (1, -9223372036854775808, 9223372036854775807, 1) := by
    unfold hav
    rw [show RGL[(187 : Int).toNat]? = some [(1, -9223372036854775808, 9223372036854775807, 1)] by decide +kernel]
    simp only [List.length_singleton, Nat.mod_one]
    rfl
  rw [e, lkd_2 (by decide +kernel)]
  exact ⟨rfl, hv, hv.1, hv.2, Int.one_dvd _⟩
theorem rX_quarters {h : LH} (hr : RNG h) {i : Int} (hb : 0 ≤ i ∧ i < 300) {ix : AV} {lo hi : Int} {st : Nat} (hh : havs 188 ix = some (0, lo, hi, st)) (hx : inV ix i) : lo ≤ rd h 188 i ∧ rd h 188 i ≤ hi := by
  have q := rdP (a := 188) (i := i) (lo := lo) (hi := hi) (st := st) hr (vldA (n := 300) (k := 1) (by decide +kernel) (by decide +kernel) hb) (Or.inl (lkd_1 (by decide +kernel))) (fun v hv => havs_ok hh hx hv)
  exact ⟨q.1, q.2.1⟩
theorem wX_quarters {h : LH} (hh : INV h) {i v : Int} (hb : 0 ≤ i ∧ i < 300) (hn : ¬ sens 188 i) {ix : AV} {lo hi : Int} (hf : fitR 188 ix (0, lo, hi, 1) = true) (hx : inV ix i) (h0 : lo ≤ v) (h1 : v ≤ hi) (h2 : i32 v) : INV (wr h 188 i v) := wrP hh hn (Or.inl (lkd_1 (by decide +kernel))) (fun v hv => fitR_ok hf hx hv) h0 h1 h2
theorem wY_quarters {h : LH} (hr : RNG h) {i v : Int} {ix : AV} {lo hi : Int} (hf : fitR 188 ix (0, lo, hi, 1) = true) (hx : inV ix i) (h0 : lo ≤ v) (h1 : v ≤ hi) (h2 : i32 v) : RNG (wr h 188 i v) := wrR hr (Or.inl (lkd_1 (by decide +kernel))) (fun v hv => fitR_ok hf hx hv) h0 h1 h2
theorem hA_op (i : Int) : hav 189 i = (0, 0, 10, 1) := by
  unfold hav
  rw [show RGL[(189 : Int).toNat]? = some [(0, 0, 10, 1)] by decide +kernel]
  simp only [List.length_singleton, Nat.mod_one]
  rfl
theorem rA_op {h : LH} (hr : RNG h) {i : Int} (hi : 0 ≤ i ∧ i < 2200) : 0 ≤ rd h 189 i ∧ rd h 189 i ≤ 10 := by
  have q := rdP (a := 189) (i := i) (lo := 0) (hi := 10) (st := 1) hr (vldA (n := 2200) (k := 1) (by decide +kernel) (by decide +kernel) hi) (Or.inl (lkd_1 (by decide +kernel))) (fun v hv => by rw [hA_op] at hv; exact hv)
  exact ⟨q.1, q.2.1⟩
theorem wR_op {h : LH} (hr : RNG h) {i v : Int} (h0 : 0 ≤ v) (h1 : v ≤ 10) : RNG (wr h 189 i v) := wrR hr (Or.inl (lkd_1 (by decide +kernel))) (fun v hv => by rw [hA_op]; exact hv) h0 h1 ⟨by omega, by omega⟩
theorem hA_arg (i : Int) : hav 190 i = (0, -2147483648, 2147483647, 1) := by
  unfold hav
  rw [show RGL[(190 : Int).toNat]? = some [(0, -2147483648, 2147483647, 1)] by decide +kernel]
  simp only [List.length_singleton, Nat.mod_one]
  rfl
theorem rA_arg {h : LH} (hr : RNG h) {i : Int} (hi : 0 ≤ i ∧ i < 2200) : -2147483648 ≤ rd h 190 i ∧ rd h 190 i ≤ 2147483647 := by
  have q := rdP (a := 190) (i := i) (lo := -2147483648) (hi := 2147483647) (st := 1) hr (vldA (n := 2200) (k := 1) (by decide +kernel) (by decide +kernel) hi) (Or.inl (lkd_1 (by decide +kernel))) (fun v hv => by rw [hA_arg] at hv; exact hv)
  exact ⟨q.1, q.2.1⟩
theorem wR_arg {h : LH} (hr : RNG h) {i v : Int} (h0 : -2147483648 ≤ v) (h1 : v ≤ 2147483647) : RNG (wr h 190 i v) := wrR hr (Or.inl (lkd_1 (by decide +kernel))) (fun v hv => by rw [hA_arg]; exact hv) h0 h1 ⟨by omega, by omega⟩
theorem wA_names {h : LH} (hh : INV h) {i v : Int} (hi : 0 ≤ i ∧ i < 20) (hv : i64 v) : INV (wr h 191 i v) := by
  refine INV_wr hh (by unfold sens; omega) ?_
  have e : hav 191 i = (1, -9223372036854775808, 9223372036854775807, 1) := by
    unfold hav
    rw [show RGL[(191 : Int).toNat]? = some [(1, -9223372036854775808, 9223372036854775807, 1)] by decide +kernel]
    simp only [List.length_singleton, Nat.mod_one]
    rfl
  rw [e, lkd_2 (by decide +kernel)]
  exact ⟨rfl, hv, hv.1, hv.2, Int.one_dvd _⟩
theorem wA_readNames {h : LH} (hh : INV h) {i v : Int} (hi : 0 ≤ i ∧ i < 20) (hv : i64 v) : INV (wr h 192 i v) := by
  refine INV_wr hh (by unfold sens; omega) ?_
  have e : hav 192 i = (1, -9223372036854775808, 9223372036854775807, 1) := by
    unfold hav
    rw [show RGL[(192 : Int).toNat]? = some [(1, -9223372036854775808, 9223372036854775807, 1)] by decide +kernel]
    simp only [List.length_singleton, Nat.mod_one]
    rfl
  rw [e, lkd_2 (by decide +kernel)]
  exact ⟨rfl, hv, hv.1, hv.2, Int.one_dvd _⟩
theorem hA_nameOf (i : Int) : hav 193 i = (0, 0, 25, 1) := by
  unfold hav
  rw [show RGL[(193 : Int).toNat]? = some [(0, 0, 25, 1)] by decide +kernel]
  simp only [List.length_singleton, Nat.mod_one]
  rfl
theorem rA_nameOf {h : LH} (hr : RNG h) {i : Int} (hi : 0 ≤ i ∧ i < 20) : 0 ≤ rd h 193 i ∧ rd h 193 i ≤ 25 := by
  have q := rdP (a := 193) (i := i) (lo := 0) (hi := 25) (st := 1) hr (vldA (n := 20) (k := 1) (by decide +kernel) (by decide +kernel) hi) (Or.inl (lkd_1 (by decide +kernel))) (fun v hv => by rw [hA_nameOf] at hv; exact hv)
  exact ⟨q.1, q.2.1⟩
theorem wA_nameOf {h : LH} (hh : INV h) {i v : Int} (hi : 0 ≤ i ∧ i < 20) (h0 : 0 ≤ v) (h1 : v ≤ 25) : INV (wr h 193 i v) := wrP hh (by unfold sens; omega) (Or.inl (lkd_1 (by decide +kernel))) (fun v hv => by rw [hA_nameOf]; exact hv) h0 h1 ⟨by omega, by omega⟩
theorem wR_nameOf {h : LH} (hr : RNG h) {i v : Int} (h0 : 0 ≤ v) (h1 : v ≤ 25) : RNG (wr h 193 i v) := wrR hr (Or.inl (lkd_1 (by decide +kernel))) (fun v hv => by rw [hA_nameOf]; exact hv) h0 h1 ⟨by omega, by omega⟩
theorem hA_readNameOf (i : Int) : hav 194 i = (0, 0, 25, 1) := by
  unfold hav
  rw [show RGL[(194 : Int).toNat]? = some [(0, 0, 25, 1)] by decide +kernel]
  simp only [List.length_singleton, Nat.mod_one]
  rfl
theorem rA_readNameOf {h : LH} (hr : RNG h) {i : Int} (hi : 0 ≤ i ∧ i < 20) : 0 ≤ rd h 194 i ∧ rd h 194 i ≤ 25 := by
  have q := rdP (a := 194) (i := i) (lo := 0) (hi := 25) (st := 1) hr (vldA (n := 20) (k := 1) (by decide +kernel) (by decide +kernel) hi) (Or.inl (lkd_1 (by decide +kernel))) (fun v hv => by rw [hA_readNameOf] at hv; exact hv)
  exact ⟨q.1, q.2.1⟩
theorem wA_readNameOf {h : LH} (hh : INV h) {i v : Int} (hi : 0 ≤ i ∧ i < 20) (h0 : 0 ≤ v) (h1 : v ≤ 25) : INV (wr h 194 i v) := wrP hh (by unfold sens; omega) (Or.inl (lkd_1 (by decide +kernel))) (fun v hv => by rw [hA_readNameOf]; exact hv) h0 h1 ⟨by omega, by omega⟩
theorem wR_readNameOf {h : LH} (hr : RNG h) {i v : Int} (h0 : 0 ≤ v) (h1 : v ≤ 25) : RNG (wr h 194 i v) := wrR hr (Or.inl (lkd_1 (by decide +kernel))) (fun v hv => by rw [hA_readNameOf]; exact hv) h0 h1 ⟨by omega, by omega⟩
theorem rX_lines {h : LH} (hr : RNG h) {i : Int} (hb : 0 ≤ i ∧ i < 100) {ix : AV} {lo hi : Int} {st : Nat} (hh : havs 195 ix = some (0, lo, hi, st)) (hx : inV ix i) : lo ≤ rd h 195 i ∧ rd h 195 i ≤ hi := by
  have q := rdP (a := 195) (i := i) (lo := lo) (hi := hi) (st := st) hr (vldA (n := 100) (k := 1) (by decide +kernel) (by decide +kernel) hb) (Or.inl (lkd_1 (by decide +kernel))) (fun v hv => havs_ok hh hx hv)
  exact ⟨q.1, q.2.1⟩
theorem wX_lines {h : LH} (hh : INV h) {i v : Int} (hb : 0 ≤ i ∧ i < 100) (hn : ¬ sens 195 i) {ix : AV} {lo hi : Int} (hf : fitR 195 ix (0, lo, hi, 1) = true) (hx : inV ix i) (h0 : lo ≤ v) (h1 : v ≤ hi) (h2 : i32 v) : INV (wr h 195 i v) := wrP hh hn (Or.inl (lkd_1 (by decide +kernel))) (fun v hv => fitR_ok hf hx hv) h0 h1 h2
theorem wY_lines {h : LH} (hr : RNG h) {i v : Int} {ix : AV} {lo hi : Int} (hf : fitR 195 ix (0, lo, hi, 1) = true) (hx : inV ix i) (h0 : lo ≤ v) (h1 : v ≤ hi) (h2 : i32 v) : RNG (wr h 195 i v) := wrR hr (Or.inl (lkd_1 (by decide +kernel))) (fun v hv => fitR_ok hf hx hv) h0 h1 h2
theorem hA_facts (i : Int) : hav 196 i = (0, -2147483648, 2147483647, 1) := by
  unfold hav
  rw [show RGL[(196 : Int).toNat]? = some [(0, -2147483648, 2147483647, 1)] by decide +kernel]
  simp only [List.length_singleton, Nat.mod_one]
  rfl
theorem rA_facts {h : LH} (hr : RNG h) {i : Int} (hi : 0 ≤ i ∧ i < 4) : -2147483648 ≤ rd h 196 i ∧ rd h 196 i ≤ 2147483647 := by
  have q := rdP (a := 196) (i := i) (lo := -2147483648) (hi := 2147483647) (st := 1) hr (vldA (n := 4) (k := 1) (by decide +kernel) (by decide +kernel) hi) (Or.inl (lkd_1 (by decide +kernel))) (fun v hv => by rw [hA_facts] at hv; exact hv)
  exact ⟨q.1, q.2.1⟩
theorem wA_facts {h : LH} (hh : INV h) {i v : Int} (hi : 0 ≤ i ∧ i < 4) (h0 : -2147483648 ≤ v) (h1 : v ≤ 2147483647) : INV (wr h 196 i v) := wrP hh (by unfold sens; omega) (Or.inl (lkd_1 (by decide +kernel))) (fun v hv => by rw [hA_facts]; exact hv) h0 h1 ⟨by omega, by omega⟩
theorem wR_facts {h : LH} (hr : RNG h) {i v : Int} (h0 : -2147483648 ≤ v) (h1 : v ≤ 2147483647) : RNG (wr h 196 i v) := wrR hr (Or.inl (lkd_1 (by decide +kernel))) (fun v hv => by rw [hA_facts]; exact hv) h0 h1 ⟨by omega, by omega⟩
theorem hA_pile (i : Int) : hav 197 i = (0, -2147483648, 2147483647, 1) := by
  unfold hav
  rw [show RGL[(197 : Int).toNat]? = some [(0, -2147483648, 2147483647, 1)] by decide +kernel]
  simp only [List.length_singleton, Nat.mod_one]
  rfl
theorem rA_pile {h : LH} (hr : RNG h) {i : Int} (hi : 0 ≤ i ∧ i < 1100) : -2147483648 ≤ rd h 197 i ∧ rd h 197 i ≤ 2147483647 := by
  have q := rdP (a := 197) (i := i) (lo := -2147483648) (hi := 2147483647) (st := 1) hr (vldA (n := 1100) (k := 1) (by decide +kernel) (by decide +kernel) hi) (Or.inl (lkd_1 (by decide +kernel))) (fun v hv => by rw [hA_pile] at hv; exact hv)
  exact ⟨q.1, q.2.1⟩
theorem wA_pile {h : LH} (hh : INV h) {i v : Int} (hi : 0 ≤ i ∧ i < 1100) (h0 : -2147483648 ≤ v) (h1 : v ≤ 2147483647) : INV (wr h 197 i v) := wrP hh (by unfold sens; omega) (Or.inl (lkd_1 (by decide +kernel))) (fun v hv => by rw [hA_pile]; exact hv) h0 h1 ⟨by omega, by omega⟩
theorem wR_pile {h : LH} (hr : RNG h) {i v : Int} (h0 : -2147483648 ≤ v) (h1 : v ≤ 2147483647) : RNG (wr h 197 i v) := wrR hr (Or.inl (lkd_1 (by decide +kernel))) (fun v hv => by rw [hA_pile]; exact hv) h0 h1 ⟨by omega, by omega⟩
theorem rX_state {h : LH} (hr : RNG h) {i : Int} (hb : 0 ≤ i ∧ i < 1610) {ix : AV} {lo hi : Int} {st : Nat} (hh : havs 198 ix = some (0, lo, hi, st)) (hx : inV ix i) : lo ≤ rd h 198 i ∧ rd h 198 i ≤ hi := by
  have q := rdP (a := 198) (i := i) (lo := lo) (hi := hi) (st := st) hr (vldA (n := 1610) (k := 1) (by decide +kernel) (by decide +kernel) hb) (Or.inl (lkd_1 (by decide +kernel))) (fun v hv => havs_ok hh hx hv)
  exact ⟨q.1, q.2.1⟩
theorem wX_state {h : LH} (hh : INV h) {i v : Int} (hb : 0 ≤ i ∧ i < 1610) (hn : ¬ sens 198 i) {ix : AV} {lo hi : Int} (hf : fitR 198 ix (0, lo, hi, 1) = true) (hx : inV ix i) (h0 : lo ≤ v) (h1 : v ≤ hi) (h2 : i32 v) : INV (wr h 198 i v) := wrP hh hn (Or.inl (lkd_1 (by decide +kernel))) (fun v hv => fitR_ok hf hx hv) h0 h1 h2
theorem wY_state {h : LH} (hr : RNG h) {i v : Int} {ix : AV} {lo hi : Int} (hf : fitR 198 ix (0, lo, hi, 1) = true) (hx : inV ix i) (h0 : lo ≤ v) (h1 : v ≤ hi) (h2 : i32 v) : RNG (wr h 198 i v) := wrR hr (Or.inl (lkd_1 (by decide +kernel))) (fun v hv => fitR_ok hf hx hv) h0 h1 h2
theorem hA_isMarked (i : Int) : hav 199 i = (0, 0, 1, 1) := by
  unfold hav
  rw [show RGL[(199 : Int).toNat]? = some [(0, 0, 1, 1)] by decide +kernel]
  simp only [List.length_singleton, Nat.mod_one]
  rfl
theorem rA_isMarked {h : LH} (hr : RNG h) {i : Int} (hi : 0 ≤ i ∧ i < 4) : 0 ≤ rd h 199 i ∧ rd h 199 i ≤ 1 := by
  have q := rdP (a := 199) (i := i) (lo := 0) (hi := 1) (st := 1) hr (vldA (n := 4) (k := 4) (by decide +kernel) (by decide +kernel) hi) (Or.inl (lkd_4 (by decide +kernel))) (fun v hv => by rw [hA_isMarked] at hv; exact hv)
  exact ⟨q.1, q.2.1⟩
theorem wR_isMarked {h : LH} (hr : RNG h) {i v : Int} (h0 : 0 ≤ v) (h1 : v ≤ 1) : RNG (wr h 199 i v) := wrR hr (Or.inl (lkd_4 (by decide +kernel))) (fun v hv => by rw [hA_isMarked]; exact hv) h0 h1 ⟨by omega, by omega⟩
theorem rX_markedLines {h : LH} (hr : RNG h) {i : Int} (hb : 0 ≤ i ∧ i < 200) {ix : AV} {lo hi : Int} {st : Nat} (hh : havs 200 ix = some (0, lo, hi, st)) (hx : inV ix i) : lo ≤ rd h 200 i ∧ rd h 200 i ≤ hi := by
  have q := rdP (a := 200) (i := i) (lo := lo) (hi := hi) (st := st) hr (vldA (n := 200) (k := 1) (by decide +kernel) (by decide +kernel) hb) (Or.inl (lkd_1 (by decide +kernel))) (fun v hv => havs_ok hh hx hv)
  exact ⟨q.1, q.2.1⟩
theorem wX_markedLines {h : LH} (hh : INV h) {i v : Int} (hb : 0 ≤ i ∧ i < 200) (hn : ¬ sens 200 i) {ix : AV} {lo hi : Int} (hf : fitR 200 ix (0, lo, hi, 1) = true) (hx : inV ix i) (h0 : lo ≤ v) (h1 : v ≤ hi) (h2 : i32 v) : INV (wr h 200 i v) := wrP hh hn (Or.inl (lkd_1 (by decide +kernel))) (fun v hv => fitR_ok hf hx hv) h0 h1 h2
theorem wY_markedLines {h : LH} (hr : RNG h) {i v : Int} {ix : AV} {lo hi : Int} (hf : fitR 200 ix (0, lo, hi, 1) = true) (hx : inV ix i) (h0 : lo ≤ v) (h1 : v ≤ hi) (h2 : i32 v) : RNG (wr h 200 i v) := wrR hr (Or.inl (lkd_1 (by decide +kernel))) (fun v hv => fitR_ok hf hx hv) h0 h1 h2
theorem hA_fewest (i : Int) : hav 201 i = (0, -2147483648, 2147483647, 1) := by
  unfold hav
  rw [show RGL[(201 : Int).toNat]? = some [(0, -2147483648, 2147483647, 1)] by decide +kernel]
  simp only [List.length_singleton, Nat.mod_one]
  rfl
theorem rA_fewest {h : LH} (hr : RNG h) {i : Int} (hi : 0 ≤ i ∧ i < 500) : -2147483648 ≤ rd h 201 i ∧ rd h 201 i ≤ 2147483647 := by
  have q := rdP (a := 201) (i := i) (lo := -2147483648) (hi := 2147483647) (st := 1) hr (vldA (n := 500) (k := 1) (by decide +kernel) (by decide +kernel) hi) (Or.inl (lkd_1 (by decide +kernel))) (fun v hv => by rw [hA_fewest] at hv; exact hv)
  exact ⟨q.1, q.2.1⟩
theorem wA_fewest {h : LH} (hh : INV h) {i v : Int} (hi : 0 ≤ i ∧ i < 500) (h0 : -2147483648 ≤ v) (h1 : v ≤ 2147483647) : INV (wr h 201 i v) := wrP hh (by unfold sens; omega) (Or.inl (lkd_1 (by decide +kernel))) (fun v hv => by rw [hA_fewest]; exact hv) h0 h1 ⟨by omega, by omega⟩
theorem wR_fewest {h : LH} (hr : RNG h) {i v : Int} (h0 : -2147483648 ≤ v) (h1 : v ≤ 2147483647) : RNG (wr h 201 i v) := wrR hr (Or.inl (lkd_1 (by decide +kernel))) (fun v hv => by rw [hA_fewest]; exact hv) h0 h1 ⟨by omega, by omega⟩
theorem hA_wayDoors (i : Int) : hav 202 i = (0, 0, 13, 1) := by
  unfold hav
  rw [show RGL[(202 : Int).toNat]? = some [(0, 0, 13, 1)] by decide +kernel]
  simp only [List.length_singleton, Nat.mod_one]
  rfl
theorem rA_wayDoors {h : LH} (hr : RNG h) {i : Int} (hi : 0 ≤ i ∧ i < 30) : 0 ≤ rd h 202 i ∧ rd h 202 i ≤ 13 := by
  have q := rdP (a := 202) (i := i) (lo := 0) (hi := 13) (st := 1) hr (vldA (n := 30) (k := 1) (by decide +kernel) (by decide +kernel) hi) (Or.inl (lkd_1 (by decide +kernel))) (fun v hv => by rw [hA_wayDoors] at hv; exact hv)
  exact ⟨q.1, q.2.1⟩
theorem wA_wayDoors {h : LH} (hh : INV h) {i v : Int} (hi : 0 ≤ i ∧ i < 30) (h0 : 0 ≤ v) (h1 : v ≤ 13) : INV (wr h 202 i v) := wrP hh (by unfold sens; omega) (Or.inl (lkd_1 (by decide +kernel))) (fun v hv => by rw [hA_wayDoors]; exact hv) h0 h1 ⟨by omega, by omega⟩
theorem wR_wayDoors {h : LH} (hr : RNG h) {i v : Int} (h0 : 0 ≤ v) (h1 : v ≤ 13) : RNG (wr h 202 i v) := wrR hr (Or.inl (lkd_1 (by decide +kernel))) (fun v hv => by rw [hA_wayDoors]; exact hv) h0 h1 ⟨by omega, by omega⟩
theorem hA_into (i : Int) : hav 203 i = (0, 0, 1023, 1) := by
  unfold hav
  rw [show RGL[(203 : Int).toNat]? = some [(0, 0, 1023, 1)] by decide +kernel]
  simp only [List.length_singleton, Nat.mod_one]
  rfl
theorem rA_into {h : LH} (hr : RNG h) {i : Int} (hi : 0 ≤ i ∧ i < 10) : 0 ≤ rd h 203 i ∧ rd h 203 i ≤ 1023 := by
  have q := rdP (a := 203) (i := i) (lo := 0) (hi := 1023) (st := 1) hr (vldA (n := 10) (k := 1) (by decide +kernel) (by decide +kernel) hi) (Or.inl (lkd_1 (by decide +kernel))) (fun v hv => by rw [hA_into] at hv; exact hv)
  exact ⟨q.1, q.2.1⟩
theorem wA_into {h : LH} (hh : INV h) {i v : Int} (hi : 0 ≤ i ∧ i < 10) (h0 : 0 ≤ v) (h1 : v ≤ 1023) : INV (wr h 203 i v) := wrP hh (by unfold sens; omega) (Or.inl (lkd_1 (by decide +kernel))) (fun v hv => by rw [hA_into]; exact hv) h0 h1 ⟨by omega, by omega⟩
theorem wR_into {h : LH} (hr : RNG h) {i v : Int} (h0 : 0 ≤ v) (h1 : v ≤ 1023) : RNG (wr h 203 i v) := wrR hr (Or.inl (lkd_1 (by decide +kernel))) (fun v hv => by rw [hA_into]; exact hv) h0 h1 ⟨by omega, by omega⟩
theorem hA_flow (i : Int) : hav 204 i = (0, -2147483648, 2147483647, 1) := by
  unfold hav
  rw [show RGL[(204 : Int).toNat]? = some [(0, -2147483648, 2147483647, 1)] by decide +kernel]
  simp only [List.length_singleton, Nat.mod_one]
  rfl
theorem rA_flow {h : LH} (hr : RNG h) {i : Int} (hi : 0 ≤ i ∧ i < 336) : -2147483648 ≤ rd h 204 i ∧ rd h 204 i ≤ 2147483647 := by
  have q := rdP (a := 204) (i := i) (lo := -2147483648) (hi := 2147483647) (st := 1) hr (vldA (n := 336) (k := 1) (by decide +kernel) (by decide +kernel) hi) (Or.inl (lkd_1 (by decide +kernel))) (fun v hv => by rw [hA_flow] at hv; exact hv)
  exact ⟨q.1, q.2.1⟩
theorem wA_flow {h : LH} (hh : INV h) {i v : Int} (hi : 0 ≤ i ∧ i < 336) (h0 : -2147483648 ≤ v) (h1 : v ≤ 2147483647) : INV (wr h 204 i v) := wrP hh (by unfold sens; omega) (Or.inl (lkd_1 (by decide +kernel))) (fun v hv => by rw [hA_flow]; exact hv) h0 h1 ⟨by omega, by omega⟩
theorem wR_flow {h : LH} (hr : RNG h) {i v : Int} (h0 : -2147483648 ≤ v) (h1 : v ≤ 2147483647) : RNG (wr h 204 i v) := wrR hr (Or.inl (lkd_1 (by decide +kernel))) (fun v hv => by rw [hA_flow]; exact hv) h0 h1 ⟨by omega, by omega⟩
theorem hA_waits (i : Int) : hav 205 i = (0, -2147483648, 2147483647, 1) := by
  unfold hav
  rw [show RGL[(205 : Int).toNat]? = some [(0, -2147483648, 2147483647, 1)] by decide +kernel]
  simp only [List.length_singleton, Nat.mod_one]
  rfl
theorem rA_waits {h : LH} (hr : RNG h) {i : Int} (hi : 0 ≤ i ∧ i < 250) : -2147483648 ≤ rd h 205 i ∧ rd h 205 i ≤ 2147483647 := by
  have q := rdP (a := 205) (i := i) (lo := -2147483648) (hi := 2147483647) (st := 1) hr (vldA (n := 250) (k := 1) (by decide +kernel) (by decide +kernel) hi) (Or.inl (lkd_1 (by decide +kernel))) (fun v hv => by rw [hA_waits] at hv; exact hv)
  exact ⟨q.1, q.2.1⟩
theorem wA_waits {h : LH} (hh : INV h) {i v : Int} (hi : 0 ≤ i ∧ i < 250) (h0 : -2147483648 ≤ v) (h1 : v ≤ 2147483647) : INV (wr h 205 i v) := wrP hh (by unfold sens; omega) (Or.inl (lkd_1 (by decide +kernel))) (fun v hv => by rw [hA_waits]; exact hv) h0 h1 ⟨by omega, by omega⟩
theorem wR_waits {h : LH} (hr : RNG h) {i v : Int} (h0 : -2147483648 ≤ v) (h1 : v ≤ 2147483647) : RNG (wr h 205 i v) := wrR hr (Or.inl (lkd_1 (by decide +kernel))) (fun v hv => by rw [hA_waits]; exact hv) h0 h1 ⟨by omega, by omega⟩
theorem hA_cameBy (i : Int) : hav 206 i = (0, -2147483648, 2147483647, 1) := by
  unfold hav
  rw [show RGL[(206 : Int).toNat]? = some [(0, -2147483648, 2147483647, 1)] by decide +kernel]
  simp only [List.length_singleton, Nat.mod_one]
  rfl
theorem rA_cameBy {h : LH} (hr : RNG h) {i : Int} (hi : 0 ≤ i ∧ i < 250) : -2147483648 ≤ rd h 206 i ∧ rd h 206 i ≤ 2147483647 := by
  have q := rdP (a := 206) (i := i) (lo := -2147483648) (hi := 2147483647) (st := 1) hr (vldA (n := 250) (k := 1) (by decide +kernel) (by decide +kernel) hi) (Or.inl (lkd_1 (by decide +kernel))) (fun v hv => by rw [hA_cameBy] at hv; exact hv)
  exact ⟨q.1, q.2.1⟩
theorem wA_cameBy {h : LH} (hh : INV h) {i v : Int} (hi : 0 ≤ i ∧ i < 250) (h0 : -2147483648 ≤ v) (h1 : v ≤ 2147483647) : INV (wr h 206 i v) := wrP hh (by unfold sens; omega) (Or.inl (lkd_1 (by decide +kernel))) (fun v hv => by rw [hA_cameBy]; exact hv) h0 h1 ⟨by omega, by omega⟩
theorem wR_cameBy {h : LH} (hr : RNG h) {i v : Int} (h0 : -2147483648 ≤ v) (h1 : v ≤ 2147483647) : RNG (wr h 206 i v) := wrR hr (Or.inl (lkd_1 (by decide +kernel))) (fun v hv => by rw [hA_cameBy]; exact hv) h0 h1 ⟨by omega, by omega⟩
theorem hA_queue (i : Int) : hav 207 i = (0, 0, 249, 1) := by
  unfold hav
  rw [show RGL[(207 : Int).toNat]? = some [(0, 0, 249, 1)] by decide +kernel]
  simp only [List.length_singleton, Nat.mod_one]
  rfl
theorem rA_queue {h : LH} (hr : RNG h) {i : Int} (hi : 0 ≤ i ∧ i < 250) : 0 ≤ rd h 207 i ∧ rd h 207 i ≤ 249 := by
  have q := rdP (a := 207) (i := i) (lo := 0) (hi := 249) (st := 1) hr (vldA (n := 250) (k := 1) (by decide +kernel) (by decide +kernel) hi) (Or.inl (lkd_1 (by decide +kernel))) (fun v hv => by rw [hA_queue] at hv; exact hv)
  exact ⟨q.1, q.2.1⟩
theorem wA_queue {h : LH} (hh : INV h) {i v : Int} (hi : 0 ≤ i ∧ i < 250) (h0 : 0 ≤ v) (h1 : v ≤ 249) : INV (wr h 207 i v) := wrP hh (by unfold sens; omega) (Or.inl (lkd_1 (by decide +kernel))) (fun v hv => by rw [hA_queue]; exact hv) h0 h1 ⟨by omega, by omega⟩
theorem wR_queue {h : LH} (hr : RNG h) {i v : Int} (h0 : 0 ≤ v) (h1 : v ≤ 249) : RNG (wr h 207 i v) := wrR hr (Or.inl (lkd_1 (by decide +kernel))) (fun v hv => by rw [hA_queue]; exact hv) h0 h1 ⟨by omega, by omega⟩
theorem hA_can (i : Int) : hav 208 i = (0, -2147483648, 2147483647, 1) := by
  unfold hav
  rw [show RGL[(208 : Int).toNat]? = some [(0, -2147483648, 2147483647, 1)] by decide +kernel]
  simp only [List.length_singleton, Nat.mod_one]
  rfl
theorem rA_can {h : LH} (hr : RNG h) {i : Int} (hi : 0 ≤ i ∧ i < 100) : -2147483648 ≤ rd h 208 i ∧ rd h 208 i ≤ 2147483647 := by
  have q := rdP (a := 208) (i := i) (lo := -2147483648) (hi := 2147483647) (st := 1) hr (vldA (n := 100) (k := 1) (by decide +kernel) (by decide +kernel) hi) (Or.inl (lkd_1 (by decide +kernel))) (fun v hv => by rw [hA_can] at hv; exact hv)
  exact ⟨q.1, q.2.1⟩
theorem wA_can {h : LH} (hh : INV h) {i v : Int} (hi : 0 ≤ i ∧ i < 100) (h0 : -2147483648 ≤ v) (h1 : v ≤ 2147483647) : INV (wr h 208 i v) := wrP hh (by unfold sens; omega) (Or.inl (lkd_1 (by decide +kernel))) (fun v hv => by rw [hA_can]; exact hv) h0 h1 ⟨by omega, by omega⟩
theorem wR_can {h : LH} (hr : RNG h) {i v : Int} (h0 : -2147483648 ≤ v) (h1 : v ≤ 2147483647) : RNG (wr h 208 i v) := wrR hr (Or.inl (lkd_1 (by decide +kernel))) (fun v hv => by rw [hA_can]; exact hv) h0 h1 ⟨by omega, by omega⟩
theorem hA_closures (i : Int) : hav 209 i = (0, -2147483648, 2147483647, 1) := by
  unfold hav
  rw [show RGL[(209 : Int).toNat]? = some [(0, -2147483648, 2147483647, 1)] by decide +kernel]
  simp only [List.length_singleton, Nat.mod_one]
  rfl
theorem rA_closures {h : LH} (hr : RNG h) {i : Int} (hi : 0 ≤ i ∧ i < 10) : -2147483648 ≤ rd h 209 i ∧ rd h 209 i ≤ 2147483647 := by
  have q := rdP (a := 209) (i := i) (lo := -2147483648) (hi := 2147483647) (st := 1) hr (vldA (n := 10) (k := 1) (by decide +kernel) (by decide +kernel) hi) (Or.inl (lkd_1 (by decide +kernel))) (fun v hv => by rw [hA_closures] at hv; exact hv)
  exact ⟨q.1, q.2.1⟩
theorem wA_closures {h : LH} (hh : INV h) {i v : Int} (hi : 0 ≤ i ∧ i < 10) (h0 : -2147483648 ≤ v) (h1 : v ≤ 2147483647) : INV (wr h 209 i v) := wrP hh (by unfold sens; omega) (Or.inl (lkd_1 (by decide +kernel))) (fun v hv => by rw [hA_closures]; exact hv) h0 h1 ⟨by omega, by omega⟩
theorem wR_closures {h : LH} (hr : RNG h) {i v : Int} (h0 : -2147483648 ≤ v) (h1 : v ≤ 2147483647) : RNG (wr h 209 i v) := wrR hr (Or.inl (lkd_1 (by decide +kernel))) (fun v hv => by rw [hA_closures]; exact hv) h0 h1 ⟨by omega, by omega⟩
theorem hA_costs (i : Int) : hav 210 i = (0, -2147483648, 2147483647, 1) := by
  unfold hav
  rw [show RGL[(210 : Int).toNat]? = some [(0, -2147483648, 2147483647, 1)] by decide +kernel]
  simp only [List.length_singleton, Nat.mod_one]
  rfl
theorem rA_costs {h : LH} (hr : RNG h) {i : Int} (hi : 0 ≤ i ∧ i < 10) : -2147483648 ≤ rd h 210 i ∧ rd h 210 i ≤ 2147483647 := by
  have q := rdP (a := 210) (i := i) (lo := -2147483648) (hi := 2147483647) (st := 1) hr (vldA (n := 10) (k := 1) (by decide +kernel) (by decide +kernel) hi) (Or.inl (lkd_1 (by decide +kernel))) (fun v hv => by rw [hA_costs] at hv; exact hv)
  exact ⟨q.1, q.2.1⟩
theorem wA_costs {h : LH} (hh : INV h) {i v : Int} (hi : 0 ≤ i ∧ i < 10) (h0 : -2147483648 ≤ v) (h1 : v ≤ 2147483647) : INV (wr h 210 i v) := wrP hh (by unfold sens; omega) (Or.inl (lkd_1 (by decide +kernel))) (fun v hv => by rw [hA_costs]; exact hv) h0 h1 ⟨by omega, by omega⟩
theorem wR_costs {h : LH} (hr : RNG h) {i v : Int} (h0 : -2147483648 ≤ v) (h1 : v ≤ 2147483647) : RNG (wr h 210 i v) := wrR hr (Or.inl (lkd_1 (by decide +kernel))) (fun v hv => by rw [hA_costs]; exact hv) h0 h1 ⟨by omega, by omega⟩
theorem hA_rents (i : Int) : hav 211 i = (0, -2147483648, 2147483647, 1) := by
  unfold hav
  rw [show RGL[(211 : Int).toNat]? = some [(0, -2147483648, 2147483647, 1)] by decide +kernel]
  simp only [List.length_singleton, Nat.mod_one]
  rfl
theorem rA_rents {h : LH} (hr : RNG h) {i : Int} (hi : 0 ≤ i ∧ i < 200) : -2147483648 ≤ rd h 211 i ∧ rd h 211 i ≤ 2147483647 := by
  have q := rdP (a := 211) (i := i) (lo := -2147483648) (hi := 2147483647) (st := 1) hr (vldA (n := 200) (k := 1) (by decide +kernel) (by decide +kernel) hi) (Or.inl (lkd_1 (by decide +kernel))) (fun v hv => by rw [hA_rents] at hv; exact hv)
  exact ⟨q.1, q.2.1⟩
theorem wA_rents {h : LH} (hh : INV h) {i v : Int} (hi : 0 ≤ i ∧ i < 200) (h0 : -2147483648 ≤ v) (h1 : v ≤ 2147483647) : INV (wr h 211 i v) := wrP hh (by unfold sens; omega) (Or.inl (lkd_1 (by decide +kernel))) (fun v hv => by rw [hA_rents]; exact hv) h0 h1 ⟨by omega, by omega⟩
theorem wR_rents {h : LH} (hr : RNG h) {i v : Int} (h0 : -2147483648 ≤ v) (h1 : v ≤ 2147483647) : RNG (wr h 211 i v) := wrR hr (Or.inl (lkd_1 (by decide +kernel))) (fun v hv => by rw [hA_rents]; exact hv) h0 h1 ⟨by omega, by omega⟩
theorem hA_moves (i : Int) : hav 212 i = (0, -2147483648, 2147483647, 1) := by
  unfold hav
  rw [show RGL[(212 : Int).toNat]? = some [(0, -2147483648, 2147483647, 1)] by decide +kernel]
  simp only [List.length_singleton, Nat.mod_one]
  rfl
theorem rA_moves {h : LH} (hr : RNG h) {i : Int} (hi : 0 ≤ i ∧ i < 200) : -2147483648 ≤ rd h 212 i ∧ rd h 212 i ≤ 2147483647 := by
  have q := rdP (a := 212) (i := i) (lo := -2147483648) (hi := 2147483647) (st := 1) hr (vldA (n := 200) (k := 1) (by decide +kernel) (by decide +kernel) hi) (Or.inl (lkd_1 (by decide +kernel))) (fun v hv => by rw [hA_moves] at hv; exact hv)
  exact ⟨q.1, q.2.1⟩
theorem wA_moves {h : LH} (hh : INV h) {i v : Int} (hi : 0 ≤ i ∧ i < 200) (h0 : -2147483648 ≤ v) (h1 : v ≤ 2147483647) : INV (wr h 212 i v) := wrP hh (by unfold sens; omega) (Or.inl (lkd_1 (by decide +kernel))) (fun v hv => by rw [hA_moves]; exact hv) h0 h1 ⟨by omega, by omega⟩
theorem wR_moves {h : LH} (hr : RNG h) {i v : Int} (h0 : -2147483648 ≤ v) (h1 : v ≤ 2147483647) : RNG (wr h 212 i v) := wrR hr (Or.inl (lkd_1 (by decide +kernel))) (fun v hv => by rw [hA_moves]; exact hv) h0 h1 ⟨by omega, by omega⟩
theorem rq_d0 {h : LH} (hr : RNG h) {i d : Int} (e : i = 4 + 8 * d) (h0 : 0 ≤ d) (h1 : d ≤ 13) : 0 ≤ rd h 188 i ∧ rd h 188 i ≤ 3 := rX_quarters hr (by omega) (ix := (0, 4, 108, 8)) (st := 1) (by decide +kernel) (invs (s := 8) (k := d) e h0 (by omega))
theorem rq_d1 {h : LH} (hr : RNG h) {i d : Int} (e : i = 5 + 8 * d) (h0 : 0 ≤ d) (h1 : d ≤ 13) : 0 ≤ rd h 188 i ∧ rd h 188 i ≤ 9 := rX_quarters hr (by omega) (ix := (0, 5, 109, 8)) (st := 1) (by decide +kernel) (invs (s := 8) (k := d) e h0 (by omega))
theorem rq_d2 {h : LH} (hr : RNG h) {i d : Int} (e : i = 6 + 8 * d) (h0 : 0 ≤ d) (h1 : d ≤ 13) : 0 ≤ rd h 188 i ∧ rd h 188 i ≤ 9 := rX_quarters hr (by omega) (ix := (0, 6, 110, 8)) (st := 1) (by decide +kernel) (invs (s := 8) (k := d) e h0 (by omega))
theorem rq_d3 {h : LH} (hr : RNG h) {i d : Int} (e : i = 7 + 8 * d) (h0 : 0 ≤ d) (h1 : d ≤ 13) : 0 ≤ rd h 188 i ∧ rd h 188 i ≤ 23 := rX_quarters hr (by omega) (ix := (0, 7, 111, 8)) (st := 1) (by decide +kernel) (invs (s := 8) (k := d) e h0 (by omega))
theorem rq_d4 {h : LH} (hr : RNG h) {i d : Int} (e : i = 8 + 8 * d) (h0 : 0 ≤ d) (h1 : d ≤ 13) : 0 ≤ rd h 188 i ∧ rd h 188 i ≤ 24 := rX_quarters hr (by omega) (ix := (0, 8, 112, 8)) (st := 1) (by decide +kernel) (invs (s := 8) (k := d) e h0 (by omega))
theorem rq_d5 {h : LH} (hr : RNG h) {i d : Int} (e : i = 9 + 8 * d) (h0 : 0 ≤ d) (h1 : d ≤ 13) : -1 ≤ rd h 188 i ∧ rd h 188 i ≤ 3 := rX_quarters hr (by omega) (ix := (0, 9, 113, 8)) (st := 1) (by decide +kernel) (invs (s := 8) (k := d) e h0 (by omega))
theorem rq_d6 {h : LH} (hr : RNG h) {i d : Int} (e : i = 10 + 8 * d) (h0 : 0 ≤ d) (h1 : d ≤ 13) : 0 ≤ rd h 188 i ∧ rd h 188 i ≤ 9 := rX_quarters hr (by omega) (ix := (0, 10, 114, 8)) (st := 1) (by decide +kernel) (invs (s := 8) (k := d) e h0 (by omega))
theorem rq_d7 {h : LH} (hr : RNG h) {i d : Int} (e : i = 11 + 8 * d) (h0 : 0 ≤ d) (h1 : d ≤ 13) : 0 ≤ rd h 188 i ∧ rd h 188 i ≤ 9 := rX_quarters hr (by omega) (ix := (0, 11, 115, 8)) (st := 1) (by decide +kernel) (invs (s := 8) (k := d) e h0 (by omega))
theorem rq_p0 {h : LH} (hr : RNG h) {i d : Int} (e : i = 116 + 4 * d) (h0 : 0 ≤ d) (h1 : d ≤ 5) : 0 ≤ rd h 188 i ∧ rd h 188 i ≤ 3 := rX_quarters hr (by omega) (ix := (0, 116, 136, 4)) (st := 1) (by decide +kernel) (invs (s := 4) (k := d) e h0 (by omega))
theorem rq_p1 {h : LH} (hr : RNG h) {i d : Int} (e : i = 117 + 4 * d) (h0 : 0 ≤ d) (h1 : d ≤ 5) : 0 ≤ rd h 188 i ∧ rd h 188 i ≤ 9 := rX_quarters hr (by omega) (ix := (0, 117, 137, 4)) (st := 1) (by decide +kernel) (invs (s := 4) (k := d) e h0 (by omega))
theorem rq_p2 {h : LH} (hr : RNG h) {i d : Int} (e : i = 118 + 4 * d) (h0 : 0 ≤ d) (h1 : d ≤ 5) : 0 ≤ rd h 188 i ∧ rd h 188 i ≤ 9 := rX_quarters hr (by omega) (ix := (0, 118, 138, 4)) (st := 1) (by decide +kernel) (invs (s := 4) (k := d) e h0 (by omega))
theorem rq_p3 {h : LH} (hr : RNG h) {i d : Int} (e : i = 119 + 4 * d) (h0 : 0 ≤ d) (h1 : d ≤ 5) : 0 ≤ rd h 188 i ∧ rd h 188 i ≤ 24 := rX_quarters hr (by omega) (ix := (0, 119, 139, 4)) (st := 1) (by decide +kernel) (invs (s := 4) (k := d) e h0 (by omega))
theorem rq_rooms {h : LH} (hr : RNG h) : 0 ≤ rd h 188 0 ∧ rd h 188 0 ≤ 10 := rX_quarters hr (by omega) (ix := (0, 0, 0, 0)) (st := 1) (by decide +kernel) (pt 0)
theorem rq_doors {h : LH} (hr : RNG h) : 0 ≤ rd h 188 1 ∧ rd h 188 1 ≤ 14 := rX_quarters hr (by omega) (ix := (0, 1, 1, 0)) (st := 1) (by decide +kernel) (pt 1)
theorem rq_people {h : LH} (hr : RNG h) : 0 ≤ rd h 188 2 ∧ rd h 188 2 ≤ 6 := rX_quarters hr (by omega) (ix := (0, 2, 2, 0)) (st := 1) (by decide +kernel) (pt 2)
theorem rq_let {h : LH} (hr : RNG h) : -1 ≤ rd h 188 3 ∧ rd h 188 3 ≤ 0 := rX_quarters hr (by omega) (ix := (0, 3, 3, 0)) (st := 1) (by decide +kernel) (pt 3)
theorem havM {a i : Int} {L : List AV} (hL : RGL[a.toNat]? = some L) {n r : Nat} (hn : L.length = n) (hm : i.toNat % n = r) : hav a i = L.getD r top0 := by
  unfold hav
  rw [hL]
  simp only
  rw [hn, hm]
theorem hs_now {i : Int} {b p : Int} (e : i = b + 0 + p) (hb : b % 70 = 0) (h0 : 0 ≤ b) (p0 : 0 ≤ p) (p1 : p ≤ 0) : hav 198 i = (0, 0, 24, 1) := by
  have hp : p = 0 := by omega
  rcases hp with rfl
  · rw [havM (a := 198) (i := i) (L := RGr63) (n := 70) (r := 0) (by decide +kernel) (by decide +kernel) (by omega)]; decide +kernel
theorem rs_now {h : LH} (hr : RNG h) {i : Int} (b p : Int) (e : i = b + 0 + p) (hb : b % 70 = 0) (h0 : 0 ≤ b) (h1 : b ≤ 1540) (p0 : 0 ≤ p) (p1 : p ≤ 0) : 0 ≤ rd h 198 i ∧ rd h 198 i ≤ 24 := by
  have q := rdP (a := 198) (i := i) (lo := 0) (hi := 24) (st := 1) hr (vldA (n := 1610) (k := 1) (by decide +kernel) (by decide +kernel) (by omega)) (Or.inl (lkd_1 (by decide +kernel))) (fun v hv => by rw [hs_now e hb h0 p0 p1] at hv; exact hv)
  exact ⟨q.1, q.2.1⟩
theorem hs_where {i : Int} {b p : Int} (e : i = b + 2 + p) (hb : b % 70 = 0) (h0 : 0 ≤ b) (p0 : 0 ≤ p) (p1 : p ≤ 5) : hav 198 i = (0, 0, 9, 1) := by
  have hp : p = 0 ∨ p = 1 ∨ p = 2 ∨ p = 3 ∨ p = 4 ∨ p = 5 := by omega
  rcases hp with rfl | rfl | rfl | rfl | rfl | rfl
  · rw [havM (a := 198) (i := i) (L := RGr63) (n := 70) (r := 2) (by decide +kernel) (by decide +kernel) (by omega)]; decide +kernel
  · rw [havM (a := 198) (i := i) (L := RGr63) (n := 70) (r := 3) (by decide +kernel) (by decide +kernel) (by omega)]; decide +kernel
  · rw [havM (a := 198) (i := i) (L := RGr63) (n := 70) (r := 4) (by decide +kernel) (by decide +kernel) (by omega)]; decide +kernel
  · rw [havM (a := 198) (i := i) (L := RGr63) (n := 70) (r := 5) (by decide +kernel) (by decide +kernel) (by omega)]; decide +kernel
  · rw [havM (a := 198) (i := i) (L := RGr63) (n := 70) (r := 6) (by decide +kernel) (by decide +kernel) (by omega)]; decide +kernel
  · rw [havM (a := 198) (i := i) (L := RGr63) (n := 70) (r := 7) (by decide +kernel) (by decide +kernel) (by omega)]; decide +kernel
theorem rs_where {h : LH} (hr : RNG h) {i : Int} (b p : Int) (e : i = b + 2 + p) (hb : b % 70 = 0) (h0 : 0 ≤ b) (h1 : b ≤ 1540) (p0 : 0 ≤ p) (p1 : p ≤ 5) : 0 ≤ rd h 198 i ∧ rd h 198 i ≤ 9 := by
  have q := rdP (a := 198) (i := i) (lo := 0) (hi := 9) (st := 1) hr (vldA (n := 1610) (k := 1) (by decide +kernel) (by decide +kernel) (by omega)) (Or.inl (lkd_1 (by decide +kernel))) (fun v hv => by rw [hs_where e hb h0 p0 p1] at hv; exact hv)
  exact ⟨q.1, q.2.1⟩
theorem hs_done {i : Int} {b p : Int} (e : i = b + 8 + p) (hb : b % 70 = 0) (h0 : 0 ≤ b) (p0 : 0 ≤ p) (p1 : p ≤ 5) : hav 198 i = (0, 0, 1, 1) := by
  have hp : p = 0 ∨ p = 1 ∨ p = 2 ∨ p = 3 ∨ p = 4 ∨ p = 5 := by omega
  rcases hp with rfl | rfl | rfl | rfl | rfl | rfl
  · rw [havM (a := 198) (i := i) (L := RGr63) (n := 70) (r := 8) (by decide +kernel) (by decide +kernel) (by omega)]; decide +kernel
  · rw [havM (a := 198) (i := i) (L := RGr63) (n := 70) (r := 9) (by decide +kernel) (by decide +kernel) (by omega)]; decide +kernel
  · rw [havM (a := 198) (i := i) (L := RGr63) (n := 70) (r := 10) (by decide +kernel) (by decide +kernel) (by omega)]; decide +kernel
  · rw [havM (a := 198) (i := i) (L := RGr63) (n := 70) (r := 11) (by decide +kernel) (by decide +kernel) (by omega)]; decide +kernel
  · rw [havM (a := 198) (i := i) (L := RGr63) (n := 70) (r := 12) (by decide +kernel) (by decide +kernel) (by omega)]; decide +kernel
  · rw [havM (a := 198) (i := i) (L := RGr63) (n := 70) (r := 13) (by decide +kernel) (by decide +kernel) (by omega)]; decide +kernel
theorem rs_done {h : LH} (hr : RNG h) {i : Int} (b p : Int) (e : i = b + 8 + p) (hb : b % 70 = 0) (h0 : 0 ≤ b) (h1 : b ≤ 1540) (p0 : 0 ≤ p) (p1 : p ≤ 5) : 0 ≤ rd h 198 i ∧ rd h 198 i ≤ 1 := by
  have q := rdP (a := 198) (i := i) (lo := 0) (hi := 1) (st := 1) hr (vldA (n := 1610) (k := 1) (by decide +kernel) (by decide +kernel) (by omega)) (Or.inl (lkd_1 (by decide +kernel))) (fun v hv => by rw [hs_done e hb h0 p0 p1] at hv; exact hv)
  exact ⟨q.1, q.2.1⟩
theorem hs_went {i : Int} {b p : Int} (e : i = b + 14 + p) (hb : b % 70 = 0) (h0 : 0 ≤ b) (p0 : 0 ≤ p) (p1 : p ≤ 5) : hav 198 i = (0, 0, 1, 1) := by
  have hp : p = 0 ∨ p = 1 ∨ p = 2 ∨ p = 3 ∨ p = 4 ∨ p = 5 := by omega
  rcases hp with rfl | rfl | rfl | rfl | rfl | rfl
  · rw [havM (a := 198) (i := i) (L := RGr63) (n := 70) (r := 14) (by decide +kernel) (by decide +kernel) (by omega)]; decide +kernel
  · rw [havM (a := 198) (i := i) (L := RGr63) (n := 70) (r := 15) (by decide +kernel) (by decide +kernel) (by omega)]; decide +kernel
  · rw [havM (a := 198) (i := i) (L := RGr63) (n := 70) (r := 16) (by decide +kernel) (by decide +kernel) (by omega)]; decide +kernel
  · rw [havM (a := 198) (i := i) (L := RGr63) (n := 70) (r := 17) (by decide +kernel) (by decide +kernel) (by omega)]; decide +kernel
  · rw [havM (a := 198) (i := i) (L := RGr63) (n := 70) (r := 18) (by decide +kernel) (by decide +kernel) (by omega)]; decide +kernel
  · rw [havM (a := 198) (i := i) (L := RGr63) (n := 70) (r := 19) (by decide +kernel) (by decide +kernel) (by omega)]; decide +kernel
theorem rs_went {h : LH} (hr : RNG h) {i : Int} (b p : Int) (e : i = b + 14 + p) (hb : b % 70 = 0) (h0 : 0 ≤ b) (h1 : b ≤ 1540) (p0 : 0 ≤ p) (p1 : p ≤ 5) : 0 ≤ rd h 198 i ∧ rd h 198 i ≤ 1 := by
  have q := rdP (a := 198) (i := i) (lo := 0) (hi := 1) (st := 1) hr (vldA (n := 1610) (k := 1) (by decide +kernel) (by decide +kernel) (by omega)) (Or.inl (lkd_1 (by decide +kernel))) (fun v hv => by rw [hs_went e hb h0 p0 p1] at hv; exact hv)
  exact ⟨q.1, q.2.1⟩
theorem hs_many {i : Int} {b p : Int} (e : i = b + 34 + p) (hb : b % 70 = 0) (h0 : 0 ≤ b) (p0 : 0 ≤ p) (p1 : p ≤ 0) : hav 198 i = (0, 0, 10, 1) := by
  have hp : p = 0 := by omega
  rcases hp with rfl
  · rw [havM (a := 198) (i := i) (L := RGr63) (n := 70) (r := 34) (by decide +kernel) (by decide +kernel) (by omega)]; decide +kernel
theorem rs_many {h : LH} (hr : RNG h) {i : Int} (b p : Int) (e : i = b + 34 + p) (hb : b % 70 = 0) (h0 : 0 ≤ b) (h1 : b ≤ 1540) (p0 : 0 ≤ p) (p1 : p ≤ 0) : 0 ≤ rd h 198 i ∧ rd h 198 i ≤ 10 := by
  have q := rdP (a := 198) (i := i) (lo := 0) (hi := 10) (st := 1) hr (vldA (n := 1610) (k := 1) (by decide +kernel) (by decide +kernel) (by omega)) (Or.inl (lkd_1 (by decide +kernel))) (fun v hv => by rw [hs_many e hb h0 p0 p1] at hv; exact hv)
  exact ⟨q.1, q.2.1⟩
end
