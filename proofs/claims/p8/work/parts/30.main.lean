/-! LM, part 30: a checked method keeps its contract -/
def kpOk (KP : List (Nat × Nat)) (als : AL) (k kd : Nat) : Bool := KP.all (fun q => decide (q.2 ≠ k) && (decide (kd ≠ 1) || decide (q.2 ≠ k + 1)) && (decide (q.2 + 1 ≠ k) || match aget als q.2 with | some a => decide (a.1 ≠ 1) | none => false))
def refsS (aas : List SE) (mods : BX) : List (Nat × AV) → AS → Option AS
  | [], s => some s
  | q :: r, s => match aas[q.1]? with
    | some e => if e.2.1 = 1 ∨ (e.2.1 = 2 ∧ inBx mods e.2.2.1 e.2.2.2.1 = false) then (match meetA e.1 q.2.2.1 q.2.2.2.1 with
        | some m => refsS aas mods r (putP e.2 m s)
        | none => none) else refsS aas mods r s
    | none => refsS aas mods r s
def caseS (aas : List SE) (mods : BX) (s : AS) (c : CS) : Option AS := match refsS aas mods c.2.2.1 (s.1, killS mods s.2.1, c.2.2.2 ++ killF mods s.2.2) with
  | some t => match c.1 with
    | none => some t
    | some r => if c.2.1.1 = 2 then (match meetA r (fget t.2.2 c.2.1.2.1 c.2.1.2.2.1).2.1 (fget t.2.2 c.2.1.2.1 c.2.1.2.2.1).2.2.1 with
        | some m => some (t.1, (m, c.2.1) :: t.2.1, t.2.2)
        | none => none) else some (t.1, (r, pv0) :: t.2.1, t.2.2)
  | none => none
def covC (N : List (List ND)) (u : ND) (t : Int) (aas : List SE) (mods : BX) (s : AS) : List CS → List Nat → Bool
  | [], _ => true
  | c :: L, j :: js => (match caseS aas mods s c with
    | some s' => covK N u t s' j
    | none => true) && covC N u t aas mods s L js
  | _ :: _, [] => false
def leAr : List SE → List AV → Bool
  | [], [] => true
  | e :: r, a :: s => leA e.1 a && leAr r s
  | _, _ => false
theorem leAr_ok {ls : LL} {h : LH} : ∀ {e : List SE} {a : List AV} {v : List LV}, leAr e a = true → gS ls h e v → gAr a v
  | [], [], [], _, _ => trivial
  | e :: r, a :: s, v :: vs, hl, hs => by
    simp only [leAr, Bool.and_eq_true] at hl
    exact ⟨leA_ok hl.1 hs.1.1, leAr_ok hl.2 hs.2⟩
  | [], [], _ :: _, _, hs => by cases hs
  | _ :: _, _ :: _, [], _, hs => by cases hs
  | [], _ :: _, _, hl, _ => by cases hl
  | _ :: _, [], _, hl, _ => by cases hl
theorem gS_nth {ls : LL} {h : LH} : ∀ {a : List SE} {s : List LV} {j : Nat} {e : SE} {v : LV}, gS ls h a s → a[j]? = some e → s[j]? = some v → gV e.1 v ∧ gP ls h e.2 v
  | e :: r, v :: s, 0, _, _, hs, h1, h2 => by cases h1; cases h2; exact hs.1
  | e :: r, v :: s, j + 1, _, _, hs, h1, h2 => gS_nth hs.2 (by simpa using h1) (by simpa using h2)
  | [], _, _, _, _, _, h1, _ => by simp at h1
  | _ :: _, [], _, _, _, hs, _, _ => by cases hs
def pre (fa L : FA) : Bool := L.all (fun q => leA (fget fa q.1 q.2.1) q.2.2 && vB q.1 q.2.1)
theorem pre_ok {INV : LH → Prop} {prot : Int → Int → Int → Bool} (hI : INVok INV prot) {h : LH} (hh : INV h) {fa L : FA} (hf : gF h fa) (hp : pre fa L = true) : gF h L := by
  intro q hq
  have h1 := List.all_eq_true.mp hp q hq
  simp only [Bool.and_eq_true] at h1
  exact leA_ok h1.1 (fget_ok hI hh hf (vB_ok h1.2))
def retOk (S : SM) (KP : List (Nat × Nat)) (u : ND) (e : Option SE) : Bool := match S.2.2.2.1[u.2.2.2.2.2]? with
  | some c => (match c.1, e with
    | none, none => true
    | some a, some e => leA e.1 a && (c.2.1.1 == 0 || (c.2.1.1 == 2 && decide (c.2.1 = e.2)))
    | _, _ => false) && c.2.2.1.all (fun q => KP.any (fun p => p.1 == q.1 && (match aget u.2.1.1 p.2 with | some b => leA b q.2 | none => false))) && pre u.2.1.2.2 c.2.2.2
  | none => false
def chkN (prot : Int → Int → Int → Bool) (SMs : Nat → Option SM) (S : SM) (M : LM_M) (KP : List (Nat × Nat)) (N : List (List ND)) (u : ND) : Bool :=
  lbM u.2.2.1 u.2.2.2.1 u.2.1.1 && match decode M.2.1 u.1 with
  | .error _ => false
  | .ok (i, len) => ilen i len && match icls i with
    | 1 => (match aA i u.2.1.2.1 with
      | some st => covA N u [((u.1 : Int) + len, (u.2.1.1, st, u.2.1.2.2))] u.2.2.2.2.1
      | none => false)
    | 2 => (match aLd i u.2.1.1 with
      | some e => covA N u [((u.1 : Int) + len, (u.2.1.1, e :: u.2.1.2.1, u.2.1.2.2))] u.2.2.2.2.1
      | none => false)
    | 3 => (match aG M.2.2.2.2.1 i u.2.1.2.1 u.2.1.2.2 with
      | some L => covA N u (L.map (fun st => ((u.1 : Int) + len, (u.2.1.1, st, u.2.1.2.2)))) u.2.2.2.2.1
      | none => false)
    | 4 => (match aJ u.1 len i u.2.1 with
      | some L => covA N u L u.2.2.2.2.1
      | none => false)
    | 5 => (match i with
      | .iinc k n => (match aget u.2.1.1 k with
        | some a => if a.1 = 0 ∧ -32768 ≤ n ∧ n ≤ 32767 ∧ kpOk KP u.2.1.1 k 0 = true then (match covE N ((u.1 : Int) + len) (aput u.2.1.1 k (w0 (a.2.1 + n) (a.2.2.1 + n) a.2.2.2), killL k u.2.1.2.1, u.2.1.2.2) (u.2.2.2.2.1.getD 0 0) with
          | some v => edI u v k a n || edS u v k (w0 (a.2.1 + n) (a.2.2.1 + n) a.2.2.2)
          | none => false) else false
        | none => false)
      | _ => false)
    | 6 => (match aP M.2.2.2.2.1 i u.2.1.2.1 with
      | some (ea, ix, va, r) => stOk prot ea ix va && bxIn S.2.2.2.2.1 (boxOf ea ix) && covA N u [((u.1 : Int) + len, (u.2.1.1, killS [boxOf ea ix] r, setF ea ix va u.2.1.2.2))] u.2.2.2.2.1
      | none => false)
    | 7 => (match aC M.2.2.2.2.1 i with
      | some a => covA N u [((u.1 : Int) + len, (u.2.1.1, (a, pv0) :: u.2.1.2.1, u.2.1.2.2))] u.2.2.2.2.1
      | none => false)
    | 8 => (match u.2.1.2.1 with
      | e :: r => (match aSt i e.1 with
        | some k => if k + (if e.1.1 = 1 then 1 else 0) < u.2.1.1.length ∧ kpOk KP u.2.1.1 k e.1.1 = true then (match covE N ((u.1 : Int) + len) (aput u.2.1.1 k e.1, killL k r, u.2.1.2.2) (u.2.2.2.2.1.getD 0 0) with
          | some v => edS u v k e.1
          | none => false) else false
        | none => false)
      | [] => false)
    | 9 => (match aX M.2.2.2.2.1 i u.2.1.2.1 with
      | some st => covA N u [((u.1 : Int) + len, (u.2.1.1, st, u.2.1.2.2))] u.2.2.2.2.1
      | none => match aQ prot M.2.2.2.2.1 i u.2.1.2.1 with
        | some (ea, ix, r) => bxIn S.2.2.2.2.1 (boxOf ea ix) && covA N u [((u.1 : Int) + len, (u.2.1.1, killS [boxOf ea ix] r, killF [boxOf ea ix] u.2.1.2.2))] u.2.2.2.2.1
        | none => match aK M.2.2.2.2.1 i u.2.1.2.1 with
          | some (k, aas, ar) => (match SMs u.2.2.2.2.2 with
            | some T => T.1 == k && decide (T.2.1 < S.2.1) && leAr aas T.2.2.1 && pre u.2.1.2.2 T.2.2.2.2.2 && T.2.2.2.2.1.all (bxIn S.2.2.2.2.1) && covC N u ((u.1 : Int) + 3) aas T.2.2.2.2.1 (u.2.1.1, ar, u.2.1.2.2) T.2.2.2.1 u.2.2.2.2.1
            | none => false)
          | none => false)
    | 10 => (match i with
      | .return_ => u.2.1.2.1 == [] && decide (M.2.2.2.1 = none) && retOk S KP u none
      | .ireturn => (match u.2.1.2.1 with
        | [e] => e.1.1 == 0 && (decide (M.2.2.2.1 = some .int) || (decide (M.2.2.2.1 = some .boolean) && decide (0 ≤ e.1.2.1) && decide (e.1.2.2.1 ≤ 1))) && retOk S KP u (some e)
        | _ => false)
      | .lreturn => (match u.2.1.2.1 with
        | [e] => e.1.1 == 1 && decide (M.2.2.2.1 = some .long) && retOk S KP u (some e)
        | _ => false)
      | _ => false)
    | _ => false
section MA
variable {INV : LH → Prop} {prot : Int → Int → Int → Bool} {xs : Nat → Int} {xl : Nat}
theorem refsS_ok {ls : LL} {h h' : LH} {aas : List SE} {as : List LV} {mods : BX} (hf : frm mods h h') (ha : gS ls h aas as) : ∀ (R : List (Nat × AV)) (s : AS) (st : List LV), (∀ q ∈ R, ∃ v, as[q.1]? = some v ∧ gV q.2 v) → gA ls st h' s → ∃ t, refsS aas mods R s = some t ∧ gA ls st h' t
  | [], s, st, _, hs => ⟨s, rfl, hs⟩
  | q :: R, s, st, hq, hs => by
    have hq' := fun p hp => hq p (List.mem_cons_of_mem _ hp)
    unfold refsS
    split
    · next e he =>
      split
      · next hc =>
        obtain ⟨v, v1, v2⟩ := hq q List.mem_cons_self
        obtain ⟨g1, p1⟩ := gS_nth ha he v1
        have p2 : gP ls h' e.2 v := by
          unfold gP at p1 ⊢
          rcases hc with c1 | ⟨c1, c2⟩
          · rw [c1] at p1 ⊢; exact p1
          · rw [c1] at p1 ⊢
            simp only at p1 ⊢
            rw [hf _ _ c2]
            exact p1
        have hin : ∃ m, meetA e.1 q.2.2.1 q.2.2.2.1 = some m ∧ gV m v := by
          match v, g1, v2 with
          | .inl x, g1, v2 =>
            obtain ⟨m, m1, m2⟩ := meetA_in g1.2.2 v2.2.2.1 v2.2.2.2.1
            exact ⟨m, m1, (meetA_k m1).trans g1.1, g1.2.1, m2⟩
          | .inr (.inl x), g1, v2 =>
            obtain ⟨m, m1, m2⟩ := meetA_in g1.2.2 v2.2.2.1 v2.2.2.2.1
            exact ⟨m, m1, (meetA_k m1).trans g1.1, g1.2.1, m2⟩
          | .inr (.inr x), g1, v2 =>
            obtain ⟨m, m1, m2⟩ := meetA_in g1.2 v2.2.1 v2.2.2.1
            exact ⟨m, m1, (meetA_k m1).trans g1.1, m2⟩
        obtain ⟨m, m1, m2⟩ := hin
        rw [m1]
        exact refsS_ok hf ha R _ st hq' (putP_ok p2 m2 hs)
      · exact refsS_ok hf ha R s st hq' hs
    · exact refsS_ok hf ha R s st hq' hs
theorem caseS_ok (hI : INVok INV prot) {ls : LL} {h h' : LH} (hh : INV h') {aas : List SE} {as : List LV} {mods : BX} (hf : frm mods h h') (ha : gS ls h aas as) {s : AS} {st : List LV} (hs : gA ls st h s) {c : CS} {r : Option LV} (hc : resOk c r h' as) : ∃ t, caseS aas mods s c = some t ∧ gA ls (r.toList ++ st) h' t := by
  obtain ⟨t, t1, t2⟩ := refsS_ok hf ha c.2.2.1 (s.1, killS mods s.2.1, c.2.2.2 ++ killF mods s.2.2) st hc.2.1 ⟨hs.1, killS_ok hf hs.2.1, fun q hq => (List.mem_append.mp hq).elim (hc.2.2 q) (killF_ok hf hs.2.2 q)⟩
  unfold caseS
  rw [t1]
  simp only
  have h1 := hc.1
  split at h1
  · next e => rw [e]; exact ⟨t, rfl, t2⟩
  · next a v e =>
    rw [e]
    simp only
    split
    · next hp =>
      have hp2 : gP [] h' c.2.1 v := by
        rcases h1.2 with q | q
        · rw [hp] at q; cases q
        · exact q.2
      have hp3 : valid c.2.1.2.1 c.2.1.2.2.1 ∧ v = hval h' c.2.1.2.1 c.2.1.2.2.1 := by
        unfold gP at hp2
        rw [hp] at hp2
        exact hp2
      have hg := fget_ok hI hh t2.2.2 hp3.1
      rw [← hp3.2] at hg
      have hin : ∃ m, meetA a (fget t.2.2 c.2.1.2.1 c.2.1.2.2.1).2.1 (fget t.2.2 c.2.1.2.1 c.2.1.2.2.1).2.2.1 = some m ∧ gV m v := by
        have g1 := h1.1
        match v, g1, hg with
        | .inl x, g1, v2 =>
          obtain ⟨m, m1, m2⟩ := meetA_in g1.2.2 v2.2.2.1 v2.2.2.2.1
          exact ⟨m, m1, (meetA_k m1).trans g1.1, g1.2.1, m2⟩
        | .inr (.inl x), g1, v2 =>
          obtain ⟨m, m1, m2⟩ := meetA_in g1.2.2 v2.2.2.1 v2.2.2.2.1
          exact ⟨m, m1, (meetA_k m1).trans g1.1, g1.2.1, m2⟩
        | .inr (.inr x), g1, v2 =>
          obtain ⟨m, m1, m2⟩ := meetA_in g1.2 v2.2.1 v2.2.2.1
          exact ⟨m, m1, (meetA_k m1).trans g1.1, m2⟩
      obtain ⟨m, m1, m2⟩ := hin
      rw [m1]
      refine ⟨_, rfl, t2.1, ⟨⟨m2, ?_⟩, t2.2.1⟩, t2.2.2⟩
      unfold gP
      show (match c.2.1.1 with | 0 => True | 1 => _ | 2 => _ | 3 => _ | 4 => _ | _ => False)
      rw [hp]
      exact hp3
    · exact ⟨_, rfl, t2.1, ⟨⟨h1.1, trivial⟩, t2.2.1⟩, t2.2.2⟩
  · cases h1
theorem covC_ok {N : List (List ND)} {u : ND} {t : Int} {aas : List SE} {mods : BX} {s : AS} : ∀ {L : List CS} {js : List Nat}, covC N u t aas mods s L js = true → ∀ c ∈ L, ∃ j, ∀ s', caseS aas mods s c = some s' → covK N u t s' j = true
  | [], _, _, c, hc => by cases hc
  | d :: L, j :: js, h, c, hc => by
    simp only [covC, Bool.and_eq_true] at h
    rcases List.mem_cons.mp hc with rfl | hc
    · refine ⟨j, fun s' hs' => ?_⟩
      have h1 := h.1
      rw [hs'] at h1
      exact h1
    · exact covC_ok h.2 c hc
  | _ :: _, [], h, _, _ => by cases h
theorem retOk_ok (hI : INVok INV prot) {S : SM} {KP : List (Nat × Nat)} {u : ND} {e : Option SE} {r : Option LV} {ls : LL} {h : LH} {as : List LV} (hk : retOk S KP u e = true) (hh : INV h) (hfa : gF h u.2.1.2.2) (hl : gL u.2.1.1 ls) (he : (e = none ∧ r = none) ∨ ∃ e' v, e = some e' ∧ r = some v ∧ gV e'.1 v ∧ gP ls h e'.2 v) (hkp : ∀ q ∈ KP, ∃ v, as[q.1]? = some v ∧ lget ls q.2 = some v) : ∃ c ∈ S.2.2.2.1, resOk c r h as := by
  unfold retOk at hk
  split at hk
  · next c hc =>
    simp only [Bool.and_eq_true] at hk
    refine ⟨c, List.mem_of_getElem? hc, ?_, fun q hq => ?_, pre_ok hI hh hfa hk.2⟩
    · have h1 := hk.1.1
      split at h1
      · next e1 =>
        rcases he with ⟨-, rfl⟩ | ⟨e', v, h2, -⟩
        · rw [e1]; trivial
        · cases h2
      · next a e' e1 =>
        rcases he with ⟨h2, -⟩ | ⟨e'', v, h2, rfl, h3, h4⟩
        · cases h2
        · cases h2
          rw [e1]
          simp only [Bool.and_eq_true, Bool.or_eq_true, beq_iff_eq, decide_eq_true_eq] at h1
          refine ⟨leA_ok h1.1 h3, ?_⟩
          rcases h1.2 with q | q
          · exact Or.inl q
          · right
            refine ⟨q.1, ?_⟩
            have q1 := q.1
            rw [q.2] at q1 ⊢
            unfold gP at h4 ⊢
            rw [q1] at h4 ⊢
            exact h4
      · cases h1
    · have h2 := List.all_eq_true.mp hk.1.2 q hq
      rw [List.any_eq_true] at h2
      obtain ⟨p, p1, p2⟩ := h2
      simp only [Bool.and_eq_true, beq_iff_eq] at p2
      obtain ⟨v, v1, v2⟩ := hkp p p1
      have p3 := p2.2
      split at p3
      · next b hb =>
        obtain ⟨w, w1, w2⟩ := hl.2 p.2 b hb
        rw [v2] at w1
        cases w1
        exact ⟨v, by rw [← p2.1]; exact v1, leA_ok p3 w2⟩
      · cases p3
  · cases hk
end MA
