/-! LM, part 25: jumps by bounds -/
abbrev AS : Type := AL × List SE × FA
def gA (ls : LL) (st : List LV) (h : LH) (s : AS) : Prop := gL s.1 ls ∧ gS ls h s.2.1 st ∧ gF h s.2.2
def rep (p : PV) (a : AV) (st : List SE) : List SE := st.map (fun e => if e.2 = p then (a, p) else e)
def putP (p : PV) (a : AV) (s : AS) : AS := if p.1 = 1 then (s.1.set p.2.1.toNat (some a), rep p a s.2.1, s.2.2) else if p.1 = 2 then (s.1, rep p a s.2.1, (p.2.1, p.2.2.1, a) :: s.2.2) else s
theorem rep_ok {ls : LL} {h : LH} {p : PV} {a : AV} {v : LV} (hp : p.1 = 1 ∨ p.1 = 2) (h1 : gP ls h p v) (h2 : gV a v) : ∀ {ast : List SE} {st : List LV}, gS ls h ast st → gS ls h (rep p a ast) st
  | [], [], _ => trivial
  | e :: r, w :: s, hs => by
    refine ⟨?_, rep_ok hp h1 h2 hs.2⟩
    show gV (if e.2 = p then (a, p) else e).1 w ∧ gP ls h (if e.2 = p then (a, p) else e).2 w
    split
    · next e1 =>
      have h3 := hs.1.2
      rw [e1] at h3
      have hw : w = v := by
        unfold gP at h1 h3
        rcases hp with q | q
        · rw [q] at h1 h3
          exact Option.some.inj (h3.symm.trans h1)
        · rw [q] at h1 h3
          exact h3.2.trans h1.2.symm
      rw [hw]
      exact ⟨h2, h1⟩
    · exact hs.1
  | [], _ :: _, hs => by cases hs
  | _ :: _, [], hs => by cases hs
theorem putP_ok {ls : LL} {st : List LV} {h : LH} {p : PV} {a : AV} {v : LV} (h1 : gP ls h p v) (h2 : gV a v) {s : AS} (hs : gA ls st h s) : gA ls st h (putP p a s) := by
  unfold putP
  split
  · next hp =>
    refine ⟨⟨by rw [List.length_set]; exact hs.1.1, fun j b hb => ?_⟩, rep_ok (Or.inl hp) h1 h2 hs.2.1, hs.2.2⟩
    unfold gP at h1
    rw [hp] at h1
    simp only at h1
    by_cases e : p.2.1.toNat = j
    · rw [e] at h1
      have hlt : j < s.1.length := by rw [hs.1.1]; exact lget_lt h1
      unfold aget at hb
      rw [e, List.getElem?_set_self hlt] at hb
      cases some_i hb
      exact ⟨v, h1, h2⟩
    · unfold aget at hb
      rw [List.getElem?_set_ne e] at hb
      exact hs.1.2 j b hb
  · split
    · next hp =>
      refine ⟨hs.1, rep_ok (Or.inr hp) h1 h2 hs.2.1, fun q hq => ?_⟩
      rcases List.mem_cons.mp hq with rfl | hq
      · unfold gP at h1
        rw [hp] at h1
        have e : hval h p.2.1 p.2.2.1 = v := h1.2.symm
        simp only
        rw [e]
        exact h2
      · exact hs.2.2 q hq
    · exact hs
def z0 : SE := ((0, 0, 0, 0), pv0)
def isZ (e : SE) : Bool := e.1.2.1 == 0 && e.1.2.2.1 == 0 && e.1.2.2.2 == 0
def brR (c : ClassFile.Cond) (a b : SE) (s : AS) : Option AS :=
  if a.2.1 = 3 ∧ isZ b = true then (match aget s.1 a.2.2.1.toNat with
    | some cur => (refC c cur (1, a.2.2.2.2.1, a.2.2.2.2.2, 1)).map (fun q => putP (1, a.2.2.1, 0, 0, 0) q.1 s)
    | none => some s)
  else if a.2.1 = 4 ∧ isZ b = true then (refC c (fget s.2.2 a.2.2.1 a.2.2.2.1) (1, a.2.2.2.2.1, a.2.2.2.2.2, 1)).map (fun q => putP (2, a.2.2.1, a.2.2.2.1, 0, 0) q.1 s)
  else (refC c a.1 b.1).map (fun q => putP b.2 q.2 (putP a.2 q.1 s))
theorem st1 {lo hi y : Int} (h1 : lo ≤ y) (h2 : y ≤ hi) : inV (1, lo, hi, 1) y := ⟨h1, h2, Int.one_dvd _⟩
section BR
variable {INV : LH → Prop} {prot : Int → Int → Int → Bool} {ls : LL} {h : LH}
theorem brR_ok (hI : INVok INV prot) (hh : INV h) {c : ClassFile.Cond} {a b : SE} {s : AS} {st : List LV} {x y : Int} (hc : cnd c x y = true) (g1 : gV a.1 (.inl x)) (p1 : gP ls h a.2 (.inl x)) (g2 : gV b.1 (.inl y)) (p2 : gP ls h b.2 (.inl y)) (hs : gA ls st h s) : ∃ s', brR c a b s = some s' ∧ gA ls st h s' := by
  unfold brR
  have zz : isZ b = true → y = 0 := fun hz => by
    unfold isZ at hz
    simp only [Bool.and_eq_true, beq_iff_eq] at hz
    have := inV_c g2.2.2 hz.2
    omega
  split
  · next e =>
    have hy := zz e.2
    subst hy
    unfold gP at p1
    rw [e.1] at p1
    obtain ⟨u, w, q1, q2, q3, q4⟩ := p1
    have q4 : x = lcmp_ u w := by injection q4
    rw [q4] at hc
    have hc2 := cnd_cmp hc
    split
    · next cur hcur =>
      obtain ⟨v, v1, v2⟩ := hs.1.2 _ cur hcur
      rw [q1] at v1
      cases v1
      obtain ⟨r, r1, r2, r3, r4, r5⟩ := refC_ok hc2 v2.2.2 (st1 q2 q3)
      rw [r1]
      refine ⟨_, rfl, putP_ok (v := .inr (.inl u)) ?_ ⟨r4.trans v2.1, v2.2.1, r2⟩ hs⟩
      exact q1
    · exact ⟨s, rfl, hs⟩
  · split
    · next e =>
      have hy := zz e.2
      subst hy
      unfold gP at p1
      rw [e.1] at p1
      obtain ⟨w, q0, q1, q2, q3, q4⟩ := p1
      have q4 : x = lcmp_ (rd h a.2.2.1 a.2.2.2.1) w := by injection q4
      rw [q4] at hc
      have hc2 := cnd_cmp hc
      have hg := fget_ok hI hh hs.2.2 q0
      have hv : hval h a.2.2.1 a.2.2.2.1 = .inr (.inl (rd h a.2.2.1 a.2.2.2.1)) := by unfold hval; rw [q1]; rfl
      rw [hv] at hg
      obtain ⟨r, r1, r2, r3, r4, r5⟩ := refC_ok hc2 hg.2.2 (st1 q2 q3)
      rw [r1]
      refine ⟨_, rfl, putP_ok (v := .inr (.inl (rd h a.2.2.1 a.2.2.2.1))) ?_ ⟨r4.trans hg.1, hg.2.1, r2⟩ hs⟩
      exact ⟨q0, by rw [← hv]; rfl⟩
    · obtain ⟨r, r1, r2, r3, r4, r5⟩ := refC_ok hc g1.2.2 g2.2.2
      rw [r1]
      exact ⟨_, rfl, putP_ok p2 ⟨r5.trans g2.1, g2.2.1, r3⟩ (putP_ok p1 ⟨r4.trans g1.1, g1.2.1, r2⟩ hs)⟩
def optL (o : Option AS) (t : Int) : List (Int × AS) := match o with
  | some s => [(t, s)]
  | none => []
def aJ (pc len : Nat) (i : Instr) (s : AS) : Option (List (Int × AS)) := match i with
  | .goto off => some [((pc : Int) + off, s)]
  | .ifCond c off => match s.2.1 with
    | e :: r => if e.1.1 = 0 ∧ 0 ≤ (pc : Int) + off then some (optL (brR c e z0 (s.1, r, s.2.2)) ((pc : Int) + off) ++ optL (brR (negC c) e z0 (s.1, r, s.2.2)) ((pc : Int) + len)) else none
    | _ => none
  | .if_icmp c off => match s.2.1 with
    | b :: a :: r => if a.1.1 = 0 ∧ b.1.1 = 0 ∧ 0 ≤ (pc : Int) + off then some (optL (brR c a b (s.1, r, s.2.2)) ((pc : Int) + off) ++ optL (brR (negC c) a b (s.1, r, s.2.2)) ((pc : Int) + len)) else none
    | _ => none
  | .tableswitch d lo hi offs => match s.2.1 with
    | e :: r => if e.1.1 = 0 ∧ (offs.size : Int) = hi - lo + 1 then some (((pc : Int) + d, (s.1, r, s.2.2)) :: (List.range offs.size).flatMap (fun (k : Nat) => match offs[k]? with
        | some f => optL ((meetA e.1 (lo + (k : Int)) (lo + (k : Int))).map (fun m => putP e.2 m (s.1, r, s.2.2))) ((pc : Int) + f)
        | none => [])) else none
    | _ => none
  | .lookupswitch d ps => match s.2.1 with
    | e :: r => if e.1.1 = 0 ∧ (ps.toList.zip (ps.toList.drop 1)).all (fun (a, b) => a.1 < b.1) = true then some (((pc : Int) + d, (s.1, r, s.2.2)) :: ps.toList.map (fun q => ((pc : Int) + q.2, (s.1, r, s.2.2)))) else none
    | _ => none
  | _ => none
theorem off_in (d x : Int) : ∀ (ps : List (Int × Int)), Op.lookupswitch.offset ps d x = d ∨ ∃ q ∈ ps, Op.lookupswitch.offset ps d x = q.2
  | [] => Or.inl rfl
  | q :: ps => by
    unfold Op.lookupswitch.offset
    rcases off_in d x ps with h | ⟨r, r1, r2⟩
    · first
        | (split
           · exact Or.inr ⟨q, List.mem_cons_self, rfl⟩
           · exact Or.inl h)
        | (simp only []; split
           · exact Or.inr ⟨q, List.mem_cons_self, rfl⟩
           · exact Or.inl h)
    · first
        | (split
           · exact Or.inr ⟨q, List.mem_cons_self, rfl⟩
           · exact Or.inr ⟨r, List.mem_cons_of_mem _ r1, r2⟩)
        | (simp only []; split
           · exact Or.inr ⟨q, List.mem_cons_self, rfl⟩
           · exact Or.inr ⟨r, List.mem_cons_of_mem _ r1, r2⟩)
set_option maxHeartbeats 4000000 in
theorem aJ_ok (hI : INVok INV prot) (hh : INV h) {pc len : Nat} {i : Instr} {s : AS} {st : List LV} {L : List (Int × AS)} (ha : aJ pc len i s = some L) (hs : gA ls st h s) : ∃ (t : Int) (st' : List LV), lmJ i pc len st = some (t, st') ∧ ∃ q ∈ L, q.1 = t ∧ gA ls st' h q.2 := by
  have z0v : gV z0.1 (.inl 0) := ⟨rfl, z32, Int.le_refl _, Int.le_refl _, by simp [z0]⟩
  cases i with
  | goto off =>
    simp only [aJ] at ha
    cases some_i ha
    exact ⟨_, st, rfl, _, List.mem_singleton.mpr rfl, rfl, hs⟩
  | ifCond c off =>
    simp only [aJ] at ha
    split at ha
    · next e r hr =>
      split at ha
      · next hk =>
        cases some_i ha
        obtain ⟨h1, h2, h3⟩ := hs
        rw [hr] at h2
        obtain ⟨v, st1, rfl, g1, p1, hs1⟩ := gS_c h2
        obtain ⟨x, rfl, x1, x2⟩ := gV_i g1 hk.1
        simp only [lmJ]
        rw [if_pos hk.2]
        by_cases hc : cnd c x 0 = true
        · rw [if_pos hc]
          obtain ⟨s', s1, s2⟩ := brR_ok hI hh (b := z0) (s := (s.1, r, s.2.2)) (st := st1) hc g1 p1 z0v trivial ⟨h1, hs1, h3⟩
          exact ⟨_, _, rfl, _, List.mem_append_left _ (by rw [s1]; exact List.mem_singleton.mpr rfl), rfl, s2⟩
        · rw [if_neg hc]
          obtain ⟨s', s1, s2⟩ := brR_ok hI hh (b := z0) (s := (s.1, r, s.2.2)) (st := st1) (negC_ok hc) g1 p1 z0v trivial ⟨h1, hs1, h3⟩
          exact ⟨_, _, rfl, _, List.mem_append_right _ (by rw [s1]; exact List.mem_singleton.mpr rfl), rfl, s2⟩
      · cases ha
    · cases ha
  | if_icmp c off =>
    simp only [aJ] at ha
    split at ha
    · next b a r hr =>
      split at ha
      · next hk =>
        cases some_i ha
        obtain ⟨h1, h2, h3⟩ := hs
        rw [hr] at h2
        obtain ⟨v, st1, rfl, g2, p2, hs1⟩ := gS_c h2
        obtain ⟨w, st2, rfl, g1, p1, hs2⟩ := gS_c hs1
        obtain ⟨y, rfl, y1, y2⟩ := gV_i g2 hk.2.1
        obtain ⟨x, rfl, x1, x2⟩ := gV_i g1 hk.1
        simp only [lmJ]
        rw [if_pos hk.2.2]
        by_cases hc : cnd c x y = true
        · rw [if_pos hc]
          obtain ⟨s', s1, s2⟩ := brR_ok hI hh (s := (s.1, r, s.2.2)) (st := st2) hc g1 p1 g2 p2 ⟨h1, hs2, h3⟩
          exact ⟨_, _, rfl, _, List.mem_append_left _ (by rw [s1]; exact List.mem_singleton.mpr rfl), rfl, s2⟩
        · rw [if_neg hc]
          obtain ⟨s', s1, s2⟩ := brR_ok hI hh (s := (s.1, r, s.2.2)) (st := st2) (negC_ok hc) g1 p1 g2 p2 ⟨h1, hs2, h3⟩
          exact ⟨_, _, rfl, _, List.mem_append_right _ (by rw [s1]; exact List.mem_singleton.mpr rfl), rfl, s2⟩
      · cases ha
    · cases ha
  | tableswitch d lo hi offs =>
    simp only [aJ] at ha
    split at ha
    · next e r hr =>
      split at ha
      · next hk =>
        cases some_i ha
        obtain ⟨h1, h2, h3⟩ := hs
        rw [hr] at h2
        obtain ⟨v, st1, rfl, g1, p1, hs1⟩ := gS_c h2
        obtain ⟨x, rfl, x1, x2⟩ := gV_i g1 hk.1
        simp only [lmJ]
        by_cases ho : x < lo ∨ hi < x
        · rw [if_pos ho]
          exact ⟨_, _, rfl, _, List.mem_cons_self, rfl, h1, hs1, h3⟩
        · rw [if_neg ho]
          have hlt : (x - lo).toNat < offs.size := by omega
          have hget : offs[(x - lo).toNat]? = some offs[(x - lo).toNat] := Array.getElem?_eq_getElem hlt
          rw [hget]
          simp only
          obtain ⟨m, m1, m2⟩ := meetA_in x2 (lo := lo + ((x - lo).toNat : Int)) (hi := lo + ((x - lo).toNat : Int)) (by omega) (by omega)
          refine ⟨_, _, rfl, ((pc : Int) + offs[(x - lo).toNat], putP e.2 m (s.1, r, s.2.2)), List.mem_cons_of_mem _ (List.mem_flatMap.mpr ⟨(x - lo).toNat, List.mem_range.mpr hlt, ?_⟩), rfl, putP_ok p1 ⟨(meetA_k m1).trans g1.1, x1, m2⟩ ⟨h1, hs1, h3⟩⟩
          rw [hget]
          simp only
          rw [m1]
          exact List.mem_singleton.mpr rfl
      · cases ha
    · cases ha
  | lookupswitch d ps =>
    simp only [aJ] at ha
    split at ha
    · next e r hr =>
      split at ha
      · next hk =>
        cases some_i ha
        obtain ⟨h1, h2, h3⟩ := hs
        rw [hr] at h2
        obtain ⟨v, st1, rfl, g1, p1, hs1⟩ := gS_c h2
        obtain ⟨x, rfl, x1, x2⟩ := gV_i g1 hk.1
        simp only [lmJ]
        rw [if_pos hk.2]
        rcases off_in d x ps.toList with q | ⟨q, q1, q2⟩
        · exact ⟨_, _, rfl, _, List.mem_cons_self, by rw [q], h1, hs1, h3⟩
        · exact ⟨_, _, rfl, _, List.mem_cons_of_mem _ (List.mem_map.mpr ⟨q, q1, rfl⟩), by rw [q2], h1, hs1, h3⟩
      · cases ha
    · cases ha
  | _ => simp only [aJ] at ha; cases ha
end BR
