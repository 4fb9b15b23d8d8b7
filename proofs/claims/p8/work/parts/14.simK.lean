/-! LM, part 14: a run is a run of the machine -/
def zK (D : va_G) (cA : Nat → ClassId) (b xl : Nat) (xs : Nat → Int) (X : State → Prop) (U : State) : Prop :=
  va_K D zcl (zty cA) U ∧ (∀ q ∈ AOL, va_AO (onm q.1) U) ∧ (∀ (o : Nat) (q : Nat × Nat × Nat × Nat), q ∈ MTC o → q.2.2.1 ≠ 0 → ∀ M, MTB q.2.1 = some M → va_Nw (.methodLinkNest (onm o) q.1 M.1 "OneSided") U) ∧ va_X b xl (fun j => Int32.ofInt (xs j)) U U.heap ∧ X U
def keepX (B : Nat) (X : State → Prop) : Prop := ∀ s U : State, X s → (s.vm = U.vm ∨ s.WarmedH U.vm) → s.heap.size ≤ U.heap.size → (∀ q : Nat, q < s.heap.size → ¬ zA B q → U.heap[q]? = s.heap[q]?) → X U
section ZK
variable {B b xl : Nat} {xs : Nat → Int} {D : va_G} {cA : Nat → ClassId} {X : State → Prop}
theorem zK.warm {s U : State} (hX : keepX B X) (hbB : b ≤ B) (h : zK D cA b xl xs X s) (hW : s.WarmedH U.vm) (hz : s.heap.size ≤ U.heap.size) (hk : ∀ q : Nat, q < s.heap.size → ¬ zA B q → U.heap[q]? = s.heap[q]?) : zK D cA b xl xs X U := by
  obtain ⟨h1, h2, h3, h4, h5⟩ := h
  have hbl : b < s.heap.size := by
    obtain ⟨scr, q, -⟩ := h4
    exact (Array.getElem?_eq_some_iff.mp q).1
  refine ⟨va_K.moved hW.alike h1, fun q hq => va_AO.moved hW.alike (h2 q hq), fun o q hq hn M hM => va_Nw.warmM hW (h3 o q hq hn M hM), ?_, hX s U h5 (Or.inr hW) hz hk⟩
  exact (va_X.moved hW.alike h4).kept (hk b hbl (by unfold zA; omega))
theorem zK.blind {U : State} (hX : keepX B X) (h : zK D cA b xl xs X U) (g : JFrame) (mk : MethodId) (a : Array Value) : zK D cA b xl xs X (U.calling g mk a) := by
  obtain ⟨h1, h2, h3, h4, h5⟩ := h
  refine ⟨va_K.moved (u := U) (U := U.calling g mk a) (Vm.Alike.refl U.vm) h1, fun q hq => va_AO.moved (u := U) (U := U.calling g mk a) (Vm.Alike.refl U.vm) (h2 q hq), fun o q hq hn M hM => va_Nw.same rfl (u := U) (U := U.calling g mk a) rfl (h3 o q hq hn M hM), va_X.moved (u := U) (U := U.calling g mk a) (Vm.Alike.refl U.vm) h4, hX U (U.calling g mk a) h5 (Or.inl rfl) (Nat.le_refl _) (fun _ _ _ => rfl)⟩
end ZK
theorem ssum_mono : ∀ {a b : Nat}, a ≤ b → ssum a ≤ ssum b
  | a, 0, h => by rw [show a = 0 by omega]; exact Nat.le_refl _
  | a, b + 1, h => by
    by_cases e : a = b + 1
    · rw [e]; exact Nat.le_refl _
    · have := ssum_mono (a := a) (b := b) (by omega)
      show ssum a ≤ ssum b + _
      omega
theorem lmI_mono {o n : Nat} {ini : Bool} {xs : Nat → Int} {xl : Nat} {i : Instr} {pc len : Nat} {ls : LL} {st : List LV} {h : LH} {q : Nat × LL × List LV × Nat × LH} (hg : lmI o n ini xs xl i pc len ls st h = some q) : n ≤ q.2.2.2.1 := by
  unfold lmI at hg
  repeat' split at hg
  all_goals first | (cases some_i hg; exact Nat.le_refl _) | (cases some_i hg; exact Nat.le_succ _) | cases hg
theorem lmRun_mono {xs : Nat → Int} {xl : Nat} : ∀ (f d : Nat) (M : LM_M) (pc : Nat) (ls : LL) (st : List LV) (n : Nat) (h : LH) (r : Option LV) (n' : Nat) (h' : LH), lmRun xs xl f d M pc ls st n h = some (r, n', h') → n ≤ n'
  | 0, d, M, pc, ls, st, n, h, r, n', h', hr => by cases hr
  | f + 1, d, M, pc, ls, st, n, h, r, n', h', hr => by
    have ih := lmRun_mono (xs := xs) (xl := xl) f
    unfold lmRun at hr
    split at hr
    · cases hr
    · split at hr
      · cases hr
      · split at hr
        · cases some_i hr
          exact Nat.le_refl _
        · split at hr
          · split at hr
            · cases hr
            · split at hr
              · cases hr
              · split at hr
                · cases hr
                · next h1 =>
                  exact Nat.le_trans (ih _ _ _ _ _ _ _ _ _ _ h1) (ih _ _ _ _ _ _ _ _ _ _ hr)
          · split at hr
            · cases hr
            · next h1 =>
              exact Nat.le_trans (lmI_mono h1) (ih _ _ _ _ _ _ _ _ _ _ hr)
/-- the text's and Math's calls: what is owed of them -/
def SimX (B b sA : Nat) (X : State → Prop) : Prop :=
  ∀ (p : Program) (l : Launch) (e : Env) (R : Room) (s : State) (m : MethodId) (args : Array Value) (below : List Frame) (meth : Method) (c : Code) (H : Heap) (locs : List Loc) (cells slots : Nat) (Q : State → Prop) (cc : ByteArray) (pc : Nat) (sl : Array Slot) (o : Nat) (i : Instr) (len : Nat) (st st' : List LV),
    p.tables.exec = Jvm.exec → c.code = cc → c.maxLocals = sl.size → s.vm.findClass (onm o) = some m.cls → (∀ w ∈ ZB, w.before args s = true) → X s → va_S (zA B) s.heap H locs → 8 ≤ R.frames → 512 ≤ R.locals → cells ≤ R.cells → slots ≤ R.slots → (lmX o i st = some st' ∨ (o = 7 ∧ i = .ldc 19 ∧ st' = .inr (.inr (-1)) :: st)) → ilen i len = true → decode cc pc = .ok (i, len) → okS st →
    (okS st' → W p l e R s m args below meth c H locs cells slots Q (F0 m (pc + len) sl (st'.map (cv B b sA)))) → W p l e R s m args below meth c H locs cells slots Q (F0 m pc sl (st.map (cv B b sA)))
def rmD (d mc ms : Nat) : Room := { frames := d + 8, cells := mc, slots := ms, locals := 64 * d + 512 }
section SK
variable {p : Program} {l : Launch} {e : Env} {R : Room} {s : State} {m : MethodId} {args : Array Value} {below : List Frame} {meth : Method} {c : Code} {H : Heap} {locs : List Loc} {cells slots : Nat} {Q : State → Prop}
variable {cc : ByteArray} {pc : Nat} {sl : Array Slot} {B b sA nL o n n0 xl : Nat} {xs : Nat → Int} {D : va_G} {cA : Nat → ClassId} {X : State → Prop}
/-- behind a call -/
theorem z_call {st0 rest : List Value} {mc ms : Nat} {Qa : State → Outcome → State → Prop} (hr : va_Run p l e R s m args below meth c H locs cells slots mc ms (F0 m pc sl st0) rest Qa (zA B)) (hS : va_S (zA B) s.heap H locs) {rv : Option Value} {P1 : Heap → Prop}
    (hQ : ∀ st v t, Qa st (.returned v) t → v = rv ∧ P1 t.heap ∧ va_F (zA B) st t)
    (kk : ∀ (H1 : Heap) (locs1 : List Loc), P1 H1 → va_S (zA B) s.heap H1 locs1 → W p l e R s m args below meth c H1 locs1 (cells + mc) (slots + ms) Q (F0 m (pc + 3) sl (rv.toList ++ rest))) : W p l e R s m args below meth c H locs cells slots Q (F0 m pc sl st0) := by
  intro T hT X
  obtain ⟨v, st₀, t, T', L, h0, X', hL, e1, e2, hq, st⟩ := hr T hT X
  obtain ⟨rfl, hp, hz, hk⟩ := hQ _ _ _ hq
  rw [h0] at hz hk
  rw [← e1] at hp hz hk
  have hS1 : va_S (zA B) s.heap T'.heap (locs ++ L) := by
    refine ⟨Nat.le_trans hS.1 hz, fun q h1 h2 => (hk q (Nat.lt_of_lt_of_le h1 hS.1) h2).trans (hS.2.1 q h1 h2), fun q hq => ?_⟩
    rcases List.mem_append.mp hq with h | h
    · exact hS.2.2 q h
    · exact hL q h
  obtain ⟨t2, a1, b1⟩ := kk T'.heap (locs ++ L) hp hS1 T' rfl X'
  exact ⟨t2, st t2 a1, b1⟩
set_option maxHeartbeats 4000000 in
/-- one instruction that is no call and no return -/
theorem sim_I (SX : SimX B b sA X) (hx : p.tables.exec = Jvm.exec) (hb : c.code = cc) (hml : c.maxLocals = nL) (hown : s.vm.findClass (onm o) = some m.cls) (hts : ∀ w ∈ ZB, w.before args s = true) (hZ : zK D cA b xl xs X s) (hbB : b ≤ B) (hxs : ∀ j, i32 (xs j)) (hxl : xl ≤ 3584) {ini : Bool} (hini : ini = true → meth.name = "<init>") (hR : 8 ≤ R.frames ∧ 512 ≤ R.locals)
    {h h' : LH} {ls ls' : LL} {st st' : List LV} {n' pc' : Nat} {i : Instr} {len : Nat} (hg : lmI o n ini xs xl i pc len ls st h = some (pc', ls', st', n', h')) (hlen : ilen i len = true) (hd : decode cc pc = .ok (i, len))
    (hst : okS st) (hls : okL ls) (hh : okH h) (hN : okN h) (hF : okF n h) (hr : lvR B b sA sl nL ls) (hP : va_P D zcl (zws B b sA cA n h) H) (hS : va_S (zA B) s.heap H locs) (h0 : s.heap.size = B + 1 + n0) (hn0 : n0 ≤ n) (hc : cells = n - n0) (hcl : cells + (n' - n) ≤ R.cells) (hsl : slots + (ssum n' - ssum n) ≤ R.slots)
    (k : ∀ (H1 : Heap) (locs1 : List Loc) (sl1 : Array Slot), okS st' → okL ls' → okH h' → okN h' → okF n' h' → lvR B b sA sl1 nL ls' → va_P D zcl (zws B b sA cA n' h') H1 → va_S (zA B) s.heap H1 locs1 → W p l e R s m args below meth c H1 locs1 (cells + (n' - n)) (slots + (ssum n' - ssum n)) Q (F0 m pc' sl1 (st'.map (cv B b sA)))) :
    W p l e R s m args below meth c H locs cells slots Q (F0 m pc sl (st.map (cv B b sA))) := by
  obtain ⟨hK, hAO, hNe, hXX, hXs⟩ := hZ
  have hsz : c.maxLocals = sl.size := by rw [hml, hr.2.1]
  have z1 : ∀ a : Nat, a + (n - n) = a := fun a => by omega
  have z2 : ∀ a : Nat, a + (ssum n - ssum n) = a := fun a => by omega
  unfold lmI at hg
  split at hg
  · next st1 h1 =>
    cases some_i hg
    rw [z1, z2] at k
    exact sim_A hx hb h1 hlen hd hst (fun q => k H locs sl q hls hh hN hF hr hP hS)
  · split at hg
    · next v h1 =>
      cases some_i hg
      rw [z1, z2] at k
      exact sim_Ld hx hb h1 hlen hd hst hls hr (fun q => k H locs sl q hls hh hN hF hr hP hS)
    · split at hg
      · next st1 h1 =>
        cases some_i hg
        rw [z1, z2] at k
        exact sim_G hx hb hown hts hK hXX hbB hxs hxl hh hN hP hS h1 hlen hd hst (fun q => k H locs sl q hls hh hN hF hr hP hS)
      · split at hg
        · next t st1 h1 =>
          split at hg
          · next ht =>
            cases some_i hg
            rw [z1, z2] at k
            exact sim_J hx hb h1 ht hlen hd hst (fun q => k H locs sl q hls hh hN hF hr hP hS)
          · cases hg
        · split at hg
          · next ls1 h1 =>
            cases some_i hg
            rw [z1, z2] at k
            exact sim_Inc hx hb h1 hlen hd hls hr (fun sl1 q1 q2 => k H locs sl1 hst q1 hh hN hF q2 hP hS)
          · split at hg
            · next st1 h2 h1 =>
              cases some_i hg
              rw [z1, z2] at k
              exact sim_P hx hb hown hts hK hini hh hN hP hS h1 hlen hd hst (fun H1 locs1 q1 q2 q3 q4 q5 => k H1 locs1 sl q1 hls q2 q3 (lmP_F h1 hF) hr q4 q5)
            · split at hg
              · next v h1 =>
                cases some_i hg
                rw [z1, z2] at k
                by_cases hstr : o = 7 ∧ i = .ldc 19
                · refine SX p l e R s m args below meth c H locs cells slots Q cc pc sl o i len st _ hx hb hsz hown hts hXs hS hR.1 hR.2 (by omega) (by omega) (Or.inr ⟨hstr.1, hstr.2, ?_⟩) hlen hd hst (fun q => k H locs sl q hls hh hN hF hr hP hS)
                  have h2 : lmC 7 (.ldc 19) = some (.inr (.inr (-1))) := rfl
                  rw [hstr.1, hstr.2, h2] at h1
                  cases h1
                  rfl
                · exact sim_C hx hb hown hts h1 hstr hlen hd hst (fun q => k H locs sl q hls hh hN hF hr hP hS)
              · split at hg
                · next st1 h2 h1 =>
                  cases some_i hg
                  rw [z1, z2] at k
                  exact sim_Q hx hb hsz hown hts hK hR hh hN hP hS h1 hlen hd hst (fun H1 locs1 q1 q2 q3 q4 q5 => k H1 locs1 sl q1 hls q2 q3 (lmQ_F h1 hF) hr q4 q5)
                · split at hg
                  · next st1 h1 =>
                    cases some_i hg
                    have e1 : n + 1 - n = 1 := by omega
                    have e2 : ssum (n + 1) - ssum n = (lay (n + 1)).2.2 := by show ssum n + _ - ssum n = _; omega
                    rw [e1] at hcl
                    rw [e2] at hsl
                    rw [e1, e2] at k
                    exact sim_N hx hb hown hts hK hAO hF hP hS h0 hn0 hc hcl hsl h1 hlen hd hst (fun H1 q1 q2 q3 q4 => k H1 locs sl q1 hls hh hN q2 hr q3 q4)
                  · split at hg
                    · next st1 h1 =>
                      cases some_i hg
                      rw [z1, z2] at k
                      exact SX p l e R s m args below meth c H locs cells slots Q cc pc sl o i len st _ hx hb hsz hown hts hXs hS hR.1 hR.2 (by omega) (by omega) (Or.inl h1) hlen hd hst (fun q => k H locs sl q hls hh hN hF hr hP hS)
                    · cases st with
                      | nil => cases hg
                      | cons v r =>
                        simp only at hg
                        cases h1 : lmSt i v with
                        | none => rw [h1] at hg; cases hg
                        | some j =>
                          rw [h1] at hg
                          simp only at hg
                          by_cases hj : j + (if isL v then 1 else 0) < ls.length
                          · rw [if_pos hj] at hg
                            cases some_i hg
                            rw [z1, z2] at k
                            exact sim_St hx hb h1 hj hlen hd hst hls hr (fun sl1 q1 q2 q3 => k H locs sl1 q1 q2 hh hN hF q3 hP hS)
                          · rw [if_neg hj] at hg
                            cases hg
end SK
