/-! LM, part 16: the run's induction -/
section SRR
variable {l : Launch} {B b sA xl : Nat} {xs : Nat → Int} {D : va_G} {cA : Nat → ClassId} {X : State → Prop}
theorem good_ZB {ws : List Cond} (h : ∀ w ∈ ws, w ∈ ZB) : GoodIn ZB ws := fun w hw => ⟨h w hw, good_of_word (List.mem_filter.mp (h w hw)).2⟩
theorem room_ok {d mL F L : Nat} (h1 : (d + 1) + 8 ≤ F) (h2 : 64 * (d + 1) + 512 ≤ L) (h3 : mL ≤ 40) : (d + 8) + 1 ≤ F ∧ 8 + (mL + 11) + (64 * d + 512) ≤ L := by omega
set_option maxHeartbeats 8000000 in
/-- a call, by its kind -/
theorem sim_call {p : Program} {e : Env} {R : Room} {s : State} {m : MethodId} {args : Array Value} {below : List Frame} {meth : Method} {c : Code} {H : Heap} {locs : List Loc} {cells slots : Nat} {Q : State → Prop} {cc : ByteArray} {pc nL o n d : Nat} {sl : Array Slot} {Pc : Array Value → State → Prop} {Qc : Array Value → State → Outcome → State → Prop} {mc ms : Nat}
    (hx : p.tables.exec = Jvm.exec) (hb : c.code = cc) (hml : c.maxLocals = nL) (hown : s.vm.findClass (onm o) = some m.cls) (hts : ∀ w ∈ ZB, w.before args s = true) (hZ : zK D cA b xl xs X s) (hR : (d + 1) + 8 ≤ R.frames ∧ 64 * (d + 1) + 512 ≤ R.locals)
    {h : LH} (hP : va_P D zcl (zws B b sA cA n h) H) (hS : va_S (zA B) s.heap H locs) (hsl : sl.size = nL) {i : Instr} {len : Nat} (hd : decode cc pc = .ok (i, len)) (hlen : ilen i len = true) {st as rest : List LV} {k : Nat} (hk : lmK o n i st = some (k, as, rest)) {M : LM_M} (hM : MTB k = some M)
    (hMet : Met l M.1 (Cond.code M.1 M.2.1 M.2.2.1 M.2.2.2.1 :: ZB) (rmD d mc ms) Pc Qc mc ms (zA B)) (hbl : FrameBlind Pc) (hpre : ∀ U : State, U.heap = H → s.WarmedH U.vm → Pc (as.map (cv B b sA)).toArray U) (hf : cells + mc ≤ R.cells ∧ slots + ms ≤ R.slots)
    {rv : Option Value} {P1 : Heap → Prop} (hQ : ∀ st v t, Qc (as.map (cv B b sA)).toArray st (.returned v) t → v = rv ∧ P1 t.heap ∧ va_F (zA B) st t)
    (kk : ∀ (H1 : Heap) (locs1 : List Loc), P1 H1 → va_S (zA B) s.heap H1 locs1 → W p l e R s m args below meth c H1 locs1 (cells + mc) (slots + ms) Q (F0 m (pc + 3) sl (rv.toList ++ rest.map (cv B b sA)))) :
    W p l e R s m args below meth c H locs cells slots Q (F0 m pc sl (st.map (cv B b sA))) := by
  obtain ⟨x, q, M2, q1, q2, q3, q4, q5, q6, q7, q8, q9⟩ := lmK_of hk
  rw [hM] at q4
  cases q4
  obtain ⟨k1, k2⟩ := MTB_ok hM
  obtain ⟨m1, m2, m3, m4, m5, m6, m7, m8, m9⟩ := M_facts k1
  obtain ⟨-, w5⟩ := all17 MTC chkM MTC_ok17 MTC_nil q1
  obtain ⟨hK, hAO, hNe, hXX, hXs⟩ := hZ
  have hG : GoodIn ZB (Cond.code M.1 M.2.1 M.2.2.1 M.2.2.2.1 :: ZB) := good_ZB (fun w hw => (List.mem_cons.mp hw).elim (fun z => z ▸ k2) id)
  have hIN := IN_ok _ m7
  rw [← m3] at hIN
  have hini := hts _ (inT_in hIN)
  have hroom : (rmD d mc ms).frames + 1 ≤ R.frames ∧ 8 + (M.2.2.1 + 11) + (rmD d mc ms).locals ≤ R.locals :=
    room_ok hR.1 hR.2 m6
  have hW : 2 * (F0 m pc sl (st.map (cv B b sA))).monitorRoom + ((rest.map (cv B b sA)).map fun v => v.category).sum ≤ 8 := lv_room (by rw [lcat_cv]; exact q7)
  have e3 : len = 3 := by
    rcases q9 with z | z | z <;> (rw [z.1] at hlen; simpa [ilen] using hlen)
  subst e3
  unfold chkM at w5
  rw [q3, hM] at w5
  simp only at w5
  rcases q9 with ⟨rfl, g1, g2⟩ | ⟨rfl, g1, g2, g3, a, As, rfl, g4⟩ | ⟨rfl, g1, g3, a, As, rfl, g4⟩
  · rw [if_pos g2, q2] at w5
    rw [if_pos g1] at m1
    have m52 := m5.2.2
    rw [if_pos g1] at m52
    refine z_call (va_runS (n := M.2.2.2.2.2.1) (As := as.map (cv B b sA)) (rest := rest.map (cv B b sA)) ⟨hx, hb, hml, hown, hts⟩ hMet ⟨callB_of M.2.2.2.2.2.1 hts hG rfl rfl rfl hini (hts _ (inT_in w5)) ⟨m5.1, m5.2.1, by rw [m52]; rfl⟩ hroom, hts _ m1⟩ ⟨hbl, hpre⟩ rfl (by rw [List.length_map]; exact q6) hsl (by show st.map _ = _; rw [q5, List.map_append, List.map_reverse]) hW hd hf) hS hQ kk
  · rw [if_pos g2, q2] at w5
    rw [if_neg (by omega)] at m1
    have hns : M.2.2.2.2.2.2.1 ≠ 1 := by omega
    have m52 := m5.2.2
    rw [if_neg hns] at m52
    obtain ⟨o1, o2, o3, o4⟩ := isO_of g4
    have hcz : ∃ r, zcl[M.2.2.2.2.1]? = some r := by
      have := lay_obj o3
      rw [o4, Option.map_eq_some_iff] at this
      obtain ⟨r, hr, -⟩ := this
      exact ⟨r, hr⟩
    obtain ⟨⟨C, T, N⟩, hc0⟩ := hcz
    obtain ⟨-, -, u3, -⟩ := cls_of hc0
    have he := zws_at (B := B) (b := b) (sA := sA) (cA := cA) (h := h) (a := a.toNat) (n := n) (by omega) (by omega)
    rw [cellE_0 o3, o4] at he
    have hrec := va_recv hK hP hc0 he
    simp only [u3, ← m3] at hrec
    have hpre2 := hpre
    rw [List.map_cons, cv_pos o1] at hpre2
    have hst : st.map (cv B b sA) = (As.map (cv B b sA)).reverse ++ Value.ref (B + a.toNat) :: rest.map (cv B b sA) := by
      rw [q5, List.map_append, List.map_reverse, List.map_cons, List.reverse_cons, List.append_assoc, cv_pos o1]
      rfl
    have hrun := va_runV (e := e) (below := below) (meth := meth) (locs := locs) (n := As.length) (As := As.map (cv B b sA)) (rest := rest.map (cv B b sA)) (g := F0 m pc sl (st.map (cv B b sA))) ⟨hx, hb, hml, hown, hts⟩ hMet ⟨callB_of As.length hts hG rfl rfl rfl hini (hts _ (inT_in w5)) ⟨m5.1, m5.2.1, by rw [m52, ← q6]; rfl⟩ hroom, hts _ m1, hts _ (m2 hns g3)⟩ ⟨hbl, hrec, hpre2⟩ rfl (by rw [List.length_map]) hsl hst hW hd hf
    have ea : (Value.ref (B + a.toNat) :: As.map (cv B b sA)).toArray = (((.inr (.inr a)) :: As).map (cv B b sA)).toArray := by rw [List.map_cons, cv_pos o1]
    rw [ea] at hrun
    exact z_call hrun hS hQ kk
  · rw [if_neg (by omega)] at m1
    have hns : M.2.2.2.2.2.2.1 ≠ 1 := by omega
    have m52 := m5.2.2
    rw [if_neg hns] at m52
    obtain ⟨o1, o2, o3, o4⟩ := isO_of g4
    have hret := m9 g3
    have hpre2 := hpre
    rw [List.map_cons, cv_pos o1] at hpre2
    rw [hret] at hMet hG
    have hst : st.map (cv B b sA) = (As.map (cv B b sA)).reverse ++ Value.ref (B + a.toNat) :: rest.map (cv B b sA) := by
      rw [q5, List.map_append, List.map_reverse, List.map_cons, List.reverse_cons, List.append_assoc, cv_pos o1]
      rfl
    have ea : (Value.ref (B + a.toNat) :: As.map (cv B b sA)).toArray = (((.inr (.inr a)) :: As).map (cv B b sA)).toArray := by rw [List.map_cons, cv_pos o1]
    by_cases hq0 : q.2.2.1 = 0
    · rw [if_pos hq0, q2] at w5
      have hrun := va_runI (e := e) (below := below) (meth := meth) (locs := locs) (n := As.length) (As := As.map (cv B b sA)) (rest := rest.map (cv B b sA)) (g := F0 m pc sl (st.map (cv B b sA))) ⟨hx, hb, hml, hown, hts⟩ hMet ⟨callB_of As.length hts hG rfl rfl rfl hini (hts _ (inT_in w5)) ⟨m5.1, m5.2.1, by rw [m52, ← q6]; rfl⟩ hroom, g3, hts _ m1⟩ ⟨hbl, hpre2⟩ rfl (by rw [List.length_map]) hsl hst hW hd hf
      rw [ea] at hrun
      exact z_call hrun hS hQ kk
    · have hnw := hNe o q q1 hq0 M (by rw [q3]; exact hM)
      rw [q2] at hnw
      have hrun := va_runIN (e := e) (below := below) (meth := meth) (locs := locs) (n := As.length) (host := "OneSided") (As := As.map (cv B b sA)) (rest := rest.map (cv B b sA)) (g := F0 m pc sl (st.map (cv B b sA))) ⟨hx, hb, hml, hown, hts⟩ hMet ⟨va_cnB As.length hts hG rfl rfl rfl hnw hini ⟨m5.1, m5.2.1, by rw [m52, ← q6]; rfl⟩ hroom, g3, hts _ m1⟩ ⟨hbl, hpre2⟩ rfl (by rw [List.length_map]) hsl hst hW hd hf
      rw [ea] at hrun
      exact z_call hrun hS hQ kk
set_option maxHeartbeats 8000000 in
theorem sim (SX : SimX B b sA X) (hX : keepX B X) (hbB : b ≤ B) (hxs : ∀ j, i32 (xs j)) (hxl : xl ≤ 3584) : ∀ f, SIM l B b sA xl xs D cA X f := by
  intro f
  induction f with
  | zero =>
    intro d M pc ls st n h r n' h' hr
    cases hr
  | succ f ih =>
    intro d M pc ls st n h r n' h' hr hst hls hh hN hF p e R s m args below meth c H locs cells slots Q sl n0 hx hb hml hown hts hZ hini hR hlv hP hS h0 hn0 hc hcl hsl hret
    unfold lmRun at hr
    split at hr
    · cases hr
    · next i len hd =>
      by_cases hlen : ilen i len = false
      · rw [if_pos hlen] at hr
        cases hr
      · rw [if_neg hlen] at hr
        have hlen : ilen i len = true := by simpa using hlen
        have hR8 : 8 ≤ R.frames ∧ 512 ≤ R.locals := by omega
        split at hr
        · next r1 h1 =>
          cases some_i hr
          have K := hret H locs sl pc i len st hd hlen h1 hst hh hN hF hP hS
          rw [show n - n = 0 by omega, show ssum n - ssum n = 0 by omega, Nat.add_zero, Nat.add_zero] at K
          exact K
        · split at hr
          · next k as rest hk =>
            split at hr
            · cases hr
            · next d' =>
              split at hr
              · cases hr
              · next M' hM' =>
                split at hr
                · cases hr
                · next r1 n1 h1 hr1 =>
                  obtain ⟨x, q, M2, q1, q2, q3, q4, q5, q6, q7, q8, q9⟩ := lmK_of hk
                  rw [hM'] at q4
                  cases q4
                  have has : okS as := fun v hv => hst v (by rw [q5]; exact List.mem_append_left _ (List.mem_reverse.mpr hv))
                  have hrs : okS rest := fun v hv => hst v (by rw [q5]; exact List.mem_append_right _ hv)
                  have mo1 := lmRun_mono _ _ _ _ _ _ _ _ _ _ _ hr1
                  have mo2 := lmRun_mono _ _ _ _ _ _ _ _ _ _ _ hr
                  have ss1 := ssum_mono mo1
                  have ss2 := ssum_mono mo2
                  have hMet := met_of ih hM' hr1 q8 has hh hN hF
                  refine W_sz fun hz => ?_
                  have hsz := sz_of hP hS h0 hn0 hc hz
                  refine sim_call (rv := r1.map (cv B b sA)) (P1 := fun H1 => va_P D zcl (zws B b sA cA n1 h1) H1 ∧ okH h1 ∧ okN h1 ∧ okF n1 h1 ∧ ∀ v, r1 = some v → okV v) hx hb hml hown hts hZ hR hP hS hlv.2.1 hd hlen hk hM' hMet ?_ ?_ ⟨by omega, by omega⟩ ?_ ?_
                  · intro a U g mk hp
                    obtain ⟨p1, p2, p3, p4⟩ := hp
                    exact ⟨p1, p2, p3, zK.blind hX p4 g mk a⟩
                  · intro U hU hW
                    refine ⟨rfl, by rw [hU, hsz]; omega, by rw [hU]; exact hP, zK.warm hX hbB hZ hW (by rw [hU]; exact hS.1) (fun z z1 z2 => by rw [hU]; exact hS.2.1 z z1 z2)⟩
                  · intro st2 v t hq
                    obtain ⟨⟨t1, t2, t3⟩, t4⟩ := hq
                    cases t1
                    exact ⟨rfl, ⟨t2, t3⟩, t4⟩
                  · intro H1 locs1 ⟨p1, p2, p3, p4, p5⟩ hS1
                    have e1 : (r1.map (cv B b sA)).toList ++ rest.map (cv B b sA) = (r1.toList ++ rest).map (cv B b sA) := by
                      cases r1 <;> simp
                    rw [e1]
                    refine ih (d' + 1) M (pc + 3) ls (r1.toList ++ rest) n1 h1 r n' h' hr ?_ hls p2 p3 p4 p e R s m args below meth c H1 locs1 _ _ Q sl n0 hx hb hml hown hts hZ hini hR hlv p1 hS1 h0 (by omega) (by omega) (by omega) (by omega) ?_
                    · intro v hv
                      rcases List.mem_append.mp hv with z | z
                      · cases r1 with
                        | none => cases z
                        | some w =>
                          rw [Option.toList_some, List.mem_singleton] at z
                          exact p5 v (by rw [z])
                      · exact hrs v z
                    · intro H2 locs2 sl2 pc2 i2 len2 st2 f1 f2 f3 f4 f5 f6 f7 f8 f9
                      have K := hret H2 locs2 sl2 pc2 i2 len2 st2 f1 f2 f3 f4 f5 f6 f7 f8 f9
                      rw [show cells + (n1 - n) + (n' - n1) = cells + (n' - n) by omega, show slots + (ssum n1 - ssum n) + (ssum n' - ssum n1) = slots + (ssum n' - ssum n) by omega]
                      exact K
          · split at hr
            · cases hr
            · next pc1 ls1 st1 n1 h1 hI =>
              have mo1 := lmI_mono hI
              have mo2 := lmRun_mono _ _ _ _ _ _ _ _ _ _ _ hr
              simp only at mo1
              have ss1 := ssum_mono mo1
              have ss2 := ssum_mono mo2
              refine sim_I SX hx hb hml hown hts hZ hbB hxs hxl hini hR8 hI hlen hd hst hls hh hN hF hlv hP hS h0 hn0 hc (by omega) (by omega) ?_
              intro H1 locs1 sl1 g1 g2 g3 g4 g5 g6 g7 g8
              refine ih d M pc1 ls1 st1 n1 h1 r n' h' hr g1 g2 g3 g4 g5 p e R s m args below meth c H1 locs1 _ _ Q sl1 n0 hx hb hml hown hts hZ hini hR g6 g7 g8 h0 (by omega) (by omega) (by omega) (by omega) ?_
              intro H2 locs2 sl2 pc2 i2 len2 st2 f1 f2 f3 f4 f5 f6 f7 f8 f9
              have K := hret H2 locs2 sl2 pc2 i2 len2 st2 f1 f2 f3 f4 f5 f6 f7 f8 f9
              rw [show cells + (n1 - n) + (n' - n1) = cells + (n' - n) by omega, show slots + (ssum n1 - ssum n) + (ssum n' - ssum n1) = slots + (ssum n' - ssum n) by omega]
              exact K
end SRR
