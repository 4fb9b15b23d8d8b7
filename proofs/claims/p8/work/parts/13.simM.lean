/-! LM, part 13: making cells on the machine -/
def ssum : Nat → Nat
  | 0 => 0
  | n + 1 => ssum n + (lay (n + 1)).2.2
theorem sz_of {D : va_G} {cA : Nat → ClassId} {B b sA n n0 cells : Nat} {h : LH} {H H0 : Heap} {locs : List Loc} (hP : va_P D zcl (zws B b sA cA n h) H) (hS : va_S (zA B) H0 H locs) (h0 : H0.size = B + 1 + n0) (hn : n0 ≤ n) (hc : cells = n - n0) (hz : H.size ≤ H0.size + cells) : H.size = B + (n + 1) := by
  have h1 := hS.1
  by_cases e : n = n0
  · omega
  · have h2 := (hP (n - 1) _ (by rw [zws_at (a := n) (by omega) (by omega)])).lt
    simp only at h2
    omega
theorem dv_0 {k : Nat} {ty : FieldType} (B b sA : Nat) (h : kdOk k ty = true) : defaultValue ty = cv B b sA (mkv k 0) := by
  unfold kdOk at h
  split at h <;> first | rfl | cases h
section SM
variable {p : Program} {l : Launch} {e : Env} {R : Room} {s : State} {m : MethodId} {args : Array Value} {below : List Frame} {meth : Method} {c : Code} {H : Heap} {locs : List Loc} {cells slots : Nat} {Q : State → Prop}
variable {cc : ByteArray} {pc : Nat} {sl : Array Slot} {B b sA nL o n n0 : Nat} {D : va_G} {cA : Nat → ClassId}
theorem zP_push {h : LH} {H1 : Heap} (hP : va_P D zcl (zws B b sA cA n h) H) (hk : ∀ q : Nat, q < H.size → H1[q]? = H[q]?) (hn : va_at D zcl (B + (n + 1), cellE B b sA cA h (n + 1)) H1) : va_P D zcl (zws B b sA cA (n + 1) h) H1 := by
  rw [zws_succ]
  refine va_P.app (hP.kept (fun k q hq => hk q.1 ((hP k q hq).lt))) (fun k q hq => ?_)
  have hz : k < 1 := (List.getElem?_eq_some_iff.mp hq).1
  rw [show k = 0 by omega] at hq
  cases hq
  exact hn
theorem zS_push {H1 : Heap} {H0 : Heap} (hS : va_S (zA B) H0 H locs) (hz : H1.size = H.size + 1) (hk : ∀ q : Nat, q < H.size → H1[q]? = H[q]?) : va_S (zA B) H0 H1 locs :=
  ⟨by have := hS.1; omega, fun q h1 h2 => (hk q (Nat.lt_of_lt_of_le h1 hS.1)).trans (hS.2.1 q h1 h2), hS.2.2⟩
set_option maxHeartbeats 4000000 in
theorem sim_N (hx : p.tables.exec = Jvm.exec) (hb : c.code = cc) (hown : s.vm.findClass (onm o) = some m.cls) (hts : ∀ w ∈ ZB, w.before args s = true) (hK : va_K D zcl (zty cA) s) (hAO : ∀ q ∈ AOL, va_AO (onm q.1) s)
    {h : LH} (hF : okF n h) (hP : va_P D zcl (zws B b sA cA n h) H) (hS : va_S (zA B) s.heap H locs) (h0 : s.heap.size = B + 1 + n0) (hn0 : n0 ≤ n) (hc : cells = n - n0)
    (hcl : cells + 1 ≤ R.cells) (hsl : slots + (lay (n + 1)).2.2 ≤ R.slots)
    {i : Instr} {len : Nat} {st st' : List LV} (hg : lmN o n i st = some st') (hlen : ilen i len = true) (hd : decode cc pc = .ok (i, len)) (hst : okS st)
    (k : ∀ H1 : Heap, okS st' → okF (n + 1) h → va_P D zcl (zws B b sA cA (n + 1) h) H1 → va_S (zA B) s.heap H1 locs → W p l e R s m args below meth c H1 locs (cells + 1) (slots + (lay (n + 1)).2.2) Q (F0 m (pc + len) sl (st'.map (cv B b sA)))) :
    W p l e R s m args below meth c H locs cells slots Q (F0 m pc sl (st.map (cv B b sA))) := by
  have r0 : ∀ j : Int, rd h ((n + 1 : Nat) : Int) j = 0 := fun j => hF _ j (by omega)
  have hl3 := lay_len (n + 1)
  refine W_sz fun hz => ?_
  have hsz := sz_of hP hS h0 hn0 hc hz
  have cvn : cv B b sA (.inr (.inr ((n : Int) + 1))) = .ref H.size := by
    rw [cv_pos (by omega), hsz]
    congr 1
  cases i with
  | new x =>
    simp only [lmN] at hg
    split at hg
    · next q hq =>
      split at hg
      · next hl =>
        cases some_i hg
        simp only [Bool.and_eq_true, beq_iff_eq] at hl
        have e3 : len = 3 := by simpa [ilen] using hlen
        subst e3
        obtain ⟨h3, h4⟩ := find_of hq
        obtain ⟨-, h5⟩ := all17 KT chkK KT_ok17 KT_nil h3
        simp only [chkK, Bool.and_eq_true, decide_eq_true_eq] at h5
        have hcz : ∃ r, zcl[q.2.1]? = some r := by
          have := lay_obj hl.1
          rw [hl.2, Option.map_eq_some_iff] at this
          obtain ⟨r, hr, -⟩ := this
          exact ⟨r, hr⟩
        obtain ⟨⟨C, T, N⟩, hc0⟩ := hcz
        obtain ⟨u1, u2, u3, u4⟩ := cls_of hc0
        obtain ⟨y1, y2⟩ := TY_ok hc0
        have hNe : (lay (n + 1)).2.2 = N := by
          have := lay_obj hl.1
          rw [hl.2, hc0] at this
          exact (Option.some.inj this).symm
        rw [h4, ← u3] at h5
        have hIN := IN_ok q.2.1 (by omega)
        rw [← u3] at hIN
        have hKn := hK.1 q.2.1 _ hc0
        rw [hNe] at hsl k
        refine W.newcK hx hb hown (hts _ (inT_in h5.1)) (hts _ u2) (hts _ (inT_in hIN)) rfl hd hcl hsl hKn.2.1 rfl fun H1 kC hkC e1 z1 o1 => ?_
        have K := k H1 (okS_i trivial hst) (okF_s hF) (zP_push hP o1 ?_) (zS_push hS z1 o1)
        · rw [List.map_cons, cvn] at K
          exact K
        · rw [cellE_0 hl.1, hl.2, hNe]
          refine ⟨_, hc0, ?_⟩
          have hb1 := u_born (tyF q.2.1) hts u1 hKn hkC e1 y1
          rw [hsz] at hb1
          refine hb1.to (fun j hj => ?_)
          unfold vp_V fvs
          rw [List.getD_eq_getElem?_getD, List.getElem?_map, List.getElem?_range hj]
          simp only [Option.map_some, Option.getD_some]
          rw [r0]
          exact dv_0 B b sA (KD_ok q.2.1 (zcl_lt hc0) _ hc0 j hj)
      · cases hg
    · cases hg
  | newarray ty =>
    simp only [lmN] at hg
    split at hg
    · next mm r =>
      split at hg
      · next hl =>
        cases some_i hg
        simp only [Bool.and_eq_true, decide_eq_true_eq, beq_iff_eq] at hl
        have e3 : len = 2 := by simpa [ilen] using hlen
        subst e3
        obtain ⟨-, h6⟩ := okS_c hst
        have im : i32 mm := by unfold i32; omega
        have hnn : ¬ Int32.ofInt mm < 0 := fun q => by have := (o_lt im z32).mp q; omega
        have hN' : (Int32.ofInt mm).toNatClampNeg = (lay (n + 1)).2.2 := by rw [o_clamp im]; omega
        have fin : ∀ (kd : Nat) (aty : ArrayType) (hkd : kd < 4) (hty : newarray.typeOf aty = ztyp kd) (_ : decode cc pc = .ok (.newarray aty, 2)) (harr : (Cond.arrayClass (newarray.typeOf aty)).before args s = true) (hby : componentBytes (newarray.typeOf aty) ≤ 8)
            (hra : ∀ cX, va_RA s cX (ztyp kd) = (s.vm.findClass ("[" ++ (ztyp kd).toString) = some cX))
            (hcell : some (arrV (cA kd) (lay (n + 1)).2.2 (fun _ => defaultValue (newarray.typeOf aty))) = (match cellE B b sA cA h (n + 1) with | .inl q => some (vp_cell q.1 q.2) | .inr _ => none)),
            W p l e R s m args below meth c H locs cells slots Q (F0 m pc sl ((.inl mm :: r).map (cv B b sA))) := by
          intro kd aty hkd hty hdd harr hby hra hcell
          refine va_newaK hx hb harr rfl hdd rfl hnn hN' (by have : (lay (n + 1)).2.2 * componentBytes (newarray.typeOf aty) ≤ 3000 * 8 := Nat.mul_le_mul hl3 hby; omega) hcl hsl rfl fun H1 cX e1 z1 o1 hAr hNm => ?_
          have hcx : cX = cA kd := by
            have h7 := (hK.2 kd _ (zty_at cA (by omega))).2
            simp only at h7
            rw [hra, ← hty] at h7
            exact Option.some.inj (hNm.symm.trans h7)
          have K := k H1 (okS_i trivial h6) (okF_s hF) (zP_push hP o1 ?_) (zS_push hS z1 o1)
          · rw [List.map_cons, cvn] at K
            exact K
          · rw [hsz, hcx] at e1
            unfold va_at
            simp only
            cases hce : cellE B b sA cA h (n + 1) with
            | inl q =>
              rw [hce] at hcell
              simp only at hcell ⊢
              rw [e1, ← hcell]
            | inr q =>
              rw [hce] at hcell
              cases hcell
        cases ty with
        | int =>
          have l2 : (lay (n + 1)).1 = 1 := hl.2
          refine fin 0 .int (by omega) rfl hd (hts _ (inT_in arr_int)) (by decide) (fun _ => rfl) ?_
          rw [cellE_1 l2]
          simp only [vp_cell_i]
          congr 2
          funext q
          rw [r0]
          rfl
        | long =>
          have l2 : (lay (n + 1)).1 = 2 := hl.2
          refine fin 1 .long (by omega) rfl hd (hts _ (inT_in arr_long)) (by decide) (fun _ => rfl) ?_
          rw [cellE_2 l2]
          simp only [vp_cell_l]
          congr 2
          funext q
          rw [r0]
          rfl
        | byte =>
          have l2 : (lay (n + 1)).1 = 3 := hl.2
          refine fin 2 .byte (by omega) rfl hd (hts _ (inT_in arr_byte)) (by decide) (fun _ => rfl) ?_
          rw [cellE_3 l2]
          simp only [vp_cell_i]
          congr 2
          funext q
          rw [r0]
          rfl
        | boolean =>
          have l2 : (lay (n + 1)).1 = 4 := hl.2
          refine fin 3 .boolean (by omega) rfl hd (hts _ (inT_in arr_boolean)) (by decide) (fun _ => rfl) ?_
          rw [cellE_4 l2]
          simp only [vp_cell_i]
          congr 2
          funext q
          rw [r0]
          rfl
        | _ =>
          have h8 : (lay (n + 1)).1 = 9 := hl.2
          rcases lay_in (n + 1) with q | q
          · rw [q] at h8; cases h8
          · have : LAYL.all (fun e => e.1 != 9) = true := by decide +kernel
            have := List.all_eq_true.mp this _ q
            rw [h8] at this
            cases this
      · cases hg
    · cases hg
  | anewarray x =>
    simp only [lmN] at hg
    split at hg
    · next mm r =>
      split at hg
      · next q hq =>
        split at hg
        · next hl =>
          cases some_i hg
          simp only [Bool.and_eq_true, decide_eq_true_eq, beq_iff_eq] at hl
          obtain ⟨⟨l1, l2⟩, l3⟩ := hl
          have e3 : len = 3 := by simpa [ilen] using hlen
          subst e3
          obtain ⟨-, h6⟩ := okS_c hst
          have im : i32 mm := by unfold i32; omega
          have hnn : ¬ Int32.ofInt mm < 0 := fun q => by have := (o_lt im z32).mp q; omega
          have hN' : (Int32.ofInt mm).toNatClampNeg = (lay (n + 1)).2.2 := by rw [o_clamp im]; omega
          obtain ⟨h3, h4⟩ := find_of hq
          obtain ⟨-, h5⟩ := all17 KT chkK KT_ok17 KT_nil h3
          simp only [chkK, Bool.and_eq_true, decide_eq_true_eq] at h5
          obtain ⟨t1, t2⟩ := lay_ref l2
          rw [l3] at t1 t2
          rw [h4] at h5
          have hao : va_AO (onm q.2.1) s := by
            have key : ∀ c, c < 13 → ztyp (4 + c) = .object (onm c) → ∃ q ∈ AOL, q.1 = c := by decide +kernel
            obtain ⟨w, w1, w2⟩ := key q.2.1 t2 t1
            rw [← w2]
            exact hAO w w1
          refine W.anew hx hb hown (hts _ (inT_in h5.1)) (va_AO.use hao) rfl hd rfl hnn (by rw [hN']; omega) hcl (by rw [hN']; exact hsl) fun cX kA comp f1 f2 f3 f4 => ?_
          have hcx : cX = cA (4 + q.2.1) := by
            have h7 := (hK.2 (4 + q.2.1) _ (zty_at cA (by omega))).2
            simp only [t1] at h7
            obtain ⟨_, _, -, -, -, h8⟩ := h7
            exact Option.some.inj (f1.symm.trans h8)
          rw [hN', hcx]
          have K := k (H.push { cls := cA (4 + q.2.1), slots := Array.replicate (lay (n + 1)).2.2 .null, vm := .none }) (okS_i trivial h6) (okF_s hF) (zP_push hP (fun z hz2 => by rw [Array.getElem?_push, if_neg (Nat.ne_of_lt hz2)]) ?_) (zS_push hS (by rw [Array.size_push]) (fun z hz2 => by rw [Array.getElem?_push, if_neg (Nat.ne_of_lt hz2)]))
          · rw [List.map_cons, cvn] at K
            exact K
          · rw [cellE_5 l2, l3]
            unfold va_at
            simp only [vp_cell_q]
            rw [← hsz, Array.getElem?_push_size, arrV_new]
            congr 2
            funext z
            rw [r0]
            rfl
        · cases hg
      · cases hg
    · cases hg
  | _ => simp only [lmN] at hg; cases hg
end SM
