/-! LM, part 9e: the claim (its head and its end are the skeleton of the kit) -/
/-! THE CLAIM OUT OF ONE WALK OF THE LAW'S BODY. Your part is whole_start (and what it stands on); all else here is the same for every law, but numbers. -/
def R_law : String := "OneSidedLaw"
def lw_P (b : Addr) (xs : List Int32) (args : Array Value) (s : State) : Prop := args = #[.ref b] ∧ s.IntsAt b xs ∧ xs.length ≤ 3584 ∧ (Jvm.Cond.and given_1 narrow_1).before args s = true
def lw_Q (_ : Array Value) (s : State) (o : Outcome) (t : State) : Prop := o = .returned (some (.int 1)) ∧ Framed s o t [] 600000 7302250
def lw_Z (below : List Frame) (a : Array Value) (s : State) : State → Prop := fun t => ∃ o, t.status = .running ∧ Ended t below o ∧ lw_Q a s o t
/-- the law's own end, with 1 on the stack, nothing written that was there before, its room as the claim has it -/
theorem lw_ret {p : Program} {l : Launch} {e : Env} {s : State} {m : MethodId} {below : List Frame} {meth : Method} {c : Code} {b : Nat} (hx : p.tables.exec = Jvm.exec) (hb : c.code = code) (hr : meth.sig.returnType = ret) (hlocks : meth.locks = false) {pc : Nat} {H : Heap} {ls : Array Slot} (hdg : decode code pc = .ok (.ireturn, 1)) : W p l e room_1 s m #[Value.ref b] below meth c H [] 600000 7302250 (lw_Z below #[Value.ref b] s) (F0 m pc ls [.int 1]) := by
  intro T hT X
  obtain ⟨fs, hret, hrun, hended, hW, hframe⟩ := X.leave (v := some (.int 1)) (hlocks := hlocks) (fun h => by rw [hr] at h; cases h)
  have hmeth' : T.vm.method? m = some meth := X.method'
  refine ⟨T.setFrames fs, ?_, .returned (some (.int 1)), hrun, hended, rfl, ⟨_, rfl⟩, hW, hframe⟩
  jvm_step X.here [X.here.top, hx, hb, hdg, hmeth', hr, ret, narrow_b1]
  (try refine ⟨rfl, ?_⟩); (try refine ⟨rfl, ?_⟩)
  first | (intro acts; rw [hret _ acts rfl rfl rfl]) | rw [hret _ _ rfl rfl rfl]
  exact Steps.refl _
/-- what holds at the law's entry: the machine, the code, the tables' words (any of lw_tbl by 'hts w (by decide +kernel)'), the script of L ints xs at the cell b, what the Statement gives of the start (any of its parts by flat_of_before) -/
def lw_At (p : Program) (s : State) (m : MethodId) (meth : Method) (c : Code) (b L : Nat) (xs : Nat → Int32) : Prop :=
  p.tables.exec = Jvm.exec ∧ c.code = code ∧ meth.sig.returnType = ret ∧ c.maxLocals = 4 ∧ s.vm.findClass R_law = some m.cls ∧ (∀ w ∈ lw_tbl, w.before #[Value.ref b] s = true) ∧ va_X b L xs s s.heap ∧ b < s.heap.size ∧ meth.locks = false ∧ (Jvm.Cond.and given_1 narrow_1).before #[Value.ref b] s = true
/-- the kinds of rows, as the tables have them -/
theorem ar_prim {args : Array Value} {s : State} {ty : FieldType} (h : (Cond.arrayClass ty).before args s = true) (hn : ∀ C, ty ≠ .object C) : ∃ c, ArrOfT s c ty ∧ va_RA s c ty := by
  obtain ⟨c, k, comp, h1, h2, h3⟩ := Cond.arrayClass_spec h
  refine ⟨c, fun n z => ⟨fun k h => (by cases h), k, h2, comp, h3⟩, ?_⟩
  unfold va_RA
  split
  · next C => exact absurd rfl (hn C)
  · exact h1
theorem ar_obj {args : Array Value} {s : State} {C : String} (h : (Cond.arrayOver (.object C)).before args s = true) : ∃ c, ArrOfT s c (.object C) ∧ va_RA s c (.object C) := by
  obtain ⟨comp, c, k, h1, h2, h3, h4, h5⟩ := Cond.arrayOver_spec h
  exact ⟨c, fun n z => ⟨fun k h => (by cases h), k, h3, comp, h4⟩, k, comp, h3, h4, h1, h5⟩
theorem in_tbl {p : Nat} {w : Cond} (h : tabAt p = some w) : w ∈ lw_tbl := List.mem_append_right _ (tabAt_in h)
theorem w_arr : tabAt 192 = some (.arrayClass .int) ∧ tabAt 120 = some (.arrayClass .long) ∧ tabAt 119 = some (.arrayClass .byte) ∧ tabAt 1413 = some (.arrayClass .boolean) := ⟨by decide +kernel, by decide +kernel, by decide +kernel, by decide +kernel⟩
theorem w_obj : tabAt 128 = some (.arrayOver (.object "OneSided$Door")) ∧ tabAt 130 = some (.arrayOver (.object "OneSided$Person")) ∧ tabAt 371 = some (.arrayOver (.object "OneSided$Memory")) ∧ tabAt 373 = some (.arrayOver (.object "OneSided$Scene")) := ⟨by decide +kernel, by decide +kernel, by decide +kernel, by decide +kernel⟩
theorem w_txt : tabAt 36 = some (.stringRef "OneSided$Reader" 19 TXT) ∧ tabAt 46 = some (.laysStatic "java/lang/String" "COMPACT_STRINGS" "Z") ∧ tabAt 62 = some (.laysStatic "jdk/internal/util/Preconditions" "SIOOBE_FORMATTER" "Ljava/util/function/BiFunction;") ∧ tabAt 3 = some (.initialized "java/lang/String") ∧ tabAt 5 = some (.initialized "jdk/internal/util/Preconditions") := ⟨by decide +kernel, by decide +kernel, by decide +kernel, by decide +kernel, by decide +kernel⟩
theorem zty_all {args : Array Value} {s : State} (hts : ∀ w ∈ lw_tbl, w.before args s = true) (k : Nat) : ∃ c, ArrOfT s c (ztyp k) ∧ va_RA s c (ztyp k) := by
  have hi := ar_prim (hts _ (in_tbl w_arr.1)) (fun C h => by cases h)
  unfold ztyp
  split
  · exact hi
  · exact ar_prim (hts _ (in_tbl w_arr.2.1)) (fun C h => by cases h)
  · exact ar_prim (hts _ (in_tbl w_arr.2.2.1)) (fun C h => by cases h)
  · exact ar_prim (hts _ (in_tbl w_arr.2.2.2)) (fun C h => by cases h)
  · exact ar_obj (hts _ (in_tbl w_obj.1))
  · exact ar_obj (hts _ (in_tbl w_obj.2.2.1))
  · exact ar_obj (hts _ (in_tbl w_obj.2.1))
  · exact ar_obj (hts _ (in_tbl w_obj.2.2.2))
  · exact hi
theorem zD_ex {args : Array Value} {s : State} (hts : ∀ w ∈ lw_tbl, w.before args s = true) : ∃ D : va_G, ∀ (c : Nat) (q : vw_C), zcl[c]? = some q → u_Kn s q.1 q.2.1 q.2.2 (D.1 c) (D.2 c) := by
  have h : ∀ c : Nat, ∃ x : ClassId × (Nat → Nat), ∀ q : vw_C, zcl[c]? = some q → u_Kn s q.1 q.2.1 q.2.2 x.1 x.2 := by
    intro c
    cases hq : zcl[c]? with
    | none =>
      obtain ⟨k, -⟩ := zty_all hts 0
      exact ⟨(k, fun n => n), fun q h => by cases h⟩
    | some q0 =>
      obtain ⟨C, T, N⟩ := q0
      obtain ⟨u1, u2, -, -⟩ := cls_of hq
      have hz : ∀ w, w ∈ ZB → w ∈ lw_tbl := fun w hw => (List.mem_filter.mp hw).1
      obtain ⟨cC, iS, hk⟩ := u_known (C := C) (T := T) (N := N) (n := N) hts (fun w hw => hz _ (u1 w hw)) (hts _ (hz _ u2))
      exact ⟨(cC, iS), fun q h => by cases h; exact hk⟩
  obtain ⟨F, hF⟩ := Classical.axiomOfChoice h
  exact ⟨(fun c => (F c).1, fun c => (F c).2), fun c q hq => hF c q hq⟩
def tS : Term := .string "OneSided$Reader" 19
def FL : List Cond := flatC (Jvm.Cond.and given_1 narrow_1)
theorem fl_a : FL[61]? = some (.exactly tS "java/lang/String") ∧ FL[62]? = some (.eq (.field tS "java/lang/String" "coder" "B") (.int 0)) ∧ FL[63]? = some (.arrayOf (.field tS "java/lang/String" "value" "[B") .byte) ∧ FL[64]? = some (.eq (.length (.field tS "java/lang/String" "value" "[B")) (.int (Int32.ofNat 149))) ∧ FL[4]? = some (.eq (.static "java/lang/String" "COMPACT_STRINGS" "Z") (.int 1)) ∧ FL[5]? = some (.isRef (.static "jdk/internal/util/Preconditions" "SIOOBE_FORMATTER" "Ljava/util/function/BiFunction;")) := ⟨by decide +kernel, by decide +kernel, by decide +kernel, by decide +kernel, by decide +kernel, by decide +kernel⟩
theorem fl_e : ∀ j : Nat, j < 149 → FL[65 + j]? = some (.eq (.elem (.field tS "java/lang/String" "value" "[B") (.int (Int32.ofNat j))) (.int (Int32.ofInt (STRL.getD j 0)))) := by decide +kernel
theorem XT_ex {b : Nat} {s : State} {B : Nat} (hts : ∀ w ∈ lw_tbl, w.before #[Value.ref b] s = true) (hg : (Jvm.Cond.and given_1 narrow_1).before #[Value.ref b] s = true) (hA : ∀ a : Nat, a < s.heap.size → ¬ zA B a) : ∃ (sA sV : Nat) (f0 : Value), XT B sA sV f0 s := by
  have fl : ∀ (k : Nat) (w : Cond), FL[k]? = some w → w.before #[Value.ref b] s = true := fun k w hw => flat_of_before _ hg w (List.mem_of_getElem? hw)
  obtain ⟨a, c, cA, kA, q1, q2, q3, q4, q5, q6, -⟩ := Cond.exactly_spec (args := #[Value.ref b]) (first := s) (o := none) (s := s) (idx := []) (t := tS) (cls := "java/lang/String") (fl _ _ fl_a.1)
  obtain ⟨t, ht, hT⟩ := va_Tof (f := fun j => .int (Int32.ofInt (STRL.getD j 0))) (A := zA B) (N := 149) (by decide) (fl _ _ fl_a.2.2.1) (va_eqt (fl _ _ fl_a.2.2.2.1)) (fun j hj => va_eqt (fl _ _ (fl_e j hj))) hA
  obtain ⟨v, v1, v2⟩ := Cond.isRef_spec (fl _ _ fl_a.2.2.2.2.2)
  have hv : v = .null ∨ ∃ a, v = .ref a := by
    cases v with
    | null => exact Or.inl rfl
    | ref a => exact Or.inr ⟨a, rfl⟩
    | _ => cases v2
  exact ⟨a, t, v, vk_R.of (hts _ (in_tbl w_txt.1)) q1, ⟨cA, q3, q5, by rw [q6]; exact q2, hA a (Array.getElem?_eq_some_iff.mp q3).1⟩, vk_OFof q1 (va_eqt (fl _ _ fl_a.2.1)) hA, vk_OFof q1 ht hA, hT, va_Zof (hts _ (in_tbl w_txt.2.1)) (hts _ (in_tbl w_txt.2.2.2.1)) (va_eqt (fl _ _ fl_a.2.2.2.2.1)) hA, va_Zof (hts _ (in_tbl w_txt.2.2.1)) (hts _ (in_tbl w_txt.2.2.2.2)) v1 hA, hv⟩
theorem lmR_1 {i : Instr} {st : List LV} (h : lmR (some .boolean) i st = some (some (.inl 1))) : i = .ireturn ∧ st = [.inl 1] := by
  unfold lmR at h
  split at h
  · split at h
    · split at h
      · next c => cases c
      · cases h
    · cases h
  · split at h
    · next x =>
      split at h
      · next c => cases c
      · split at h
        · have e := Option.some.inj (Option.some.inj h)
          cases e
          exact ⟨rfl, rfl⟩
        · cases h
    · cases h
  · split at h
    · split at h
      · next c => cases c
      · cases h
    · cases h
  · cases h
set_option maxHeartbeats 4000000 in
theorem whole_start {p : Program} {e : Env} {s : State} {m : MethodId} {below : List Frame} {meth : Method} {c : Code} (l : Launch) (hflags : l.flags = flags0) {b L : Nat} {xs : Nat → Int32} (hL : L ≤ 3584) (C0 : lw_At p s m meth c b L xs) : W p l e room_1 s m #[Value.ref b] below meth c s.heap [] 0 0 (lw_Z below #[Value.ref b] s) (entryFrame m ([Value.ref b] : List Value).toArray 4) := by
  obtain ⟨hx, hb, hr, hml, hown, hts, hX, hbl, hlocks, hgv⟩ := id C0
  obtain ⟨B, hB⟩ : ∃ B, s.heap.size = B + 1 := ⟨s.heap.size - 1, by omega⟩
  have hA : ∀ a : Nat, a < s.heap.size → ¬ zA B a := fun a h q => by unfold zA at q; omega
  obtain ⟨sA, sV, f0, hXT⟩ := XT_ex (B := B) hts hgv hA
  obtain ⟨D, hD⟩ := zD_ex hts
  obtain ⟨cA, hcA⟩ := Classical.axiomOfChoice (zty_all hts)
  have hK : va_K D zcl (zty cA) s := by
    refine ⟨hD, fun k q hq => ?_⟩
    have hk : k < 17 := by
      have := (List.getElem?_eq_some_iff.mp hq).1
      unfold zty at this
      simpa using this
    rw [zty_at cA hk] at hq
    cases hq
    exact hcA k
  have hXX : va_X b L (fun j => Int32.ofInt ((xs j).toInt)) s s.heap := by
    rw [show (fun j => Int32.ofInt ((xs j).toInt)) = xs from funext (fun j => x_to (xs j))]
    exact hX
  have hZ : zK D cA b L (fun j => (xs j).toInt) (XT B sA sV f0) s := by
    refine ⟨hK, fun q hq => ?_, fun o q hq hn M hM => ?_, hXX, hXT⟩
    · have h := of_decide_eq_true (List.all_eq_true.mp AO_ok q hq)
      exact va_AO.of (hts _ (in_tbl h))
    · obtain ⟨-, w⟩ := all17 MTC chkM MTC_ok17 MTC_nil hq
      unfold chkM at w
      rw [hM] at w
      simp only at w
      rw [if_neg hn] at w
      exact va_Nw.of rfl (hts _ (in_tbl (of_decide_eq_true w)))
  have hzb : ∀ w ∈ ZB, w.before #[Value.ref b] s = true := fun w hw => hts w (List.mem_filter.mp hw).1
  obtain ⟨f, h', hrun⟩ := run_law (xs := fun j => (xs j).toInt) (xl := L) (fun j => x_in _) hL
  have hlv := lvR_entry B b sA (as := [.inr (.inr (-2))]) (n := 4) (Nat.le_of_ble_eq_true rfl)
  rw [lg_entry_eq]
  have ea : ([.inr (.inr (-2))] : List LV).map (cv B b sA) = [Value.ref b] := rfl
  rw [ea] at hlv
  generalize (lg_sl ([Value.ref b]) ++ List.replicate (4 - (lg_sl ([Value.ref b])).length) Slot.unset).toArray = sl at hlv ⊢
  have S := sim (l := l) (B := B) (b := b) (sA := sA) (xl := L) (xs := fun j => (xs j).toInt) (D := D) (cA := cA) (X := XT B sA sV f0) simX_ok XT_keep (by omega) (fun j => x_in _) hL f
  refine S 64 mm_OneSidedLaw_law 0 _ [] 0 [] _ 212 h' hrun (fun v hv => by cases hv) (fun i v hv => ?_) okH_nil (fun a i _ => by show 0 ≤ (0 : Int); omega) (fun a j _ => rfl) p e room_1 s m _ below meth c s.heap [] 0 0 _ sl 0 hx hb hml hown hzb hZ (fun q => absurd q (by decide)) ⟨Nat.le_of_ble_eq_true rfl, Nat.le_of_ble_eq_true rfl⟩ hlv (fun k q hq => by cases hq) va_S.rf hB (Nat.le_refl _) rfl (by decide +kernel) (by decide +kernel) ?_
  · match i, hv with
    | 0, hv => cases hv; exact trivial
    | 1, hv => cases hv
    | 2, hv => cases hv
    | 3, hv => cases hv
    | n + 4, hv => cases hv
  · intro H1 locs1 sl1 pc1 i len st1 hd1 hlen1 hR1 _ _ _ _ _ hS1
    obtain ⟨rfl, rfl⟩ := lmR_1 hR1
    have e1 : len = 1 := by simpa [ilen] using hlen1
    subst e1
    refine va_forget (fun q hq => ?_) (W.widen (k := 600000) (n := 7302250) (by decide +kernel) (by decide +kernel) (lw_ret hx hb hr hlocks hd1))
    have := hS1.2.2 q hq
    unfold zA at this
    omega
set_option maxHeartbeats 4000000 in
theorem lw_walk (l : Launch) (hflags : l.flags = flags0) (b : Addr) (xs : List Int32) : MetFree l x (headSpec (Jvm.Cond.code x code maxLocals ret :: tables_1) room_1) (lw_P b xs) (fun _ _ _ _ _ => True) lw_Q := by
  refine MetFree.of_bodyS (code := code) (maxLocals := maxLocals) (ret := ret) (by decide) ?_ ?_
  · intro args s m h hn
    obtain ⟨meth, c, h1, h2, h3, h4, h5, h6, -, -⟩ := Cond.code_spec hn (atoms_spec (ws := Jvm.Cond.code x code maxLocals ret :: tables_1) h _ List.mem_cons_self)
    exact ⟨meth, c, h1, h2, h3, h4, h5, h6⟩
  · intro p e s m args below meth c s₁ B hml0 hP _
    obtain ⟨rfl, hx, hbd, hgv⟩ := hP
    obtain ⟨scr, harrAt, hlist, hof, hsmall⟩ := hx
    obtain ⟨hcb, hkn, -, -⟩ := State.arrayAt?_spec harrAt
    have hown : s.vm.findClass R_law = some m.cls := findClass_of_methodNamed B.named
    have hts0 : ∀ c ∈ (Jvm.Cond.code x code maxLocals ret :: tables_1), c.before #[Value.ref b] s = true := atoms_spec (ws := Jvm.Cond.code x code maxLocals ret :: tables_1) B.pre
    have hts : ∀ w ∈ lw_tbl, w.before #[Value.ref b] s = true := k2_hts_sels lw_privs (fun w hw => hts0 w (List.mem_cons_of_mem _ hw)) lw_privs_ok
    have hml : c.maxLocals = 4 := B.maxLocals_eq (hts0 _ List.mem_cons_self)
    have X₀ : Stand p l e room_1 s m #[Value.ref b] below meth c s₁ [] 0 0 := Stand.of_body B
    have hh0 : s₁.heap = s.heap := by rw [B.state]; rfl
    have hsz : scr.slots.size = xs.length := by rw [← Array.length_toList, hlist, List.length_map]
    have hval : ∀ j : Nat, j < xs.length → scr.slots[j]? = some (.int (xs.getD j 0)) := fun j hj => by
      rw [← Array.getElem?_toList, hlist]
      simp [hj]
    have hbl : b < s.heap.size := (Array.getElem?_eq_some_iff.mp hcb).1
    have hX : va_X b xs.length (fun j => xs.getD j 0) s s.heap := ⟨scr, hcb, hof, hkn, hsz, hval⟩
    have K : W p l e room_1 s m #[Value.ref b] below meth c s₁.heap [] 0 0 (lw_Z below #[Value.ref b] s) (entryFrame m ([Value.ref b] : List Value).toArray 4) := by
      rw [hh0]
      exact whole_start l hflags hbd ⟨B.exec, B.bytes, B.returns, hml, hown, hts, hX, hbl, B.notSynchronized, hgv⟩
    obtain ⟨t, a1, o, b1, b2, b3⟩ := K s₁ rfl X₀
    exact ⟨t, o, a1, b1, b2, b3⟩
theorem lw_pre_spec {args : Array Value} {s : State} (h : (Jvm.Cond.and given_1 narrow_1).before args s = true) (hr : rest_1_c.before args s = true) : ∃ (b : Addr) (xs : List Int32), lw_P b xs args s := by
  have hs := flat_of_before _ h
  have hq := flat_of_before _ hr
  have hc : (Cond.count 1).before args s = true := hs _ (by decide +kernel)
  have harr : (Cond.arrayOf (.arg 0) .int).before args s = true := hs _ (by decide +kernel)
  have hle : (Cond.le (.length (.arg 0)) (.int 3584)).before args s = true := hs _ (by decide +kernel)
  have hlen : (Cond.isInt (.length (.arg 0))).before args s = true := hq _ (by decide +kernel)
  have hall : (Cond.all (.arg 0) (.isInt (.elem (.arg 0) (.index 0)))).before args s = true := hq _ (by decide +kernel)
  obtain ⟨b, xs, hb, hx⟩ := State.ints_of_pre rfl harr hlen hall
  have hsm : xs.length < 2 ^ 31 := hx.choose_spec.2.2.2
  have hev : (Term.length (.arg 0)).eval args s none [] s = some (.int xs.length.toInt32) := hx.length_eval hb
  have hv := Cond.le_ints hev (show (Term.int 3584).eval args s none [] s = some (.int 3584) from rfl)
  have hd : xs.length.toInt32 ≤ 3584 := by
    simpa [Cond.before, Cond.holds, hv] using hle
  have hN : xs.length ≤ 3584 := (Int32.ofNat_le_ofNat hsm (by decide)).mp (show Int32.ofNat xs.length ≤ Int32.ofNat 3584 from hd)
  exact ⟨b, xs, Cond.one_arg hc (show args[0]? = some (.ref b) from hb), hx, hN, h⟩
theorem lw_comes (l : Launch) (hflags : l.flags = flags0) : Comes l x (Jvm.Cond.code x code maxLocals ret :: tables_1) room_1 (fun tb e args s => Calls_1 tb e args s ∧ rest_1 tb e args s ∧ Pre_1 tb e args s)
    (fun _ _ args s o t => lw_Q args s o t) := by
  intro p e ha hc hk s m args below hf hfit hheap happ hpre
  obtain ⟨b, xs, hP⟩ := lw_pre_spec hpre.2.2 hpre.2.1
  obtain ⟨k, o, h1, h2, h3, hQ⟩ := lw_walk l hflags b xs p e ha hc hk s m args below hf ((Spec.applies_iff_loose hf).mp happ).1 hP trivial
  exact ⟨k, o, h1, h2, h3, hQ⟩
theorem lw_frame {s t : State} {o : Outcome} {args : Array Value} (h : Framed s o t [] 600000 7302250) :
    Framed s o t (fieldLocs frame_1_writes args s ++ arrayLocs frame_1_arrays args s ++ staticLocs frame_1_statics s) 600000 7302250 := h
theorem lw_limb (L : Cond) (hL : ∀ (args : Array Value) (s t : State), L.after args s (.returned (some (.int 1))) t = true) :
    ArmFor flags0 classFile x code maxLocals ret World_1 tables_1 room_1 Calls_1 rest_1 Pre_1
      (fun tb e a s o t => postC L tb e a s o t ∧ Framed s o t (fieldLocs frame_1_writes a s ++ arrayLocs frame_1_arrays a s ++ staticLocs frame_1_statics s) 600000 7302250) := by
  intro l hflags _ _ p e ha hc hk s m args below hf hfit hheap happ hpre
  obtain ⟨k, o, h1, h2, h3, rfl, hF⟩ := lw_comes l hflags p e ha hc hk s m args below hf hfit hheap happ hpre
  exact ⟨k, _, h1, h2, h3, hL args s _, lw_frame hF⟩
theorem i_vc : Claimed_1_1 ∧ Claimed_1_2 := ⟨lw_limb limb_1_1 (fun args s t => by simp [limb_1_1, Cond.after, Cond.holds, Cond.value]), lw_limb limb_1_2 (fun args s t => Cond.after_iff.mpr (by
  first | (rw [show limb_1_2 = Cond.eq .result (.int 1) from rfl, Cond.eq_ints (x := 1) (y := 1) rfl rfl]; simp; done) | (simp [limb_1_2, Cond.value, Term.eval]; done)))⟩

