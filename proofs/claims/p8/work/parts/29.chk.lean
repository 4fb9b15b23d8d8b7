/-! LM, part 29: the check of a method's nodes -/
def icls (i : Instr) : Nat := match i with
  | .iconst _ => 1 | .bipush _ => 1 | .sipush _ => 1 | .lconst _ => 1
  | .iadd => 1 | .isub => 1 | .imul => 1 | .idiv => 1 | .irem => 1 | .ineg => 1 | .iand => 1 | .ior => 1 | .ixor => 1 | .ishl => 1 | .ishr => 1 | .iushr => 1
  | .ladd => 1 | .lsub => 1 | .lmul => 1 | .ldiv => 1 | .lrem => 1 | .land => 1 | .lor => 1 | .lshl => 1 | .lshr => 1 | .lushr => 1 | .lcmp => 1
  | .i2l => 1 | .l2i => 1 | .i2b => 1 | .i2c => 1 | .dup => 1 | .pop => 1 | .dup2 => 1
  | .iload _ => 2 | .iload_n _ => 2 | .lload _ => 2 | .lload_n _ => 2 | .aload _ => 2 | .aload_n _ => 2
  | .getfield _ => 3 | .iaload => 3 | .laload => 3 | .baload => 3 | .aaload => 3 | .arraylength => 3
  | .goto _ => 4 | .ifCond _ _ => 4 | .if_icmp _ _ => 4 | .tableswitch _ _ _ _ => 4 | .lookupswitch _ _ => 4
  | .iinc _ _ => 5
  | .putfield _ => 6 | .iastore => 6 | .lastore => 6 | .bastore => 6
  | .ldc _ => 7 | .ldc_w _ => 7 | .ldc2_w _ => 7
  | .istore _ => 8 | .istore_n _ => 8 | .lstore _ => 8 | .lstore_n _ => 8 | .astore _ => 8 | .astore_n _ => 8
  | .invokevirtual _ => 9 | .invokestatic _ => 9 | .invokespecial _ => 9
  | .return_ => 10 | .ireturn => 10 | .lreturn => 10
  | _ => 0
set_option maxHeartbeats 4000000 in
theorem cls_noRK {i : Instr} (h : icls i ≠ 9) (h2 : icls i ≠ 10) : (∀ ret st, lmR ret i st = none) ∧ ∀ o n st, lmK o n i st = none := by
  cases i <;> first | exact ⟨fun _ _ => rfl, fun _ _ _ => rfl⟩ | exact absurd rfl h | exact absurd rfl h2
set_option maxHeartbeats 4000000 in
theorem cls_R {i : Instr} (h : icls i = 9) : ∀ ret st, lmR ret i st = none := by
  cases i <;> first | exact fun _ _ => rfl | exact absurd h (by decide)
set_option maxHeartbeats 4000000 in
theorem cls_A {i : Instr} (h : icls i ≠ 1) : ∀ st, lmA i st = none := by
  cases i <;> first | exact fun _ => rfl | exact absurd rfl h
set_option maxHeartbeats 4000000 in
theorem cls_Ld {i : Instr} (h : icls i ≠ 2) : ∀ ls, lmLd i ls = none := by
  cases i <;> first | exact fun _ => rfl | exact absurd rfl h
set_option maxHeartbeats 4000000 in
theorem cls_G {i : Instr} (h : icls i ≠ 3) : ∀ o n xs xl st h, lmG o n xs xl i st h = none := by
  cases i <;> first | exact fun _ _ _ _ _ _ => rfl | exact absurd rfl h
set_option maxHeartbeats 4000000 in
theorem cls_J {i : Instr} (h : icls i ≠ 4) : ∀ pc len st, lmJ i pc len st = none := by
  cases i <;> first | exact fun _ _ _ => rfl | exact absurd rfl h
set_option maxHeartbeats 4000000 in
theorem cls_Inc {i : Instr} (h : icls i ≠ 5) : ∀ ls, lmInc i ls = none := by
  cases i <;> first | exact fun _ => rfl | exact absurd rfl h
set_option maxHeartbeats 4000000 in
theorem cls_P {i : Instr} (h : icls i ≠ 6) (h0 : icls i ≠ 0) : ∀ o n ini st h, lmP o n ini i st h = none := by
  cases i <;> first | exact fun _ _ _ _ _ => rfl | exact absurd rfl h | exact absurd rfl h0
set_option maxHeartbeats 4000000 in
theorem cls_C {i : Instr} (h : icls i ≠ 7) : ∀ o, lmC o i = none := by
  cases i <;> first | exact fun _ => rfl | exact absurd rfl h
set_option maxHeartbeats 4000000 in
theorem cls_Q {i : Instr} (h : icls i ≠ 9) : ∀ o n st h, lmQ o n i st h = none := by
  cases i <;> first | exact fun _ _ _ _ => rfl | exact absurd rfl h
set_option maxHeartbeats 4000000 in
theorem cls_N {i : Instr} (h : icls i ≠ 0) : ∀ o n st, lmN o n i st = none := by
  cases i <;> first | exact fun _ _ _ => rfl | exact absurd rfl h
set_option maxHeartbeats 4000000 in
theorem cls_X {i : Instr} (h : icls i ≠ 9) : ∀ o st, lmX o i st = none := by
  cases i <;> first | exact fun _ _ => rfl | exact absurd rfl h
def edK (u v : ND) (als : AL) : Bool := match ubD v.2.2.2.1 u.2.2.2.1 als with
  | some b => decide (v.2.2.1 - u.2.2.1 + b < 0)
  | none => false
def edS (u v : ND) (k : Nat) (a : AV) : Bool := (decide (a.1 ≠ 1) || v.2.2.2.1.getD (k + 1) 0 == 0) && match ubD (v.2.2.2.1.set k 0) u.2.2.2.1 u.2.1.1 with
  | some b => if v.2.2.2.1.getD k 0 = 0 then decide (v.2.2.1 - u.2.2.1 + b < 0) else (a.1 == 0 && decide (v.2.2.1 - u.2.2.1 + b + (if 0 ≤ v.2.2.2.1.getD k 0 then v.2.2.2.1.getD k 0 * a.2.2.1 else v.2.2.2.1.getD k 0 * a.2.1) < 0))
  | none => false
def edI (u v : ND) (k : Nat) (a : AV) (n : Int) : Bool := decide (-2147483648 ≤ a.2.1 + n) && decide (a.2.2.1 + n ≤ 2147483647) && match ubD v.2.2.2.1 u.2.2.2.1 u.2.1.1 with
  | some b => decide (v.2.2.1 - u.2.2.1 + b + v.2.2.2.1.getD k 0 * n < 0)
  | none => false
def mv (u : ND) (ls : LL) : Int := u.2.2.1 + dot u.2.2.2.1 ls
theorem edK_ok {u v : ND} {als : AL} {ls : LL} (h : edK u v als = true) (hg : gL als ls) : mv v ls < mv u ls := by
  unfold edK at h
  split at h
  · next b hb =>
    have := ubD_ok hb (gL_r hg)
    have h := of_decide_eq_true h
    unfold mv
    omega
  · cases h
theorem edS_ok {u v : ND} {k : Nat} {a : AV} {ls : LL} {w : LV} (h : edS u v k a = true) (hg : gL u.2.1.1 ls) (hw : gV a w) (hk : k + (if isL w then 1 else 0) < ls.length) : mv v (lst ls k w) < mv u ls := by
  unfold edS at h
  simp only [Bool.and_eq_true, Bool.or_eq_true, decide_eq_true_eq, beq_iff_eq] at h
  have hd := dot_lst (cs := v.2.2.2.1) hk (fun hl => by
    rcases h.1 with q | q
    · rw [gV_cat hw] at hl
      exact absurd (by simpa using hl) q
    · exact q)
  have h2 := h.2
  split at h2
  · next b hb =>
    have := ubD_ok hb (gL_r hg)
    unfold mv
    rw [hd]
    split at h2
    · next h0 =>
      have h2 := of_decide_eq_true h2
      rw [h0]
      omega
    · simp only [Bool.and_eq_true, decide_eq_true_eq, beq_iff_eq] at h2
      obtain ⟨x, rfl, x1, x2⟩ := gV_i hw h2.1
      have := mulb (d := v.2.2.2.1.getD k 0) x2.1 x2.2.1
      simp only [ival]
      omega
  · cases h2
theorem edI_ok {u v : ND} {k : Nat} {a : AV} {n x : Int} {ls : LL} (h : edI u v k a n = true) (hg : gL u.2.1.1 ls) (hx : lget ls k = some (.inl x)) (hi : inV a x) : mv v (lst ls k (.inl (w32 (x + n)))) < mv u ls := by
  unfold edI at h
  simp only [Bool.and_eq_true, decide_eq_true_eq] at h
  have hlt := lget_lt hx
  obtain ⟨i1, i2, -⟩ := hi
  have hw : w32 (x + n) = x + n := w32_id (by unfold i32; omega)
  have hd := dot_lst (cs := v.2.2.2.1) (ls := ls) (k := k) (v := .inl (w32 (x + n))) (by simpa [isL] using hlt) (fun hl => by cases hl)
  have hd0 := dot_set v.2.2.2.1 ls k ((ls[k]?).join) hlt
  have e : ls.set k ((ls[k]?).join) = ls := by
    have : ls[k]? = some ls[k] := List.getElem?_eq_getElem hlt
    rw [this]
    simp
  have ex : ival ((ls[k]?).join) = x := by
    unfold lget at hx
    rw [hx]
    rfl
  rw [e, ex] at hd0
  have h2 := h.2
  split at h2
  · next b hb =>
    have := ubD_ok hb (gL_r hg)
    have h2 := of_decide_eq_true h2
    unfold mv
    rw [hd, hw]
    simp only [ival]
    rw [Int.mul_add]
    omega
  · cases h2
-- where an edge goes
def covE (N : List (List ND)) (t : Int) (s : AS) (j : Nat) : Option ND := match (N[j / 64]?).bind (fun B => B[j % 64]?) with
  | some v => if (v.1 : Int) = t ∧ incS s v.2.1 = true then some v else none
  | none => none
theorem covE_ok {INV : LH → Prop} {prot : Int → Int → Int → Bool} (hI : INVok INV prot) {N : List (List ND)} {t : Int} {s : AS} {j : Nat} {v : ND} (h : covE N t s j = some v) {ls : LL} {st : List LV} {hp : LH} (hh : INV hp) (hs : gA ls st hp s) : v ∈ N.flatten ∧ (v.1 : Int) = t ∧ gA ls st hp v.2.1 := by
  unfold covE at h
  split at h
  · next w hw =>
    split at h
    · next hc =>
      cases some_i h
      obtain ⟨B, b1, b2⟩ := Option.bind_eq_some_iff.mp hw
      exact ⟨List.mem_flatten.mpr ⟨B, List.mem_of_getElem? b1, List.mem_of_getElem? b2⟩, hc.1, incS_ok hI hh hc.2 hs⟩
    · cases h
  · cases h
def covK (N : List (List ND)) (u : ND) (t : Int) (s : AS) (j : Nat) : Bool := match covE N t s j with
  | some v => edK u v s.1
  | none => false
def covA (N : List (List ND)) (u : ND) : List (Int × AS) → List Nat → Bool
  | [], _ => true
  | q :: L, j :: js => covK N u q.1 q.2 j && covA N u L js
  | _ :: _, [] => false
theorem covK_ok {INV : LH → Prop} {prot : Int → Int → Int → Bool} (hI : INVok INV prot) {N : List (List ND)} {u : ND} {t : Int} {s : AS} {j : Nat} (h : covK N u t s j = true) {ls : LL} {st : List LV} {hp : LH} (hh : INV hp) (hs : gA ls st hp s) : ∃ v ∈ N.flatten, (v.1 : Int) = t ∧ gA ls st hp v.2.1 ∧ mv v ls < mv u ls := by
  unfold covK at h
  split at h
  · next v hv =>
    obtain ⟨h1, h2, h3⟩ := covE_ok hI hv hh hs
    exact ⟨v, h1, h2, h3, edK_ok h hs.1⟩
  · cases h
theorem covA_ok {INV : LH → Prop} {prot : Int → Int → Int → Bool} (hI : INVok INV prot) {N : List (List ND)} {u : ND} : ∀ {L : List (Int × AS)} {js : List Nat}, covA N u L js = true → ∀ q ∈ L, ∀ {ls : LL} {st : List LV} {hp : LH}, INV hp → gA ls st hp q.2 → ∃ v ∈ N.flatten, (v.1 : Int) = q.1 ∧ gA ls st hp v.2.1 ∧ mv v ls < mv u ls
  | [], _, _, q, hq, _, _, _, _, _ => by cases hq
  | p :: L, j :: js, h, q, hq, ls, st, hp, hh, hs => by
    simp only [covA, Bool.and_eq_true] at h
    rcases List.mem_cons.mp hq with rfl | hq
    · exact covK_ok hI h.1 hh hs
    · exact covA_ok hI h.2 q hq hh hs
  | _ :: _, [], h, _, _, _, _, _, _, _ => by cases h
