/-! LM, part 26: one state within another; the measure; Math and arraycopy by bounds -/
def incL : AL → AL → Bool
  | [], [] => true
  | x :: xs, y :: ys => (match y with
    | none => true
    | some b => match x with
      | some a => leA a b
      | none => false) && incL xs ys
  | _, _ => false
def gLr : AL → LL → Prop
  | [], [] => True
  | a :: as, l :: ls => (∀ b, a = some b → ∃ v, l = some v ∧ gV b v) ∧ gLr as ls
  | _, _ => False
theorem gL_r : ∀ {als : AL} {ls : LL}, gL als ls → gLr als ls
  | [], [], _ => trivial
  | a :: as, l :: ls, h => by
    refine ⟨fun b hb => ?_, gL_r ⟨by have := h.1; simp only [List.length_cons] at this; omega, fun j b hb => ?_⟩⟩
    · obtain ⟨v, h1, h2⟩ := h.2 0 b (by subst hb; rfl)
      exact ⟨v, by simpa [lget] using h1, h2⟩
    · obtain ⟨v, h1, h2⟩ := h.2 (j + 1) b (by simpa [aget] using hb)
      exact ⟨v, by simpa [lget] using h1, h2⟩
  | [], _ :: _, h => by have := h.1; simp at this
  | _ :: _, [], h => by have := h.1; simp at this
theorem gLr_L : ∀ {als : AL} {ls : LL}, gLr als ls → gL als ls
  | [], [], _ => ⟨rfl, fun j a h => by simp [aget] at h⟩
  | a :: as, l :: ls, h => by
    have ih := gLr_L h.2
    refine ⟨by have := ih.1; simp [this], fun j b hb => ?_⟩
    match j, hb with
    | 0, hb =>
      obtain ⟨v, h1, h2⟩ := h.1 b (by simpa [aget] using hb)
      exact ⟨v, by simp [lget, h1], h2⟩
    | j + 1, hb =>
      obtain ⟨v, h1, h2⟩ := ih.2 j b (by simpa [aget] using hb)
      exact ⟨v, by simpa [lget] using h1, h2⟩
  | [], _ :: _, h => by cases h
  | _ :: _, [], h => by cases h
theorem incL_ok : ∀ {a b : AL} {ls : LL}, incL a b = true → gLr a ls → gLr b ls
  | [], [], _, _, h => h
  | x :: xs, y :: ys, [], _, h => by cases h
  | x :: xs, y :: ys, l :: ls, hi, h => by
    simp only [incL, Bool.and_eq_true] at hi
    refine ⟨fun b hb => ?_, incL_ok hi.2 h.2⟩
    subst hb
    have h1 := hi.1
    simp only at h1
    split at h1
    · next a =>
      obtain ⟨v, v1, v2⟩ := h.1 a rfl
      exact ⟨v, v1, leA_ok h1 v2⟩
    · cases h1
  | [], _ :: _, _, hi, _ => by cases hi
  | _ :: _, [], _, hi, _ => by cases hi
def incK : List SE → List SE → Bool
  | [], [] => true
  | x :: xs, y :: ys => leA x.1 y.1 && (y.2.1 == 0 || decide (x.2 = y.2)) && incK xs ys
  | _, _ => false
theorem incK_ok {ls : LL} {h : LH} : ∀ {a b : List SE} {st : List LV}, incK a b = true → gS ls h a st → gS ls h b st
  | [], [], _, _, h => h
  | x :: xs, y :: ys, [], _, h => by cases h
  | x :: xs, y :: ys, v :: st, hi, hs => by
    simp only [incK, Bool.and_eq_true, Bool.or_eq_true, beq_iff_eq, decide_eq_true_eq] at hi
    refine ⟨⟨leA_ok hi.1.1 hs.1.1, ?_⟩, incK_ok hi.2 hs.2⟩
    rcases hi.1.2 with q | q
    · unfold gP; rw [q]; trivial
    · rw [← q]; exact hs.1.2
  | [], _ :: _, _, hi, _ => by cases hi
  | _ :: _, [], _, hi, _ => by cases hi
def vB (a i : Int) : Bool := decide (1 ≤ a) && decide (a ≤ NC) && decide (0 ≤ i) && decide (i < ((lay a.toNat).2.2 : Int))
theorem vB_ok {a i : Int} (h : vB a i = true) : valid a i := by
  unfold vB at h
  simp only [Bool.and_eq_true, decide_eq_true_eq] at h
  exact ⟨h.1.1.1, h.1.1.2, h.1.2, h.2⟩
def incS (s t : AS) : Bool := incL s.1 t.1 && incK s.2.1 t.2.1 && t.2.2.all (fun q => leA (fget s.2.2 q.1 q.2.1) q.2.2 && vB q.1 q.2.1)
section IN
variable {INV : LH → Prop} {prot : Int → Int → Int → Bool} {ls : LL} {h : LH}
theorem incS_ok (hI : INVok INV prot) (hh : INV h) {s t : AS} {st : List LV} (hi : incS s t = true) (hs : gA ls st h s) : gA ls st h t := by
  unfold incS at hi
  simp only [Bool.and_eq_true] at hi
  refine ⟨gLr_L (incL_ok hi.1.1 (gL_r hs.1)), incK_ok hi.1.2 hs.2.1, fun q hq => ?_⟩
  have h1 := List.all_eq_true.mp hi.2 q hq
  simp only [Bool.and_eq_true] at h1
  exact leA_ok h1.1 (fget_ok hI hh hs.2.2 (vB_ok h1.2))
end IN
-- the measure
def ival (l : Option LV) : Int := match l with
  | some (.inl x) => x
  | _ => 0
def dot : List Int → LL → Int
  | c :: cs, l :: ls => c * ival l + dot cs ls
  | _, _ => 0
def ubD : List Int → List Int → AL → Option Int
  | cv :: cvs, cu :: cus, al :: als => (ubD cvs cus als).bind (fun b => if cv = cu then some b else match al with
    | some a => if a.1 = 0 then some (b + (if 0 ≤ cv - cu then (cv - cu) * a.2.2.1 else (cv - cu) * a.2.1)) else none
    | none => none)
  | [], [], [] => some 0
  | _, _, _ => none
theorem mulb {d x lo hi : Int} (h1 : lo ≤ x) (h2 : x ≤ hi) : d * x ≤ (if 0 ≤ d then d * hi else d * lo) := by
  split
  · next h => exact Int.mul_le_mul_of_nonneg_left h2 h
  · next h => exact Int.mul_le_mul_of_nonpos_left (by omega) h1
theorem ubD_ok : ∀ {cv cu : List Int} {als : AL} {ls : LL} {b : Int}, ubD cv cu als = some b → gLr als ls → dot cv ls - dot cu ls ≤ b
  | [], [], [], [], b, h, _ => by cases some_i h; simp [dot]
  | cv :: cvs, cu :: cus, al :: als, l :: ls, b, h, hg => by
    simp only [ubD] at h
    rw [Option.bind_eq_some_iff] at h
    obtain ⟨b0, h1, h2⟩ := h
    have ih := ubD_ok h1 hg.2
    show cv * ival l + dot cvs ls - (cu * ival l + dot cus ls) ≤ b
    have e : cv * ival l - cu * ival l = (cv - cu) * ival l := by rw [Int.sub_mul]
    split at h2
    · next hc =>
      cases some_i h2
      rw [hc]
      omega
    · split at h2
      · next a =>
        split at h2
        · next hk =>
          cases some_i h2
          obtain ⟨v, rfl, v2⟩ := hg.1 a rfl
          obtain ⟨x, rfl, x1, x2⟩ := gV_i v2 hk
          have := mulb (d := cv - cu) x2.1 x2.2.1
          simp only [ival] at e ⊢
          omega
        · cases h2
      · cases h2
  | [], _ :: _, _, _, _, h, _ => by cases h
  | _ :: _, [], _, _, _, h, _ => by cases h
  | [], [], _ :: _, _, _, h, _ => by cases h
  | _ :: _, _ :: _, [], _, _, h, _ => by cases h
  | [], [], [], _ :: _, _, _, hg => by cases hg
  | _ :: _, _ :: _, _ :: _, [], _, _, hg => by cases hg
def zer (cs : List Int) : List Int := cs.map (fun _ => 0)
theorem dot_zer : ∀ (cs : List Int) (ls : LL), dot (zer cs) ls = 0
  | [], _ => by simp [zer, dot]
  | _ :: _, [] => by simp [zer, dot]
  | c :: cs, l :: ls => by
    have := dot_zer cs ls
    show 0 * ival l + dot (zer cs) ls = 0
    omega
/-- the measure isn't below 0 -/
def lbM (C : Int) (cs : List Int) (als : AL) : Bool := match ubD (zer cs) cs als with
  | some b => decide (b ≤ C)
  | none => false
theorem lbM_ok {C : Int} {cs : List Int} {als : AL} {ls : LL} (h : lbM C cs als = true) (hg : gLr als ls) : 0 ≤ C + dot cs ls := by
  unfold lbM at h
  split at h
  · next b hb =>
    have := ubD_ok hb hg
    rw [dot_zer] at this
    have h := of_decide_eq_true h
    omega
  · cases h
theorem dot_set : ∀ (cs : List Int) (ls : LL) (k : Nat) (l : Option LV), k < ls.length → dot cs (ls.set k l) = dot (cs.set k 0) ls + cs.getD k 0 * ival l
  | [], ls, k, l, h => by
    cases ls with
    | nil => simp [dot]
    | cons x xs => cases k <;> simp [dot]
  | c :: cs, [], k, l, h => by simp at h
  | c :: cs, x :: ls, 0, l, h => by
    show c * ival l + dot cs ls = (0 * ival x + dot cs ls) + c * ival l
    omega
  | c :: cs, x :: ls, k + 1, l, h => by
    have ih := dot_set cs ls k l (by simpa using h)
    show c * ival x + dot cs (ls.set k l) = (c * ival x + dot (cs.set k 0) ls) + cs.getD k 0 * ival l
    omega
theorem dot_set0 (cs : List Int) (ls : LL) (k : Nat) (hk : k < ls.length) (h0 : ival ((ls[k]?).join) = 0) : dot (cs.set k 0) ls = dot cs ls := by
  have h1 := dot_set cs ls k ((ls[k]?).join) hk
  have e : ls.set k ((ls[k]?).join) = ls := by
    have : ls[k]? = some ls[k] := List.getElem?_eq_getElem hk
    rw [this]
    simp
  rw [e, h0] at h1
  omega
theorem dot_kill (cs : List Int) (ls : LL) (k : Nat) : dot cs (lkill ls k) = dot cs ls := by
  unfold lkill
  split
  · rfl
  · next j =>
    split
    · next v hv =>
      split
      · next hl =>
        have hj := lget_lt hv
        have h0 : ival ((ls[j]?).join) = 0 := by
          unfold lget at hv
          rw [hv]
          obtain ⟨x, rfl⟩ := isL_v hl
          rfl
        rw [dot_set _ _ _ _ hj, dot_set0 _ _ _ hj h0]
        simp [ival]
      · rfl
    · rfl
theorem dot_lst {cs : List Int} {ls : LL} {k : Nat} {v : LV} (hk : k + (if isL v then 1 else 0) < ls.length) (hc : isL v = true → cs.getD (k + 1) 0 = 0) : dot cs (lst ls k v) = dot (cs.set k 0) ls + cs.getD k 0 * ival (some v) := by
  unfold lst
  split
  · next hl =>
    rw [if_pos hl] at hk
    have h1 : ((cs.set (k + 1) 0)) = cs := by
      apply List.ext_getElem?
      intro j
      by_cases e : k + 1 = j
      · subst e
        by_cases hlt : k + 1 < cs.length
        · rw [List.getElem?_set_self hlt]
          have := hc hl
          rw [List.getD_eq_getElem?_getD, List.getElem?_eq_getElem hlt] at this
          rw [List.getElem?_eq_getElem hlt]
          simp at this
          simp [this]
        · rw [List.getElem?_eq_none (by simpa using hlt), List.getElem?_eq_none (by omega)]
      · rw [List.getElem?_set_ne e]
    rw [dot_set _ _ _ _ (by rw [List.length_set, lkill_len]; omega), h1, dot_set _ _ _ _ (by rw [lkill_len]; omega), dot_kill]
    simp [ival]
  · rw [dot_set _ _ _ _ (by rw [lkill_len]; omega), dot_kill]
