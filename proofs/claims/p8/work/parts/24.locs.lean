/-! LM, part 24: locals and jumps by bounds -/
abbrev AL : Type := List (Option AV)
def aget (als : AL) (j : Nat) : Option AV := (als[j]?).join
def gL (als : AL) (ls : LL) : Prop := als.length = ls.length ∧ ∀ (j : Nat) (a : AV), aget als j = some a → ∃ v, lget ls j = some v ∧ gV a v
def aLd (i : Instr) (als : AL) : Option SE :=
  let go (k kd : Nat) : Option SE := match aget als k with
    | some a => if a.1 = kd then some (a, (1, (k : Int), 0, 0, 0)) else none
    | none => none
  match i with
  | .iload k => go k 0
  | .iload_n k => go k.val 0
  | .lload k => go k 1
  | .lload_n k => go k.val 1
  | .aload k => go k 2
  | .aload_n k => go k.val 2
  | _ => none
theorem gV_isI {a : AV} {v : LV} (h : gV a v) (hk : a.1 = 0) : isI v = true := by obtain ⟨x, rfl, -⟩ := gV_i h hk; rfl
theorem gV_isL {a : AV} {v : LV} (h : gV a v) (hk : a.1 = 1) : isL v = true := by obtain ⟨x, rfl, -⟩ := gV_l h hk; rfl
theorem gV_isR {a : AV} {v : LV} (h : gV a v) (hk : a.1 = 2) : isR v = true := by obtain ⟨x, rfl, -⟩ := gV_r h hk; rfl
set_option maxHeartbeats 4000000 in
theorem aLd_ok {h : LH} {i : Instr} {als : AL} {ls : LL} {e : SE} (ha : aLd i als = some e) (hl : gL als ls) : ∃ v, lmLd i ls = some v ∧ gV e.1 v ∧ gP ls h e.2 v := by
  have key : ∀ (k kd : Nat) (f : LV → Bool), (∀ a v, gV a v → a.1 = kd → f v = true) → (match aget als k with
    | some a => if a.1 = kd then some (a, (1, (k : Int), 0, 0, 0)) else none
    | none => none) = some e → ∃ v, (lget ls k).filter f = some v ∧ gV e.1 v ∧ gP ls h e.2 v := by
    intro k kd f hf hq
    split at hq
    · next a hg =>
      split at hq
      · next hk =>
        cases some_i hq
        obtain ⟨v, v1, v2⟩ := hl.2 k a hg
        refine ⟨v, by rw [v1]; simp [Option.filter, hf a v v2 hk], v2, ?_⟩
        show lget ls ((k : Int).toNat) = some v
        simpa using v1
      · cases hq
    · cases hq
  unfold aLd at ha
  cases i with
  | iload k => exact key k 0 isI (fun a v => gV_isI) ha
  | iload_n k => exact key k.val 0 isI (fun a v => gV_isI) ha
  | lload k => exact key k 1 isL (fun a v => gV_isL) ha
  | lload_n k => exact key k.val 1 isL (fun a v => gV_isL) ha
  | aload k => exact key k 2 isR (fun a v => gV_isR) ha
  | aload_n k => exact key k.val 2 isR (fun a v => gV_isR) ha
  | _ => simp only at ha; cases ha
def aSt (i : Instr) (e : AV) : Option Nat := match i with
  | .istore k => if e.1 = 0 then some k else none
  | .istore_n k => if e.1 = 0 then some k.val else none
  | .lstore k => if e.1 = 1 then some k else none
  | .lstore_n k => if e.1 = 1 then some k.val else none
  | .astore k => if e.1 = 2 then some k else none
  | .astore_n k => if e.1 = 2 then some k.val else none
  | _ => none
theorem aSt_ok {i : Instr} {e : AV} {k : Nat} (ha : aSt i e = some k) {v : LV} (hv : gV e v) : lmSt i v = some k := by
  cases i with
  | istore q => simp only [aSt] at ha; split at ha <;> first | (next h => cases some_i ha; simp [lmSt, gV_isI hv h]) | cases ha
  | istore_n q => simp only [aSt] at ha; split at ha <;> first | (next h => cases some_i ha; simp [lmSt, gV_isI hv h]) | cases ha
  | lstore q => simp only [aSt] at ha; split at ha <;> first | (next h => cases some_i ha; simp [lmSt, gV_isL hv h]) | cases ha
  | lstore_n q => simp only [aSt] at ha; split at ha <;> first | (next h => cases some_i ha; simp [lmSt, gV_isL hv h]) | cases ha
  | astore q => simp only [aSt] at ha; split at ha <;> first | (next h => cases some_i ha; simp [lmSt, gV_isR hv h]) | cases ha
  | astore_n q => simp only [aSt] at ha; split at ha <;> first | (next h => cases some_i ha; simp [lmSt, gV_isR hv h]) | cases ha
  | _ => simp only [aSt] at ha; cases ha
/-- the locals behind a store: the neighbours of a long are forgotten -/
def aput (als : AL) (k : Nat) (a : AV) : AL := als.mapIdx (fun j q => if j = k then some a else if j + 1 = k then (match q with | some b => if b.1 = 1 then none else some b | none => none) else if j = k + 1 ∧ a.1 = 1 then none else q)
theorem aget_put {als : AL} {k j : Nat} {a b : AV} (h : aget (aput als k a) j = some b) : (j = k ∧ b = a) ∨ (j ≠ k ∧ aget als j = some b ∧ (j + 1 = k → b.1 ≠ 1) ∧ ¬ (j = k + 1 ∧ a.1 = 1)) := by
  unfold aget aput at h
  rw [List.getElem?_mapIdx] at h
  cases hq : als[j]? with
  | none => rw [hq] at h; cases h
  | some q =>
    rw [hq] at h
    simp only [Option.map_some, Option.join_some] at h
    by_cases e : j = k
    · rw [if_pos e] at h
      cases some_i h
      exact Or.inl ⟨e, rfl⟩
    · rw [if_neg e] at h
      right
      refine ⟨e, ?_⟩
      unfold aget
      rw [hq]
      by_cases e2 : j + 1 = k
      · rw [if_pos e2] at h
        split at h
        · next b' =>
          split at h
          · cases h
          · next hb =>
            cases some_i h
            exact ⟨rfl, fun _ => hb, fun z => by omega⟩
        · cases h
      · rw [if_neg e2] at h
        split at h
        · cases h
        · next e3 =>
          rw [h]
          exact ⟨rfl, fun z => absurd z e2, e3⟩
theorem lget_lst {ls : LL} {k : Nat} {v : LV} (hk : k + (if isL v then 1 else 0) < ls.length) : lget (lst ls k v) k = some v := by
  unfold lst
  split
  · rw [lget_set_ne (by omega), lget_set_eq (by rw [lkill_len]; omega)]
  · rw [lget_set_eq (by rw [lkill_len]; omega)]
theorem lkill_keep {ls : LL} {k j : Nat} {w : LV} (hw : lget ls j = some w) (hn : j + 1 = k → isL w = false) : lget (lkill ls k) j = some w := by
  unfold lkill
  split
  · exact hw
  · next q =>
    split
    · next u hu =>
      split
      · next hl =>
        by_cases e : q = j
        · subst e
          rw [hw] at hu
          cases hu
          rw [hn rfl] at hl
          cases hl
        · rw [lget_set_ne e]
          exact hw
      · exact hw
    · exact hw
theorem lget_lst_ne {ls : LL} {k j : Nat} {v w : LV} (hj : j ≠ k) (hw : lget ls j = some w) (hn : j + 1 = k → isL w = false) (hm : ¬ (j = k + 1 ∧ isL v = true)) : lget (lst ls k v) j = some w := by
  have h1 := lkill_keep hw hn
  unfold lst
  split
  · next hl =>
    rw [lget_set_ne (fun e => hm ⟨e.symm, hl⟩), lget_set_ne (Ne.symm hj)]
    exact h1
  · rw [lget_set_ne (Ne.symm hj)]
    exact h1
theorem gL_put {als : AL} {ls : LL} {k : Nat} {a : AV} {v : LV} (hl : gL als ls) (hv : gV a v) (hk : k + (if isL v then 1 else 0) < ls.length) : gL (aput als k a) (lst ls k v) := by
  refine ⟨by unfold aput; rw [List.length_mapIdx, lst_len]; exact hl.1, fun j b hb => ?_⟩
  rcases aget_put hb with ⟨rfl, rfl⟩ | ⟨h1, h2, h3, h4⟩
  · exact ⟨v, lget_lst hk, hv⟩
  · obtain ⟨w, w1, w2⟩ := hl.2 j b h2
    refine ⟨w, lget_lst_ne h1 w1 (fun e => ?_) (fun e => h4 ⟨e.1, ?_⟩), w2⟩
    · rw [gV_cat w2]
      simpa using h3 e
    · have := e.2
      rw [gV_cat hv] at this
      simpa using this
/-- what a store makes unknown of the stack -/
def killL (k : Nat) (st : List SE) : List SE := st.map (fun e => if (e.2.1 = 1 ∨ e.2.1 = 3) ∧ (e.2.2.1.toNat ≤ k + 1 ∧ k ≤ e.2.2.1.toNat + 1) then (e.1, pv0) else e)
theorem killL_ok {ls : LL} {h : LH} {k : Nat} {v : LV} : ∀ {ast : List SE} {st : List LV}, gS ls h ast st → gS (lst ls k v) h (killL k ast) st
  | [], [], _ => trivial
  | e :: r, w :: s, hs => by
    have ih := killL_ok (k := k) (v := v) hs.2
    refine ⟨?_, ih⟩
    show gV (if (e.2.1 = 1 ∨ e.2.1 = 3) ∧ (e.2.2.1.toNat ≤ k + 1 ∧ k ≤ e.2.2.1.toNat + 1) then (e.1, pv0) else e).1 w ∧ gP (lst ls k v) h (if (e.2.1 = 1 ∨ e.2.1 = 3) ∧ (e.2.2.1.toNat ≤ k + 1 ∧ k ≤ e.2.2.1.toNat + 1) then (e.1, pv0) else e).2 w
    split
    · exact ⟨hs.1.1, trivial⟩
    · next hn =>
      refine ⟨hs.1.1, ?_⟩
      have hp := hs.1.2
      unfold gP at hp ⊢
      split at hp
      · trivial
      · next e2 =>
        have hj : ¬ (e.2.2.1.toNat ≤ k + 1 ∧ k ≤ e.2.2.1.toNat + 1) := fun q => hn ⟨Or.inl e2, q⟩
        exact lget_lst_ne (by omega) hp (fun q => by omega) (fun q => by omega)
      · exact hp
      · next e2 =>
        have hj : ¬ (e.2.2.1.toNat ≤ k + 1 ∧ k ≤ e.2.2.1.toNat + 1) := fun q => hn ⟨Or.inr e2, q⟩
        obtain ⟨x, y, p1, p2⟩ := hp
        exact ⟨x, y, lget_lst_ne (by omega) p1 (fun q => by omega) (fun q => by omega), p2⟩
      · exact hp
      · cases hp
  | [], _ :: _, hs => by cases hs
  | _ :: _, [], hs => by cases hs
-- conditions
def refC (c : ClassFile.Cond) (a b : AV) : Option (AV × AV) := match c with
  | .eq => (meetA a b.2.1 b.2.2.1).bind (fun x => (meetA b a.2.1 a.2.2.1).map (fun y => (x, y)))
  | .ne => if a.2.2.2 = 0 ∧ b.2.2.2 = 0 ∧ a.2.1 = b.2.1 then none
    else if b.2.2.2 = 0 then (if a.2.1 = b.2.1 then (meetA a (a.2.1 + 1) a.2.2.1).map (fun x => (x, b)) else if a.2.2.1 = b.2.1 then (meetA a a.2.1 (a.2.2.1 - 1)).map (fun x => (x, b)) else some (a, b))
    else if a.2.2.2 = 0 then (if b.2.1 = a.2.1 then (meetA b (b.2.1 + 1) b.2.2.1).map (fun y => (a, y)) else if b.2.2.1 = a.2.1 then (meetA b b.2.1 (b.2.2.1 - 1)).map (fun y => (a, y)) else some (a, b))
    else some (a, b)
  | .lt => (meetA a a.2.1 (b.2.2.1 - 1)).bind (fun x => (meetA b (a.2.1 + 1) b.2.2.1).map (fun y => (x, y)))
  | .ge => (meetA a b.2.1 a.2.2.1).bind (fun x => (meetA b b.2.1 a.2.2.1).map (fun y => (x, y)))
  | .gt => (meetA a (b.2.1 + 1) a.2.2.1).bind (fun x => (meetA b b.2.1 (a.2.2.1 - 1)).map (fun y => (x, y)))
  | .le => (meetA a a.2.1 b.2.2.1).bind (fun x => (meetA b a.2.1 b.2.2.1).map (fun y => (x, y)))
theorem refC_two {a b : AV} {x y l1 u1 l2 u2 : Int} (hx : inV a x) (hy : inV b y) (h1 : l1 ≤ x) (h2 : x ≤ u1) (h3 : l2 ≤ y) (h4 : y ≤ u2) : ∃ q, (meetA a l1 u1).bind (fun x => (meetA b l2 u2).map (fun y => (x, y))) = some q ∧ inV q.1 x ∧ inV q.2 y ∧ q.1.1 = a.1 ∧ q.2.1 = b.1 := by
  obtain ⟨a', a1, a2⟩ := meetA_in hx h1 h2
  obtain ⟨b', b1, b2⟩ := meetA_in hy h3 h4
  exact ⟨(a', b'), by rw [a1, b1]; rfl, a2, b2, meetA_k a1, meetA_k b1⟩
theorem refC_ok {c : ClassFile.Cond} {a b : AV} {x y : Int} (hc : cnd c x y = true) (hx : inV a x) (hy : inV b y) : ∃ q, refC c a b = some q ∧ inV q.1 x ∧ inV q.2 y ∧ q.1.1 = a.1 ∧ q.2.1 = b.1 := by
  have hx2 := hx
  have hy2 := hy
  obtain ⟨x1, x2, -⟩ := hx2
  obtain ⟨y1, y2, -⟩ := hy2
  cases c with
  | eq => have := cnd_eq.mp hc; exact refC_two hx hy (by omega) (by omega) (by omega) (by omega)
  | lt => have := cnd_lt.mp hc; exact refC_two hx hy (by omega) (by omega) (by omega) (by omega)
  | ge => have := cnd_ge.mp hc; exact refC_two hx hy (by omega) (by omega) (by omega) (by omega)
  | gt => have := cnd_gt.mp hc; exact refC_two hx hy (by omega) (by omega) (by omega) (by omega)
  | le => have := cnd_le.mp hc; exact refC_two hx hy (by omega) (by omega) (by omega) (by omega)
  | ne =>
    have hne := cnd_ne.mp hc
    simp only [refC]
    split
    · next e =>
      exact absurd (by rw [inV_c hx e.1, inV_c hy e.2.1, e.2.2]) hne
    · split
      · next e =>
        have ey := inV_c hy e
        split
        · obtain ⟨a', a1, a2⟩ := meetA_in hx (lo := a.2.1 + 1) (hi := a.2.2.1) (by omega) (by omega)
          exact ⟨(a', b), by rw [a1]; rfl, a2, hy, meetA_k a1, rfl⟩
        · split
          · obtain ⟨a', a1, a2⟩ := meetA_in hx (lo := a.2.1) (hi := a.2.2.1 - 1) (by omega) (by omega)
            exact ⟨(a', b), by rw [a1]; rfl, a2, hy, meetA_k a1, rfl⟩
          · exact ⟨(a, b), rfl, hx, hy, rfl, rfl⟩
      · split
        · next e =>
          have ex := inV_c hx e
          split
          · obtain ⟨b', b1, b2⟩ := meetA_in hy (lo := b.2.1 + 1) (hi := b.2.2.1) (by omega) (by omega)
            exact ⟨(a, b'), by rw [b1]; rfl, hx, b2, rfl, meetA_k b1⟩
          · split
            · obtain ⟨b', b1, b2⟩ := meetA_in hy (lo := b.2.1) (hi := b.2.2.1 - 1) (by omega) (by omega)
              exact ⟨(a, b'), by rw [b1]; rfl, hx, b2, rfl, meetA_k b1⟩
            · exact ⟨(a, b), rfl, hx, hy, rfl, rfl⟩
        · exact ⟨(a, b), rfl, hx, hy, rfl, rfl⟩
def negC (c : ClassFile.Cond) : ClassFile.Cond := match c with
  | .eq => .ne
  | .ne => .eq
  | .lt => .ge
  | .ge => .lt
  | .gt => .le
  | .le => .gt
theorem negC_ok {c : ClassFile.Cond} {x y : Int} (h : ¬ cnd c x y = true) : cnd (negC c) x y = true := by
  cases c <;> simp only [negC, cnd, decide_eq_true_eq] at h ⊢ <;> omega
theorem cnd_cmp {c : ClassFile.Cond} {x y : Int} (h : cnd c (lcmp_ x y) 0 = true) : cnd c x y = true := by
  unfold lcmp_ at h
  cases c <;> simp only [cnd, decide_eq_true_eq] at h ⊢ <;> omega
