/-! LM, part 5: what the light machine's values, locals and cells are on the machine -/
def cv (B b sA : Nat) (v : LV) : Value := match v with
  | .inl x => .int (Int32.ofInt x)
  | .inr (.inl x) => .long (Int64.ofInt x)
  | .inr (.inr a) => if a = 0 then .null else if a = -1 then .ref sA else if a = -2 then .ref b else .ref (B + a.toNat)
def okV (v : LV) : Prop := match v with
  | .inl x => i32 x
  | .inr (.inl x) => i64 x
  | .inr (.inr _) => True
def okS (st : List LV) : Prop := ∀ v ∈ st, okV v
def okL (ls : LL) : Prop := ∀ (i : Nat) (v : LV), lget ls i = some v → okV v
def lkd (a i : Int) : Nat := match lay a.toNat with
  | (0, c, _) => fkd c i.toNat
  | (2, _, _) => 1
  | (5, _, _) => 2
  | _ => 0
def okX (k : Nat) (x : Int) : Prop := match k with
  | 1 => i64 x
  | 2 => True
  | _ => i32 x
def okH (h : LH) : Prop := ∀ a i : Int, okX (lkd a i) (rd h a i)
theorem okS_c {v : LV} {st : List LV} (h : okS (v :: st)) : okV v ∧ okS st := ⟨h v List.mem_cons_self, fun w hw => h w (List.mem_cons_of_mem _ hw)⟩
theorem okS_i {v : LV} {st : List LV} (h1 : okV v) (h2 : okS st) : okS (v :: st) := fun w hw => (List.mem_cons.mp hw).elim (fun e => e ▸ h1) (h2 w)
theorem okH_nil : okH [] := fun a i => by
  show okX (lkd a i) 0
  unfold okX
  split
  · exact z64
  · trivial
  · exact z32
theorem okH_wr {h : LH} {a i v : Int} (hh : okH h) (hv : okX (lkd a i) v) : okH (wr h a i v) := fun b j => by
  rw [rd_wr]
  split
  · next e => obtain ⟨rfl, rfl⟩ := e; exact hv
  · exact hh b j
theorem okV_mkv {k : Nat} {x : Int} (h : okX k x) : okV (mkv k x) := by
  unfold mkv
  unfold okX at h
  split <;> simp_all [okV]
def lasc (B b sA : Nat) (ls : LL) : List (Nat × Value) := (List.range ls.length).filterMap (fun i => (lget ls i).map (fun v => (i, cv B b sA v)))
theorem lget_lt {ls : LL} {i : Nat} {v : LV} (h : lget ls i = some v) : i < ls.length := by
  unfold lget at h
  cases e : ls[i]? with
  | none => rw [e] at h; cases h
  | some q => exact (List.getElem?_eq_some_iff.mp e).1
theorem lasc_mem {B b sA : Nat} {ls : LL} {q : Nat × Value} : q ∈ lasc B b sA ls ↔ ∃ v, lget ls q.1 = some v ∧ q.2 = cv B b sA v := by
  unfold lasc
  simp only [List.mem_filterMap, List.mem_range, Option.map_eq_some_iff]
  constructor
  · rintro ⟨i, hi, v, hv, rfl⟩
    exact ⟨v, hv, rfl⟩
  · rintro ⟨v, hv, he⟩
    exact ⟨q.1, lget_lt hv, v, hv, by rw [← he]⟩
theorem lv_mono {ls : Array Slot} {nL : Nat} {l l' : List (Nat × Value)} (h : lv_has ls nL l) (hm : ∀ q ∈ l', q ∈ l) : lv_has ls nL l' := ⟨h.1, h.2.1, fun q hq => h.2.2 q (hm q hq)⟩
def lvR (B b sA : Nat) (sl : Array Slot) (nL : Nat) (ls : LL) : Prop := ls.length = nL ∧ lv_has sl nL (lasc B b sA ls)
theorem lvR_get {B b sA : Nat} {sl : Array Slot} {nL : Nat} {ls : LL} (h : lvR B b sA sl nL ls) {i : Nat} {v : LV} (hv : lget ls i = some v) : sl[i]? = some (.val (cv B b sA v)) := h.2.2.2 (i, cv B b sA v) (lasc_mem.mpr ⟨v, hv, rfl⟩)
theorem cv_cat (B b sA : Nat) (v : LV) : (cv B b sA v).category = vcat v := by
  unfold cv vcat isL
  split
  · rfl
  · rfl
  · simp only
    split
    · rfl
    · split
      · rfl
      · split <;> rfl
theorem lcat_cv (B b sA : Nat) (st : List LV) : ((st.map (cv B b sA)).map fun v => v.category).sum = lcat st := by
  unfold lcat
  rw [List.map_map]
  congr 1
  apply List.map_congr_left
  intro v _
  exact cv_cat B b sA v
theorem lget_set_ne {ls : LL} {i j : Nat} {x : Option LV} (h : i ≠ j) : lget (ls.set i x) j = lget ls j := by
  unfold lget
  rw [List.getElem?_set_ne h]
theorem lget_set_eq {ls : LL} {i : Nat} {x : Option LV} (h : i < ls.length) : lget (ls.set i x) i = x := by
  unfold lget
  rw [List.getElem?_set_self h]
  rfl
theorem lkill_len (ls : LL) (i : Nat) : (lkill ls i).length = ls.length := by
  unfold lkill
  split
  · rfl
  · split
    · split
      · exact List.length_set
      · rfl
    · rfl
theorem lst_len (ls : LL) (i : Nat) (v : LV) : (lst ls i v).length = ls.length := by
  unfold lst
  split
  · rw [List.length_set, List.length_set, lkill_len]
  · rw [List.length_set, lkill_len]
theorem lkill_get {ls : LL} {i j : Nat} {v : LV} (h : lget (lkill ls i) j = some v) : lget ls j = some v ∧ ¬ (j + 1 = i ∧ isL v = true) := by
  unfold lkill at h
  split at h
  · exact ⟨h, fun q => by omega⟩
  · next k =>
    split at h
    · next w hw =>
      split at h
      · next hl =>
        by_cases e : k = j
        · subst e
          rw [lget_set_eq (lget_lt hw)] at h
          cases h
        · rw [lget_set_ne e] at h
          exact ⟨h, fun q => e (by omega)⟩
      · next hl =>
        refine ⟨h, fun q => ?_⟩
        have e : j = k := by omega
        subst e
        rw [hw] at h
        cases h
        exact hl q.2
    · next hw =>
      refine ⟨h, fun q => ?_⟩
      have e : j = k := by omega
      subst e
      rw [hw] at h
      cases h
theorem lst_get {ls : LL} {i j : Nat} {v w : LV} (hi : i < ls.length) (h : lget (lst ls i v) j = some w) : (j = i ∧ w = v) ∨ (j ≠ i ∧ lget ls j = some w ∧ ¬ (j + 1 = i ∧ isL w = true) ∧ (isL v = true → j ≠ i + 1)) := by
  have hk : i < (lkill ls i).length := by rw [lkill_len]; exact hi
  unfold lst at h
  split at h
  · next hl =>
    have e1 : j ≠ i + 1 := by
      intro e
      subst e
      by_cases hlt : i + 1 < ls.length
      · rw [lget_set_eq (by rw [List.length_set, lkill_len]; exact hlt)] at h
        cases h
      · have := lget_lt h
        rw [List.length_set, List.length_set, lkill_len] at this
        exact hlt this
    rw [lget_set_ne (Ne.symm e1)] at h
    by_cases e : j = i
    · subst e
      rw [lget_set_eq hk] at h
      cases h
      exact Or.inl ⟨rfl, rfl⟩
    · rw [lget_set_ne (Ne.symm e)] at h
      exact Or.inr ⟨e, (lkill_get h).1, (lkill_get h).2, fun _ => e1⟩
  · next hl =>
    by_cases e : j = i
    · subst e
      rw [lget_set_eq hk] at h
      cases h
      exact Or.inl ⟨rfl, rfl⟩
    · rw [lget_set_ne (Ne.symm e)] at h
      exact Or.inr ⟨e, (lkill_get h).1, (lkill_get h).2, fun q => absurd q hl⟩
theorem okL_lst {ls : LL} {i : Nat} {v : LV} (hi : i < ls.length) (h : okL ls) (hv : okV v) : okL (lst ls i v) := by
  intro j w hw
  rcases lst_get hi hw with ⟨-, rfl⟩ | ⟨-, h2, -⟩
  · exact hv
  · exact h j w h2
theorem lvR_1 {B b sA : Nat} {sl sl' : Array Slot} {nL : Nat} {ls : LL} {i : Nat} {v : LV} (hi : i < ls.length) (h : lvR B b sA sl nL ls) (h' : lv_has sl' nL ((i, cv B b sA v) :: (lasc B b sA ls).filter (fun q => !(q.1 == i) && !(q.1 + 1 == i && q.2.category == 2)))) (hv : isL v = false) : lvR B b sA sl' nL (lst ls i v) := by
  refine ⟨by rw [lst_len]; exact h.1, lv_mono h' fun q hq => ?_⟩
  obtain ⟨w, h1, h2⟩ := lasc_mem.mp hq
  rcases lst_get hi h1 with ⟨e1, rfl⟩ | ⟨e1, e2, e3, -⟩
  · rw [show q = (i, cv B b sA w) from Prod.ext e1 h2]
    exact List.mem_cons_self
  · refine List.mem_cons_of_mem _ (List.mem_filter.mpr ⟨lasc_mem.mpr ⟨w, e2, h2⟩, ?_⟩)
    rw [h2, cv_cat]
    unfold vcat
    cases hw : isL w
    · simp [e1]
    · have : q.1 + 1 ≠ i := fun e => e3 ⟨e, hw⟩
      simp [e1, this]
theorem lvR_2 {B b sA : Nat} {sl sl' : Array Slot} {nL : Nat} {ls : LL} {i : Nat} {v : LV} (hi : i < ls.length) (h : lvR B b sA sl nL ls) (h' : lv_has sl' nL ((i, cv B b sA v) :: (lasc B b sA ls).filter (fun q => !(q.1 == i) && (!(q.1 == i + 1) && !(q.1 + 1 == i && q.2.category == 2))))) (hv : isL v = true) : lvR B b sA sl' nL (lst ls i v) := by
  refine ⟨by rw [lst_len]; exact h.1, lv_mono h' fun q hq => ?_⟩
  obtain ⟨w, h1, h2⟩ := lasc_mem.mp hq
  rcases lst_get hi h1 with ⟨e1, rfl⟩ | ⟨e1, e2, e3, e4⟩
  · rw [show q = (i, cv B b sA w) from Prod.ext e1 h2]
    exact List.mem_cons_self
  · refine List.mem_cons_of_mem _ (List.mem_filter.mpr ⟨lasc_mem.mpr ⟨w, e2, h2⟩, ?_⟩)
    have e5 := e4 hv
    rw [h2, cv_cat]
    unfold vcat
    cases hw : isL w
    · simp [e1, e5]
    · have : q.1 + 1 ≠ i := fun e => e3 ⟨e, hw⟩
      simp [e1, e5, this]
-- the locals with which a method begins
theorem lent_args (B b sA : Nat) : ∀ (as : List LV) (k : Nat) (i : Nat) (v : LV), lget (lent as) i = some v → (k + i, cv B b sA v) ∈ lv_args k (as.map (cv B b sA))
  | [], k, i, v, h => by simp [lent, lget] at h
  | a :: as, k, i, v, h => by
    have ih := lent_args B b sA as
    unfold lent at h
    rw [List.map_cons, lv_args, cv_cat]
    unfold vcat
    split at h
    · next hl =>
      rw [if_pos hl, if_pos rfl]
      match i, h with
      | 0, h =>
        have e : a = v := by simpa [lget] using h
        subst e
        exact List.mem_cons_self
      | 1, h => simp [lget] at h
      | i + 2, h =>
        have := ih (k + 2) i v (by simpa [lget] using h)
        rw [show k + (i + 2) = k + 2 + i by omega]
        exact List.mem_cons_of_mem _ this
    · next hl =>
      rw [if_neg hl, if_neg (by omega)]
      match i, h with
      | 0, h =>
        have e : a = v := by simpa [lget] using h
        subst e
        exact List.mem_cons_self
      | i + 1, h =>
        have := ih (k + 1) i v (by simpa [lget] using h)
        rw [show k + (i + 1) = k + 1 + i by omega]
        exact List.mem_cons_of_mem _ this
theorem lent_len (B b sA : Nat) : ∀ as : List LV, (lg_sl (as.map (cv B b sA))).length = (lent as).length
  | [] => rfl
  | a :: as => by
    have ih := lent_len B b sA as
    unfold lg_sl at ih ⊢
    rw [List.map_cons, List.flatMap_cons, List.length_append, ih, cv_cat, lent.eq_2]
    unfold vcat
    cases isL a <;> simp <;> omega
theorem lget_pad {n : Nat} {ls : LL} {i : Nat} {v : LV} (h : lget (lpad n ls) i = some v) : lget ls i = some v := by
  unfold lpad lget at h
  unfold lget
  by_cases hi : i < ls.length
  · rw [List.getElem?_append_left hi] at h
    exact h
  · rw [List.getElem?_append_right (by omega), List.getElem?_replicate] at h
    split at h <;> cases h
theorem lent_ok {as : List LV} (h : okS as) : okL (lent as) := by
  intro i v hv
  induction as generalizing i with
  | nil => simp [lent, lget] at hv
  | cons a as ih =>
    obtain ⟨h1, h2⟩ := okS_c h
    unfold lent at hv
    split at hv
    · match i, hv with
      | 0, hv => have e : a = v := by simpa [lget] using hv
                 rw [← e]; exact h1
      | 1, hv => simp [lget] at hv
      | i + 2, hv => exact ih h2 i (by simpa [lget] using hv)
    · match i, hv with
      | 0, hv => have e : a = v := by simpa [lget] using hv
                 rw [← e]; exact h1
      | i + 1, hv => exact ih h2 i (by simpa [lget] using hv)
theorem lent_okL {as : List LV} (h : okS as) (n : Nat) : okL (lpad n (lent as)) := fun i v hv => lent_ok h i v (lget_pad hv)
theorem lvR_entry (B b sA : Nat) {as : List LV} {n : Nat} (h : (lent as).length ≤ n) : lvR B b sA ((lg_sl (as.map (cv B b sA)) ++ List.replicate (n - (lg_sl (as.map (cv B b sA))).length) Slot.unset).toArray) n (lpad n (lent as)) := by
  refine ⟨by unfold lpad; simp; omega, lv_mono (lv_entry (as.map (cv B b sA)) (n := n) (by rw [lent_len]; exact h)) fun q hq => ?_⟩
  obtain ⟨v, h1, h2⟩ := lasc_mem.mp hq
  have := lent_args B b sA as 0 q.1 v (lget_pad h1)
  rw [Nat.zero_add] at this
  rw [show q = (q.1, cv B b sA v) from Prod.ext rfl h2]
  exact this
