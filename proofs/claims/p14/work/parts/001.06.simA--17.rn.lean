section
/-! LM, part 6: values, locals, jumps on the machine -/
section SA
variable {p : Program} {l : Launch} {e : Env} {R : Room} {s : State} {m : MethodId} {args : Array Value} {below : List Frame} {meth : Method} {c : Code} {H : Heap} {locs : List Loc} {cells slots : Nat} {Q : State → Prop}
variable {cc : ByteArray} {pc : Nat} {sl : Array Slot} {B b sA : Nat}
theorem some_i {α : Type} {a b : α} (h : some a = some b) : b = a := (Option.some.inj h).symm
set_option maxHeartbeats 4000000 in
theorem sim_A (hx : p.tables.exec = Jvm.exec) (hb : c.code = cc) {i : Instr} {len : Nat} {st st' : List LV} (h : lmA i st = some st') (hlen : ilen i len = true) (hd : decode cc pc = .ok (i, len)) (hst : okS st)
    (k : okS st' → W p l e R s m args below meth c H locs cells slots Q (F0 m (pc + len) sl (st'.map (cv B b sA)))) :
    W p l e R s m args below meth c H locs cells slots Q (F0 m pc sl (st.map (cv B b sA))) := by
  have one : ∀ {n : Nat}, (n == 1) = true → n = 1 := fun h => by simpa using h
  cases i with
  | iconst v =>
    simp only [lmA] at h
    split at h
    · next hv =>
      cases some_i h
      cases one hlen
      exact lv_iconst hx hb hd rfl (k (okS_i (by show i32 v; unfold i32; omega) hst))
    · cases h
  | bipush v =>
    simp only [lmA] at h
    split at h
    · next hv =>
      cases some_i h
      have e : len = 2 := by simpa [ilen] using hlen
      subst e
      refine lv_bipush hx hb (v := Int32.ofInt v) hd ?_ (k (okS_i (by show i32 v; unfold i32; omega) hst))
      refine x_eq ?_
      rw [Int8.toInt_toInt32, Int8.toInt_ofInt_of_le (by omega) (by omega)]
    · cases h
  | sipush v =>
    simp only [lmA] at h
    split at h
    · next hv =>
      cases some_i h
      have e : len = 3 := by simpa [ilen] using hlen
      subst e
      refine lv_sipush hx hb (v := Int32.ofInt v) hd ?_ (k (okS_i (by show i32 v; unfold i32; omega) hst))
      refine x_eq ?_
      rw [Int16.toInt_toInt32, Int16.toInt_ofInt_of_le (by omega) (by omega)]
    · cases h
  | lconst v =>
    simp only [lmA] at h
    cases some_i h
    cases one hlen
    refine lv_lconst hx hb (v := Int64.ofInt (v.val : Int)) hd rfl (k (okS_i (by show i64 _; unfold i64; have := v.isLt; omega) hst))
  | iadd =>
    simp only [lmA] at h
    split at h
    · next y x r =>
      cases some_i h; cases one hlen
      obtain ⟨h1, h2⟩ := okS_c hst
      obtain ⟨h3, h4⟩ := okS_c h2
      refine lv_iadd hx hb hd ?_
      rw [o_add h3 h1]
      exact k (okS_i (w32_in _) h4)
    · cases h
  | isub =>
    simp only [lmA] at h
    split at h
    · next y x r =>
      cases some_i h; cases one hlen
      obtain ⟨h1, h2⟩ := okS_c hst
      obtain ⟨h3, h4⟩ := okS_c h2
      refine lv_isub hx hb hd ?_
      rw [o_sub h3 h1]
      exact k (okS_i (w32_in _) h4)
    · cases h
  | imul =>
    simp only [lmA] at h
    split at h
    · next y x r =>
      cases some_i h; cases one hlen
      obtain ⟨h1, h2⟩ := okS_c hst
      obtain ⟨h3, h4⟩ := okS_c h2
      refine lv_imul hx hb hd ?_
      rw [o_mul h3 h1]
      exact k (okS_i (w32_in _) h4)
    · cases h
  | idiv =>
    simp only [lmA] at h
    split at h
    · next y x r =>
      split at h
      · cases h
      · next hy =>
        cases some_i h; cases one hlen
        obtain ⟨h1, h2⟩ := okS_c hst
        obtain ⟨h3, h4⟩ := okS_c h2
        refine lv_idiv hx hb hd (fun q => hy ((o_eq h1 z32).mp q)) ?_
        rw [o_div h3 h1]
        exact k (okS_i (w32_in _) h4)
    · cases h
  | irem =>
    simp only [lmA] at h
    split at h
    · next y x r =>
      split at h
      · cases h
      · next hy =>
        cases some_i h; cases one hlen
        obtain ⟨h1, h2⟩ := okS_c hst
        obtain ⟨h3, h4⟩ := okS_c h2
        refine lv_irem hx hb hd (fun q => hy ((o_eq h1 z32).mp q)) ?_
        rw [o_div h3 h1, o_mul (w32_in _) h1, o_sub h3 (w32_in _)]
        exact k (okS_i (w32_in _) h4)
    · cases h
  | ineg =>
    simp only [lmA] at h
    split at h
    · next x r =>
      cases some_i h; cases one hlen
      obtain ⟨h1, h2⟩ := okS_c hst
      refine lv_ineg hx hb hd ?_
      rw [o_neg h1]
      exact k (okS_i (w32_in _) h2)
    · cases h
  | iand =>
    simp only [lmA] at h
    split at h
    · next y x r =>
      cases some_i h; cases one hlen
      obtain ⟨h1, h2⟩ := okS_c hst
      obtain ⟨h3, h4⟩ := okS_c h2
      refine lv_iand hx hb hd ?_
      rw [x_eq (x := Int32.ofInt x &&& Int32.ofInt y) (a := zand x y) rfl]
      exact k (okS_i (x_in _) h4)
    · cases h
  | ior =>
    simp only [lmA] at h
    split at h
    · next y x r =>
      cases some_i h; cases one hlen
      obtain ⟨h1, h2⟩ := okS_c hst
      obtain ⟨h3, h4⟩ := okS_c h2
      refine lv_ior hx hb hd ?_
      rw [x_eq (x := Int32.ofInt x ||| Int32.ofInt y) (a := zor x y) rfl]
      exact k (okS_i (x_in _) h4)
    · cases h
  | ixor =>
    simp only [lmA] at h
    split at h
    · next y x r =>
      cases some_i h; cases one hlen
      obtain ⟨h1, h2⟩ := okS_c hst
      obtain ⟨h3, h4⟩ := okS_c h2
      refine lv_ixor hx hb hd ?_
      rw [x_eq (x := Int32.ofInt x ^^^ Int32.ofInt y) (a := zxor x y) rfl]
      exact k (okS_i (x_in _) h4)
    · cases h
  | ishl =>
    simp only [lmA] at h
    split at h
    · next y x r =>
      cases some_i h; cases one hlen
      obtain ⟨h1, h2⟩ := okS_c hst
      obtain ⟨h3, h4⟩ := okS_c h2
      refine lv_ishl hx hb hd ?_
      rw [x_eq (x := Int32.ofInt x <<< (Int32.ofInt y &&& 31)) (a := zshl x y) rfl]
      exact k (okS_i (x_in _) h4)
    · cases h
  | ishr =>
    simp only [lmA] at h
    split at h
    · next y x r =>
      cases some_i h; cases one hlen
      obtain ⟨h1, h2⟩ := okS_c hst
      obtain ⟨h3, h4⟩ := okS_c h2
      refine lv_ishr hx hb hd ?_
      rw [x_eq (x := Int32.ofInt x >>> (Int32.ofInt y &&& 31)) (a := zshr x y) rfl]
      exact k (okS_i (x_in _) h4)
    · cases h
  | iushr =>
    simp only [lmA] at h
    split at h
    · next y x r =>
      cases some_i h; cases one hlen
      obtain ⟨h1, h2⟩ := okS_c hst
      obtain ⟨h3, h4⟩ := okS_c h2
      refine lv_iushr hx hb hd (v := Int32.ofInt (zushr x y)) (x_eq rfl) ?_
      exact k (okS_i (x_in _) h4)
    · cases h
  | ladd =>
    simp only [lmA] at h
    split at h
    · next y x r =>
      cases some_i h; cases one hlen
      obtain ⟨h1, h2⟩ := okS_c hst
      obtain ⟨h3, h4⟩ := okS_c h2
      refine lv_ladd hx hb hd ?_
      rw [p_add h3 h1]
      exact k (okS_i (w64_in _) h4)
    · cases h
  | lsub =>
    simp only [lmA] at h
    split at h
    · next y x r =>
      cases some_i h; cases one hlen
      obtain ⟨h1, h2⟩ := okS_c hst
      obtain ⟨h3, h4⟩ := okS_c h2
      refine lv_lsub hx hb hd ?_
      rw [p_sub h3 h1]
      exact k (okS_i (w64_in _) h4)
    · cases h
  | lmul =>
    simp only [lmA] at h
    split at h
    · next y x r =>
      cases some_i h; cases one hlen
      obtain ⟨h1, h2⟩ := okS_c hst
      obtain ⟨h3, h4⟩ := okS_c h2
      refine lv_lmul hx hb hd ?_
      rw [p_mul h3 h1]
      exact k (okS_i (w64_in _) h4)
    · cases h
  | ldiv =>
    simp only [lmA] at h
    split at h
    · next y x r =>
      split at h
      · cases h
      · next hy =>
        cases some_i h; cases one hlen
        obtain ⟨h1, h2⟩ := okS_c hst
        obtain ⟨h3, h4⟩ := okS_c h2
        refine lv_ldiv hx hb hd (fun q => hy ((p_eq h1 z64).mp q)) ?_
        rw [p_div h3 h1]
        exact k (okS_i (w64_in _) h4)
    · cases h
  | lrem =>
    simp only [lmA] at h
    split at h
    · next y x r =>
      split at h
      · cases h
      · next hy =>
        cases some_i h; cases one hlen
        obtain ⟨h1, h2⟩ := okS_c hst
        obtain ⟨h3, h4⟩ := okS_c h2
        refine lv_lrem hx hb hd (fun q => hy ((p_eq h1 z64).mp q)) ?_
        rw [p_div h3 h1, p_mul (w64_in _) h1, p_sub h3 (w64_in _)]
        exact k (okS_i (w64_in _) h4)
    · cases h
  | land =>
    simp only [lmA] at h
    split at h
    · next y x r =>
      cases some_i h; cases one hlen
      obtain ⟨h1, h2⟩ := okS_c hst
      obtain ⟨h3, h4⟩ := okS_c h2
      refine lv_land hx hb hd ?_
      rw [y_eq (x := Int64.ofInt x &&& Int64.ofInt y) (a := land_ x y) rfl]
      exact k (okS_i (y_in _) h4)
    · cases h
  | lor =>
    simp only [lmA] at h
    split at h
    · next y x r =>
      cases some_i h; cases one hlen
      obtain ⟨h1, h2⟩ := okS_c hst
      obtain ⟨h3, h4⟩ := okS_c h2
      refine lv_lor hx hb hd ?_
      rw [y_eq (x := Int64.ofInt x ||| Int64.ofInt y) (a := lor_ x y) rfl]
      exact k (okS_i (y_in _) h4)
    · cases h
  | lshl =>
    simp only [lmA] at h
    split at h
    · next y x r =>
      cases some_i h; cases one hlen
      obtain ⟨h1, h2⟩ := okS_c hst
      obtain ⟨h3, h4⟩ := okS_c h2
      exact lv_lshl hx hb hd (v := Int64.ofInt (lshl_ x y)) (y_eq rfl) (k (okS_i (y_in _) h4))
    · cases h
  | lshr =>
    simp only [lmA] at h
    split at h
    · next y x r =>
      cases some_i h; cases one hlen
      obtain ⟨h1, h2⟩ := okS_c hst
      obtain ⟨h3, h4⟩ := okS_c h2
      exact lv_lshr hx hb hd (v := Int64.ofInt (lshr_ x y)) (y_eq rfl) (k (okS_i (y_in _) h4))
    · cases h
  | lushr =>
    simp only [lmA] at h
    split at h
    · next y x r =>
      cases some_i h; cases one hlen
      obtain ⟨h1, h2⟩ := okS_c hst
      obtain ⟨h3, h4⟩ := okS_c h2
      exact lv_lushr hx hb hd (v := Int64.ofInt (lushr_ x y)) (y_eq rfl) (k (okS_i (y_in _) h4))
    · cases h
  | lcmp =>
    simp only [lmA] at h
    split at h
    · next y x r =>
      cases some_i h; cases one hlen
      obtain ⟨h1, h2⟩ := okS_c hst
      obtain ⟨h3, h4⟩ := okS_c h2
      refine W.lcmp hx hb hd ?_
      rw [o_cmp h3 h1]
      exact k (okS_i (lcmp_in _ _) h4)
    · cases h
  | i2l =>
    simp only [lmA] at h
    split at h
    · next x r =>
      cases some_i h; cases one hlen
      obtain ⟨h1, h2⟩ := okS_c hst
      exact lv_i2l hx hb hd (o_i2l h1) (k (okS_i (i32_64 h1) h2))
    · cases h
  | l2i =>
    simp only [lmA] at h
    split at h
    · next x r =>
      cases some_i h; cases one hlen
      obtain ⟨h1, h2⟩ := okS_c hst
      exact lv_l2i hx hb hd (o_l2i h1) (k (okS_i (w32_in _) h2))
    · cases h
  | i2b =>
    simp only [lmA] at h
    split at h
    · next x r =>
      cases some_i h; cases one hlen
      obtain ⟨h1, h2⟩ := okS_c hst
      exact lv_i2b hx hb hd (x_eq rfl) (k (okS_i (x_in _) h2))
    · cases h
  | i2c =>
    simp only [lmA] at h
    split at h
    · next x r =>
      cases some_i h; cases one hlen
      obtain ⟨h1, h2⟩ := okS_c hst
      exact lv_i2c hx hb hd (x_eq rfl) (k (okS_i (x_in _) h2))
    · cases h
  | dup =>
    simp only [lmA] at h
    split at h
    · next x r =>
      split at h
      · cases h
      · next hl =>
        cases some_i h; cases one hlen
        obtain ⟨h1, h2⟩ := okS_c hst
        exact lv_dup hx hb hd (by rw [cv_cat]; simp [vcat, hl]) (k (okS_i h1 hst))
    · cases h
  | pop =>
    simp only [lmA] at h
    split at h
    · next x r =>
      split at h
      · cases h
      · next hl =>
        cases some_i h; cases one hlen
        obtain ⟨h1, h2⟩ := okS_c hst
        exact lv_pop hx hb hd (by rw [cv_cat]; simp [vcat, hl]) (k h2)
    · cases h
  | dup2 =>
    simp only [lmA] at h
    split at h
    · next y x r =>
      split at h
      · cases h
      · next hl =>
        cases some_i h; cases one hlen
        obtain ⟨h1, h2⟩ := okS_c hst
        obtain ⟨h3, h4⟩ := okS_c h2
        simp only [Bool.or_eq_true, not_or, Bool.not_eq_true] at hl
        exact lv_dup2_11 hx hb hd (by rw [cv_cat]; simp [vcat, hl.2]) (by rw [cv_cat]; simp [vcat, hl.1]) (k (okS_i h1 (okS_i h3 hst)))
    · cases h
  | _ => simp only [lmA] at h; cases h
end SA
end
section
/-! LM, part 7: locals and jumps on the machine -/
section SL
variable {p : Program} {l : Launch} {e : Env} {R : Room} {s : State} {m : MethodId} {args : Array Value} {below : List Frame} {meth : Method} {c : Code} {H : Heap} {locs : List Loc} {cells slots : Nat} {Q : State → Prop}
variable {cc : ByteArray} {pc : Nat} {sl : Array Slot} {B b sA nL : Nat}
theorem fil {α : Type} {o : Option α} {f : α → Bool} {v : α} (h : o.filter f = some v) : o = some v ∧ f v = true := by
  cases o with
  | none => cases h
  | some w =>
    simp only [Option.filter] at h
    split at h
    · next hf => cases h; exact ⟨rfl, hf⟩
    · cases h
theorem isI_v {v : LV} (h : isI v = true) : ∃ x, v = .inl x := by
  match v, h with
  | .inl x, _ => exact ⟨x, rfl⟩
theorem isL_v {v : LV} (h : isL v = true) : ∃ x, v = .inr (.inl x) := by
  match v, h with
  | .inr (.inl x), _ => exact ⟨x, rfl⟩
theorem isR_v {v : LV} (h : isR v = true) : ∃ x, v = .inr (.inr x) := by
  match v, h with
  | .inr (.inr x), _ => exact ⟨x, rfl⟩
theorem cv_ref (B b sA : Nat) (a : Int) : cv B b sA (.inr (.inr a)) = .null ∨ ∃ q, cv B b sA (.inr (.inr a)) = .ref q := by
  by_cases h0 : a = 0
  · left; simp [cv, h0]
  · right
    by_cases h1 : a = -1
    · exact ⟨sA, by simp [cv, h1]⟩
    · by_cases h2 : a = -2
      · exact ⟨b, by simp [cv, h2]⟩
      · exact ⟨_, by simp only [cv, if_neg h0, if_neg h1, if_neg h2]; rfl⟩
set_option maxHeartbeats 4000000 in
theorem sim_Ld (hx : p.tables.exec = Jvm.exec) (hb : c.code = cc) {i : Instr} {len : Nat} {st : List LV} {ls : LL} {v : LV} (h : lmLd i ls = some v) (hlen : ilen i len = true) (hd : decode cc pc = .ok (i, len)) (hst : okS st) (hls : okL ls) (hr : lvR B b sA sl nL ls)
    (k : okS (v :: st) → W p l e R s m args below meth c H locs cells slots Q (F0 m (pc + len) sl ((v :: st).map (cv B b sA)))) :
    W p l e R s m args below meth c H locs cells slots Q (F0 m pc sl (st.map (cv B b sA))) := by
  have one : ∀ {n : Nat}, (n == 1) = true → n = 1 := fun h => by simpa using h
  have two : ∀ {n : Nat}, (n == 2) = true → n = 2 := fun h => by simpa using h
  cases i with
  | iload j =>
    simp only [lmLd] at h
    obtain ⟨h1, h2⟩ := fil h
    obtain ⟨x, rfl⟩ := isI_v h2
    cases two hlen
    exact lv_iload hx hb hd (lvR_get hr h1) (k (okS_i (hls _ _ h1) hst))
  | iload_n j =>
    simp only [lmLd] at h
    obtain ⟨h1, h2⟩ := fil h
    obtain ⟨x, rfl⟩ := isI_v h2
    cases one hlen
    exact lv_iload_n hx hb hd rfl (lvR_get hr h1) (k (okS_i (hls _ _ h1) hst))
  | lload j =>
    simp only [lmLd] at h
    obtain ⟨h1, h2⟩ := fil h
    obtain ⟨x, rfl⟩ := isL_v h2
    cases two hlen
    exact lv_lload hx hb hd (lvR_get hr h1) (k (okS_i (hls _ _ h1) hst))
  | lload_n j =>
    simp only [lmLd] at h
    obtain ⟨h1, h2⟩ := fil h
    obtain ⟨x, rfl⟩ := isL_v h2
    cases one hlen
    exact lv_lload_n hx hb hd rfl (lvR_get hr h1) (k (okS_i (hls _ _ h1) hst))
  | aload j =>
    simp only [lmLd] at h
    obtain ⟨h1, h2⟩ := fil h
    obtain ⟨x, rfl⟩ := isR_v h2
    cases two hlen
    have h3 := lvR_get hr h1
    have h4 := k (okS_i (hls _ _ h1) hst)
    rw [List.map_cons] at h4
    rcases cv_ref B b sA x with q | ⟨a, q⟩
    · rw [q] at h3 h4
      exact lv_aloadN hx hb hd h3 h4
    · rw [q] at h3 h4
      exact lv_aload hx hb hd h3 h4
  | aload_n j =>
    simp only [lmLd] at h
    obtain ⟨h1, h2⟩ := fil h
    obtain ⟨x, rfl⟩ := isR_v h2
    cases one hlen
    have h3 := lvR_get hr h1
    have h4 := k (okS_i (hls _ _ h1) hst)
    rw [List.map_cons] at h4
    rcases cv_ref B b sA x with q | ⟨a, q⟩
    · rw [q] at h3 h4
      exact lv_aload_nN hx hb hd rfl h3 h4
    · rw [q] at h3 h4
      exact lv_aload_n hx hb hd rfl h3 h4
  | _ => simp only [lmLd] at h; cases h
set_option maxHeartbeats 4000000 in
theorem sim_St (hx : p.tables.exec = Jvm.exec) (hb : c.code = cc) {i : Instr} {len : Nat} {st : List LV} {ls : LL} {v : LV} {j : Nat} (h : lmSt i v = some j) (hj : j + (if isL v then 1 else 0) < ls.length) (hlen : ilen i len = true) (hd : decode cc pc = .ok (i, len)) (hst : okS (v :: st)) (hls : okL ls) (hr : lvR B b sA sl nL ls)
    (k : ∀ sl' : Array Slot, okS st → okL (lst ls j v) → lvR B b sA sl' nL (lst ls j v) → W p l e R s m args below meth c H locs cells slots Q (F0 m (pc + len) sl' (st.map (cv B b sA)))) :
    W p l e R s m args below meth c H locs cells slots Q (F0 m pc sl ((v :: st).map (cv B b sA))) := by
  have one : ∀ {n : Nat}, (n == 1) = true → n = 1 := fun h => by simpa using h
  have two : ∀ {n : Nat}, (n == 2) = true → n = 2 := fun h => by simpa using h
  obtain ⟨h1, h2⟩ := okS_c hst
  have hn := hr.1
  have hj1 : j < ls.length := by omega
  have ok := okL_lst hj1 hls h1
  have K1 : isL v = false → ∀ sl' : Array Slot, lv_has sl' nL ((j, cv B b sA v) :: (lasc B b sA ls).filter (fun q => !(q.1 == j) && !(q.1 + 1 == j && q.2.category == 2))) → W p l e R s m args below meth c H locs cells slots Q (F0 m (pc + len) sl' (st.map (cv B b sA))) := fun hv sl' h' => k sl' h2 ok (lvR_1 hj1 hr h' hv)
  have K2 : isL v = true → ∀ sl' : Array Slot, lv_has sl' nL ((j, cv B b sA v) :: (lasc B b sA ls).filter (fun q => !(q.1 == j) && (!(q.1 == j + 1) && !(q.1 + 1 == j && q.2.category == 2)))) → W p l e R s m args below meth c H locs cells slots Q (F0 m (pc + len) sl' (st.map (cv B b sA))) := fun hv sl' h' => k sl' h2 ok (lvR_2 hj1 hr h' hv)
  cases i with
  | istore q =>
    simp only [lmSt] at h
    split at h
    · next hi =>
      obtain ⟨x, rfl⟩ := isI_v hi
      cases some_i h
      cases two hlen
      exact lv_istore hx hb hd hr.2 (by omega) rfl (K1 rfl)
    · cases h
  | istore_n q =>
    simp only [lmSt] at h
    split at h
    · next hi =>
      obtain ⟨x, rfl⟩ := isI_v hi
      cases some_i h
      cases one hlen
      exact lv_istore_n hx hb hd rfl hr.2 (by omega) rfl (K1 rfl)
    · cases h
  | lstore q =>
    simp only [lmSt] at h
    split at h
    · next hi =>
      obtain ⟨x, rfl⟩ := isL_v hi
      cases some_i h
      cases two hlen
      exact lv_lstore hx hb hd hr.2 (by simp [isL] at hj; omega) rfl (K2 rfl)
    · cases h
  | lstore_n q =>
    simp only [lmSt] at h
    split at h
    · next hi =>
      obtain ⟨x, rfl⟩ := isL_v hi
      cases some_i h
      cases one hlen
      exact lv_lstore_n hx hb hd rfl hr.2 (by simp [isL] at hj; omega) rfl (K2 rfl)
    · cases h
  | astore q =>
    simp only [lmSt] at h
    split at h
    · next hi =>
      obtain ⟨x, rfl⟩ := isR_v hi
      cases some_i h
      cases two hlen
      have K := K1 rfl
      rw [List.map_cons]
      rcases cv_ref B b sA x with z | ⟨a, z⟩
      · rw [z] at K ⊢
        exact lv_astoreN hx hb hd hr.2 (by omega) rfl K
      · rw [z] at K ⊢
        exact lv_astore hx hb hd hr.2 (by omega) rfl K
    · cases h
  | astore_n q =>
    simp only [lmSt] at h
    split at h
    · next hi =>
      obtain ⟨x, rfl⟩ := isR_v hi
      cases some_i h
      cases one hlen
      have K := K1 rfl
      rw [List.map_cons]
      rcases cv_ref B b sA x with z | ⟨a, z⟩
      · rw [z] at K ⊢
        exact lv_astore_nN hx hb hd rfl hr.2 (by omega) rfl K
      · rw [z] at K ⊢
        exact lv_astore_n hx hb hd rfl hr.2 (by omega) rfl K
    · cases h
  | _ => simp only [lmSt] at h; cases h
set_option maxHeartbeats 4000000 in
theorem sim_Inc (hx : p.tables.exec = Jvm.exec) (hb : c.code = cc) {i : Instr} {len : Nat} {st : List LV} {ls ls' : LL} (h : lmInc i ls = some ls') (hlen : ilen i len = true) (hd : decode cc pc = .ok (i, len)) (hls : okL ls) (hr : lvR B b sA sl nL ls)
    (k : ∀ sl' : Array Slot, okL ls' → lvR B b sA sl' nL ls' → W p l e R s m args below meth c H locs cells slots Q (F0 m (pc + len) sl' (st.map (cv B b sA)))) :
    W p l e R s m args below meth c H locs cells slots Q (F0 m pc sl (st.map (cv B b sA))) := by
  cases i with
  | iinc j n =>
    simp only [lmInc] at h
    split at h
    · next x hx1 =>
      split at h
      · next hn1 =>
        cases some_i h
        have e : len = 3 := by simpa [ilen] using hlen
        subst e
        have hj := lget_lt hx1
        have hn := hr.1
        obtain ⟨q, hq⟩ := List.getElem?_of_mem (lasc_mem (B := B) (b := b) (sA := sA) (q := (j, cv B b sA (.inl x))).mpr ⟨_, hx1, rfl⟩)
        have hx2 : i32 x := hls _ _ hx1
        refine lv_iinc hx hb hd hr.2 (k := q) hq (v := Int32.ofInt (w32 (x + n))) (o_add hx2 (by unfold i32; omega)) (by omega) rfl (fun sl' h' => k sl' (okL_lst hj hls (w32_in _)) (lvR_1 hj hr h' rfl))
      · cases h
    · cases h
  | _ => simp only [lmInc] at h; cases h
theorem cnd_eq {a b : Int} : cnd .eq a b = true ↔ a = b := by simp [cnd]
theorem cnd_ne {a b : Int} : cnd .ne a b = true ↔ a ≠ b := by simp [cnd]
theorem cnd_lt {a b : Int} : cnd .lt a b = true ↔ a < b := by simp [cnd]
theorem cnd_ge {a b : Int} : cnd .ge a b = true ↔ b ≤ a := by simp [cnd]
theorem cnd_gt {a b : Int} : cnd .gt a b = true ↔ b < a := by simp [cnd]
theorem cnd_le {a b : Int} : cnd .le a b = true ↔ a ≤ b := by simp [cnd]
set_option maxHeartbeats 4000000 in
theorem sim_J (hx : p.tables.exec = Jvm.exec) (hb : c.code = cc) {i : Instr} {len : Nat} {st st' : List LV} {t : Int} (h : lmJ i pc len st = some (t, st')) (ht : 0 ≤ t) (hlen : ilen i len = true) (hd : decode cc pc = .ok (i, len)) (hst : okS st)
    (k : okS st' → W p l e R s m args below meth c H locs cells slots Q (F0 m t.toNat sl (st'.map (cv B b sA)))) :
    W p l e R s m args below meth c H locs cells slots Q (F0 m pc sl (st.map (cv B b sA))) := by
  have three : ∀ {n : Nat}, (n == 3) = true → n = 3 := fun h => by simpa using h
  have tg : (t.toNat : Int) = t := Int.toNat_of_nonneg ht
  cases i with
  | goto off =>
    simp only [lmJ] at h
    cases some_i h
    cases three hlen
    exact lv_goto hx hb hd tg.symm (k hst)
  | ifCond cn off =>
    simp only [lmJ] at h
    split at h
    · next x r =>
      split at h
      · next hoff =>
        cases three hlen
        have to : (pc : Int) + off = ((((pc : Int) + off).toNat : Nat) : Int) := (Int.toNat_of_nonneg hoff).symm
        obtain ⟨h1, h2⟩ := okS_c hst
        have hx1 : i32 x := h1
        by_cases hc : cnd cn x 0 = true
        · rw [if_pos hc] at h
          cases some_i h
          have K := k h2
          cases cn
          · exact lv_if_eq hx hb hd to (fun _ => K) (fun q => absurd ((o_eq hx1 z32).mpr (cnd_eq.mp hc)) q)
          · exact lv_if_ne hx hb hd to (fun _ => K) (fun q => absurd ((o_eq hx1 z32).mp q) (cnd_ne.mp hc))
          · exact lv_if_lt hx hb hd to (fun _ => K) (fun q => absurd ((o_lt hx1 z32).mpr (cnd_lt.mp hc)) q)
          · exact lv_if_ge hx hb hd to (fun _ => K) (fun q => absurd ((o_le z32 hx1).mpr (cnd_ge.mp hc)) q)
          · exact lv_if_gt hx hb hd to (fun _ => K) (fun q => absurd ((o_lt z32 hx1).mpr (cnd_gt.mp hc)) q)
          · exact lv_if_le hx hb hd to (fun _ => K) (fun q => absurd ((o_le hx1 z32).mpr (cnd_le.mp hc)) q)
        · rw [if_neg hc] at h
          cases some_i h
          have K := k h2
          rw [show ((pc : Int) + (3 : Nat)).toNat = pc + 3 by omega] at K
          cases cn
          · exact lv_if_eq hx hb hd to (fun q => absurd (cnd_eq.mpr ((o_eq hx1 z32).mp q)) hc) (fun _ => K)
          · exact lv_if_ne hx hb hd to (fun q => absurd (cnd_ne.mpr (fun z => q ((o_eq hx1 z32).mpr z))) hc) (fun _ => K)
          · exact lv_if_lt hx hb hd to (fun q => absurd (cnd_lt.mpr ((o_lt hx1 z32).mp q)) hc) (fun _ => K)
          · exact lv_if_ge hx hb hd to (fun q => absurd (cnd_ge.mpr ((o_le z32 hx1).mp q)) hc) (fun _ => K)
          · exact lv_if_gt hx hb hd to (fun q => absurd (cnd_gt.mpr ((o_lt z32 hx1).mp q)) hc) (fun _ => K)
          · exact lv_if_le hx hb hd to (fun q => absurd (cnd_le.mpr ((o_le hx1 z32).mp q)) hc) (fun _ => K)
      · cases h
    · cases h
  | if_icmp cn off =>
    simp only [lmJ] at h
    split at h
    · next y x r =>
      split at h
      · next hoff =>
        cases three hlen
        have to : (pc : Int) + off = ((((pc : Int) + off).toNat : Nat) : Int) := (Int.toNat_of_nonneg hoff).symm
        obtain ⟨h1, h2⟩ := okS_c hst
        obtain ⟨h3, h2⟩ := okS_c h2
        have hx1 : i32 x := h3
        have hy1 : i32 y := h1
        by_cases hc : cnd cn x y = true
        · rw [if_pos hc] at h
          cases some_i h
          have K := k h2
          cases cn
          · exact lv_icmp_eq hx hb hd to (fun _ => K) (fun q => absurd ((o_eq hx1 hy1).mpr (cnd_eq.mp hc)) q)
          · exact lv_icmp_ne hx hb hd to (fun _ => K) (fun q => absurd ((o_eq hx1 hy1).mp q) (cnd_ne.mp hc))
          · exact lv_icmp_lt hx hb hd to (fun _ => K) (fun q => absurd ((o_lt hx1 hy1).mpr (cnd_lt.mp hc)) q)
          · exact lv_icmp_ge hx hb hd to (fun _ => K) (fun q => absurd ((o_le hy1 hx1).mpr (cnd_ge.mp hc)) q)
          · exact lv_icmp_gt hx hb hd to (fun _ => K) (fun q => absurd ((o_lt hy1 hx1).mpr (cnd_gt.mp hc)) q)
          · exact lv_icmp_le hx hb hd to (fun _ => K) (fun q => absurd ((o_le hx1 hy1).mpr (cnd_le.mp hc)) q)
        · rw [if_neg hc] at h
          cases some_i h
          have K := k h2
          rw [show ((pc : Int) + (3 : Nat)).toNat = pc + 3 by omega] at K
          cases cn
          · exact lv_icmp_eq hx hb hd to (fun q => absurd (cnd_eq.mpr ((o_eq hx1 hy1).mp q)) hc) (fun _ => K)
          · exact lv_icmp_ne hx hb hd to (fun q => absurd (cnd_ne.mpr (fun z => q ((o_eq hx1 hy1).mpr z))) hc) (fun _ => K)
          · exact lv_icmp_lt hx hb hd to (fun q => absurd (cnd_lt.mpr ((o_lt hx1 hy1).mp q)) hc) (fun _ => K)
          · exact lv_icmp_ge hx hb hd to (fun q => absurd (cnd_ge.mpr ((o_le hy1 hx1).mp q)) hc) (fun _ => K)
          · exact lv_icmp_gt hx hb hd to (fun q => absurd (cnd_gt.mpr ((o_lt hy1 hx1).mp q)) hc) (fun _ => K)
          · exact lv_icmp_le hx hb hd to (fun q => absurd (cnd_le.mpr ((o_le hx1 hy1).mp q)) hc) (fun _ => K)
      · cases h
    · cases h
  | tableswitch d lo hi offs =>
    simp only [lmJ] at h
    split at h
    · next x r =>
      obtain ⟨h1, h2⟩ := okS_c hst
      have hx1 : (Int32.ofInt x).toInt = x := x_of h1
      split at h
      · next ho =>
        cases some_i h
        exact lv_tableOut hx hb hd (by rw [hx1]; exact ho) tg.symm (k h2)
      · next ho =>
        split at h
        · next f hf =>
          cases some_i h
          exact lv_tableIn hx hb hd (by rw [hx1]; omega) (by rw [hx1]; omega) (by rw [hx1]; exact hf) tg.symm (k h2)
        · cases h
    · cases h
  | lookupswitch d ps =>
    simp only [lmJ] at h
    split at h
    · next x r =>
      obtain ⟨h1, h2⟩ := okS_c hst
      have hx1 : (Int32.ofInt x).toInt = x := x_of h1
      split at h
      · next ho =>
        cases some_i h
        exact lv_lookup hx hb hd ho (by rw [hx1]) tg.symm (k h2)
      · cases h
    · cases h
  | _ => simp only [lmJ] at h; cases h
end SL
end
section
/-! LM, part 8, by program: the words of the tables by their places -/
def tabAt (p : Nat) : Option Cond := match p / 240 with
  | 0 => tables_1_1[p % 240]?
  | 1 => tables_1_2[p % 240]?
  | 2 => tables_1_3[p % 240]?
  | 3 => tables_1_4[p % 240]?
  | 4 => tables_1_5[p % 240]?
  | 5 => tables_1_6[p % 240]?
  | 6 => tables_1_7[p % 240]?
  | 7 => tables_1_8[p % 240]?
  | _ => none
theorem tabAt_in {p : Nat} {w : Cond} (h : tabAt p = some w) : w ∈ tables_1 := by
  unfold tabAt at h
  show w ∈ tables_1_1 ++ (tables_1_2 ++ (tables_1_3 ++ (tables_1_4 ++ (tables_1_5 ++ (tables_1_6 ++ (tables_1_7 ++ tables_1_8))))))
  split at h
  · exact List.mem_append_left _ (List.mem_of_getElem? h)
  · exact List.mem_append_right _ (List.mem_append_left _ (List.mem_of_getElem? h))
  · exact List.mem_append_right _ (List.mem_append_right _ (List.mem_append_left _ (List.mem_of_getElem? h)))
  · exact List.mem_append_right _ (List.mem_append_right _ (List.mem_append_right _ (List.mem_append_left _ (List.mem_of_getElem? h))))
  · exact List.mem_append_right _ (List.mem_append_right _ (List.mem_append_right _ (List.mem_append_right _ (List.mem_append_left _ (List.mem_of_getElem? h)))))
  · exact List.mem_append_right _ (List.mem_append_right _ (List.mem_append_right _ (List.mem_append_right _ (List.mem_append_right _ (List.mem_append_left _ (List.mem_of_getElem? h))))))
  · exact List.mem_append_right _ (List.mem_append_right _ (List.mem_append_right _ (List.mem_append_right _ (List.mem_append_right _ (List.mem_append_right _ (List.mem_append_left _ (List.mem_of_getElem? h)))))))
  · exact List.mem_append_right _ (List.mem_append_right _ (List.mem_append_right _ (List.mem_append_right _ (List.mem_append_right _ (List.mem_append_right _ (List.mem_append_right _ (List.mem_of_getElem? h)))))))
  · cases h
def inT (p : Nat) (w : Cond) : Bool := decide (tabAt p = some w) && goodWord w
def ZB : List Cond := lw_tbl.filter goodWord
theorem inT_in {p : Nat} {w : Cond} (h : inT p w = true) : w ∈ ZB := by
  simp only [inT, Bool.and_eq_true, decide_eq_true_eq] at h
  exact List.mem_filter.mpr ⟨List.mem_append_right _ (tabAt_in h.1), h.2⟩
def INP (o : Nat) : Nat := match o with
  | 0 => 14
  | 1 => 8
  | 2 => 15
  | 3 => 10
  | 4 => 9
  | 5 => 12
  | 6 => 7
  | 7 => 2
  | 8 => 16
  | 9 => 11
  | 10 => 13
  | 11 => 1
  | 12 => 17
  | 13 => 0
  | 14 => 21
  | 15 => 20
  | _ => 18
def NIP (c : Nat) : Nat := [415, 131, 446, 289, 193, 375, 122, 31, 498, 295, 399, 23, 1195].getD c 0
def UWP (c : Nat) : List Nat := match c with
  | 0 => [428, 430, 432, 434, 436, 438, 440, 442]
  | 1 => [173, 175, 177, 179, 181, 183, 185, 187, 189]
  | 2 => [470, 472, 474, 476, 478, 480, 482, 484, 486, 488, 490, 492, 494]
  | 3 => [354, 356, 358, 360, 362, 364, 366, 368]
  | 4 => [217, 219, 221, 223, 225]
  | 5 => [387, 389, 391, 393, 395]
  | 6 => [267, 269, 271, 273, 275, 277, 279, 281, 283, 285]
  | 7 => [100, 102, 104, 106, 108, 110, 112, 114, 116]
  | 8 => [510, 512, 514, 516, 518, 520, 522]
  | 9 => [324, 326, 328, 330, 332, 334]
  | 10 => [407, 409, 411]
  | 11 => [541, 543, 545, 547, 549, 551, 553, 555, 557, 559, 561, 563, 565, 567, 569]
  | 12 => [1302, 1304, 1306, 1308, 1310, 1312, 1314, 1316, 1318, 1320, 1322, 1324, 1326, 1328, 1330, 1332, 1334, 1336, 1338, 1340, 1342, 1344, 1346, 1348, 1350, 1352, 1354, 1356, 1358, 1360, 1362, 1364, 1366, 1368, 1370, 1372, 1374, 1376, 1378, 1380, 1382, 1384, 1386, 1388, 1390, 1392, 1394, 1396, 1398, 1400, 1402, 1404, 1406, 1408, 1410]
  | _ => []
def chkU (c : Nat) : Bool := match zcl[c]? with
  | some q => decide ((u_ws q.1 q.2.1 q.2.2) = (UWP c).filterMap tabAt) && (u_ws q.1 q.2.1 q.2.2).all goodWord && inT (NIP c) (.instantiable q.1 q.2.2) && decide (q.1 = onm c) && decide (∀ k, k < q.2.2 → (q.2.1 k).1 = q.1)
  | none => true
def chkF (o : Nat) (e : Nat × Nat × Nat × Nat) : Bool := match zcl[e.2.1]? with
  | some q => decide (e.2.2.1 < q.2.2) && inT e.2.2.2 (.fieldLink (onm o) e.1 q.1 (q.2.1 e.2.2.1).2.1 (q.2.1 e.2.2.1).2.2.1)
  | none => false
def chkC (o : Nat) (e : Nat × Int × Nat) : Bool := inT e.2.2 (.constant (onm o) e.1 (Int32.ofInt e.2.1)) && decide (-2147483648 ≤ e.2.1 ∧ e.2.1 ≤ 2147483647)
def chkL (o : Nat) (e : Nat × Int × Nat) : Bool := inT e.2.2 (.constantLong (onm o) e.1 (Int64.ofInt e.2.1)) && decide (-9223372036854775808 ≤ e.2.1 ∧ e.2.1 ≤ 9223372036854775807)
def chkK (o : Nat) (e : Nat × Nat × Nat) : Bool := inT e.2.2 (.classLink (onm o) e.1 (onm e.2.1)) && decide (e.2.1 < 13)
def chkM (o : Nat) (e : Nat × Nat × Nat × Nat) : Bool := match MTB e.2.1 with
  | some M => if e.2.2.1 = 0 then inT e.2.2.2 (.methodLink (onm o) e.1 M.1) else decide (tabAt e.2.2.2 = some (.methodLinkNest (onm o) e.1 M.1 "OneSided"))
  | none => false
def pnm (k : Nat) : MethodName := match k with
  | 0 => objectInit
  | 1 => arraycopyName
  | 2 => ⟨"java/lang/String", "length", "()I"⟩
  | 3 => ⟨"java/lang/String", "charAt", "(I)C"⟩
  | 4 => ⟨"java/lang/Math", "min", "(II)I"⟩
  | 5 => ⟨"java/lang/Math", "max", "(II)I"⟩
  | _ => ⟨"java/lang/Math", "floorMod", "(II)I"⟩
def chkP (o : Nat) (e : Nat × Nat × Nat) : Bool := inT e.2.2 (.methodLink (onm o) e.1 (pnm e.2.1))
def selIn (p : Nat) (y : MethodName) : Bool := if 1000000 ≤ p then (match lw_privs[p - 1000000]? with | some q => decide (q.1 = y) | none => false) else inT p (.selects y.cls y y)
def chkY (M : LM_M) : Bool :=
  let y := M.1
  inT M.2.2.2.2.2.2.2.2.1 (if M.2.2.2.2.2.2.1 = 1 then .static y else .instanceMethod y) && (M.2.2.2.2.2.2.1 == 1 || y.name == "<init>" || selIn M.2.2.2.2.2.2.2.2.2 y)
    && decide (y.cls = onm M.2.2.2.2.1) && plainName y.cls && decide (y.cls ≠ "java/lang/invoke/MethodHandle") && decide (y.cls ≠ "java/lang/invoke/VarHandle") && decide ((parseMethodDescriptor y.desc).map (fun d => d.parameters.length) = some (M.2.2.2.2.2.1 - (if M.2.2.2.2.2.2.1 = 1 then 0 else 1))) && decide (M.2.2.1 ≤ 40) && decide (M.2.2.2.2.1 < 17) && (M.2.2.2.2.2.2.1 == 1 || decide (1 ≤ M.2.2.2.2.2.1)) && decide (M.2.2.2.2.2.2.1 ≤ 1) && (M.2.2.2.2.2.2.1 == 1 || decide (M.2.2.2.2.1 < 13)) && (!(y.name == "<init>") || decide (M.2.2.2.1 = none))
theorem U_ok : ∀ c, c < 13 → chkU c = true := by decide +kernel
theorem IN_ok : ∀ o, o < 17 → inT (INP o) (.initialized (onm o)) = true := by decide +kernel
theorem FT_ok17 : ∀ o, o < 17 → (FT o).all (chkF o) = true := by decide +kernel
theorem CT_ok17 : ∀ o, o < 17 → (CT o).all (chkC o) = true := by decide +kernel
theorem CLT_ok17 : ∀ o, o < 17 → (CLT o).all (chkL o) = true := by decide +kernel
theorem KT_ok17 : ∀ o, o < 17 → (KT o).all (chkK o) = true := by decide +kernel
theorem MTC_ok17 : ∀ o, o < 17 → (MTC o).all (chkM o) = true := by decide +kernel
theorem PTC_ok17 : ∀ o, o < 17 → (PTC o).all (chkP o) = true := by decide +kernel
theorem MTB0_ok : MTB0.all chkY = true := by decide +kernel
set_option maxRecDepth 100000 in
theorem MTB0_cw : MTB0.map (fun M => tabAt M.2.2.2.2.2.2.2.1) = MTB0.map (fun M => some (Cond.code M.1 M.2.1 M.2.2.1 M.2.2.2.1)) := rfl
theorem MTB1_ok : MTB1.all chkY = true := by decide +kernel
set_option maxRecDepth 100000 in
theorem MTB1_cw : MTB1.map (fun M => tabAt M.2.2.2.2.2.2.2.1) = MTB1.map (fun M => some (Cond.code M.1 M.2.1 M.2.2.1 M.2.2.2.1)) := rfl
theorem MTB2_ok : MTB2.all chkY = true := by decide +kernel
set_option maxRecDepth 100000 in
theorem MTB2_cw : MTB2.map (fun M => tabAt M.2.2.2.2.2.2.2.1) = MTB2.map (fun M => some (Cond.code M.1 M.2.1 M.2.2.1 M.2.2.2.1)) := rfl
theorem MTB3_ok : MTB3.all chkY = true := by decide +kernel
set_option maxRecDepth 100000 in
theorem MTB3_cw : MTB3.map (fun M => tabAt M.2.2.2.2.2.2.2.1) = MTB3.map (fun M => some (Cond.code M.1 M.2.1 M.2.2.1 M.2.2.2.1)) := rfl
theorem MTB4_ok : MTB4.all chkY = true := by decide +kernel
set_option maxRecDepth 100000 in
theorem MTB4_cw : MTB4.map (fun M => tabAt M.2.2.2.2.2.2.2.1) = MTB4.map (fun M => some (Cond.code M.1 M.2.1 M.2.2.1 M.2.2.2.1)) := rfl
theorem MTB5_ok : MTB5.all chkY = true := by decide +kernel
set_option maxRecDepth 100000 in
theorem MTB5_cw : MTB5.map (fun M => tabAt M.2.2.2.2.2.2.2.1) = MTB5.map (fun M => some (Cond.code M.1 M.2.1 M.2.2.1 M.2.2.2.1)) := rfl
theorem MTB6_ok : MTB6.all chkY = true := by decide +kernel
set_option maxRecDepth 100000 in
theorem MTB6_cw : MTB6.map (fun M => tabAt M.2.2.2.2.2.2.2.1) = MTB6.map (fun M => some (Cond.code M.1 M.2.1 M.2.2.1 M.2.2.2.1)) := rfl
theorem MTB_ok {i : Nat} {M : LM_M} (h : MTB i = some M) : chkY M = true ∧ Cond.code M.1 M.2.1 M.2.2.1 M.2.2.2.1 ∈ ZB := by
  have key : ∀ (L : List LM_M), L.all chkY = true → L.map (fun M => tabAt M.2.2.2.2.2.2.2.1) = L.map (fun M => some (Cond.code M.1 M.2.1 M.2.2.1 M.2.2.2.1)) → ∀ j : Nat, L[j]? = some M → chkY M = true ∧ Cond.code M.1 M.2.1 M.2.2.1 M.2.2.2.1 ∈ ZB := by
    intro L h1 h2 j hj
    refine ⟨List.all_eq_true.mp h1 M (List.mem_of_getElem? hj), List.mem_filter.mpr ⟨List.mem_append_right _ (tabAt_in (p := M.2.2.2.2.2.2.2.1) ?_), rfl⟩⟩
    have h3 := congrArg (fun (K : List (Option Cond)) => K[j]?) h2
    simpa [hj] using h3
  unfold MTB at h
  split at h
  · exact key _ MTB0_ok MTB0_cw _ h
  · exact key _ MTB1_ok MTB1_cw _ h
  · exact key _ MTB2_ok MTB2_cw _ h
  · exact key _ MTB3_ok MTB3_cw _ h
  · exact key _ MTB4_ok MTB4_cw _ h
  · exact key _ MTB5_ok MTB5_cw _ h
  · exact key _ MTB6_ok MTB6_cw _ h
  · cases h
theorem obj_ok : inT 28 (.instanceMethod objectInit) = true ∧ inT 29 (.code objectInit ⟨#[0xb1]⟩ 1 none) = true := ⟨by decide +kernel, by decide +kernel⟩
theorem cpy_ok : inT 760 (.native arraycopyName) = true ∧ inT 759 (.static arraycopyName) = true ∧ inT 19 (.initialized "java/lang/System") = true := ⟨by decide +kernel, by decide +kernel, by decide +kernel⟩
theorem mth_min : inT 831 (.static ⟨"java/lang/Math", "min", "(II)I"⟩) = true ∧ tabAt 832 = some (.code ⟨"java/lang/Math", "min", "(II)I"⟩ prog_16_method_69_code 2 (some .int)) := ⟨by decide +kernel, rfl⟩
theorem mth_max : inT 955 (.static ⟨"java/lang/Math", "max", "(II)I"⟩) = true ∧ tabAt 956 = some (.code ⟨"java/lang/Math", "max", "(II)I"⟩ prog_16_method_65_code 2 (some .int)) := ⟨by decide +kernel, rfl⟩
theorem mth_floorMod : inT 820 (.static ⟨"java/lang/Math", "floorMod", "(II)I"⟩) = true ∧ tabAt 821 = some (.code ⟨"java/lang/Math", "floorMod", "(II)I"⟩ prog_16_method_50_code 3 (some .int)) := ⟨by decide +kernel, rfl⟩
theorem arr_int : inT 192 (.arrayClass .int) = true := by decide +kernel
theorem arr_long : inT 120 (.arrayClass .long) = true := by decide +kernel
theorem arr_byte : inT 119 (.arrayClass .byte) = true := by decide +kernel
theorem arr_boolean : inT 1413 (.arrayClass .boolean) = true := by decide +kernel
def AOL : List (Nat × Nat) := [(1, 128), (4, 130), (3, 371), (9, 373)]
theorem AO_ok : AOL.all (fun q => decide (tabAt q.2 = some (.arrayOver (.object (onm q.1))))) = true := by decide +kernel
end
section
/-! LM, part 9: the cells on the machine; what reads and writes them -/
def ztyp (k : Nat) : FieldType := match k with
  | 0 => .int
  | 1 => .long
  | 2 => .byte
  | 3 => .boolean
  | 5 => .object "OneSided$Door"
  | 7 => .object "OneSided$Memory"
  | 8 => .object "OneSided$Person"
  | 13 => .object "OneSided$Scene"
  | _ => .int
def zty (cA : Nat → ClassId) : List (ClassId × FieldType) := (List.range 17).map (fun k => (cA k, ztyp k))
theorem zty_at (cA : Nat → ClassId) {k : Nat} (h : k < 17) : (zty cA)[k]? = some (cA k, ztyp k) := by
  unfold zty
  rw [List.getElem?_map, List.getElem?_range h]
  rfl
def rf1 (B : Nat) (x : Int) : Option Nat := if x = 0 then none else some (B + x.toNat)
def fvs (B b sA : Nat) (h : LH) (a c N : Nat) : List Value := (List.range N).map (fun k => cv B b sA (mkv (fkd c k) (rd h a k)))
def cellE (B b sA : Nat) (cA : Nat → ClassId) (h : LH) (a : Nat) : va_E := match (lay a).1 with
  | 0 => .inr ((lay a).2.1, fvs B b sA h a (lay a).2.1 (lay a).2.2)
  | 1 => .inl (cA 0, (lay a).2.2, .inl (fun j => Int32.ofInt (rd h a j)))
  | 2 => .inl (cA 1, (lay a).2.2, .inr (.inl (fun j => Int64.ofInt (rd h a j))))
  | 3 => .inl (cA 2, (lay a).2.2, .inl (fun j => Int32.ofInt (rd h a j)))
  | 4 => .inl (cA 3, (lay a).2.2, .inl (fun j => Int32.ofInt (rd h a j)))
  | _ => .inl (cA (4 + (lay a).2.1), (lay a).2.2, .inr (.inr (.inr (.inr (fun j => rf1 B (rd h a j))))))
def zws (B b sA : Nat) (cA : Nat → ClassId) (n : Nat) (h : LH) : va_W := (List.range n).map (fun j => (B + (j + 1), cellE B b sA cA h (j + 1)))
def zA (B : Nat) : Nat → Prop := fun q => B < q
theorem LAY_ok : LAYL.all (fun e => (e.1 != 0 || decide ((zcl[e.2.1]?).map (fun q => q.2.2) = some e.2.2)) && (e.1 != 5 || (decide (ztyp (4 + e.2.1) = .object (onm e.2.1)) && decide (e.2.1 < 13))) && decide (e.2.2 ≤ 3000)) = true := by decide +kernel
theorem lay_in (a : Nat) : lay a = (6, 0, 0) ∨ lay a ∈ LAYL := by
  unfold lay
  rw [List.getD_eq_getElem?_getD]
  cases h : LAYL[a]? with
  | none => left; rfl
  | some q => right; exact List.mem_of_getElem? h
theorem lay_obj {a : Nat} (h : (lay a).1 = 0) : (zcl[(lay a).2.1]?).map (fun q => q.2.2) = some (lay a).2.2 := by
  rcases lay_in a with e | e
  · rw [e] at h; cases h
  · have := List.all_eq_true.mp LAY_ok _ e
    simp only [Bool.and_eq_true, Bool.or_eq_true, bne_iff_ne, ne_eq, decide_eq_true_eq] at this
    exact this.1.1.resolve_left (fun q => q h)
theorem lay_ref {a : Nat} (h : (lay a).1 = 5) : ztyp (4 + (lay a).2.1) = .object (onm (lay a).2.1) ∧ (lay a).2.1 < 13 := by
  rcases lay_in a with e | e
  · rw [e] at h; cases h
  · have := List.all_eq_true.mp LAY_ok _ e
    simp only [Bool.and_eq_true, Bool.or_eq_true, bne_iff_ne, ne_eq, decide_eq_true_eq] at this
    exact this.1.2.resolve_left (fun q => q h)
theorem lay_len (a : Nat) : (lay a).2.2 ≤ 3000 := by
  rcases lay_in a with e | e
  · rw [e]; exact Nat.zero_le _
  · have := List.all_eq_true.mp LAY_ok _ e
    simp only [Bool.and_eq_true, decide_eq_true_eq] at this
    exact this.2
section ZW
variable {B b sA : Nat} {cA : Nat → ClassId}
theorem zws_len (n : Nat) (h : LH) : (zws B b sA cA n h).length = n := by unfold zws; simp
theorem zws_at {n : Nat} {h : LH} {a : Nat} (h1 : 1 ≤ a) (h2 : a ≤ n) : (zws B b sA cA n h)[a - 1]? = some (B + a, cellE B b sA cA h a) := by
  unfold zws
  rw [List.getElem?_map, List.getElem?_range (by omega)]
  simp only [Option.map_some]
  rw [show a - 1 + 1 = a by omega]
theorem zws_get {n : Nat} {h : LH} {k : Nat} {q : Nat × va_E} (hq : (zws B b sA cA n h)[k]? = some q) : k < n ∧ q = (B + (k + 1), cellE B b sA cA h (k + 1)) := by
  have hk : k < n := by
    have := (List.getElem?_eq_some_iff.mp hq).1
    rw [zws_len] at this
    exact this
  refine ⟨hk, ?_⟩
  have := zws_at (B := B) (b := b) (sA := sA) (cA := cA) (h := h) (a := k + 1) (n := n) (by omega) (by omega)
  rw [show k + 1 - 1 = k by omega, hq] at this
  exact Option.some.inj this
theorem zD (n : Nat) (h : LH) : va_D (zA B) (zws B b sA cA n h) := by
  refine ⟨fun i j p q hp hq e => ?_, fun k q hq => ?_⟩
  · obtain ⟨-, rfl⟩ := zws_get hp
    obtain ⟨-, rfl⟩ := zws_get hq
    simp only at e
    omega
  · obtain ⟨-, rfl⟩ := zws_get hq
    show B < B + (k + 1)
    omega
theorem rd_ne {h : LH} {a i v b' j : Int} (hne : ¬ a = b') : rd (wr h a i v) b' j = rd h b' j := by
  rw [rd_wr, if_neg (fun q => hne q.1)]
theorem cellE_ne {h h' : LH} {a : Nat} (hne : ∀ j : Int, rd h' (a : Int) j = rd h (a : Int) j) : cellE B b sA cA h' a = cellE B b sA cA h a := by
  unfold cellE fvs
  simp only [hne]
theorem zws_set {n : Nat} {h h' : LH} {a : Nat} {e : va_E} (h1 : 1 ≤ a) (h2 : a ≤ n) (he : cellE B b sA cA h' a = e) (hne : ∀ (k : Nat) (j : Int), k ≠ a → rd h' (k : Int) j = rd h (k : Int) j) : (zws B b sA cA n h).set (a - 1) (B + a, e) = zws B b sA cA n h' := by
  apply List.ext_getElem?
  intro k
  by_cases hk : k < n
  · by_cases e1 : k = a - 1
    · subst e1
      rw [List.getElem?_set_self (by rw [zws_len]; exact hk), zws_at h1 h2, he]
    · rw [List.getElem?_set_ne (fun q => e1 q.symm)]
      have g1 := zws_at (B := B) (b := b) (sA := sA) (cA := cA) (h := h) (a := k + 1) (n := n) (by omega) (by omega)
      have g2 := zws_at (B := B) (b := b) (sA := sA) (cA := cA) (h := h') (a := k + 1) (n := n) (by omega) (by omega)
      rw [show k + 1 - 1 = k by omega] at g1 g2
      rw [g1, g2, cellE_ne (fun j => hne (k + 1) j (by omega))]
  · rw [List.getElem?_eq_none (by rw [List.length_set, zws_len]; omega), List.getElem?_eq_none (by rw [zws_len]; omega)]
theorem zws_succ (n : Nat) (h : LH) : zws B b sA cA (n + 1) h = zws B b sA cA n h ++ [(B + (n + 1), cellE B b sA cA h (n + 1))] := by
  unfold zws
  rw [List.range_succ, List.map_append]
  rfl
theorem cv_pos {a : Int} (h : 1 ≤ a) : cv B b sA (.inr (.inr a)) = .ref (B + a.toNat) := by
  simp only [cv]
  rw [if_neg (by omega), if_neg (by omega), if_neg (by omega)]
theorem cv_rf1 {x : Int} (h : 0 ≤ x) : cv B b sA (.inr (.inr x)) = va_rf (rf1 B x) := by
  unfold rf1
  by_cases h0 : x = 0
  · rw [if_pos h0, h0]
    rfl
  · rw [if_neg h0, cv_pos (by omega)]
    rfl
end ZW
theorem isO_of {n : Nat} {a : Int} {c : Nat} (h : isO n a c = true) : 1 ≤ a ∧ a ≤ n ∧ (lay a.toNat).1 = 0 ∧ (lay a.toNat).2.1 = c := by
  unfold isO at h
  simp only [Bool.and_eq_true, decide_eq_true_eq, beq_iff_eq] at h
  exact ⟨h.1.1.1, h.1.1.2, h.1.2, h.2⟩
theorem isA_of {n : Nat} {a : Int} {k : Nat} (h : isA n a k = true) : 1 ≤ a ∧ a ≤ n ∧ (lay a.toNat).1 = k := by
  unfold isA at h
  simp only [Bool.and_eq_true, decide_eq_true_eq, beq_iff_eq] at h
  exact ⟨h.1.1, h.1.2, h.2⟩
theorem inA_of {a i : Int} (h : inA a i = true) : 0 ≤ i ∧ i < ((lay a.toNat).2.2 : Int) := by
  unfold inA at h
  simp only [Bool.and_eq_true, decide_eq_true_eq] at h
  exact h
theorem inA_vp {a i : Int} (h : inA a i = true) : vp_in (Int32.ofInt i) (lay a.toNat).2.2 := by
  obtain ⟨h1, h2⟩ := inA_of h
  have := lay_len a.toNat
  have hi : i32 i := by unfold i32; omega
  rw [vp_in_iff, x_of hi]
  exact ⟨h1, h2⟩
theorem inA_clamp {a i : Int} (h : inA a i = true) : (Int32.ofInt i).toNatClampNeg = i.toNat := by
  obtain ⟨h1, h2⟩ := inA_of h
  have := lay_len a.toNat
  exact o_clamp (by unfold i32; omega)
theorem all17 {α : Type} (F : Nat → List α) (ck : Nat → α → Bool) (h : ∀ o, o < 17 → (F o).all (ck o) = true) (hn : ∀ o, 17 ≤ o → F o = []) {o : Nat} {e : α} (he : e ∈ F o) : o < 17 ∧ ck o e = true := by
  rcases Nat.lt_or_ge o 17 with q | q
  · exact ⟨q, List.all_eq_true.mp (h o q) e he⟩
  · rw [hn o q] at he
    cases he
theorem FT_nil : ∀ o, 17 ≤ o → FT o = [] := by intro o h; unfold FT; split <;> first | omega | rfl
theorem CT_nil : ∀ o, 17 ≤ o → CT o = [] := by intro o h; unfold CT; split <;> first | omega | rfl
theorem CLT_nil : ∀ o, 17 ≤ o → CLT o = [] := by intro o h; unfold CLT; split <;> first | omega | rfl
theorem KT_nil : ∀ o, 17 ≤ o → KT o = [] := by intro o h; unfold KT; split <;> first | omega | rfl
theorem MTC_nil : ∀ o, 17 ≤ o → MTC o = [] := by intro o h; unfold MTC; split <;> first | omega | rfl
theorem PTC_nil : ∀ o, 17 ≤ o → PTC o = [] := by intro o h; unfold PTC; split <;> first | omega | rfl
theorem find_of {α : Type} {l : List (Nat × α)} {x : Nat} {q : Nat × α} (h : l.find? (fun q => q.1 == x) = some q) : q ∈ l ∧ q.1 = x := by
  have h1 := List.mem_of_find?_eq_some h
  have h2 := List.find?_some h
  exact ⟨h1, by simpa using h2⟩
/-- what a field's link says -/
theorem fld_of {o x c k : Nat} (h : fld o x = some (c, k)) : ∃ C T N, zcl[c]? = some (C, T, N) ∧ k < N ∧ Cond.fieldLink (onm o) x C (T k).2.1 (T k).2.2.1 ∈ ZB := by
  unfold fld at h
  rw [Option.map_eq_some_iff] at h
  obtain ⟨q, h1, h2⟩ := h
  obtain ⟨h3, h4⟩ := find_of h1
  obtain ⟨-, h5⟩ := all17 FT chkF FT_ok17 FT_nil h3
  simp only [Prod.mk.injEq] at h2
  unfold chkF at h5
  rw [h2.1, h2.2, h4] at h5
  split at h5
  · next r hr =>
    simp only [Bool.and_eq_true, decide_eq_true_eq] at h5
    exact ⟨r.1, r.2.1, r.2.2, hr, h5.1, inT_in h5.2⟩
  · cases h5
theorem zcl_lt {c : Nat} {q : vw_C} (h : zcl[c]? = some q) : c < 13 := (List.getElem?_eq_some_iff.mp h).1
/-- what the tables say of a class -/
theorem cls_of {c : Nat} {C : String} {T : u_T} {N : Nat} (h : zcl[c]? = some (C, T, N)) : (∀ w ∈ u_ws C T N, w ∈ ZB) ∧ Cond.instantiable C N ∈ ZB ∧ C = onm c ∧ ∀ k, k < N → (T k).1 = C := by
  have h1 := U_ok c (zcl_lt h)
  unfold chkU at h1
  rw [h] at h1
  simp only [Bool.and_eq_true, decide_eq_true_eq] at h1
  obtain ⟨⟨⟨⟨g1, g2⟩, g3⟩, g4⟩, g5⟩ := h1
  refine ⟨fun w hw => ?_, inT_in g3, g4, g5⟩
  have g6 := List.all_eq_true.mp g2 w hw
  rw [g1] at hw
  obtain ⟨p, -, hp⟩ := List.mem_filterMap.mp hw
  exact List.mem_filter.mpr ⟨List.mem_append_right _ (tabAt_in hp), g6⟩
def tyF (c : Nat) : Nat → FieldType := match c with
  | 0 => tyX0 | 1 => tyX1 | 2 => tyX2 | 3 => tyX3 | 4 => tyX4 | 5 => tyX5 | 6 => tyX6 | 7 => tyX7 | 8 => tyX8 | 9 => tyX9 | 10 => tyX10 | 11 => tyX11 | _ => tyX12
def kdOk (k : Nat) (t : FieldType) : Bool := match k, t with
  | 0, .int => true
  | 1, .long => true
  | 2, .object _ => true
  | 2, .array _ => true
  | 3, .boolean => true
  | _, _ => false
theorem KD_ok : ∀ c, c < 13 → ∀ q, zcl[c]? = some q → ∀ k, k < q.2.2 → kdOk (fkd c k) (tyF c k) = true := by
  have : ∀ c, c < 13 → ((zcl[c]?).all (fun q => decide (∀ k, k < q.2.2 → kdOk (fkd c k) (tyF c k) = true))) = true := by decide +kernel
  intro c hc q hq
  have h := this c hc
  rw [hq] at h
  simpa using h
theorem TY_ok {c : Nat} {C : String} {T : u_T} {N : Nat} (h : zcl[c]? = some (C, T, N)) : (∀ k, k < N → parseFieldDescriptor (T k).2.2.1 = some (tyF c k)) ∧ ∀ a, a < N → ∀ b, b < N → a ≠ b → (T a).2.1 ≠ (T b).2.1 := by
  match c, h with
  | 0, h => cases h; exact ⟨tyX0_ok, nmX0⟩
  | 1, h => cases h; exact ⟨tyX1_ok, nmX1⟩
  | 2, h => cases h; exact ⟨tyX2_ok, nmX2⟩
  | 3, h => cases h; exact ⟨tyX3_ok, nmX3⟩
  | 4, h => cases h; exact ⟨tyX4_ok, nmX4⟩
  | 5, h => cases h; exact ⟨tyX5_ok, nmX5⟩
  | 6, h => cases h; exact ⟨tyX6_ok, nmX6⟩
  | 7, h => cases h; exact ⟨tyX7_ok, nmX7⟩
  | 8, h => cases h; exact ⟨tyX8_ok, nmX8⟩
  | 9, h => cases h; exact ⟨tyX9_ok, nmX9⟩
  | 10, h => cases h; exact ⟨tyX10_ok, nmX10⟩
  | 11, h => cases h; exact ⟨tyX11_ok, nmX11⟩
  | 12, h => cases h; exact ⟨tyX12_ok, nmX12⟩
  | c + 13, h => exact absurd (zcl_lt h) (by omega)
end
section
/-! LM, part 10: gets on the machine -/
theorem tn {a : Int} (h : 1 ≤ a) : ((a.toNat : Nat) : Int) = a := Int.toNat_of_nonneg (by omega)
theorem tn0 {a : Int} (h : 0 ≤ a) : ((a.toNat : Nat) : Int) = a := Int.toNat_of_nonneg h
theorem okX0 {h : LH} {a i : Int} (hh : okH h) (hk : (lay a.toNat).1 = 1 ∨ (lay a.toNat).1 = 3 ∨ (lay a.toNat).1 = 4) : i32 (rd h a i) := by
  have h1 := hh a i
  have e : lkd a i = 0 := by
    unfold lkd
    split
    · next e => rw [e] at hk; simp at hk
    · next e => rw [e] at hk; simp at hk
    · next e => rw [e] at hk; simp at hk
    · rfl
  rw [e] at h1
  exact h1
theorem okX1 {h : LH} {a i : Int} (hh : okH h) (hk : (lay a.toNat).1 = 2) : i64 (rd h a i) := by
  have h1 := hh a i
  have e : lkd a i = 1 := by
    unfold lkd
    split
    · next e => rw [e] at hk; simp at hk
    · rfl
    · next e => rw [e] at hk; simp at hk
    · next h1 h2 h3 =>
      exact absurd (show lay a.toNat = (2, (lay a.toNat).2.1, (lay a.toNat).2.2) from Prod.ext hk rfl) (h2 _ _)
  rw [e] at h1
  exact h1
theorem okXf {h : LH} {a : Int} {c k : Nat} (hh : okH h) (hk : (lay a.toNat).1 = 0) (hc : (lay a.toNat).2.1 = c) : okX (fkd c k) (rd h a k) := by
  have h1 := hh a k
  have e : lkd a k = fkd c k := by
    unfold lkd
    rw [show lay a.toNat = (0, c, (lay a.toNat).2.2) from Prod.ext hk (Prod.ext hc rfl)]
    simp
  rw [e] at h1
  exact h1
theorem cellE_0 {B b sA : Nat} {cA : Nat → ClassId} {h : LH} {a : Nat} (hk : (lay a).1 = 0) : cellE B b sA cA h a = .inr ((lay a).2.1, fvs B b sA h a (lay a).2.1 (lay a).2.2) := by unfold cellE; rw [hk]; rfl
theorem cellE_1 {B b sA : Nat} {cA : Nat → ClassId} {h : LH} {a : Nat} (hk : (lay a).1 = 1) : cellE B b sA cA h a = .inl (cA 0, (lay a).2.2, .inl (fun j => Int32.ofInt (rd h a j))) := by unfold cellE; rw [hk]; rfl
theorem cellE_2 {B b sA : Nat} {cA : Nat → ClassId} {h : LH} {a : Nat} (hk : (lay a).1 = 2) : cellE B b sA cA h a = .inl (cA 1, (lay a).2.2, .inr (.inl (fun j => Int64.ofInt (rd h a j)))) := by unfold cellE; rw [hk]; rfl
theorem cellE_3 {B b sA : Nat} {cA : Nat → ClassId} {h : LH} {a : Nat} (hk : (lay a).1 = 3) : cellE B b sA cA h a = .inl (cA 2, (lay a).2.2, .inl (fun j => Int32.ofInt (rd h a j))) := by unfold cellE; rw [hk]; rfl
theorem cellE_4 {B b sA : Nat} {cA : Nat → ClassId} {h : LH} {a : Nat} (hk : (lay a).1 = 4) : cellE B b sA cA h a = .inl (cA 3, (lay a).2.2, .inl (fun j => Int32.ofInt (rd h a j))) := by unfold cellE; rw [hk]; rfl
theorem cellE_5 {B b sA : Nat} {cA : Nat → ClassId} {h : LH} {a : Nat} (hk : (lay a).1 = 5) : cellE B b sA cA h a = .inl (cA (4 + (lay a).2.1), (lay a).2.2, .inr (.inr (.inr (.inr (fun j => rf1 B (rd h a j)))))) := by unfold cellE; rw [hk]; rfl
/-- refs that are kept are cells or null -/
def okN (h : LH) : Prop := ∀ a i : Int, lkd a i = 2 → 0 ≤ rd h a i
section SG
variable {p : Program} {l : Launch} {e : Env} {R : Room} {s : State} {m : MethodId} {args : Array Value} {below : List Frame} {meth : Method} {c : Code} {H : Heap} {locs : List Loc} {cells slots : Nat} {Q : State → Prop}
variable {cc : ByteArray} {pc : Nat} {sl : Array Slot} {B b sA nL o n xl : Nat} {xs : Nat → Int} {D : va_G} {cA : Nat → ClassId}
set_option maxHeartbeats 4000000 in
theorem sim_G (hx : p.tables.exec = Jvm.exec) (hb : c.code = cc) (hown : s.vm.findClass (onm o) = some m.cls) (hts : ∀ w ∈ ZB, w.before args s = true) (hK : va_K D zcl (zty cA) s)
    (hX : va_X b xl (fun j => Int32.ofInt (xs j)) s s.heap) (hbB : b ≤ B) (hxs : ∀ j, i32 (xs j)) (hxl : xl ≤ 3584) {h : LH} (hh : okH h) (hN : okN h)
    (hP : va_P D zcl (zws B b sA cA n h) H) (hS : va_S (zA B) s.heap H locs)
    {i : Instr} {len : Nat} {st st' : List LV} (hg : lmG o n xs xl i st h = some st') (hlen : ilen i len = true) (hd : decode cc pc = .ok (i, len)) (hst : okS st)
    (k : okS st' → W p l e R s m args below meth c H locs cells slots Q (F0 m (pc + len) sl (st'.map (cv B b sA)))) :
    W p l e R s m args below meth c H locs cells slots Q (F0 m pc sl (st.map (cv B b sA))) := by
  have one : ∀ {n : Nat}, (n == 1) = true → n = 1 := fun h => by simpa using h
  have hbA : ¬ zA B b := by unfold zA; omega
  have hbl : b < s.heap.size := by
    obtain ⟨scr, h1, -⟩ := hX
    exact (Array.getElem?_eq_some_iff.mp h1).1
  cases i with
  | getfield x =>
    simp only [lmG] at hg
    split at hg
    · next a r =>
      split at hg
      · next c0 k0 hf =>
        split at hg
        · next hO =>
          cases some_i hg
          have e3 : len = 3 := by simpa [ilen] using hlen
          subst e3
          obtain ⟨g1, g2, g3, g4⟩ := isO_of hO
          obtain ⟨C, T, N, hc, hk, hw⟩ := fld_of hf
          obtain ⟨u1, -, -, u4⟩ := cls_of hc
          have hNe : (lay a.toNat).2.2 = N := by
            have := lay_obj g3
            rw [g4, hc] at this
            exact (Option.some.inj this).symm
          have he := zws_at (B := B) (b := b) (sA := sA) (cA := cA) (h := h) (a := a.toNat) (n := n) (by omega) (by omega)
          rw [cellE_0 g3, g4, hNe] at he
          have hv : (fvs B b sA h a.toNat c0 N)[k0]? = some (cv B b sA (mkv (fkd c0 k0) (rd h a k0))) := by
            unfold fvs
            rw [List.getElem?_map, List.getElem?_range hk]
            simp only [Option.map_some]
            rw [tn g1]
          have K := k (okS_i (okV_mkv (okXf hh g3 g4)) (okS_c hst).2)
          rw [List.map_cons] at K ⊢
          rw [cv_pos g1]
          exact va_get hx hb hts u1 hown hK hP (a.toNat - 1) he hc k0 hk (hts _ hw) (by rw [u4 k0 hk]; exact fun _ q => q) hv hd K
        · cases hg
      · cases hg
    · cases hg
  | iaload =>
    simp only [lmG] at hg
    split at hg
    · next j a r =>
      cases one hlen
      obtain ⟨h1, h2⟩ := okS_c hst
      obtain ⟨-, h4⟩ := okS_c h2
      split at hg
      · next ha =>
        split at hg
        · next hj =>
          cases some_i hg
          subst ha
          have hj2 : i32 j := h1
          have hin : vp_in (Int32.ofInt j) xl := by rw [vp_in_iff, x_of hj2]; exact hj
          have K := k (okS_i (hxs _) h4)
          rw [List.map_cons] at K
          have e1 : cv B b sA (.inl (xs j.toNat)) = .int ((fun j => Int32.ofInt (xs j)) (Int32.ofInt j).toNatClampNeg) := by
            rw [o_clamp hj2]; rfl
          rw [e1] at K
          exact va_sld hx hb hX hbl hbA hS hin hd K
        · cases hg
      · next ha =>
        split at hg
        · next hA =>
          simp only [Bool.and_eq_true] at hA
          cases some_i hg
          obtain ⟨g1, g2, g3⟩ := isA_of hA.1
          have he := zws_at (B := B) (b := b) (sA := sA) (cA := cA) (h := h) (a := a.toNat) (n := n) (by omega) (by omega)
          rw [cellE_1 g3] at he
          have K := k (okS_i (show okV (.inl (rd h a j)) from okX0 hh (Or.inl g3)) h4)
          rw [List.map_cons] at K ⊢
          rw [List.map_cons, cv_pos g1]
          refine va_iald hx hb hK hP (a.toNat - 1) 0 he (zty_at cA (by omega)) (inA_vp hA.2) hd ?_
          rw [inA_clamp hA.2, tn g1, tn0 (inA_of hA.2).1]
          exact K
        · cases hg
    · cases hg
  | laload =>
    simp only [lmG] at hg
    split at hg
    · next j a r =>
      cases one hlen
      obtain ⟨h1, h2⟩ := okS_c hst
      obtain ⟨-, h4⟩ := okS_c h2
      split at hg
      · next hA =>
        simp only [Bool.and_eq_true] at hA
        cases some_i hg
        obtain ⟨g1, g2, g3⟩ := isA_of hA.1
        have he := zws_at (B := B) (b := b) (sA := sA) (cA := cA) (h := h) (a := a.toNat) (n := n) (by omega) (by omega)
        rw [cellE_2 g3] at he
        have K := k (okS_i (show okV (.inr (.inl (rd h a j))) from okX1 hh g3) h4)
        rw [List.map_cons] at K ⊢
        rw [List.map_cons, cv_pos g1]
        refine va_lald hx hb hK hP (a.toNat - 1) 1 he (zty_at cA (by omega)) (inA_vp hA.2) hd ?_
        rw [inA_clamp hA.2, tn g1, tn0 (inA_of hA.2).1]
        exact K
      · cases hg
    · cases hg
  | baload =>
    simp only [lmG] at hg
    split at hg
    · next j a r =>
      cases one hlen
      obtain ⟨h1, h2⟩ := okS_c hst
      obtain ⟨-, h4⟩ := okS_c h2
      split at hg
      · next hA =>
        simp only [Bool.and_eq_true, Bool.or_eq_true] at hA
        cases some_i hg
        rcases hA.1 with hA1 | hA1
        · obtain ⟨g1, g2, g3⟩ := isA_of hA1
          have he := zws_at (B := B) (b := b) (sA := sA) (cA := cA) (h := h) (a := a.toNat) (n := n) (by omega) (by omega)
          rw [cellE_3 g3] at he
          have K := k (okS_i (show okV (.inl (rd h a j)) from okX0 hh (Or.inr (Or.inl g3))) h4)
          rw [List.map_cons] at K ⊢
          rw [List.map_cons, cv_pos g1]
          refine va_bald hx hb hK hP (a.toNat - 1) 2 he (zty_at cA (by omega)) (inA_vp hA.2) hd ?_
          rw [inA_clamp hA.2, tn g1, tn0 (inA_of hA.2).1]
          exact K
        · obtain ⟨g1, g2, g3⟩ := isA_of hA1
          have he := zws_at (B := B) (b := b) (sA := sA) (cA := cA) (h := h) (a := a.toNat) (n := n) (by omega) (by omega)
          rw [cellE_4 g3] at he
          have K := k (okS_i (show okV (.inl (rd h a j)) from okX0 hh (Or.inr (Or.inr g3))) h4)
          rw [List.map_cons] at K ⊢
          rw [List.map_cons, cv_pos g1]
          refine va_zald hx hb hK hP (a.toNat - 1) 3 he (zty_at cA (by omega)) (inA_vp hA.2) hd ?_
          rw [inA_clamp hA.2, tn g1, tn0 (inA_of hA.2).1]
          exact K
      · cases hg
    · cases hg
  | aaload =>
    simp only [lmG] at hg
    split at hg
    · next j a r =>
      cases one hlen
      obtain ⟨h1, h2⟩ := okS_c hst
      obtain ⟨-, h4⟩ := okS_c h2
      split at hg
      · next hA =>
        simp only [Bool.and_eq_true] at hA
        cases some_i hg
        obtain ⟨g1, g2, g3⟩ := isA_of hA.1
        obtain ⟨t1, t2⟩ := lay_ref g3
        have he := zws_at (B := B) (b := b) (sA := sA) (cA := cA) (h := h) (a := a.toNat) (n := n) (by omega) (by omega)
        rw [cellE_5 g3] at he
        have K := k (okS_i (show okV (.inr (.inr (rd h a j))) from trivial) h4)
        have hl : lkd a j = 2 := by
          unfold lkd
          rw [show lay a.toNat = (5, (lay a.toNat).2.1, (lay a.toNat).2.2) from Prod.ext g3 rfl]
          rfl
        rw [List.map_cons, cv_rf1 (hN a j hl)] at K
        rw [List.map_cons, List.map_cons, cv_pos g1]
        refine va_aldq hx hb hK hP (a.toNat - 1) (4 + (lay a.toNat).2.1) he (by rw [zty_at cA (by omega), t1]) (inA_vp hA.2) hd ?_
        rw [inA_clamp hA.2, tn g1, tn0 (inA_of hA.2).1]
        exact K
      · cases hg
    · cases hg
  | arraylength =>
    simp only [lmG] at hg
    split at hg
    · next a r =>
      cases one hlen
      obtain ⟨-, h4⟩ := okS_c hst
      split at hg
      · next ha =>
        cases some_i hg
        subst ha
        have K := k (okS_i (show i32 (xl : Int) by unfold i32; omega) h4)
        rw [List.map_cons] at K
        have e1 : cv B b sA (.inl (xl : Int)) = .int (Int32.ofNat xl) := rfl
        rw [e1] at K
        exact va_slen hx hb hX hbl hbA hS hd K
      · next ha =>
        split at hg
        · next hA =>
          cases some_i hg
          obtain ⟨g1, g2, g3⟩ := isA_of hA
          have he := zws_at (B := B) (b := b) (sA := sA) (cA := cA) (h := h) (a := a.toNat) (n := n) (by omega) (by omega)
          rw [cellE_1 g3] at he
          have hl := lay_len a.toNat
          have K := k (okS_i (show i32 ((lay a.toNat).2.2 : Int) by unfold i32; omega) h4)
          rw [List.map_cons] at K ⊢
          rw [cv_pos g1]
          exact va_alen hx hb hK hP (a.toNat - 1) 0 he (zty_at cA (by omega)) rfl hd K
        · cases hg
    · cases hg
  | _ => simp only [lmG] at hg; cases hg
end SG
end
section
/-! LM, part 11: puts on the machine -/
theorem lkd_o {a : Int} {c k : Nat} (hk : (lay a.toNat).1 = 0) (hc : (lay a.toNat).2.1 = c) : lkd a k = fkd c k := by
  unfold lkd
  rw [show lay a.toNat = (0, c, (lay a.toNat).2.2) from Prod.ext hk (Prod.ext hc rfl)]
  simp
theorem lkd_1 {a i : Int} (hk : (lay a.toNat).1 = 1) : lkd a i = 0 := by
  unfold lkd
  rw [show lay a.toNat = (1, (lay a.toNat).2.1, (lay a.toNat).2.2) from Prod.ext hk rfl]
  rfl
theorem lkd_2 {a i : Int} (hk : (lay a.toNat).1 = 2) : lkd a i = 1 := by
  unfold lkd
  rw [show lay a.toNat = (2, (lay a.toNat).2.1, (lay a.toNat).2.2) from Prod.ext hk rfl]
  rfl
theorem lkd_3 {a i : Int} (hk : (lay a.toNat).1 = 3) : lkd a i = 0 := by
  unfold lkd
  rw [show lay a.toNat = (3, (lay a.toNat).2.1, (lay a.toNat).2.2) from Prod.ext hk rfl]
  rfl
theorem lkd_4 {a i : Int} (hk : (lay a.toNat).1 = 4) : lkd a i = 0 := by
  unfold lkd
  rw [show lay a.toNat = (4, (lay a.toNat).2.1, (lay a.toNat).2.2) from Prod.ext hk rfl]
  rfl
theorem lkd_5 {a i : Int} (hk : (lay a.toNat).1 = 5) : lkd a i = 2 := by
  unfold lkd
  rw [show lay a.toNat = (5, (lay a.toNat).2.1, (lay a.toNat).2.2) from Prod.ext hk rfl]
  rfl
theorem okN_wr {h : LH} {a i v : Int} (hh : okN h) (hv : lkd a i = 2 → 0 ≤ v) : okN (wr h a i v) := fun b j hk => by
  rw [rd_wr]
  split
  · next e => obtain ⟨rfl, rfl⟩ := e; exact hv hk
  · exact hh b j hk
theorem wr_ne {h : LH} {a i v : Int} (ha : 1 ≤ a) (k : Nat) (j : Int) (hk : k ≠ a.toNat) : rd (wr h a i v) (k : Int) j = rd h (k : Int) j := rd_ne (by omega)
theorem fvs_set {B b sA : Nat} {h : LH} {a : Int} {c N k : Nat} {v : Int} (ha : 1 ≤ a) (hk : k < N) : (fvs B b sA h a.toNat c N).set k (cv B b sA (mkv (fkd c k) v)) = fvs B b sA (wr h a k v) a.toNat c N := by
  apply List.ext_getElem?
  intro j
  unfold fvs
  by_cases e : k = j
  · subst e
    rw [List.getElem?_set_self (by simpa using hk), List.getElem?_map, List.getElem?_range hk]
    simp only [Option.map_some]
    rw [tn ha, rd_wr, if_pos ⟨rfl, rfl⟩]
  · rw [List.getElem?_set_ne e, List.getElem?_map, List.getElem?_map]
    by_cases hj : j < N
    · rw [List.getElem?_range hj]
      simp only [Option.map_some]
      rw [rd_wr, if_neg (fun q => e (by omega))]
    · rw [List.getElem?_eq_none (by simpa using hj)]
      rfl
theorem okk_of {k : Nat} {v : LV} {z : Int} (h : okk k v = some z) : v = mkv k z ∧ (k = 2 → 0 ≤ z) ∧ (k = 3 → z = 0 ∨ z = 1) ∧ k ≤ 3 := by
  unfold okk at h
  split at h
  · cases some_i h; exact ⟨rfl, fun q => by omega, fun q => by omega, by omega⟩
  · cases some_i h; exact ⟨rfl, fun q => by omega, fun q => by omega, by omega⟩
  · split at h
    · next q => cases some_i h; exact ⟨rfl, fun _ => q, fun q => by omega, by omega⟩
    · cases h
  · split at h
    · next q => cases some_i h; exact ⟨rfl, fun q => by omega, fun _ => q, by omega⟩
    · cases h
  · cases h
theorem okk_ok {k : Nat} {z : Int} (hk : k ≤ 3) (h : okV (mkv k z)) : okX k z := by
  match k, hk with
  | 0, _ => exact h
  | 1, _ => exact h
  | 2, _ => trivial
  | 3, _ => exact h
theorem fit_of {B b sA : Nat} {k : Nat} {z : Int} {ty : FieldType} (hk : kdOk k ty = true) (h2 : k = 2 → 0 ≤ z) (h3 : k = 3 → z = 0 ∨ z = 1) : narrow ty (cv B b sA (mkv k z)) = cv B b sA (mkv k z) ∧ fits ty (cv B b sA (mkv k z)) = true := by
  unfold kdOk at hk
  split at hk
  · exact ⟨rfl, rfl⟩
  · exact ⟨rfl, rfl⟩
  · show narrow _ (cv B b sA (.inr (.inr z))) = cv B b sA (.inr (.inr z)) ∧ fits _ (cv B b sA (.inr (.inr z))) = true
    rcases cv_ref B b sA z with q | ⟨a, q⟩ <;> rw [q] <;> exact ⟨rfl, rfl⟩
  · show narrow _ (cv B b sA (.inr (.inr z))) = cv B b sA (.inr (.inr z)) ∧ fits _ (cv B b sA (.inr (.inr z))) = true
    rcases cv_ref B b sA z with q | ⟨a, q⟩ <;> rw [q] <;> exact ⟨rfl, rfl⟩
  · rcases h3 rfl with rfl | rfl <;> exact ⟨rfl, rfl⟩
  · cases hk
theorem nar_byte {x : Int} (h : -128 ≤ x ∧ x ≤ 127) : vp_nar .byte (Int32.ofInt x) = Int32.ofInt x := by
  rw [vp_nar_byte]
  refine x_eq ?_
  rw [Int8.toInt_toInt32, Int32.toInt_toInt8, x_of (by unfold i32; omega), Int.bmod_def]
  omega
theorem nar_bool {x : Int} (h : x = 0 ∨ x = 1) : vp_nar .boolean (Int32.ofInt x) = Int32.ofInt x := by
  rcases h with rfl | rfl <;> rfl
section SP
variable {p : Program} {l : Launch} {e : Env} {R : Room} {s : State} {m : MethodId} {args : Array Value} {below : List Frame} {meth : Method} {c : Code} {H : Heap} {locs : List Loc} {cells slots : Nat} {Q : State → Prop}
variable {cc : ByteArray} {pc : Nat} {sl : Array Slot} {B b sA nL o n : Nat} {D : va_G} {cA : Nat → ClassId} {H0 : Heap}
set_option maxHeartbeats 4000000 in
theorem sim_P (hx : p.tables.exec = Jvm.exec) (hb : c.code = cc) (hown : s.vm.findClass (onm o) = some m.cls) (hts : ∀ w ∈ ZB, w.before args s = true) (hK : va_K D zcl (zty cA) s)
    {ini : Bool} (hini : ini = true → meth.name = "<init>") {h h' : LH} (hh : okH h) (hN : okN h)
    (hP : va_P D zcl (zws B b sA cA n h) H) (hS : va_S (zA B) H0 H locs)
    {i : Instr} {len : Nat} {st st' : List LV} (hg : lmP o n ini i st h = some (st', h')) (hlen : ilen i len = true) (hd : decode cc pc = .ok (i, len)) (hst : okS st)
    (k : ∀ (H1 : Heap) (locs1 : List Loc), okS st' → okH h' → okN h' → va_P D zcl (zws B b sA cA n h') H1 → va_S (zA B) H0 H1 locs1 → W p l e R s m args below meth c H1 locs1 cells slots Q (F0 m (pc + len) sl (st'.map (cv B b sA)))) :
    W p l e R s m args below meth c H locs cells slots Q (F0 m pc sl (st.map (cv B b sA))) := by
  have one : ∀ {n : Nat}, (n == 1) = true → n = 1 := fun h => by simpa using h
  have hD := zD (B := B) (b := b) (sA := sA) (cA := cA) n h
  cases i with
  | putfield x =>
    simp only [lmP] at hg
    split at hg
    · next v a r =>
      split at hg
      · next c0 k0 hf =>
        split at hg
        · next hO =>
          rw [Option.map_eq_some_iff] at hg
          obtain ⟨z, hz, hg⟩ := hg
          cases hg
          have e3 : len = 3 := by simpa [ilen] using hlen
          subst e3
          simp only [Bool.and_eq_true, Bool.or_eq_true, Bool.not_eq_true', beq_iff_eq] at hO
          obtain ⟨g1, g2, g3, g4⟩ := isO_of hO.1
          obtain ⟨C, T, N, hc, hk, hw⟩ := fld_of hf
          obtain ⟨u1, -, u3, u4⟩ := cls_of hc
          obtain ⟨y1, y2⟩ := TY_ok hc
          have hNe : (lay a.toNat).2.2 = N := by
            have := lay_obj g3
            rw [g4, hc] at this
            exact (Option.some.inj this).symm
          have he := zws_at (B := B) (b := b) (sA := sA) (cA := cA) (h := h) (a := a.toNat) (n := n) (by omega) (by omega)
          rw [cellE_0 g3, g4, hNe] at he
          obtain ⟨z1, z2, z3, z4⟩ := okk_of hz
          obtain ⟨h1, h2⟩ := okS_c hst
          obtain ⟨-, h4⟩ := okS_c h2
          have hkd := KD_ok c0 (zcl_lt hc) _ hc k0 hk
          subst z1
          obtain ⟨f1, f2⟩ := fit_of (B := B) (b := b) (sA := sA) hkd z2 z3
          have hl : k0 < (fvs B b sA h a.toNat c0 N).length := by unfold fvs; simpa using hk
          have hlk := lkd_o (k := k0) g3 g4
          have ok1 : okH (wr h a k0 z) := okH_wr hh (by rw [hlk]; exact okk_ok z4 h1)
          have ok2 : okN (wr h a k0 z) := okN_wr hN (by rw [hlk]; exact z2)
          have hset : (zws B b sA cA n h).set (a.toNat - 1) (B + a.toNat, .inr (c0, (fvs B b sA h a.toNat c0 N).set k0 (cv B b sA (mkv (fkd c0 k0) z)))) = zws B b sA cA n (wr h a k0 z) := by
            refine zws_set (by omega) (by omega) ?_ (fun q j hq => wr_ne g1 q j hq)
            rw [cellE_0 g3, g4, hNe, fvs_set g1 hk]
          rw [List.map_cons, List.map_cons, cv_pos g1]
          rcases hO.2 with hfin | ⟨hi, ho⟩
          · have hfin2 : (T k0).2.2.2 = false := by unfold fin at hfin; rw [hc] at hfin; exact hfin
            refine va_put hx hb hts u1 (tyF c0) y1 y2 hown hK hP hD hS (a.toNat - 1) he hc k0 hk (hts _ hw) (by rw [u4 k0 hk]; exact fun _ q => q) hfin2 (y1 k0 hk) f1 f2 hl hd (fun H1 locs1 q1 q2 q3 => ?_)
            rw [hset] at q1
            exact k H1 locs1 h4 ok1 ok2 q1 q3
          · by_cases hfin2 : (T k0).2.2.2 = true
            · refine va_putF hx hb hts u1 (tyF c0) y1 y2 hown hK hP hD hS (a.toNat - 1) he hc k0 hk (hts _ hw) (by rw [u4 k0 hk]; exact fun _ q => q) hfin2 (hini hi) (by rw [u4 k0 hk, u3, ho]) (y1 k0 hk) f1 f2 hl hd (fun H1 locs1 q1 q2 q3 => ?_)
              rw [hset] at q1
              exact k H1 locs1 h4 ok1 ok2 q1 q3
            · refine va_put hx hb hts u1 (tyF c0) y1 y2 hown hK hP hD hS (a.toNat - 1) he hc k0 hk (hts _ hw) (by rw [u4 k0 hk]; exact fun _ q => q) (by simpa using hfin2) (y1 k0 hk) f1 f2 hl hd (fun H1 locs1 q1 q2 q3 => ?_)
              rw [hset] at q1
              exact k H1 locs1 h4 ok1 ok2 q1 q3
        · cases hg
      · cases hg
    · cases hg
  | iastore =>
    simp only [lmP] at hg
    split at hg
    · next v j a r =>
      split at hg
      · next hA =>
        simp only [Bool.and_eq_true] at hA
        cases some_i hg
        cases one hlen
        obtain ⟨h1, h2⟩ := okS_c hst
        obtain ⟨-, h3⟩ := okS_c h2
        obtain ⟨-, h4⟩ := okS_c h3
        obtain ⟨g1, g2, g3⟩ := isA_of hA.1
        obtain ⟨i1, i2⟩ := inA_of hA.2
        have he := zws_at (B := B) (b := b) (sA := sA) (cA := cA) (h := h) (a := a.toNat) (n := n) (by omega) (by omega)
        rw [cellE_1 g3] at he
        rw [List.map_cons, List.map_cons, List.map_cons, cv_pos g1]
        refine va_iast hx hb hK hP hD hS (a.toNat - 1) 0 he (zty_at cA (by omega)) (inA_vp hA.2) hd (fun H1 locs1 q1 q2 q3 => ?_)
        rw [zws_set (h' := wr h a j v) (by omega) (by omega) ?_ (fun q j hq => wr_ne g1 q j hq)] at q1
        · exact k H1 locs1 h4 (okH_wr hh (by rw [lkd_1 g3]; exact h1)) (okN_wr hN (by rw [lkd_1 g3]; omega)) q1 q3
        · rw [cellE_1 g3, inA_clamp hA.2]
          congr 4
          funext q
          rw [tn g1, rd_wr]
          unfold upd
          by_cases e : q = j.toNat
          · rw [if_pos e, if_pos ⟨rfl, by omega⟩]
          · rw [if_neg e, if_neg (fun z => e (by omega))]
      · cases hg
    · cases hg
  | lastore =>
    simp only [lmP] at hg
    split at hg
    · next v j a r =>
      split at hg
      · next hA =>
        simp only [Bool.and_eq_true] at hA
        cases some_i hg
        cases one hlen
        obtain ⟨h1, h2⟩ := okS_c hst
        obtain ⟨-, h3⟩ := okS_c h2
        obtain ⟨-, h4⟩ := okS_c h3
        obtain ⟨g1, g2, g3⟩ := isA_of hA.1
        obtain ⟨i1, i2⟩ := inA_of hA.2
        have he := zws_at (B := B) (b := b) (sA := sA) (cA := cA) (h := h) (a := a.toNat) (n := n) (by omega) (by omega)
        rw [cellE_2 g3] at he
        rw [List.map_cons, List.map_cons, List.map_cons, cv_pos g1]
        refine va_last hx hb hK hP hD hS (a.toNat - 1) 1 he (zty_at cA (by omega)) (inA_vp hA.2) hd (fun H1 locs1 q1 q2 q3 => ?_)
        rw [zws_set (h' := wr h a j v) (by omega) (by omega) ?_ (fun q j hq => wr_ne g1 q j hq)] at q1
        · exact k H1 locs1 h4 (okH_wr hh (by rw [lkd_2 g3]; exact h1)) (okN_wr hN (by rw [lkd_2 g3]; omega)) q1 q3
        · rw [cellE_2 g3, inA_clamp hA.2]
          congr 5
          funext q
          rw [tn g1, rd_wr]
          unfold vp_updL
          by_cases e : q = j.toNat
          · rw [if_pos e, if_pos ⟨rfl, by omega⟩]
          · rw [if_neg e, if_neg (fun z => e (by omega))]
      · cases hg
    · cases hg
  | bastore =>
    simp only [lmP] at hg
    split at hg
    · next v j a r =>
      split at hg
      · next hA =>
        simp only [Bool.and_eq_true, Bool.or_eq_true, decide_eq_true_eq] at hA
        cases some_i hg
        cases one hlen
        obtain ⟨h1, h2⟩ := okS_c hst
        obtain ⟨-, h3⟩ := okS_c h2
        obtain ⟨-, h4⟩ := okS_c h3
        obtain ⟨i1, i2⟩ := inA_of hA.1
        rcases hA.2 with ⟨hA2, hv⟩ | ⟨hA2, hv⟩
        · obtain ⟨g1, g2, g3⟩ := isA_of hA2
          have he := zws_at (B := B) (b := b) (sA := sA) (cA := cA) (h := h) (a := a.toNat) (n := n) (by omega) (by omega)
          rw [cellE_3 g3] at he
          rw [List.map_cons, List.map_cons, List.map_cons, cv_pos g1]
          refine va_bast hx hb hK hP hD hS (a.toNat - 1) 2 he (zty_at cA (by omega)) (inA_vp hA.1) hd (fun H1 locs1 q1 q2 q3 => ?_)
          rw [zws_set (h' := wr h a j v) (by omega) (by omega) ?_ (fun q j hq => wr_ne g1 q j hq)] at q1
          · exact k H1 locs1 h4 (okH_wr hh (by rw [lkd_3 g3]; exact h1)) (okN_wr hN (by rw [lkd_3 g3]; omega)) q1 q3
          · rw [cellE_3 g3, inA_clamp hA.1, nar_byte hv]
            congr 4
            funext q
            rw [tn g1, rd_wr]
            unfold upd
            by_cases e : q = j.toNat
            · rw [if_pos e, if_pos ⟨rfl, by omega⟩]
            · rw [if_neg e, if_neg (fun z => e (by omega))]
        · obtain ⟨g1, g2, g3⟩ := isA_of hA2
          have he := zws_at (B := B) (b := b) (sA := sA) (cA := cA) (h := h) (a := a.toNat) (n := n) (by omega) (by omega)
          rw [cellE_4 g3] at he
          rw [List.map_cons, List.map_cons, List.map_cons, cv_pos g1]
          refine va_zast hx hb hK hP hD hS (a.toNat - 1) 3 he (zty_at cA (by omega)) (inA_vp hA.1) hd (fun H1 locs1 q1 q2 q3 => ?_)
          rw [zws_set (h' := wr h a j v) (by omega) (by omega) ?_ (fun q j hq => wr_ne g1 q j hq)] at q1
          · exact k H1 locs1 h4 (okH_wr hh (by rw [lkd_4 g3]; exact h1)) (okN_wr hN (by rw [lkd_4 g3]; omega)) q1 q3
          · rw [cellE_4 g3, inA_clamp hA.1, nar_bool hv]
            congr 4
            funext q
            rw [tn g1, rd_wr]
            unfold upd
            by_cases e : q = j.toNat
            · rw [if_pos e, if_pos ⟨rfl, by omega⟩]
            · rw [if_neg e, if_neg (fun z => e (by omega))]
      · cases hg
    · cases hg
  | aastore =>
    simp only [lmP] at hg
    split at hg
    · next v j a r =>
      split at hg
      · next hA =>
        simp only [Bool.and_eq_true] at hA
        cases some_i hg
        cases one hlen
        obtain ⟨h1, h2⟩ := okS_c hst
        obtain ⟨-, h3⟩ := okS_c h2
        obtain ⟨-, h4⟩ := okS_c h3
        obtain ⟨g1, g2, g3⟩ := isA_of hA.1.1
        obtain ⟨i1, i2⟩ := inA_of hA.1.2
        obtain ⟨t1, t2⟩ := lay_ref g3
        obtain ⟨v1, v2, v3, v4⟩ := isO_of hA.2
        have hc : ∃ q, zcl[(lay a.toNat).2.1]? = some q := by
          have := lay_obj v3
          rw [v4, Option.map_eq_some_iff] at this
          obtain ⟨q, hq, -⟩ := this
          exact ⟨q, hq⟩
        obtain ⟨⟨C, T, N⟩, hc⟩ := hc
        obtain ⟨-, -, u3, -⟩ := cls_of hc
        have he := zws_at (B := B) (b := b) (sA := sA) (cA := cA) (h := h) (a := a.toNat) (n := n) (by omega) (by omega)
        rw [cellE_5 g3] at he
        have he2 := zws_at (B := B) (b := b) (sA := sA) (cA := cA) (h := h) (a := v.toNat) (n := n) (by omega) (by omega)
        rw [cellE_0 v3, v4] at he2
        rw [List.map_cons, List.map_cons, List.map_cons, cv_pos g1, cv_pos v1]
        refine va_astq hx hb hK hP hD hS (a.toNat - 1) (4 + (lay a.toNat).2.1) (v.toNat - 1) (lay a.toNat).2.1 he (by rw [zty_at cA (by omega), t1, u3]) he2 hc (inA_vp hA.1.2) hd (fun H1 locs1 q1 q2 q3 => ?_)
        rw [zws_set (h' := wr h a j v) (by omega) (by omega) ?_ (fun q j hq => wr_ne g1 q j hq)] at q1
        · exact k H1 locs1 h4 (okH_wr hh (by rw [lkd_5 g3]; trivial)) (okN_wr hN (fun _ => by omega)) q1 q3
        · rw [cellE_5 g3, inA_clamp hA.1.2]
          congr 7
          funext q
          rw [tn g1, rd_wr]
          unfold va_up
          by_cases e : q = j.toNat
          · rw [if_pos e, if_pos ⟨rfl, by omega⟩]
            unfold rf1
            rw [if_neg (by omega)]
          · rw [if_neg e, if_neg (fun z => e (by omega))]
      · cases hg
    · cases hg
  | _ => simp only [lmP] at hg; cases hg
end SP
end
section
/-! LM, part 12: constants, Object.<init>, arraycopy, and what makes cells, on the machine -/
/-- what isn't made yet was never written -/
def okF (n : Nat) (h : LH) : Prop := ∀ a j : Int, (n : Int) < a → rd h a j = 0
theorem okF_wr {n : Nat} {h : LH} {a i v : Int} (hh : okF n h) (ha : a ≤ n) : okF n (wr h a i v) := fun b j hb => by
  rw [rd_ne (by omega)]
  exact hh b j hb
theorem okF_s {n : Nat} {h : LH} (hh : okF n h) : okF (n + 1) h := fun a j ha => hh a j (by omega)
theorem lmP_F {o n : Nat} {ini : Bool} {i : Instr} {st st' : List LV} {h h' : LH} (hg : lmP o n ini i st h = some (st', h')) (hF : okF n h) : okF n h' := by
  unfold lmP at hg
  split at hg
  · split at hg
    · split at hg
      · split at hg
        · next hO =>
          simp only [Bool.and_eq_true] at hO
          obtain ⟨g1, g2, -⟩ := isO_of hO.1
          rw [Option.map_eq_some_iff] at hg
          obtain ⟨z, -, hz⟩ := hg
          cases hz
          exact okF_wr hF g2
        · cases hg
      · cases hg
    · cases hg
  · split at hg
    · split at hg
      · next hA =>
        simp only [Bool.and_eq_true] at hA
        cases some_i hg
        exact okF_wr hF (isA_of hA.1).2.1
      · cases hg
    · cases hg
  · split at hg
    · split at hg
      · next hA =>
        simp only [Bool.and_eq_true] at hA
        cases some_i hg
        exact okF_wr hF (isA_of hA.1).2.1
      · cases hg
    · cases hg
  · split at hg
    · split at hg
      · next hA =>
        simp only [Bool.and_eq_true, Bool.or_eq_true] at hA
        cases some_i hg
        rcases hA.2 with q | q
        · exact okF_wr hF (isA_of q.1).2.1
        · exact okF_wr hF (isA_of q.1).2.1
      · cases hg
    · cases hg
  · split at hg
    · split at hg
      · next hA =>
        simp only [Bool.and_eq_true] at hA
        cases some_i hg
        exact okF_wr hF (isA_of hA.1.1).2.1
      · cases hg
    · cases hg
  · cases hg
theorem rd_cpy (h : LH) (a sp b dp : Int) (x y : Int) : ∀ k : Nat, rd (cpyL h a sp b dp k ++ h) x y = if x = b ∧ dp ≤ y ∧ y < dp + k then rd h a (sp + (y - dp)) else rd h x y
  | 0 => by
    rw [if_neg (by omega)]
    rfl
  | k + 1 => by
    have ih := rd_cpy h a sp b dp x y k
    show (if b = x ∧ dp + (k : Int) = y then rd h a (sp + k) else rd (cpyL h a sp b dp k ++ h) x y) = _
    by_cases e : b = x ∧ dp + (k : Int) = y
    · rw [if_pos e, if_pos ⟨e.1.symm, by omega⟩]
      congr 1
      omega
    · rw [if_neg e, ih]
      by_cases e2 : x = b ∧ dp ≤ y ∧ y < dp + k
      · rw [if_pos e2, if_pos ⟨e2.1, by omega⟩]
      · rw [if_neg e2, if_neg]
        rintro ⟨q1, q2, q3⟩
        by_cases q4 : y < dp + k
        · exact e2 ⟨q1, q2, q4⟩
        · exact e ⟨q1.symm, by omega⟩
theorem cpy_keep {h : LH} {a sp b dp : Int} (k : Nat) (ka : (lay a.toNat).1 = 1) (kb : (lay b.toNat).1 = 1) (hh : okH h) (hN : okN h) : okH (cpyL h a sp b dp k ++ h) ∧ okN (cpyL h a sp b dp k ++ h) := by
  refine ⟨fun x y => ?_, fun x y hk => ?_⟩
  · rw [rd_cpy]
    split
    · next e =>
      rw [e.1, lkd_1 kb]
      exact okX0 hh (Or.inl ka)
    · exact hh x y
  · rw [rd_cpy]
    split
    · next e =>
      rw [e.1, lkd_1 kb] at hk
      cases hk
    · exact hN x y hk
theorem lmQ_F {o n : Nat} {i : Instr} {st st' : List LV} {h h' : LH} (hg : lmQ o n i st h = some (st', h')) (hF : okF n h) : okF n h' := by
  unfold lmQ at hg
  split at hg
  · split at hg
    · split at hg
      · split at hg
        · split at hg
          · cases some_i hg; exact hF
          · cases hg
        · cases hg
      · cases hg
    · cases hg
  · split at hg
    · split at hg
      · split at hg
        · split at hg
          · next hA =>
            simp only [Bool.and_eq_true] at hA
            cases some_i hg
            have hb := (isA_of hA.1.1.2).2.1
            intro x y hx
            rw [rd_cpy, if_neg (by rintro ⟨q, -⟩; omega)]
            exact hF x y hx
          · cases hg
        · cases hg
      · cases hg
    · cases hg
  · cases hg
section SN
variable {p : Program} {l : Launch} {e : Env} {R : Room} {s : State} {m : MethodId} {args : Array Value} {below : List Frame} {meth : Method} {c : Code} {H : Heap} {locs : List Loc} {cells slots : Nat} {Q : State → Prop}
variable {cc : ByteArray} {pc : Nat} {sl : Array Slot} {B b sA nL o n : Nat} {D : va_G} {cA : Nat → ClassId} {H0 : Heap}
theorem W_sz {g : JFrame} (k : H.size ≤ s.heap.size + cells → W p l e R s m args below meth c H locs cells slots Q g) : W p l e R s m args below meth c H locs cells slots Q g := fun T hT X => k (by rw [← hT]; exact X.heapSize) T hT X
set_option maxHeartbeats 4000000 in
theorem sim_C (hx : p.tables.exec = Jvm.exec) (hb : c.code = cc) (hown : s.vm.findClass (onm o) = some m.cls) (hts : ∀ w ∈ ZB, w.before args s = true)
    {i : Instr} {len : Nat} {st : List LV} {v : LV} (hg : lmC o i = some v) (hns : ¬ (o = 7 ∧ i = .ldc 19)) (hlen : ilen i len = true) (hd : decode cc pc = .ok (i, len)) (hst : okS st)
    (k : okS (v :: st) → W p l e R s m args below meth c H locs cells slots Q (F0 m (pc + len) sl ((v :: st).map (cv B b sA)))) :
    W p l e R s m args below meth c H locs cells slots Q (F0 m pc sl (st.map (cv B b sA))) := by
  cases i with
  | ldc x =>
    simp only [lmC] at hg
    rw [if_neg (fun q => hns ⟨q.1, by rw [q.2]⟩), Option.map_eq_some_iff] at hg
    obtain ⟨q, h1, h2⟩ := hg
    obtain ⟨h3, h4⟩ := find_of h1
    obtain ⟨-, h5⟩ := all17 CT chkC CT_ok17 CT_nil h3
    simp only [chkC, Bool.and_eq_true, decide_eq_true_eq] at h5
    rw [h4] at h5
    subst h2
    have e : len = 2 := by simpa [ilen] using hlen
    subst e
    exact lv_ldc hx hb hown (hts _ (inT_in h5.1)) hd (k (okS_i h5.2 hst))
  | ldc_w x =>
    simp only [lmC] at hg
    rw [Option.map_eq_some_iff] at hg
    obtain ⟨q, h1, h2⟩ := hg
    obtain ⟨h3, h4⟩ := find_of h1
    obtain ⟨-, h5⟩ := all17 CT chkC CT_ok17 CT_nil h3
    simp only [chkC, Bool.and_eq_true, decide_eq_true_eq] at h5
    rw [h4] at h5
    subst h2
    have e : len = 3 := by simpa [ilen] using hlen
    subst e
    exact lv_ldcw hx hb hown (hts _ (inT_in h5.1)) hd (k (okS_i h5.2 hst))
  | ldc2_w x =>
    simp only [lmC] at hg
    rw [Option.map_eq_some_iff] at hg
    obtain ⟨q, h1, h2⟩ := hg
    obtain ⟨h3, h4⟩ := find_of h1
    obtain ⟨-, h5⟩ := all17 CLT chkL CLT_ok17 CLT_nil h3
    simp only [chkL, Bool.and_eq_true, decide_eq_true_eq] at h5
    rw [h4] at h5
    subst h2
    have e : len = 3 := by simpa [ilen] using hlen
    subst e
    exact lv_ldc2 hx hb hown (hts _ (inT_in h5.1)) hd (k (okS_i h5.2 hst))
  | _ => simp only [lmC] at hg; cases hg
set_option maxHeartbeats 4000000 in
theorem sim_Q (hx : p.tables.exec = Jvm.exec) (hb : c.code = cc) (hml : c.maxLocals = sl.size) (hown : s.vm.findClass (onm o) = some m.cls) (hts : ∀ w ∈ ZB, w.before args s = true) (hK : va_K D zcl (zty cA) s)
    (hR : 8 ≤ R.frames ∧ 512 ≤ R.locals) {h h' : LH} (hh : okH h) (hN : okN h)
    (hP : va_P D zcl (zws B b sA cA n h) H) (hS : va_S (zA B) H0 H locs)
    {i : Instr} {len : Nat} {st st' : List LV} (hg : lmQ o n i st h = some (st', h')) (hlen : ilen i len = true) (hd : decode cc pc = .ok (i, len)) (hst : okS st)
    (k : ∀ (H1 : Heap) (locs1 : List Loc), okS st' → okH h' → okN h' → va_P D zcl (zws B b sA cA n h') H1 → va_S (zA B) H0 H1 locs1 → W p l e R s m args below meth c H1 locs1 cells slots Q (F0 m (pc + len) sl (st'.map (cv B b sA)))) :
    W p l e R s m args below meth c H locs cells slots Q (F0 m pc sl (st.map (cv B b sA))) := by
  cases i with
  | invokespecial x =>
    simp only [lmQ] at hg
    split at hg
    · next q hq =>
      obtain ⟨h3, h4⟩ := find_of hq
      obtain ⟨-, h5⟩ := all17 PTC chkP PTC_ok17 PTC_nil h3
      split at hg
      · next hz =>
        split at hg
        · next a r =>
          split at hg
          · next ha =>
            cases some_i hg
            have e : len = 3 := by simpa [ilen] using hlen
            subst e
            obtain ⟨-, h6⟩ := okS_c hst
            unfold chkP at h5
            rw [hz, h4] at h5
            have K := k H locs h6 hh hN hP hS
            have hc := lcat_cv B b sA st'
            rw [List.map_cons, cv_pos ha.1]
            refine W.objInit hx hb hown (hts _ (inT_in h5)) (hts _ (inT_in obj_ok.1)) (hts _ (inT_in obj_ok.2)) rfl hml.symm rfl hd (by omega) ?_ K
            show 2 * 0 + _ + 12 ≤ _
            rw [hc]
            omega
          · cases hg
        · cases hg
      · cases hg
    · cases hg
  | invokestatic x =>
    simp only [lmQ] at hg
    split at hg
    · next q hq =>
      obtain ⟨h3, h4⟩ := find_of hq
      obtain ⟨-, h5⟩ := all17 PTC chkP PTC_ok17 PTC_nil h3
      split at hg
      · next hz =>
        split at hg
        · next mm dp b' sp a r =>
          split at hg
          · next hA =>
            simp only [Bool.and_eq_true, decide_eq_true_eq] at hA
            obtain ⟨⟨⟨hA1, hA2⟩, hA3⟩, hA4⟩ := hA
            cases some_i hg
            have e : len = 3 := by simpa [ilen] using hlen
            subst e
            obtain ⟨o1, h6⟩ := okS_c hst
            obtain ⟨o2, h6⟩ := okS_c h6
            obtain ⟨-, h6⟩ := okS_c h6
            obtain ⟨o3, h6⟩ := okS_c h6
            obtain ⟨-, h6⟩ := okS_c h6
            obtain ⟨g1, g2, g3⟩ := isA_of hA1
            obtain ⟨g4, g5, g6⟩ := isA_of hA2
            have la := lay_len a.toNat
            have lb := lay_len b'.toNat
            have i1 : i32 mm := o1
            have i2 : i32 dp := o2
            have i3 : i32 sp := o3
            unfold chkP at h5
            rw [hz, h4] at h5
            have he := zws_at (B := B) (b := b) (sA := sA) (cA := cA) (h := h) (a := a.toNat) (n := n) (by omega) (by omega)
            rw [cellE_1 g3] at he
            have he2 := zws_at (B := B) (b := b) (sA := sA) (cA := cA) (h := h) (a := b'.toNat) (n := n) (by omega) (by omega)
            rw [cellE_1 g6] at he2
            have hc := lcat_cv B b sA st'
            rw [List.map_cons, List.map_cons, List.map_cons, List.map_cons, List.map_cons, cv_pos g1, cv_pos g4]
            refine va_copyi hx hb hml hown (hts _ (inT_in h5)) (hts _ (inT_in cpy_ok.1)) (hts _ (inT_in cpy_ok.2.1)) (hts _ (inT_in cpy_ok.2.2)) hK hP (zD n h) hS (a.toNat - 1) (b'.toNat - 1) 0 0 he he2 (zty_at cA (by omega)) (zty_at cA (by omega)) rfl
              (fun q => by have := (o_lt i3 z32).mp q; omega) (fun q => by have := (o_lt i2 z32).mp q; omega) (fun q => by have := (o_lt i1 z32).mp q; omega) (by rw [o_clamp i3, o_clamp i1]; omega) (by rw [o_clamp i2, o_clamp i1]; omega) (fun _ _ => rfl) (by omega) ?_ hd (fun H1 locs1 q1 q2 q3 => ?_)
            · rw [hc]
              show lcat st' + (5 + 2 + 11) ≤ R.locals
              omega
            · obtain ⟨k1, k2⟩ := cpy_keep (h := h) (sp := sp) (dp := dp) mm.toNat g3 g6 hh hN
              rw [zws_set (h' := cpyL h a sp b' dp mm.toNat ++ h) (by omega) (by omega) ?_ (fun q j hq => by rw [rd_cpy, if_neg (fun z => hq (by omega))])] at q1
              · exact k H1 locs1 h6 k1 k2 q1 q3
              · rw [cellE_1 g6, o_clamp i3, o_clamp i1, o_clamp i2]
                congr 4
                funext q
                unfold va_cpy
                rw [tn g4, rd_cpy, tn g1]
                by_cases e2 : dp.toNat ≤ q ∧ q < dp.toNat + mm.toNat
                · rw [if_pos e2, if_pos ⟨rfl, by omega, by omega⟩]
                  congr 2
                  omega
                · rw [if_neg e2, if_neg (fun z => e2 (by omega))]
          · cases hg
        · cases hg
      · cases hg
    · cases hg
  | _ => simp only [lmQ] at hg; cases hg
end SN
end
section
/-! LM, part 13: making cells on the machine -/
def ssum : Nat → Nat
  | 0 => 0
  | n + 1 => ssum n + (lay (n + 1)).2.2
theorem sz_of {D : va_G} {cA : Nat → ClassId} {B b sA n n0 cells : Nat} {h : LH} {H H0 : Heap} {locs : List Loc} (hP : va_P D zcl (zws B b sA cA n h) H) (hS : va_S (zA B) H0 H locs) (h0 : H0.size = B + 1 + n0) (hn : n0 ≤ n) (hc : cells = n - n0) (hz : H.size ≤ H0.size + cells) : H.size = B + (n + 1) := by
  have h1 := hS.1
  by_cases e : n = n0
  · omega
  · have h2 := (hP (n - 1) _ (by rw [zws_at (a := n) (by omega) (by omega)])).lt
    simp only at h2
    omega
theorem dv_0 {k : Nat} {ty : FieldType} (B b sA : Nat) (h : kdOk k ty = true) : defaultValue ty = cv B b sA (mkv k 0) := by
  unfold kdOk at h
  split at h <;> first | rfl | cases h
section SM
variable {p : Program} {l : Launch} {e : Env} {R : Room} {s : State} {m : MethodId} {args : Array Value} {below : List Frame} {meth : Method} {c : Code} {H : Heap} {locs : List Loc} {cells slots : Nat} {Q : State → Prop}
variable {cc : ByteArray} {pc : Nat} {sl : Array Slot} {B b sA nL o n n0 : Nat} {D : va_G} {cA : Nat → ClassId}
theorem zP_push {h : LH} {H1 : Heap} (hP : va_P D zcl (zws B b sA cA n h) H) (hk : ∀ q : Nat, q < H.size → H1[q]? = H[q]?) (hn : va_at D zcl (B + (n + 1), cellE B b sA cA h (n + 1)) H1) : va_P D zcl (zws B b sA cA (n + 1) h) H1 := by
  rw [zws_succ]
  refine va_P.app (hP.kept (fun k q hq => hk q.1 ((hP k q hq).lt))) (fun k q hq => ?_)
  have hz : k < 1 := (List.getElem?_eq_some_iff.mp hq).1
  rw [show k = 0 by omega] at hq
  cases hq
  exact hn
theorem zS_push {H1 : Heap} {H0 : Heap} (hS : va_S (zA B) H0 H locs) (hz : H1.size = H.size + 1) (hk : ∀ q : Nat, q < H.size → H1[q]? = H[q]?) : va_S (zA B) H0 H1 locs :=
  ⟨by have := hS.1; omega, fun q h1 h2 => (hk q (Nat.lt_of_lt_of_le h1 hS.1)).trans (hS.2.1 q h1 h2), hS.2.2⟩
set_option maxHeartbeats 4000000 in
theorem sim_N (hx : p.tables.exec = Jvm.exec) (hb : c.code = cc) (hown : s.vm.findClass (onm o) = some m.cls) (hts : ∀ w ∈ ZB, w.before args s = true) (hK : va_K D zcl (zty cA) s) (hAO : ∀ q ∈ AOL, va_AO (onm q.1) s)
    {h : LH} (hF : okF n h) (hP : va_P D zcl (zws B b sA cA n h) H) (hS : va_S (zA B) s.heap H locs) (h0 : s.heap.size = B + 1 + n0) (hn0 : n0 ≤ n) (hc : cells = n - n0)
    (hcl : cells + 1 ≤ R.cells) (hsl : slots + (lay (n + 1)).2.2 ≤ R.slots)
    {i : Instr} {len : Nat} {st st' : List LV} (hg : lmN o n i st = some st') (hlen : ilen i len = true) (hd : decode cc pc = .ok (i, len)) (hst : okS st)
    (k : ∀ H1 : Heap, okS st' → okF (n + 1) h → va_P D zcl (zws B b sA cA (n + 1) h) H1 → va_S (zA B) s.heap H1 locs → W p l e R s m args below meth c H1 locs (cells + 1) (slots + (lay (n + 1)).2.2) Q (F0 m (pc + len) sl (st'.map (cv B b sA)))) :
    W p l e R s m args below meth c H locs cells slots Q (F0 m pc sl (st.map (cv B b sA))) := by
  have r0 : ∀ j : Int, rd h ((n + 1 : Nat) : Int) j = 0 := fun j => hF _ j (by omega)
  have hl3 := lay_len (n + 1)
  refine W_sz fun hz => ?_
  have hsz := sz_of hP hS h0 hn0 hc hz
  have cvn : cv B b sA (.inr (.inr ((n : Int) + 1))) = .ref H.size := by
    rw [cv_pos (by omega), hsz]
    congr 1
  cases i with
  | new x =>
    simp only [lmN] at hg
    split at hg
    · next q hq =>
      split at hg
      · next hl =>
        cases some_i hg
        simp only [Bool.and_eq_true, beq_iff_eq] at hl
        have e3 : len = 3 := by simpa [ilen] using hlen
        subst e3
        obtain ⟨h3, h4⟩ := find_of hq
        obtain ⟨-, h5⟩ := all17 KT chkK KT_ok17 KT_nil h3
        simp only [chkK, Bool.and_eq_true, decide_eq_true_eq] at h5
        have hcz : ∃ r, zcl[q.2.1]? = some r := by
          have := lay_obj hl.1
          rw [hl.2, Option.map_eq_some_iff] at this
          obtain ⟨r, hr, -⟩ := this
          exact ⟨r, hr⟩
        obtain ⟨⟨C, T, N⟩, hc0⟩ := hcz
        obtain ⟨u1, u2, u3, u4⟩ := cls_of hc0
        obtain ⟨y1, y2⟩ := TY_ok hc0
        have hNe : (lay (n + 1)).2.2 = N := by
          have := lay_obj hl.1
          rw [hl.2, hc0] at this
          exact (Option.some.inj this).symm
        rw [h4, ← u3] at h5
        have hIN := IN_ok q.2.1 (by omega)
        rw [← u3] at hIN
        have hKn := hK.1 q.2.1 _ hc0
        rw [hNe] at hsl k
        refine W.newcK hx hb hown (hts _ (inT_in h5.1)) (hts _ u2) (hts _ (inT_in hIN)) rfl hd hcl hsl hKn.2.1 rfl fun H1 kC hkC e1 z1 o1 => ?_
        have K := k H1 (okS_i trivial hst) (okF_s hF) (zP_push hP o1 ?_) (zS_push hS z1 o1)
        · rw [List.map_cons, cvn] at K
          exact K
        · rw [cellE_0 hl.1, hl.2, hNe]
          refine ⟨_, hc0, ?_⟩
          have hb1 := u_born (tyF q.2.1) hts u1 hKn hkC e1 y1
          rw [hsz] at hb1
          refine hb1.to (fun j hj => ?_)
          unfold vp_V fvs
          rw [List.getD_eq_getElem?_getD, List.getElem?_map, List.getElem?_range hj]
          simp only [Option.map_some, Option.getD_some]
          rw [r0]
          exact dv_0 B b sA (KD_ok q.2.1 (zcl_lt hc0) _ hc0 j hj)
      · cases hg
    · cases hg
  | newarray ty =>
    simp only [lmN] at hg
    split at hg
    · next mm r =>
      split at hg
      · next hl =>
        cases some_i hg
        simp only [Bool.and_eq_true, decide_eq_true_eq, beq_iff_eq] at hl
        have e3 : len = 2 := by simpa [ilen] using hlen
        subst e3
        obtain ⟨-, h6⟩ := okS_c hst
        have im : i32 mm := by unfold i32; omega
        have hnn : ¬ Int32.ofInt mm < 0 := fun q => by have := (o_lt im z32).mp q; omega
        have hN' : (Int32.ofInt mm).toNatClampNeg = (lay (n + 1)).2.2 := by rw [o_clamp im]; omega
        have fin : ∀ (kd : Nat) (aty : ArrayType) (hkd : kd < 4) (hty : newarray.typeOf aty = ztyp kd) (_ : decode cc pc = .ok (.newarray aty, 2)) (harr : (Cond.arrayClass (newarray.typeOf aty)).before args s = true) (hby : componentBytes (newarray.typeOf aty) ≤ 8)
            (hra : ∀ cX, va_RA s cX (ztyp kd) = (s.vm.findClass ("[" ++ (ztyp kd).toString) = some cX))
            (hcell : some (arrV (cA kd) (lay (n + 1)).2.2 (fun _ => defaultValue (newarray.typeOf aty))) = (match cellE B b sA cA h (n + 1) with | .inl q => some (vp_cell q.1 q.2) | .inr _ => none)),
            W p l e R s m args below meth c H locs cells slots Q (F0 m pc sl ((.inl mm :: r).map (cv B b sA))) := by
          intro kd aty hkd hty hdd harr hby hra hcell
          refine va_newaK hx hb harr rfl hdd rfl hnn hN' (by have : (lay (n + 1)).2.2 * componentBytes (newarray.typeOf aty) ≤ 3000 * 8 := Nat.mul_le_mul hl3 hby; omega) hcl hsl rfl fun H1 cX e1 z1 o1 hAr hNm => ?_
          have hcx : cX = cA kd := by
            have h7 := (hK.2 kd _ (zty_at cA (by omega))).2
            simp only at h7
            rw [hra, ← hty] at h7
            exact Option.some.inj (hNm.symm.trans h7)
          have K := k H1 (okS_i trivial h6) (okF_s hF) (zP_push hP o1 ?_) (zS_push hS z1 o1)
          · rw [List.map_cons, cvn] at K
            exact K
          · rw [hsz, hcx] at e1
            unfold va_at
            simp only
            cases hce : cellE B b sA cA h (n + 1) with
            | inl q =>
              rw [hce] at hcell
              simp only at hcell ⊢
              rw [e1, ← hcell]
            | inr q =>
              rw [hce] at hcell
              cases hcell
        cases ty with
        | int =>
          have l2 : (lay (n + 1)).1 = 1 := hl.2
          refine fin 0 .int (by omega) rfl hd (hts _ (inT_in arr_int)) (by decide) (fun _ => rfl) ?_
          rw [cellE_1 l2]
          simp only [vp_cell_i]
          congr 2
          funext q
          rw [r0]
          rfl
        | long =>
          have l2 : (lay (n + 1)).1 = 2 := hl.2
          refine fin 1 .long (by omega) rfl hd (hts _ (inT_in arr_long)) (by decide) (fun _ => rfl) ?_
          rw [cellE_2 l2]
          simp only [vp_cell_l]
          congr 2
          funext q
          rw [r0]
          rfl
        | byte =>
          have l2 : (lay (n + 1)).1 = 3 := hl.2
          refine fin 2 .byte (by omega) rfl hd (hts _ (inT_in arr_byte)) (by decide) (fun _ => rfl) ?_
          rw [cellE_3 l2]
          simp only [vp_cell_i]
          congr 2
          funext q
          rw [r0]
          rfl
        | boolean =>
          have l2 : (lay (n + 1)).1 = 4 := hl.2
          refine fin 3 .boolean (by omega) rfl hd (hts _ (inT_in arr_boolean)) (by decide) (fun _ => rfl) ?_
          rw [cellE_4 l2]
          simp only [vp_cell_i]
          congr 2
          funext q
          rw [r0]
          rfl
        | _ =>
          have h8 : (lay (n + 1)).1 = 9 := hl.2
          rcases lay_in (n + 1) with q | q
          · rw [q] at h8; cases h8
          · have : LAYL.all (fun e => e.1 != 9) = true := by decide +kernel
            have := List.all_eq_true.mp this _ q
            rw [h8] at this
            cases this
      · cases hg
    · cases hg
  | anewarray x =>
    simp only [lmN] at hg
    split at hg
    · next mm r =>
      split at hg
      · next q hq =>
        split at hg
        · next hl =>
          cases some_i hg
          simp only [Bool.and_eq_true, decide_eq_true_eq, beq_iff_eq] at hl
          obtain ⟨⟨l1, l2⟩, l3⟩ := hl
          have e3 : len = 3 := by simpa [ilen] using hlen
          subst e3
          obtain ⟨-, h6⟩ := okS_c hst
          have im : i32 mm := by unfold i32; omega
          have hnn : ¬ Int32.ofInt mm < 0 := fun q => by have := (o_lt im z32).mp q; omega
          have hN' : (Int32.ofInt mm).toNatClampNeg = (lay (n + 1)).2.2 := by rw [o_clamp im]; omega
          obtain ⟨h3, h4⟩ := find_of hq
          obtain ⟨-, h5⟩ := all17 KT chkK KT_ok17 KT_nil h3
          simp only [chkK, Bool.and_eq_true, decide_eq_true_eq] at h5
          obtain ⟨t1, t2⟩ := lay_ref l2
          rw [l3] at t1 t2
          rw [h4] at h5
          have hao : va_AO (onm q.2.1) s := by
            have key : ∀ c, c < 13 → ztyp (4 + c) = .object (onm c) → ∃ q ∈ AOL, q.1 = c := by decide +kernel
            obtain ⟨w, w1, w2⟩ := key q.2.1 t2 t1
            rw [← w2]
            exact hAO w w1
          refine W.anew hx hb hown (hts _ (inT_in h5.1)) (va_AO.use hao) rfl hd rfl hnn (by rw [hN']; omega) hcl (by rw [hN']; exact hsl) fun cX kA comp f1 f2 f3 f4 => ?_
          have hcx : cX = cA (4 + q.2.1) := by
            have h7 := (hK.2 (4 + q.2.1) _ (zty_at cA (by omega))).2
            simp only [t1] at h7
            obtain ⟨_, _, -, -, -, h8⟩ := h7
            exact Option.some.inj (f1.symm.trans h8)
          rw [hN', hcx]
          have K := k (H.push { cls := cA (4 + q.2.1), slots := Array.replicate (lay (n + 1)).2.2 .null, vm := .none }) (okS_i trivial h6) (okF_s hF) (zP_push hP (fun z hz2 => by rw [Array.getElem?_push, if_neg (Nat.ne_of_lt hz2)]) ?_) (zS_push hS (by rw [Array.size_push]) (fun z hz2 => by rw [Array.getElem?_push, if_neg (Nat.ne_of_lt hz2)]))
          · rw [List.map_cons, cvn] at K
            exact K
          · rw [cellE_5 l2, l3]
            unfold va_at
            simp only [vp_cell_q]
            rw [← hsz, Array.getElem?_push_size, arrV_new]
            congr 2
            funext z
            rw [r0]
            rfl
        · cases hg
      · cases hg
    · cases hg
  | _ => simp only [lmN] at hg; cases hg
end SM
end
section
/-! LM, part 14: a run is a run of the machine -/
def zK (D : va_G) (cA : Nat → ClassId) (b xl : Nat) (xs : Nat → Int) (X : State → Prop) (U : State) : Prop :=
  va_K D zcl (zty cA) U ∧ (∀ q ∈ AOL, va_AO (onm q.1) U) ∧ (∀ (o : Nat) (q : Nat × Nat × Nat × Nat), q ∈ MTC o → q.2.2.1 ≠ 0 → ∀ M, MTB q.2.1 = some M → va_Nw (.methodLinkNest (onm o) q.1 M.1 "OneSided") U) ∧ va_X b xl (fun j => Int32.ofInt (xs j)) U U.heap ∧ X U
def keepX (B : Nat) (X : State → Prop) : Prop := ∀ s U : State, X s → (s.vm = U.vm ∨ s.WarmedH U.vm) → s.heap.size ≤ U.heap.size → (∀ q : Nat, q < s.heap.size → ¬ zA B q → U.heap[q]? = s.heap[q]?) → X U
section ZK
variable {B b xl : Nat} {xs : Nat → Int} {D : va_G} {cA : Nat → ClassId} {X : State → Prop}
theorem zK.warm {s U : State} (hX : keepX B X) (hbB : b ≤ B) (h : zK D cA b xl xs X s) (hW : s.WarmedH U.vm) (hz : s.heap.size ≤ U.heap.size) (hk : ∀ q : Nat, q < s.heap.size → ¬ zA B q → U.heap[q]? = s.heap[q]?) : zK D cA b xl xs X U := by
  obtain ⟨h1, h2, h3, h4, h5⟩ := h
  have hbl : b < s.heap.size := by
    obtain ⟨scr, q, -⟩ := h4
    exact (Array.getElem?_eq_some_iff.mp q).1
  refine ⟨va_K.moved hW.alike h1, fun q hq => va_AO.moved hW.alike (h2 q hq), fun o q hq hn M hM => va_Nw.warmM hW (h3 o q hq hn M hM), ?_, hX s U h5 (Or.inr hW) hz hk⟩
  exact (va_X.moved hW.alike h4).kept (hk b hbl (by unfold zA; omega))
theorem zK.blind {U : State} (hX : keepX B X) (h : zK D cA b xl xs X U) (g : JFrame) (mk : MethodId) (a : Array Value) : zK D cA b xl xs X (U.calling g mk a) := by
  obtain ⟨h1, h2, h3, h4, h5⟩ := h
  refine ⟨va_K.moved (u := U) (U := U.calling g mk a) (Vm.Alike.refl U.vm) h1, fun q hq => va_AO.moved (u := U) (U := U.calling g mk a) (Vm.Alike.refl U.vm) (h2 q hq), fun o q hq hn M hM => va_Nw.same rfl (u := U) (U := U.calling g mk a) rfl (h3 o q hq hn M hM), va_X.moved (u := U) (U := U.calling g mk a) (Vm.Alike.refl U.vm) h4, hX U (U.calling g mk a) h5 (Or.inl rfl) (Nat.le_refl _) (fun _ _ _ => rfl)⟩
end ZK
theorem ssum_mono : ∀ {a b : Nat}, a ≤ b → ssum a ≤ ssum b
  | a, 0, h => by rw [show a = 0 by omega]; exact Nat.le_refl _
  | a, b + 1, h => by
    by_cases e : a = b + 1
    · rw [e]; exact Nat.le_refl _
    · have := ssum_mono (a := a) (b := b) (by omega)
      show ssum a ≤ ssum b + _
      omega
theorem lmI_mono {o n : Nat} {ini : Bool} {xs : Nat → Int} {xl : Nat} {i : Instr} {pc len : Nat} {ls : LL} {st : List LV} {h : LH} {q : Nat × LL × List LV × Nat × LH} (hg : lmI o n ini xs xl i pc len ls st h = some q) : n ≤ q.2.2.2.1 := by
  unfold lmI at hg
  repeat' split at hg
  all_goals first | (cases some_i hg; exact Nat.le_refl _) | (cases some_i hg; exact Nat.le_succ _) | cases hg
theorem lmRun_mono {xs : Nat → Int} {xl : Nat} : ∀ (f d : Nat) (M : LM_M) (pc : Nat) (ls : LL) (st : List LV) (n : Nat) (h : LH) (r : Option LV) (n' : Nat) (h' : LH), lmRun xs xl f d M pc ls st n h = some (r, n', h') → n ≤ n'
  | 0, d, M, pc, ls, st, n, h, r, n', h', hr => by cases hr
  | f + 1, d, M, pc, ls, st, n, h, r, n', h', hr => by
    have ih := lmRun_mono (xs := xs) (xl := xl) f
    unfold lmRun at hr
    split at hr
    · cases hr
    · split at hr
      · cases hr
      · split at hr
        · cases some_i hr
          exact Nat.le_refl _
        · split at hr
          · split at hr
            · cases hr
            · split at hr
              · cases hr
              · split at hr
                · cases hr
                · next h1 =>
                  exact Nat.le_trans (ih _ _ _ _ _ _ _ _ _ _ h1) (ih _ _ _ _ _ _ _ _ _ _ hr)
          · split at hr
            · cases hr
            · next h1 =>
              exact Nat.le_trans (lmI_mono h1) (ih _ _ _ _ _ _ _ _ _ _ hr)
/-- the text's and Math's calls: what is owed of them -/
def SimX (B b sA : Nat) (X : State → Prop) : Prop :=
  ∀ (p : Program) (l : Launch) (e : Env) (R : Room) (s : State) (m : MethodId) (args : Array Value) (below : List Frame) (meth : Method) (c : Code) (H : Heap) (locs : List Loc) (cells slots : Nat) (Q : State → Prop) (cc : ByteArray) (pc : Nat) (sl : Array Slot) (o : Nat) (i : Instr) (len : Nat) (st st' : List LV),
    p.tables.exec = Jvm.exec → c.code = cc → c.maxLocals = sl.size → s.vm.findClass (onm o) = some m.cls → (∀ w ∈ ZB, w.before args s = true) → X s → va_S (zA B) s.heap H locs → 8 ≤ R.frames → 512 ≤ R.locals → cells ≤ R.cells → slots ≤ R.slots → (lmX o i st = some st' ∨ (o = 7 ∧ i = .ldc 19 ∧ st' = .inr (.inr (-1)) :: st)) → ilen i len = true → decode cc pc = .ok (i, len) → okS st →
    (okS st' → W p l e R s m args below meth c H locs cells slots Q (F0 m (pc + len) sl (st'.map (cv B b sA)))) → W p l e R s m args below meth c H locs cells slots Q (F0 m pc sl (st.map (cv B b sA)))
def rmD (d mc ms : Nat) : Room := { frames := d + 8, cells := mc, slots := ms, locals := 64 * d + 512 }
section SK
variable {p : Program} {l : Launch} {e : Env} {R : Room} {s : State} {m : MethodId} {args : Array Value} {below : List Frame} {meth : Method} {c : Code} {H : Heap} {locs : List Loc} {cells slots : Nat} {Q : State → Prop}
variable {cc : ByteArray} {pc : Nat} {sl : Array Slot} {B b sA nL o n n0 xl : Nat} {xs : Nat → Int} {D : va_G} {cA : Nat → ClassId} {X : State → Prop}
/-- behind a call -/
theorem z_call {st0 rest : List Value} {mc ms : Nat} {Qa : State → Outcome → State → Prop} (hr : va_Run p l e R s m args below meth c H locs cells slots mc ms (F0 m pc sl st0) rest Qa (zA B)) (hS : va_S (zA B) s.heap H locs) {rv : Option Value} {P1 : Heap → Prop}
    (hQ : ∀ st v t, Qa st (.returned v) t → v = rv ∧ P1 t.heap ∧ va_F (zA B) st t)
    (kk : ∀ (H1 : Heap) (locs1 : List Loc), P1 H1 → va_S (zA B) s.heap H1 locs1 → W p l e R s m args below meth c H1 locs1 (cells + mc) (slots + ms) Q (F0 m (pc + 3) sl (rv.toList ++ rest))) : W p l e R s m args below meth c H locs cells slots Q (F0 m pc sl st0) := by
  intro T hT X
  obtain ⟨v, st₀, t, T', L, h0, X', hL, e1, e2, hq, st⟩ := hr T hT X
  obtain ⟨rfl, hp, hz, hk⟩ := hQ _ _ _ hq
  rw [h0] at hz hk
  rw [← e1] at hp hz hk
  have hS1 : va_S (zA B) s.heap T'.heap (locs ++ L) := by
    refine ⟨Nat.le_trans hS.1 hz, fun q h1 h2 => (hk q (Nat.lt_of_lt_of_le h1 hS.1) h2).trans (hS.2.1 q h1 h2), fun q hq => ?_⟩
    rcases List.mem_append.mp hq with h | h
    · exact hS.2.2 q h
    · exact hL q h
  obtain ⟨t2, a1, b1⟩ := kk T'.heap (locs ++ L) hp hS1 T' rfl X'
  exact ⟨t2, st t2 a1, b1⟩
set_option maxHeartbeats 4000000 in
/-- one instruction that is no call and no return -/
theorem sim_I (SX : SimX B b sA X) (hx : p.tables.exec = Jvm.exec) (hb : c.code = cc) (hml : c.maxLocals = nL) (hown : s.vm.findClass (onm o) = some m.cls) (hts : ∀ w ∈ ZB, w.before args s = true) (hZ : zK D cA b xl xs X s) (hbB : b ≤ B) (hxs : ∀ j, i32 (xs j)) (hxl : xl ≤ 3584) {ini : Bool} (hini : ini = true → meth.name = "<init>") (hR : 8 ≤ R.frames ∧ 512 ≤ R.locals)
    {h h' : LH} {ls ls' : LL} {st st' : List LV} {n' pc' : Nat} {i : Instr} {len : Nat} (hg : lmI o n ini xs xl i pc len ls st h = some (pc', ls', st', n', h')) (hlen : ilen i len = true) (hd : decode cc pc = .ok (i, len))
    (hst : okS st) (hls : okL ls) (hh : okH h) (hN : okN h) (hF : okF n h) (hr : lvR B b sA sl nL ls) (hP : va_P D zcl (zws B b sA cA n h) H) (hS : va_S (zA B) s.heap H locs) (h0 : s.heap.size = B + 1 + n0) (hn0 : n0 ≤ n) (hc : cells = n - n0) (hcl : cells + (n' - n) ≤ R.cells) (hsl : slots + (ssum n' - ssum n) ≤ R.slots)
    (k : ∀ (H1 : Heap) (locs1 : List Loc) (sl1 : Array Slot), okS st' → okL ls' → okH h' → okN h' → okF n' h' → lvR B b sA sl1 nL ls' → va_P D zcl (zws B b sA cA n' h') H1 → va_S (zA B) s.heap H1 locs1 → W p l e R s m args below meth c H1 locs1 (cells + (n' - n)) (slots + (ssum n' - ssum n)) Q (F0 m pc' sl1 (st'.map (cv B b sA)))) :
    W p l e R s m args below meth c H locs cells slots Q (F0 m pc sl (st.map (cv B b sA))) := by
  obtain ⟨hK, hAO, hNe, hXX, hXs⟩ := hZ
  have hsz : c.maxLocals = sl.size := by rw [hml, hr.2.1]
  have z1 : ∀ a : Nat, a + (n - n) = a := fun a => by omega
  have z2 : ∀ a : Nat, a + (ssum n - ssum n) = a := fun a => by omega
  unfold lmI at hg
  split at hg
  · next st1 h1 =>
    cases some_i hg
    rw [z1, z2] at k
    exact sim_A hx hb h1 hlen hd hst (fun q => k H locs sl q hls hh hN hF hr hP hS)
  · split at hg
    · next v h1 =>
      cases some_i hg
      rw [z1, z2] at k
      exact sim_Ld hx hb h1 hlen hd hst hls hr (fun q => k H locs sl q hls hh hN hF hr hP hS)
    · split at hg
      · next st1 h1 =>
        cases some_i hg
        rw [z1, z2] at k
        exact sim_G hx hb hown hts hK hXX hbB hxs hxl hh hN hP hS h1 hlen hd hst (fun q => k H locs sl q hls hh hN hF hr hP hS)
      · split at hg
        · next t st1 h1 =>
          split at hg
          · next ht =>
            cases some_i hg
            rw [z1, z2] at k
            exact sim_J hx hb h1 ht hlen hd hst (fun q => k H locs sl q hls hh hN hF hr hP hS)
          · cases hg
        · split at hg
          · next ls1 h1 =>
            cases some_i hg
            rw [z1, z2] at k
            exact sim_Inc hx hb h1 hlen hd hls hr (fun sl1 q1 q2 => k H locs sl1 hst q1 hh hN hF q2 hP hS)
          · split at hg
            · next st1 h2 h1 =>
              cases some_i hg
              rw [z1, z2] at k
              exact sim_P hx hb hown hts hK hini hh hN hP hS h1 hlen hd hst (fun H1 locs1 q1 q2 q3 q4 q5 => k H1 locs1 sl q1 hls q2 q3 (lmP_F h1 hF) hr q4 q5)
            · split at hg
              · next v h1 =>
                cases some_i hg
                rw [z1, z2] at k
                by_cases hstr : o = 7 ∧ i = .ldc 19
                · refine SX p l e R s m args below meth c H locs cells slots Q cc pc sl o i len st _ hx hb hsz hown hts hXs hS hR.1 hR.2 (by omega) (by omega) (Or.inr ⟨hstr.1, hstr.2, ?_⟩) hlen hd hst (fun q => k H locs sl q hls hh hN hF hr hP hS)
                  have h2 : lmC 7 (.ldc 19) = some (.inr (.inr (-1))) := rfl
                  rw [hstr.1, hstr.2, h2] at h1
                  cases h1
                  rfl
                · exact sim_C hx hb hown hts h1 hstr hlen hd hst (fun q => k H locs sl q hls hh hN hF hr hP hS)
              · split at hg
                · next st1 h2 h1 =>
                  cases some_i hg
                  rw [z1, z2] at k
                  exact sim_Q hx hb hsz hown hts hK hR hh hN hP hS h1 hlen hd hst (fun H1 locs1 q1 q2 q3 q4 q5 => k H1 locs1 sl q1 hls q2 q3 (lmQ_F h1 hF) hr q4 q5)
                · split at hg
                  · next st1 h1 =>
                    cases some_i hg
                    have e1 : n + 1 - n = 1 := by omega
                    have e2 : ssum (n + 1) - ssum n = (lay (n + 1)).2.2 := by show ssum n + _ - ssum n = _; omega
                    rw [e1] at hcl
                    rw [e2] at hsl
                    rw [e1, e2] at k
                    exact sim_N hx hb hown hts hK hAO hF hP hS h0 hn0 hc hcl hsl h1 hlen hd hst (fun H1 q1 q2 q3 q4 => k H1 locs sl q1 hls hh hN q2 hr q3 q4)
                  · split at hg
                    · next st1 h1 =>
                      cases some_i hg
                      rw [z1, z2] at k
                      exact SX p l e R s m args below meth c H locs cells slots Q cc pc sl o i len st _ hx hb hsz hown hts hXs hS hR.1 hR.2 (by omega) (by omega) (Or.inl h1) hlen hd hst (fun q => k H locs sl q hls hh hN hF hr hP hS)
                    · cases st with
                      | nil => cases hg
                      | cons v r =>
                        simp only at hg
                        cases h1 : lmSt i v with
                        | none => rw [h1] at hg; cases hg
                        | some j =>
                          rw [h1] at hg
                          simp only at hg
                          by_cases hj : j + (if isL v then 1 else 0) < ls.length
                          · rw [if_pos hj] at hg
                            cases some_i hg
                            rw [z1, z2] at k
                            exact sim_St hx hb h1 hj hlen hd hst hls hr (fun sl1 q1 q2 q3 => k H locs sl1 q1 q2 hh hN hF q3 hP hS)
                          · rw [if_neg hj] at hg
                            cases hg
end SK
end
section
/-! LM, part 15: calls, and the whole run -/
theorem M_facts {M : LM_M} (h : chkY M = true) :
    (if M.2.2.2.2.2.2.1 = 1 then Cond.static M.1 else Cond.instanceMethod M.1) ∈ ZB ∧ (M.2.2.2.2.2.2.1 ≠ 1 → M.1.name ≠ "<init>" → Cond.selects M.1.cls M.1 M.1 ∈ ZB) ∧ M.1.cls = onm M.2.2.2.2.1 ∧ plainName M.1.cls = true ∧ (M.1.cls ≠ "java/lang/invoke/MethodHandle" ∧ M.1.cls ≠ "java/lang/invoke/VarHandle" ∧ (parseMethodDescriptor M.1.desc).map (fun d => d.parameters.length) = some (M.2.2.2.2.2.1 - (if M.2.2.2.2.2.2.1 = 1 then 0 else 1))) ∧ M.2.2.1 ≤ 40 ∧ M.2.2.2.2.1 < 17 ∧ (M.2.2.2.2.2.2.1 ≠ 1 → 1 ≤ M.2.2.2.2.2.1 ∧ M.2.2.2.2.1 < 13) ∧ (M.1.name = "<init>" → M.2.2.2.1 = none) := by
  unfold chkY at h
  simp only [Bool.and_eq_true, Bool.or_eq_true, decide_eq_true_eq, beq_iff_eq, Bool.not_eq_true', beq_eq_false_iff_ne, ne_eq] at h
  obtain ⟨⟨⟨⟨⟨⟨⟨⟨⟨⟨⟨⟨h1, h2⟩, h3⟩, h4⟩, h5⟩, h6⟩, h7⟩, h8⟩, h9⟩, h10⟩, h11⟩, h12⟩, h13⟩ := h
  refine ⟨inT_in h1, fun n1 n2 => ?_, h3, h4, ⟨h5, h6, h7⟩, h8, h9, fun n1 => ⟨h10.resolve_left n1, h12.resolve_left n1⟩, fun n1 => h13.resolve_left (fun q => q n1)⟩
  have h2 := (h2.resolve_left (fun q => q.elim n1 n2))
  unfold selIn at h2
  split at h2
  · split at h2
    · next q hq =>
      have e : q.1 = M.1 := by simpa using h2
      refine List.mem_filter.mpr ⟨List.mem_append_left _ ?_, rfl⟩
      unfold k2_sels
      refine List.mem_map.mpr ⟨q, List.mem_of_getElem? hq, ?_⟩
      rw [e]
    · cases h2
  · exact inT_in h2
theorem lmK_of {o n : Nat} {i : Instr} {st : List LV} {k : Nat} {as rest : List LV} (h : lmK o n i st = some (k, as, rest)) :
    ∃ (x : Nat) (q : Nat × Nat × Nat × Nat) (M : LM_M), q ∈ MTC o ∧ q.1 = x ∧ q.2.1 = k ∧ MTB k = some M ∧ st = as.reverse ++ rest ∧ as.length = M.2.2.2.2.2.1 ∧ lcat rest ≤ 8 ∧ (lent as).length ≤ M.2.2.1 ∧
      ((i = .invokestatic x ∧ M.2.2.2.2.2.2.1 = 1 ∧ q.2.2.1 = 0) ∨ (i = .invokevirtual x ∧ M.2.2.2.2.2.2.1 = 0 ∧ q.2.2.1 = 0 ∧ M.1.name ≠ "<init>" ∧ ∃ a As, as = .inr (.inr a) :: As ∧ isO n a M.2.2.2.2.1 = true) ∨ (i = .invokespecial x ∧ M.2.2.2.2.2.2.1 = 0 ∧ M.1.name = "<init>" ∧ ∃ a As, as = .inr (.inr a) :: As ∧ isO n a M.2.2.2.2.1 = true)) := by
  have key : ∀ (x kind : Nat), (match (MTC o).find? (fun q => q.1 == x) with
    | some q => match MTB q.2.1 with
      | some M =>
        let np := M.2.2.2.2.2.1
        let st1 := M.2.2.2.2.2.2.1
        if np ≤ st.length ∧ lcat (st.drop np) ≤ 8 ∧ (lent ((st.take np).reverse)).length ≤ M.2.2.1 ∧ st1 = (if kind = 1 then 1 else 0) then
          let as := (st.take np).reverse
          if kind = 1 then (if q.2.2.1 = 0 then some (q.2.1, as, st.drop np) else none)
          else match as with
            | .inr (.inr a) :: _ => if isO n a M.2.2.2.2.1 && (if kind = 2 then M.1.name == "<init>" else !(M.1.name == "<init>") && q.2.2.1 == 0) then some (q.2.1, as, st.drop np) else none
            | _ => none
        else none
      | none => none
    | none => none) = some (k, as, rest) →
    ∃ (q : Nat × Nat × Nat × Nat) (M : LM_M), q ∈ MTC o ∧ q.1 = x ∧ q.2.1 = k ∧ MTB k = some M ∧ st = as.reverse ++ rest ∧ as.length = M.2.2.2.2.2.1 ∧ lcat rest ≤ 8 ∧ (lent as).length ≤ M.2.2.1 ∧
      ((kind = 1 ∧ M.2.2.2.2.2.2.1 = 1 ∧ q.2.2.1 = 0) ∨ (kind ≠ 1 ∧ kind ≠ 2 ∧ M.2.2.2.2.2.2.1 = 0 ∧ q.2.2.1 = 0 ∧ M.1.name ≠ "<init>" ∧ ∃ a As, as = .inr (.inr a) :: As ∧ isO n a M.2.2.2.2.1 = true) ∨ (kind = 2 ∧ M.2.2.2.2.2.2.1 = 0 ∧ M.1.name = "<init>" ∧ ∃ a As, as = .inr (.inr a) :: As ∧ isO n a M.2.2.2.2.1 = true)) := by
    intro x kind hk
    split at hk
    · next q hq =>
      obtain ⟨q1, q2⟩ := find_of hq
      split at hk
      · next M hM =>
        simp only at hk
        by_cases hc : M.2.2.2.2.2.1 ≤ st.length ∧ lcat (st.drop M.2.2.2.2.2.1) ≤ 8 ∧ (lent ((st.take M.2.2.2.2.2.1).reverse)).length ≤ M.2.2.1 ∧ M.2.2.2.2.2.2.1 = (if kind = 1 then 1 else 0)
        · rw [if_pos hc] at hk
          obtain ⟨c1, c2, c3, c4⟩ := hc
          have hst : st = (st.take M.2.2.2.2.2.1).reverse.reverse ++ st.drop M.2.2.2.2.2.1 := by rw [List.reverse_reverse, List.take_append_drop]
          have hln : (st.take M.2.2.2.2.2.1).reverse.length = M.2.2.2.2.2.1 := by rw [List.length_reverse, List.length_take]; omega
          split at hk
          · next hk1 =>
            split at hk
            · next hq0 =>
              cases hk
              rw [if_pos hk1] at c4
              exact ⟨q, M, q1, q2, rfl, hM, hst, hln, c2, c3, Or.inl ⟨hk1, c4, hq0⟩⟩
            · cases hk
          · next hk1 =>
            rw [if_neg hk1] at c4
            split at hk
            · next a As has =>
              by_cases hO : (isO n a M.2.2.2.2.1 && (if kind = 2 then M.1.name == "<init>" else !(M.1.name == "<init>") && q.2.2.1 == 0)) = true
              · rw [if_pos hO] at hk
                simp only [Bool.and_eq_true] at hO
                cases hk
                refine ⟨q, M, q1, q2, rfl, hM, hst, hln, c2, c3, Or.inr ?_⟩
                by_cases hk2 : kind = 2
                · rw [if_pos hk2] at hO
                  exact Or.inr ⟨hk2, c4, by simpa using hO.2, a, As, has, hO.1⟩
                · rw [if_neg hk2] at hO
                  simp only [Bool.and_eq_true, Bool.not_eq_true', beq_eq_false_iff_ne, ne_eq, beq_iff_eq] at hO
                  exact Or.inl ⟨hk1, hk2, c4, hO.2.2, hO.2.1, a, As, has, hO.1⟩
              · rw [if_neg hO] at hk
                cases hk
            · cases hk
        · rw [if_neg hc] at hk
          cases hk
      · cases hk
    · cases hk
  unfold lmK at h
  cases i with
  | invokevirtual x =>
    obtain ⟨q, M, h1, h2, h3, h4, h5, h6, h7, h8, h9⟩ := key x 0 h
    refine ⟨x, q, M, h1, h2, h3, h4, h5, h6, h7, h8, Or.inr (Or.inl ?_)⟩
    rcases h9 with z | z | z
    · exact absurd z.1 (by omega)
    · exact ⟨rfl, z.2.2⟩
    · exact absurd z.1 (by omega)
  | invokestatic x =>
    obtain ⟨q, M, h1, h2, h3, h4, h5, h6, h7, h8, h9⟩ := key x 1 h
    refine ⟨x, q, M, h1, h2, h3, h4, h5, h6, h7, h8, Or.inl ?_⟩
    rcases h9 with z | z | z
    · exact ⟨rfl, z.2⟩
    · exact absurd rfl z.1
    · exact absurd z.1 (by omega)
  | invokespecial x =>
    obtain ⟨q, M, h1, h2, h3, h4, h5, h6, h7, h8, h9⟩ := key x 2 h
    refine ⟨x, q, M, h1, h2, h3, h4, h5, h6, h7, h8, Or.inr (Or.inr ?_)⟩
    rcases h9 with z | z | z
    · exact absurd z.1 (by omega)
    · exact absurd rfl z.2.1
    · exact ⟨rfl, z.2⟩
  | _ => simp only at h; cases h
/-- what a run says of the machine -/
def SIM (l : Launch) (B b sA xl : Nat) (xs : Nat → Int) (D : va_G) (cA : Nat → ClassId) (X : State → Prop) (f : Nat) : Prop :=
  ∀ (d : Nat) (M : LM_M) (pc : Nat) (ls : LL) (st : List LV) (n : Nat) (h : LH) (r : Option LV) (n' : Nat) (h' : LH), lmRun xs xl f d M pc ls st n h = some (r, n', h') → okS st → okL ls → okH h → okN h → okF n h →
  ∀ (p : Program) (e : Env) (R : Room) (s : State) (m : MethodId) (args : Array Value) (below : List Frame) (meth : Method) (c : Code) (H : Heap) (locs : List Loc) (cells slots : Nat) (Q : State → Prop) (sl : Array Slot) (n0 : Nat),
    p.tables.exec = Jvm.exec → c.code = M.2.1 → c.maxLocals = M.2.2.1 → s.vm.findClass (onm M.2.2.2.2.1) = some m.cls → (∀ w ∈ ZB, w.before args s = true) → zK D cA b xl xs X s → ((M.1.name == "<init>") = true → meth.name = "<init>") → (d + 8 ≤ R.frames ∧ 64 * d + 512 ≤ R.locals) →
    lvR B b sA sl M.2.2.1 ls → va_P D zcl (zws B b sA cA n h) H → va_S (zA B) s.heap H locs → s.heap.size = B + 1 + n0 → n0 ≤ n → cells = n - n0 → cells + (n' - n) ≤ R.cells → slots + (ssum n' - ssum n) ≤ R.slots →
    (∀ (H1 : Heap) (locs1 : List Loc) (sl1 : Array Slot) (pc1 : Nat) (i : Instr) (len : Nat) (st1 : List LV), decode M.2.1 pc1 = .ok (i, len) → ilen i len = true → lmR M.2.2.2.1 i st1 = some r → okS st1 → okH h' → okN h' → okF n' h' → va_P D zcl (zws B b sA cA n' h') H1 → va_S (zA B) s.heap H1 locs1 →
      W p l e R s m args below meth c H1 locs1 (cells + (n' - n)) (slots + (ssum n' - ssum n)) Q (F0 m pc1 sl1 (st1.map (cv B b sA)))) →
    W p l e R s m args below meth c H locs cells slots Q (F0 m pc sl (st.map (cv B b sA)))
def zQ (B b sA : Nat) (D : va_G) (cA : Nat → ClassId) (r : Option LV) (n' : Nat) (h' : LH) : Array Value → State → Outcome → State → Prop := fun _ st oc t =>
  (oc = .returned (r.map (cv B b sA)) ∧ va_P D zcl (zws B b sA cA n' h') t.heap ∧ okH h' ∧ okN h' ∧ okF n' h' ∧ ∀ v, r = some v → okV v) ∧ va_F (zA B) st t
section SR
variable {l : Launch} {B b sA xl : Nat} {xs : Nat → Int} {D : va_G} {cA : Nat → ClassId} {X : State → Prop}
set_option maxHeartbeats 4000000 in
theorem met_of {f : Nat} (ih : SIM l B b sA xl xs D cA X f) {d k : Nat} {M : LM_M} (hM : MTB k = some M) {as : List LV} {n : Nat} {h : LH} {r : Option LV} {n' : Nat} {h' : LH} (hr : lmRun xs xl f d M 0 (lpad M.2.2.1 (lent as)) [] n h = some (r, n', h')) (hlen : (lent as).length ≤ M.2.2.1) (has : okS as) (hh : okH h) (hN : okN h) (hF : okF n h) :
    Met l M.1 (Cond.code M.1 M.2.1 M.2.2.1 M.2.2.2.1 :: ZB) (rmD d (n' - n) (ssum n' - ssum n)) (va_Pc (as.map (cv B b sA)) (fun U => U.heap.size = B + 1 + n ∧ va_P D zcl (zws B b sA cA n h) U.heap ∧ zK D cA b xl xs X U)) (zQ B b sA D cA r n' h') (n' - n) (ssum n' - ssum n) (zA B) := by
  obtain ⟨k1, k2⟩ := MTB_ok hM
  obtain ⟨m1, m2, m3, m4, m5, m6, m7, m8, m9⟩ := M_facts k1
  refine Met.ofW (cc := M.2.1) (maxL := M.2.2.1) (ret := M.2.2.2.1) m4 rfl ?_
  intro p e s m args below meth c s₁ Bd hml hv
  obtain ⟨rfl, hsz, hP, hZ⟩ := hv
  have hx := Bd.exec
  have hb := Bd.bytes
  have hrt := Bd.returns
  have hts0 := atoms_spec (ws := Cond.code M.1 M.2.1 M.2.2.1 M.2.2.2.1 :: ZB) Bd.pre
  have hts : ∀ w ∈ ZB, w.before (as.map (cv B b sA)).toArray s = true := fun w hw => hts0 w (List.mem_cons_of_mem _ hw)
  have hown : s.vm.findClass M.1.cls = some m.cls := findClass_of_methodNamed Bd.named
  rw [m3] at hown
  have hlocks := Bd.notSynchronized
  have hnm : meth.name = M.1.name := (name_of_methodNamed Bd.named Bd.method).1
  rw [lg_entry_eq]
  have hlv := lvR_entry B b sA hlen
  generalize (lg_sl (as.map (cv B b sA)) ++ List.replicate (M.2.2.1 - (lg_sl (as.map (cv B b sA))).length) Slot.unset).toArray = sl at hlv ⊢
  refine ih d M 0 _ [] n h r n' h' hr (fun v hv => by cases hv) (lent_okL has _) hh hN hF p e _ s m _ below meth c s.heap [] 0 0 _ sl n hx hb hml hown hts hZ (fun q => by rw [hnm]; simpa using q) ⟨Nat.le_refl _, Nat.le_refl _⟩ hlv hP va_S.rf hsz (Nat.le_refl _) (by omega) (by show 0 + (n' - n) ≤ n' - n; omega) (by show 0 + (ssum n' - ssum n) ≤ ssum n' - ssum n; omega) ?_
  intro H1 locs1 sl1 pc1 i len st1 d1 d2 d3 d4 d5 d6 d7 d8 d9
  rw [Nat.zero_add, Nat.zero_add]
  have QQ : ∀ (v : Option LV), r = v → (∀ w, v = some w → okV w) → ∀ t : State, t.heap = H1 → s.WarmedH t.vm → zQ B b sA D cA r n' h' (as.map (cv B b sA)).toArray s (.returned (v.map (cv B b sA))) t := fun v e1 e2 t ht hW => ⟨⟨by rw [e1], by rw [ht]; exact d8, d5, d6, d7, fun w hw => e2 w (e1 ▸ hw)⟩, d9.F ht⟩
  cases i with
  | return_ =>
    simp only [lmR] at d3
    split at d3
    · split at d3
      · next hn =>
        cases some_i d3
        have e1 : len = 1 := by simpa [ilen] using d2
        subst e1
        exact W.vret hx hb (by rw [hrt, hn]) (QQ none rfl (fun w hw => by cases hw)) d9.2.2 d1
      · cases d3
    · cases d3
  | ireturn =>
    simp only [lmR] at d3
    split at d3
    · next x =>
      have e1 : len = 1 := by simpa [ilen] using d2
      subst e1
      have hx1 : i32 x := (okS_c d4).1
      split at d3
      · next hn =>
        cases some_i d3
        exact W.iret hx hb (by rw [hrt, hn]) (QQ (some (.inl x)) rfl (fun w hw => by cases hw; exact hx1)) d9.2.2 d1
      · split at d3
        · next hn =>
          cases some_i d3
          refine W.zret hx hb (by rw [hrt, hn.1]) ?_ (QQ (some (.inl x)) rfl (fun w hw => by cases hw; exact hx1)) d9.2.2 d1
          rcases hn.2 with rfl | rfl <;> rfl
        · cases d3
    · cases d3
  | lreturn =>
    simp only [lmR] at d3
    split at d3
    · next x =>
      have e1 : len = 1 := by simpa [ilen] using d2
      subst e1
      have hx1 : i64 x := (okS_c d4).1
      split at d3
      · next hn =>
        cases some_i d3
        exact W.lret hx hb (by rw [hrt, hn]) (QQ (some (.inr (.inl x))) rfl (fun w hw => by cases hw; exact hx1)) d9.2.2 d1
      · cases d3
    · cases d3
  | _ => simp only [lmR] at d3; cases d3
end SR
end
section
/-! LM, part 16: the run's induction -/
section SRR
variable {l : Launch} {B b sA xl : Nat} {xs : Nat → Int} {D : va_G} {cA : Nat → ClassId} {X : State → Prop}
theorem good_ZB {ws : List Cond} (h : ∀ w ∈ ws, w ∈ ZB) : GoodIn ZB ws := fun w hw => ⟨h w hw, good_of_word (List.mem_filter.mp (h w hw)).2⟩
theorem room_ok {d mL F L : Nat} (h1 : (d + 1) + 8 ≤ F) (h2 : 64 * (d + 1) + 512 ≤ L) (h3 : mL ≤ 40) : (d + 8) + 1 ≤ F ∧ 8 + (mL + 11) + (64 * d + 512) ≤ L := by omega
set_option maxHeartbeats 8000000 in
/-- a call, by its kind -/
theorem sim_call {p : Program} {e : Env} {R : Room} {s : State} {m : MethodId} {args : Array Value} {below : List Frame} {meth : Method} {c : Code} {H : Heap} {locs : List Loc} {cells slots : Nat} {Q : State → Prop} {cc : ByteArray} {pc nL o n d : Nat} {sl : Array Slot} {Pc : Array Value → State → Prop} {Qc : Array Value → State → Outcome → State → Prop} {mc ms : Nat}
    (hx : p.tables.exec = Jvm.exec) (hb : c.code = cc) (hml : c.maxLocals = nL) (hown : s.vm.findClass (onm o) = some m.cls) (hts : ∀ w ∈ ZB, w.before args s = true) (hZ : zK D cA b xl xs X s) (hR : (d + 1) + 8 ≤ R.frames ∧ 64 * (d + 1) + 512 ≤ R.locals)
    {h : LH} (hP : va_P D zcl (zws B b sA cA n h) H) (hS : va_S (zA B) s.heap H locs) (hsl : sl.size = nL) {i : Instr} {len : Nat} (hd : decode cc pc = .ok (i, len)) (hlen : ilen i len = true) {st as rest : List LV} {k : Nat} (hk : lmK o n i st = some (k, as, rest)) {M : LM_M} (hM : MTB k = some M)
    (hMet : Met l M.1 (Cond.code M.1 M.2.1 M.2.2.1 M.2.2.2.1 :: ZB) (rmD d mc ms) Pc Qc mc ms (zA B)) (hbl : FrameBlind Pc) (hpre : ∀ U : State, U.heap = H → s.WarmedH U.vm → Pc (as.map (cv B b sA)).toArray U) (hf : cells + mc ≤ R.cells ∧ slots + ms ≤ R.slots)
    {rv : Option Value} {P1 : Heap → Prop} (hQ : ∀ st v t, Qc (as.map (cv B b sA)).toArray st (.returned v) t → v = rv ∧ P1 t.heap ∧ va_F (zA B) st t)
    (kk : ∀ (H1 : Heap) (locs1 : List Loc), P1 H1 → va_S (zA B) s.heap H1 locs1 → W p l e R s m args below meth c H1 locs1 (cells + mc) (slots + ms) Q (F0 m (pc + 3) sl (rv.toList ++ rest.map (cv B b sA)))) :
    W p l e R s m args below meth c H locs cells slots Q (F0 m pc sl (st.map (cv B b sA))) := by
  obtain ⟨x, q, M2, q1, q2, q3, q4, q5, q6, q7, q8, q9⟩ := lmK_of hk
  rw [hM] at q4
  cases q4
  obtain ⟨k1, k2⟩ := MTB_ok hM
  obtain ⟨m1, m2, m3, m4, m5, m6, m7, m8, m9⟩ := M_facts k1
  obtain ⟨-, w5⟩ := all17 MTC chkM MTC_ok17 MTC_nil q1
  obtain ⟨hK, hAO, hNe, hXX, hXs⟩ := hZ
  have hG : GoodIn ZB (Cond.code M.1 M.2.1 M.2.2.1 M.2.2.2.1 :: ZB) := good_ZB (fun w hw => (List.mem_cons.mp hw).elim (fun z => z ▸ k2) id)
  have hIN := IN_ok _ m7
  rw [← m3] at hIN
  have hini := hts _ (inT_in hIN)
  have hroom : (rmD d mc ms).frames + 1 ≤ R.frames ∧ 8 + (M.2.2.1 + 11) + (rmD d mc ms).locals ≤ R.locals :=
    room_ok hR.1 hR.2 m6
  have hW : 2 * (F0 m pc sl (st.map (cv B b sA))).monitorRoom + ((rest.map (cv B b sA)).map fun v => v.category).sum ≤ 8 := lv_room (by rw [lcat_cv]; exact q7)
  have e3 : len = 3 := by
    rcases q9 with z | z | z <;> (rw [z.1] at hlen; simpa [ilen] using hlen)
  subst e3
  unfold chkM at w5
  rw [q3, hM] at w5
  simp only at w5
  rcases q9 with ⟨rfl, g1, g2⟩ | ⟨rfl, g1, g2, g3, a, As, rfl, g4⟩ | ⟨rfl, g1, g3, a, As, rfl, g4⟩
  · rw [if_pos g2, q2] at w5
    rw [if_pos g1] at m1
    have m52 := m5.2.2
    rw [if_pos g1] at m52
    refine z_call (va_runS (n := M.2.2.2.2.2.1) (As := as.map (cv B b sA)) (rest := rest.map (cv B b sA)) ⟨hx, hb, hml, hown, hts⟩ hMet ⟨callB_of M.2.2.2.2.2.1 hts hG rfl rfl rfl hini (hts _ (inT_in w5)) ⟨m5.1, m5.2.1, by rw [m52]; rfl⟩ hroom, hts _ m1⟩ ⟨hbl, hpre⟩ rfl (by rw [List.length_map]; exact q6) hsl (by show st.map _ = _; rw [q5, List.map_append, List.map_reverse]) hW hd hf) hS hQ kk
  · rw [if_pos g2, q2] at w5
    rw [if_neg (by omega)] at m1
    have hns : M.2.2.2.2.2.2.1 ≠ 1 := by omega
    have m52 := m5.2.2
    rw [if_neg hns] at m52
    obtain ⟨o1, o2, o3, o4⟩ := isO_of g4
    have hcz : ∃ r, zcl[M.2.2.2.2.1]? = some r := by
      have := lay_obj o3
      rw [o4, Option.map_eq_some_iff] at this
      obtain ⟨r, hr, -⟩ := this
      exact ⟨r, hr⟩
    obtain ⟨⟨C, T, N⟩, hc0⟩ := hcz
    obtain ⟨-, -, u3, -⟩ := cls_of hc0
    have he := zws_at (B := B) (b := b) (sA := sA) (cA := cA) (h := h) (a := a.toNat) (n := n) (by omega) (by omega)
    rw [cellE_0 o3, o4] at he
    have hrec := va_recv hK hP hc0 he
    simp only [u3, ← m3] at hrec
    have hpre2 := hpre
    rw [List.map_cons, cv_pos o1] at hpre2
    have hst : st.map (cv B b sA) = (As.map (cv B b sA)).reverse ++ Value.ref (B + a.toNat) :: rest.map (cv B b sA) := by
      rw [q5, List.map_append, List.map_reverse, List.map_cons, List.reverse_cons, List.append_assoc, cv_pos o1]
      rfl
    have hrun := va_runV (e := e) (below := below) (meth := meth) (locs := locs) (n := As.length) (As := As.map (cv B b sA)) (rest := rest.map (cv B b sA)) (g := F0 m pc sl (st.map (cv B b sA))) ⟨hx, hb, hml, hown, hts⟩ hMet ⟨callB_of As.length hts hG rfl rfl rfl hini (hts _ (inT_in w5)) ⟨m5.1, m5.2.1, by rw [m52, ← q6]; rfl⟩ hroom, hts _ m1, hts _ (m2 hns g3)⟩ ⟨hbl, hrec, hpre2⟩ rfl (by rw [List.length_map]) hsl hst hW hd hf
    have ea : (Value.ref (B + a.toNat) :: As.map (cv B b sA)).toArray = (((.inr (.inr a)) :: As).map (cv B b sA)).toArray := by rw [List.map_cons, cv_pos o1]
    rw [ea] at hrun
    exact z_call hrun hS hQ kk
  · rw [if_neg (by omega)] at m1
    have hns : M.2.2.2.2.2.2.1 ≠ 1 := by omega
    have m52 := m5.2.2
    rw [if_neg hns] at m52
    obtain ⟨o1, o2, o3, o4⟩ := isO_of g4
    have hret := m9 g3
    have hpre2 := hpre
    rw [List.map_cons, cv_pos o1] at hpre2
    rw [hret] at hMet hG
    have hst : st.map (cv B b sA) = (As.map (cv B b sA)).reverse ++ Value.ref (B + a.toNat) :: rest.map (cv B b sA) := by
      rw [q5, List.map_append, List.map_reverse, List.map_cons, List.reverse_cons, List.append_assoc, cv_pos o1]
      rfl
    have ea : (Value.ref (B + a.toNat) :: As.map (cv B b sA)).toArray = (((.inr (.inr a)) :: As).map (cv B b sA)).toArray := by rw [List.map_cons, cv_pos o1]
    by_cases hq0 : q.2.2.1 = 0
    · rw [if_pos hq0, q2] at w5
      have hrun := va_runI (e := e) (below := below) (meth := meth) (locs := locs) (n := As.length) (As := As.map (cv B b sA)) (rest := rest.map (cv B b sA)) (g := F0 m pc sl (st.map (cv B b sA))) ⟨hx, hb, hml, hown, hts⟩ hMet ⟨callB_of As.length hts hG rfl rfl rfl hini (hts _ (inT_in w5)) ⟨m5.1, m5.2.1, by rw [m52, ← q6]; rfl⟩ hroom, g3, hts _ m1⟩ ⟨hbl, hpre2⟩ rfl (by rw [List.length_map]) hsl hst hW hd hf
      rw [ea] at hrun
      exact z_call hrun hS hQ kk
    · have hnw := hNe o q q1 hq0 M (by rw [q3]; exact hM)
      rw [q2] at hnw
      have hrun := va_runIN (e := e) (below := below) (meth := meth) (locs := locs) (n := As.length) (host := "OneSided") (As := As.map (cv B b sA)) (rest := rest.map (cv B b sA)) (g := F0 m pc sl (st.map (cv B b sA))) ⟨hx, hb, hml, hown, hts⟩ hMet ⟨va_cnB As.length hts hG rfl rfl rfl hnw hini ⟨m5.1, m5.2.1, by rw [m52, ← q6]; rfl⟩ hroom, g3, hts _ m1⟩ ⟨hbl, hpre2⟩ rfl (by rw [List.length_map]) hsl hst hW hd hf
      rw [ea] at hrun
      exact z_call hrun hS hQ kk
set_option maxHeartbeats 8000000 in
theorem sim (SX : SimX B b sA X) (hX : keepX B X) (hbB : b ≤ B) (hxs : ∀ j, i32 (xs j)) (hxl : xl ≤ 3584) : ∀ f, SIM l B b sA xl xs D cA X f := by
  intro f
  induction f with
  | zero =>
    intro d M pc ls st n h r n' h' hr
    cases hr
  | succ f ih =>
    intro d M pc ls st n h r n' h' hr hst hls hh hN hF p e R s m args below meth c H locs cells slots Q sl n0 hx hb hml hown hts hZ hini hR hlv hP hS h0 hn0 hc hcl hsl hret
    unfold lmRun at hr
    split at hr
    · cases hr
    · next i len hd =>
      by_cases hlen : ilen i len = false
      · rw [if_pos hlen] at hr
        cases hr
      · rw [if_neg hlen] at hr
        have hlen : ilen i len = true := by simpa using hlen
        have hR8 : 8 ≤ R.frames ∧ 512 ≤ R.locals := by omega
        split at hr
        · next r1 h1 =>
          cases some_i hr
          have K := hret H locs sl pc i len st hd hlen h1 hst hh hN hF hP hS
          rw [show n - n = 0 by omega, show ssum n - ssum n = 0 by omega, Nat.add_zero, Nat.add_zero] at K
          exact K
        · split at hr
          · next k as rest hk =>
            split at hr
            · cases hr
            · next d' =>
              split at hr
              · cases hr
              · next M' hM' =>
                split at hr
                · cases hr
                · next r1 n1 h1 hr1 =>
                  obtain ⟨x, q, M2, q1, q2, q3, q4, q5, q6, q7, q8, q9⟩ := lmK_of hk
                  rw [hM'] at q4
                  cases q4
                  have has : okS as := fun v hv => hst v (by rw [q5]; exact List.mem_append_left _ (List.mem_reverse.mpr hv))
                  have hrs : okS rest := fun v hv => hst v (by rw [q5]; exact List.mem_append_right _ hv)
                  have mo1 := lmRun_mono _ _ _ _ _ _ _ _ _ _ _ hr1
                  have mo2 := lmRun_mono _ _ _ _ _ _ _ _ _ _ _ hr
                  have ss1 := ssum_mono mo1
                  have ss2 := ssum_mono mo2
                  have hMet := met_of ih hM' hr1 q8 has hh hN hF
                  refine W_sz fun hz => ?_
                  have hsz := sz_of hP hS h0 hn0 hc hz
                  refine sim_call (rv := r1.map (cv B b sA)) (P1 := fun H1 => va_P D zcl (zws B b sA cA n1 h1) H1 ∧ okH h1 ∧ okN h1 ∧ okF n1 h1 ∧ ∀ v, r1 = some v → okV v) hx hb hml hown hts hZ hR hP hS hlv.2.1 hd hlen hk hM' hMet ?_ ?_ ⟨by omega, by omega⟩ ?_ ?_
                  · intro a U g mk hp
                    obtain ⟨p1, p2, p3, p4⟩ := hp
                    exact ⟨p1, p2, p3, zK.blind hX p4 g mk a⟩
                  · intro U hU hW
                    refine ⟨rfl, by rw [hU, hsz]; omega, by rw [hU]; exact hP, zK.warm hX hbB hZ hW (by rw [hU]; exact hS.1) (fun z z1 z2 => by rw [hU]; exact hS.2.1 z z1 z2)⟩
                  · intro st2 v t hq
                    obtain ⟨⟨t1, t2, t3⟩, t4⟩ := hq
                    cases t1
                    exact ⟨rfl, ⟨t2, t3⟩, t4⟩
                  · intro H1 locs1 ⟨p1, p2, p3, p4, p5⟩ hS1
                    have e1 : (r1.map (cv B b sA)).toList ++ rest.map (cv B b sA) = (r1.toList ++ rest).map (cv B b sA) := by
                      cases r1 <;> simp
                    rw [e1]
                    refine ih (d' + 1) M (pc + 3) ls (r1.toList ++ rest) n1 h1 r n' h' hr ?_ hls p2 p3 p4 p e R s m args below meth c H1 locs1 _ _ Q sl n0 hx hb hml hown hts hZ hini hR hlv p1 hS1 h0 (by omega) (by omega) (by omega) (by omega) ?_
                    · intro v hv
                      rcases List.mem_append.mp hv with z | z
                      · cases r1 with
                        | none => cases z
                        | some w =>
                          rw [Option.toList_some, List.mem_singleton] at z
                          exact p5 v (by rw [z])
                      · exact hrs v z
                    · intro H2 locs2 sl2 pc2 i2 len2 st2 f1 f2 f3 f4 f5 f6 f7 f8 f9
                      have K := hret H2 locs2 sl2 pc2 i2 len2 st2 f1 f2 f3 f4 f5 f6 f7 f8 f9
                      rw [show cells + (n1 - n) + (n' - n1) = cells + (n' - n) by omega, show slots + (ssum n1 - ssum n) + (ssum n' - ssum n1) = slots + (ssum n' - ssum n) by omega]
                      exact K
          · split at hr
            · cases hr
            · next pc1 ls1 st1 n1 h1 hI =>
              have mo1 := lmI_mono hI
              have mo2 := lmRun_mono _ _ _ _ _ _ _ _ _ _ _ hr
              simp only at mo1
              have ss1 := ssum_mono mo1
              have ss2 := ssum_mono mo2
              refine sim_I SX hx hb hml hown hts hZ hbB hxs hxl hini hR8 hI hlen hd hst hls hh hN hF hlv hP hS h0 hn0 hc (by omega) (by omega) ?_
              intro H1 locs1 sl1 g1 g2 g3 g4 g5 g6 g7 g8
              refine ih d M pc1 ls1 st1 n1 h1 r n' h' hr g1 g2 g3 g4 g5 p e R s m args below meth c H1 locs1 _ _ Q sl1 n0 hx hb hml hown hts hZ hini hR g6 g7 g8 h0 (by omega) (by omega) (by omega) (by omega) ?_
              intro H2 locs2 sl2 pc2 i2 len2 st2 f1 f2 f3 f4 f5 f6 f7 f8 f9
              have K := hret H2 locs2 sl2 pc2 i2 len2 st2 f1 f2 f3 f4 f5 f6 f7 f8 f9
              rw [show cells + (n1 - n) + (n' - n1) = cells + (n' - n) by omega, show slots + (ssum n1 - ssum n) + (ssum n' - ssum n1) = slots + (ssum n' - ssum n) by omega]
              exact K
end SRR
end
section
/-! LM, part 17: runs by rules. Rn: from here the method returns, with Q of its answer and the heap; no cell is made any more -/
theorem lmRun_le {xs : Nat → Int} {xl : Nat} : ∀ (f f' d d' : Nat) (M : LM_M) (pc : Nat) (ls : LL) (st : List LV) (n : Nat) (h : LH) (x : Option LV × Nat × LH), f ≤ f' → d ≤ d' → lmRun xs xl f d M pc ls st n h = some x → lmRun xs xl f' d' M pc ls st n h = some x
  | 0, f', d, d', M, pc, ls, st, n, h, x, hf, hd, hr => by cases hr
  | f + 1, 0, d, d', M, pc, ls, st, n, h, x, hf, hd, hr => by omega
  | f + 1, f' + 1, d, d', M, pc, ls, st, n, h, x, hf, hd, hr => by
    have ih := fun d d' M pc ls st n h x => lmRun_le (xs := xs) (xl := xl) f f' d d' M pc ls st n h x (by omega)
    unfold lmRun at hr ⊢
    split at hr
    · cases hr
    · next i len hdec =>
      (try rw [hdec])
      (try simp only)
      by_cases hlen : ilen i len = false
      · rw [if_pos hlen] at hr
        cases hr
      · rw [if_neg hlen] at hr ⊢
        split at hr
        · next r h1 =>
          (try rw [h1])
          exact hr
        · next h1 =>
          (try rw [h1])
          (try simp only)
          split at hr
          · next k as rest hk =>
            (try rw [hk])
            (try simp only)
            split at hr
            · cases hr
            · next d1 =>
              match d', hd with
              | d2 + 1, hd =>
                (try simp only)
                split at hr
                · cases hr
                · next M' hM =>
                  (try rw [hM])
                  (try simp only)
                  split at hr
                  · cases hr
                  · next r n' h' h2 =>
                    rw [ih d1 d2 _ _ _ _ _ _ _ (by omega) h2]
                    exact ih _ _ _ _ _ _ _ _ _ hd hr
          · next hk =>
            (try rw [hk])
            (try simp only)
            split at hr
            · cases hr
            · next pc' ls' st' n' h' hI =>
              (try rw [hI])
              exact ih _ _ _ _ _ _ _ _ _ hd hr
def Rn (xs : Nat → Int) (xl d : Nat) (M : LM_M) (pc : Nat) (ls : LL) (st : List LV) (h : LH) (Q : Option LV → LH → Prop) : Prop := ∃ (f : Nat) (r : Option LV) (h' : LH), lmRun xs xl f d M pc ls st NC h = some (r, NC, h') ∧ Q r h'
section RN
variable {xs : Nat → Int} {xl d : Nat} {M : LM_M} {pc : Nat} {ls : LL} {st : List LV} {h : LH} {Q : Option LV → LH → Prop}
theorem Rn.mono {Q' : Option LV → LH → Prop} (hr : Rn xs xl d M pc ls st h Q) (hq : ∀ r h', Q r h' → Q' r h') : Rn xs xl d M pc ls st h Q' := by
  obtain ⟨f, r, h', h1, h2⟩ := hr
  exact ⟨f, r, h', h1, hq r h' h2⟩
theorem Rn.deep {d' : Nat} (hr : Rn xs xl d M pc ls st h Q) (hd : d ≤ d') : Rn xs xl d' M pc ls st h Q := by
  obtain ⟨f, r, h', h1, h2⟩ := hr
  exact ⟨f, r, h', lmRun_le f f d d' _ _ _ _ _ _ _ (Nat.le_refl _) hd h1, h2⟩
theorem Rn.step {i : Instr} {len : Nat} (hdec : decode M.2.1 pc = .ok (i, len)) (hlen : ilen i len = true) (hR : lmR M.2.2.2.1 i st = none) (hK : lmK M.2.2.2.2.1 NC i st = none) {pc' : Nat} {ls' : LL} {st' : List LV} {h' : LH} (hI : lmI M.2.2.2.2.1 NC (M.1.name == "<init>") xs xl i pc len ls st h = some (pc', ls', st', NC, h'))
    (k : Rn xs xl d M pc' ls' st' h' Q) : Rn xs xl d M pc ls st h Q := by
  obtain ⟨f, r, h2, h3, h4⟩ := k
  refine ⟨f + 1, r, h2, ?_, h4⟩
  unfold lmRun
  rw [hdec]
  simp only
  rw [if_neg (by rw [hlen]; decide), hR]
  simp only
  rw [hK]
  simp only
  rw [hI]
  exact h3
theorem Rn.ret {i : Instr} {len : Nat} (hdec : decode M.2.1 pc = .ok (i, len)) (hlen : ilen i len = true) {r : Option LV} (hR : lmR M.2.2.2.1 i st = some r) (hq : Q r h) : Rn xs xl d M pc ls st h Q := by
  refine ⟨1, r, h, ?_, hq⟩
  unfold lmRun
  rw [hdec]
  simp only
  rw [if_neg (by rw [hlen]; decide), hR]
theorem Rn.call {i : Instr} {len : Nat} (hdec : decode M.2.1 pc = .ok (i, len)) (hlen : ilen i len = true) (hR : lmR M.2.2.2.1 i st = none) {k : Nat} {as rest : List LV} (hK : lmK M.2.2.2.2.1 NC i st = some (k, as, rest)) {M' : LM_M} (hM : MTB k = some M') {Q1 : Option LV → LH → Prop} (hc : Rn xs xl d M' 0 (lpad M'.2.2.1 (lent as)) [] h Q1)
    (kk : ∀ r h', Q1 r h' → Rn xs xl (d + 1) M (pc + 3) ls (r.toList ++ rest) h' Q) : Rn xs xl (d + 1) M pc ls st h Q := by
  obtain ⟨f, r, h1, h2, h3⟩ := hc
  obtain ⟨f2, r2, h4, h5, h6⟩ := kk r h1 h3
  refine ⟨max f f2 + 1, r2, h4, ?_, h6⟩
  unfold lmRun
  rw [hdec]
  simp only
  rw [if_neg (by rw [hlen]; decide), hR]
  simp only
  rw [hK]
  simp only
  rw [hM]
  simp only
  rw [lmRun_le f (max f f2) d d _ _ _ _ _ _ _ (Nat.le_max_left _ _) (Nat.le_refl _) h2]
  exact lmRun_le f2 (max f f2) (d + 1) (d + 1) _ _ _ _ _ _ _ (Nat.le_max_right _ _) (Nat.le_refl _) h5
end RN
end
