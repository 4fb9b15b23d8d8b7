/-! LM, part 6: values, locals, jumps on the machine -/
section SA
variable {p : Program} {l : Launch} {e : Env} {R : Room} {s : State} {m : MethodId} {args : Array Value} {below : List Frame} {meth : Method} {c : Code} {H : Heap} {locs : List Loc} {cells slots : Nat} {Q : State → Prop}
variable {cc : ByteArray} {pc : Nat} {sl : Array Slot} {B b sA : Nat}
theorem some_i {α : Type} {a b : α} (h : some a = some b) : b = a := (Option.some.inj h).symm
set_option maxHeartbeats 4000000 in
theorem sim_A (hx : p.tables.exec = Jvm.exec) (hb : c.code = cc) {i : Instr} {len : Nat} {st st' : List LV} (h : lmA i st = some st') (hlen : ilen i len = true) (hd : decode cc pc = .ok (i, len)) (hst : okS st)
    (k : okS st' → W p l e R s m args below meth c H locs cells slots Q (F0 m (pc + len) sl (st'.map (cv B b sA)))) :
    W p l e R s m args below meth c H locs cells slots Q (F0 m pc sl (st.map (cv B b sA))) := by
  have one : ∀ {n : Nat}, (n == 1) = true → n = 1 := fun h => by simpa using h
  cases i with
  | iconst v =>
    simp only [lmA] at h
    split at h
    · next hv =>
      cases some_i h
      cases one hlen
      exact lv_iconst hx hb hd rfl (k (okS_i (by show i32 v; unfold i32; omega) hst))
    · cases h
  | bipush v =>
    simp only [lmA] at h
    split at h
    · next hv =>
      cases some_i h
      have e : len = 2 := by simpa [ilen] using hlen
      subst e
      refine lv_bipush hx hb (v := Int32.ofInt v) hd ?_ (k (okS_i (by show i32 v; unfold i32; omega) hst))
      refine x_eq ?_
      rw [Int8.toInt_toInt32, Int8.toInt_ofInt_of_le (by omega) (by omega)]
    · cases h
  | sipush v =>
    simp only [lmA] at h
    split at h
    · next hv =>
      cases some_i h
      have e : len = 3 := by simpa [ilen] using hlen
      subst e
      refine lv_sipush hx hb (v := Int32.ofInt v) hd ?_ (k (okS_i (by show i32 v; unfold i32; omega) hst))
      refine x_eq ?_
      rw [Int16.toInt_toInt32, Int16.toInt_ofInt_of_le (by omega) (by omega)]
    · cases h
  | lconst v =>
    simp only [lmA] at h
    cases some_i h
    cases one hlen
    refine lv_lconst hx hb (v := Int64.ofInt (v.val : Int)) hd rfl (k (okS_i (by show i64 _; unfold i64; have := v.isLt; omega) hst))
  | iadd =>
    simp only [lmA] at h
    split at h
    · next y x r =>
      cases some_i h; cases one hlen
      obtain ⟨h1, h2⟩ := okS_c hst
      obtain ⟨h3, h4⟩ := okS_c h2
      refine lv_iadd hx hb hd ?_
      rw [o_add h3 h1]
      exact k (okS_i (w32_in _) h4)
    · cases h
  | isub =>
    simp only [lmA] at h
    split at h
    · next y x r =>
      cases some_i h; cases one hlen
      obtain ⟨h1, h2⟩ := okS_c hst
      obtain ⟨h3, h4⟩ := okS_c h2
      refine lv_isub hx hb hd ?_
      rw [o_sub h3 h1]
      exact k (okS_i (w32_in _) h4)
    · cases h
  | imul =>
    simp only [lmA] at h
    split at h
    · next y x r =>
      cases some_i h; cases one hlen
      obtain ⟨h1, h2⟩ := okS_c hst
      obtain ⟨h3, h4⟩ := okS_c h2
      refine lv_imul hx hb hd ?_
      rw [o_mul h3 h1]
      exact k (okS_i (w32_in _) h4)
    · cases h
  | idiv =>
    simp only [lmA] at h
    split at h
    · next y x r =>
      split at h
      · cases h
      · next hy =>
        cases some_i h; cases one hlen
        obtain ⟨h1, h2⟩ := okS_c hst
        obtain ⟨h3, h4⟩ := okS_c h2
        refine lv_idiv hx hb hd (fun q => hy ((o_eq h1 z32).mp q)) ?_
        rw [o_div h3 h1]
        exact k (okS_i (w32_in _) h4)
    · cases h
  | irem =>
    simp only [lmA] at h
    split at h
    · next y x r =>
      split at h
      · cases h
      · next hy =>
        cases some_i h; cases one hlen
        obtain ⟨h1, h2⟩ := okS_c hst
        obtain ⟨h3, h4⟩ := okS_c h2
        refine lv_irem hx hb hd (fun q => hy ((o_eq h1 z32).mp q)) ?_
        rw [o_div h3 h1, o_mul (w32_in _) h1, o_sub h3 (w32_in _)]
        exact k (okS_i (w32_in _) h4)
    · cases h
  | ineg =>
    simp only [lmA] at h
    split at h
    · next x r =>
      cases some_i h; cases one hlen
      obtain ⟨h1, h2⟩ := okS_c hst
      refine lv_ineg hx hb hd ?_
      rw [o_neg h1]
      exact k (okS_i (w32_in _) h2)
    · cases h
  | iand =>
    simp only [lmA] at h
    split at h
    · next y x r =>
      cases some_i h; cases one hlen
      obtain ⟨h1, h2⟩ := okS_c hst
      obtain ⟨h3, h4⟩ := okS_c h2
      refine lv_iand hx hb hd ?_
      rw [x_eq (x := Int32.ofInt x &&& Int32.ofInt y) (a := zand x y) rfl]
      exact k (okS_i (x_in _) h4)
    · cases h
  | ior =>
    simp only [lmA] at h
    split at h
    · next y x r =>
      cases some_i h; cases one hlen
      obtain ⟨h1, h2⟩ := okS_c hst
      obtain ⟨h3, h4⟩ := okS_c h2
      refine lv_ior hx hb hd ?_
      rw [x_eq (x := Int32.ofInt x ||| Int32.ofInt y) (a := zor x y) rfl]
      exact k (okS_i (x_in _) h4)
    · cases h
  | ixor =>
    simp only [lmA] at h
    split at h
    · next y x r =>
      cases some_i h; cases one hlen
      obtain ⟨h1, h2⟩ := okS_c hst
      obtain ⟨h3, h4⟩ := okS_c h2
      refine lv_ixor hx hb hd ?_
      rw [x_eq (x := Int32.ofInt x ^^^ Int32.ofInt y) (a := zxor x y) rfl]
      exact k (okS_i (x_in _) h4)
    · cases h
  | ishl =>
    simp only [lmA] at h
    split at h
    · next y x r =>
      cases some_i h; cases one hlen
      obtain ⟨h1, h2⟩ := okS_c hst
      obtain ⟨h3, h4⟩ := okS_c h2
      refine lv_ishl hx hb hd ?_
      rw [x_eq (x := Int32.ofInt x <<< (Int32.ofInt y &&& 31)) (a := zshl x y) rfl]
      exact k (okS_i (x_in _) h4)
    · cases h
  | ishr =>
    simp only [lmA] at h
    split at h
    · next y x r =>
      cases some_i h; cases one hlen
      obtain ⟨h1, h2⟩ := okS_c hst
      obtain ⟨h3, h4⟩ := okS_c h2
      refine lv_ishr hx hb hd ?_
      rw [x_eq (x := Int32.ofInt x >>> (Int32.ofInt y &&& 31)) (a := zshr x y) rfl]
      exact k (okS_i (x_in _) h4)
    · cases h
  | iushr =>
    simp only [lmA] at h
    split at h
    · next y x r =>
      cases some_i h; cases one hlen
      obtain ⟨h1, h2⟩ := okS_c hst
      obtain ⟨h3, h4⟩ := okS_c h2
      refine lv_iushr hx hb hd (v := Int32.ofInt (zushr x y)) (x_eq rfl) ?_
      exact k (okS_i (x_in _) h4)
    · cases h
  | ladd =>
    simp only [lmA] at h
    split at h
    · next y x r =>
      cases some_i h; cases one hlen
      obtain ⟨h1, h2⟩ := okS_c hst
      obtain ⟨h3, h4⟩ := okS_c h2
      refine lv_ladd hx hb hd ?_
      rw [p_add h3 h1]
      exact k (okS_i (w64_in _) h4)
    · cases h
  | lsub =>
    simp only [lmA] at h
    split at h
    · next y x r =>
      cases some_i h; cases one hlen
      obtain ⟨h1, h2⟩ := okS_c hst
      obtain ⟨h3, h4⟩ := okS_c h2
      refine lv_lsub hx hb hd ?_
      rw [p_sub h3 h1]
      exact k (okS_i (w64_in _) h4)
    · cases h
  | lmul =>
    simp only [lmA] at h
    split at h
    · next y x r =>
      cases some_i h; cases one hlen
      obtain ⟨h1, h2⟩ := okS_c hst
      obtain ⟨h3, h4⟩ := okS_c h2
      refine lv_lmul hx hb hd ?_
      rw [p_mul h3 h1]
      exact k (okS_i (w64_in _) h4)
    · cases h
  | ldiv =>
    simp only [lmA] at h
    split at h
    · next y x r =>
      split at h
      · cases h
      · next hy =>
        cases some_i h; cases one hlen
        obtain ⟨h1, h2⟩ := okS_c hst
        obtain ⟨h3, h4⟩ := okS_c h2
        refine lv_ldiv hx hb hd (fun q => hy ((p_eq h1 z64).mp q)) ?_
        rw [p_div h3 h1]
        exact k (okS_i (w64_in _) h4)
    · cases h
  | lrem =>
    simp only [lmA] at h
    split at h
    · next y x r =>
      split at h
      · cases h
      · next hy =>
        cases some_i h; cases one hlen
        obtain ⟨h1, h2⟩ := okS_c hst
        obtain ⟨h3, h4⟩ := okS_c h2
        refine lv_lrem hx hb hd (fun q => hy ((p_eq h1 z64).mp q)) ?_
        rw [p_div h3 h1, p_mul (w64_in _) h1, p_sub h3 (w64_in _)]
        exact k (okS_i (w64_in _) h4)
    · cases h
  | land =>
    simp only [lmA] at h
    split at h
    · next y x r =>
      cases some_i h; cases one hlen
      obtain ⟨h1, h2⟩ := okS_c hst
      obtain ⟨h3, h4⟩ := okS_c h2
      refine lv_land hx hb hd ?_
      rw [y_eq (x := Int64.ofInt x &&& Int64.ofInt y) (a := land_ x y) rfl]
      exact k (okS_i (y_in _) h4)
    · cases h
  | lor =>
    simp only [lmA] at h
    split at h
    · next y x r =>
      cases some_i h; cases one hlen
      obtain ⟨h1, h2⟩ := okS_c hst
      obtain ⟨h3, h4⟩ := okS_c h2
      refine lv_lor hx hb hd ?_
      rw [y_eq (x := Int64.ofInt x ||| Int64.ofInt y) (a := lor_ x y) rfl]
      exact k (okS_i (y_in _) h4)
    · cases h
  | lshl =>
    simp only [lmA] at h
    split at h
    · next y x r =>
      cases some_i h; cases one hlen
      obtain ⟨h1, h2⟩ := okS_c hst
      obtain ⟨h3, h4⟩ := okS_c h2
      exact lv_lshl hx hb hd (v := Int64.ofInt (lshl_ x y)) (y_eq rfl) (k (okS_i (y_in _) h4))
    · cases h
  | lshr =>
    simp only [lmA] at h
    split at h
    · next y x r =>
      cases some_i h; cases one hlen
      obtain ⟨h1, h2⟩ := okS_c hst
      obtain ⟨h3, h4⟩ := okS_c h2
      exact lv_lshr hx hb hd (v := Int64.ofInt (lshr_ x y)) (y_eq rfl) (k (okS_i (y_in _) h4))
    · cases h
  | lushr =>
    simp only [lmA] at h
    split at h
    · next y x r =>
      cases some_i h; cases one hlen
      obtain ⟨h1, h2⟩ := okS_c hst
      obtain ⟨h3, h4⟩ := okS_c h2
      exact lv_lushr hx hb hd (v := Int64.ofInt (lushr_ x y)) (y_eq rfl) (k (okS_i (y_in _) h4))
    · cases h
  | lcmp =>
    simp only [lmA] at h
    split at h
    · next y x r =>
      cases some_i h; cases one hlen
      obtain ⟨h1, h2⟩ := okS_c hst
      obtain ⟨h3, h4⟩ := okS_c h2
      refine W.lcmp hx hb hd ?_
      rw [o_cmp h3 h1]
      exact k (okS_i (lcmp_in _ _) h4)
    · cases h
  | i2l =>
    simp only [lmA] at h
    split at h
    · next x r =>
      cases some_i h; cases one hlen
      obtain ⟨h1, h2⟩ := okS_c hst
      exact lv_i2l hx hb hd (o_i2l h1) (k (okS_i (i32_64 h1) h2))
    · cases h
  | l2i =>
    simp only [lmA] at h
    split at h
    · next x r =>
      cases some_i h; cases one hlen
      obtain ⟨h1, h2⟩ := okS_c hst
      exact lv_l2i hx hb hd (o_l2i h1) (k (okS_i (w32_in _) h2))
    · cases h
  | i2b =>
    simp only [lmA] at h
    split at h
    · next x r =>
      cases some_i h; cases one hlen
      obtain ⟨h1, h2⟩ := okS_c hst
      exact lv_i2b hx hb hd (x_eq rfl) (k (okS_i (x_in _) h2))
    · cases h
  | i2c =>
    simp only [lmA] at h
    split at h
    · next x r =>
      cases some_i h; cases one hlen
      obtain ⟨h1, h2⟩ := okS_c hst
      exact lv_i2c hx hb hd (x_eq rfl) (k (okS_i (x_in _) h2))
    · cases h
  | dup =>
    simp only [lmA] at h
    split at h
    · next x r =>
      split at h
      · cases h
      · next hl =>
        cases some_i h; cases one hlen
        obtain ⟨h1, h2⟩ := okS_c hst
        exact lv_dup hx hb hd (by rw [cv_cat]; simp [vcat, hl]) (k (okS_i h1 hst))
    · cases h
  | pop =>
    simp only [lmA] at h
    split at h
    · next x r =>
      split at h
      · cases h
      · next hl =>
        cases some_i h; cases one hlen
        obtain ⟨h1, h2⟩ := okS_c hst
        exact lv_pop hx hb hd (by rw [cv_cat]; simp [vcat, hl]) (k h2)
    · cases h
  | dup2 =>
    simp only [lmA] at h
    split at h
    · next y x r =>
      split at h
      · cases h
      · next hl =>
        cases some_i h; cases one hlen
        obtain ⟨h1, h2⟩ := okS_c hst
        obtain ⟨h3, h4⟩ := okS_c h2
        simp only [Bool.or_eq_true, not_or, Bool.not_eq_true] at hl
        exact lv_dup2_11 hx hb hd (by rw [cv_cat]; simp [vcat, hl.2]) (by rw [cv_cat]; simp [vcat, hl.1]) (k (okS_i h1 (okS_i h3 hst)))
    · cases h
  | _ => simp only [lmA] at h; cases h
end SA
