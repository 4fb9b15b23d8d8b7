/-! LM, part 7: locals and jumps on the machine -/
section SL
variable {p : Program} {l : Launch} {e : Env} {R : Room} {s : State} {m : MethodId} {args : Array Value} {below : List Frame} {meth : Method} {c : Code} {H : Heap} {locs : List Loc} {cells slots : Nat} {Q : State → Prop}
variable {cc : ByteArray} {pc : Nat} {sl : Array Slot} {B b sA nL : Nat}
theorem fil {α : Type} {o : Option α} {f : α → Bool} {v : α} (h : o.filter f = some v) : o = some v ∧ f v = true := by
  cases o with
  | none => cases h
  | some w =>
    simp only [Option.filter] at h
    split at h
    · next hf => cases h; exact ⟨rfl, hf⟩
    · cases h
theorem isI_v {v : LV} (h : isI v = true) : ∃ x, v = .inl x := by
  match v, h with
  | .inl x, _ => exact ⟨x, rfl⟩
theorem isL_v {v : LV} (h : isL v = true) : ∃ x, v = .inr (.inl x) := by
  match v, h with
  | .inr (.inl x), _ => exact ⟨x, rfl⟩
theorem isR_v {v : LV} (h : isR v = true) : ∃ x, v = .inr (.inr x) := by
  match v, h with
  | .inr (.inr x), _ => exact ⟨x, rfl⟩
theorem cv_ref (B b sA : Nat) (a : Int) : cv B b sA (.inr (.inr a)) = .null ∨ ∃ q, cv B b sA (.inr (.inr a)) = .ref q := by
  by_cases h0 : a = 0
  · left; simp [cv, h0]
  · right
    by_cases h1 : a = -1
    · exact ⟨sA, by simp [cv, h1]⟩
    · by_cases h2 : a = -2
      · exact ⟨b, by simp [cv, h2]⟩
      · exact ⟨_, by simp only [cv, if_neg h0, if_neg h1, if_neg h2]; rfl⟩
set_option maxHeartbeats 4000000 in
theorem sim_Ld (hx : p.tables.exec = Jvm.exec) (hb : c.code = cc) {i : Instr} {len : Nat} {st : List LV} {ls : LL} {v : LV} (h : lmLd i ls = some v) (hlen : ilen i len = true) (hd : decode cc pc = .ok (i, len)) (hst : okS st) (hls : okL ls) (hr : lvR B b sA sl nL ls)
    (k : okS (v :: st) → W p l e R s m args below meth c H locs cells slots Q (F0 m (pc + len) sl ((v :: st).map (cv B b sA)))) :
    W p l e R s m args below meth c H locs cells slots Q (F0 m pc sl (st.map (cv B b sA))) := by
  have one : ∀ {n : Nat}, (n == 1) = true → n = 1 := fun h => by simpa using h
  have two : ∀ {n : Nat}, (n == 2) = true → n = 2 := fun h => by simpa using h
  cases i with
  | iload j =>
    simp only [lmLd] at h
    obtain ⟨h1, h2⟩ := fil h
    obtain ⟨x, rfl⟩ := isI_v h2
    cases two hlen
    exact lv_iload hx hb hd (lvR_get hr h1) (k (okS_i (hls _ _ h1) hst))
  | iload_n j =>
    simp only [lmLd] at h
    obtain ⟨h1, h2⟩ := fil h
    obtain ⟨x, rfl⟩ := isI_v h2
    cases one hlen
    exact lv_iload_n hx hb hd rfl (lvR_get hr h1) (k (okS_i (hls _ _ h1) hst))
  | lload j =>
    simp only [lmLd] at h
    obtain ⟨h1, h2⟩ := fil h
    obtain ⟨x, rfl⟩ := isL_v h2
    cases two hlen
    exact lv_lload hx hb hd (lvR_get hr h1) (k (okS_i (hls _ _ h1) hst))
  | lload_n j =>
    simp only [lmLd] at h
    obtain ⟨h1, h2⟩ := fil h
    obtain ⟨x, rfl⟩ := isL_v h2
    cases one hlen
    exact lv_lload_n hx hb hd rfl (lvR_get hr h1) (k (okS_i (hls _ _ h1) hst))
  | aload j =>
    simp only [lmLd] at h
    obtain ⟨h1, h2⟩ := fil h
    obtain ⟨x, rfl⟩ := isR_v h2
    cases two hlen
    have h3 := lvR_get hr h1
    have h4 := k (okS_i (hls _ _ h1) hst)
    rw [List.map_cons] at h4
    rcases cv_ref B b sA x with q | ⟨a, q⟩
    · rw [q] at h3 h4
      exact lv_aloadN hx hb hd h3 h4
    · rw [q] at h3 h4
      exact lv_aload hx hb hd h3 h4
  | aload_n j =>
    simp only [lmLd] at h
    obtain ⟨h1, h2⟩ := fil h
    obtain ⟨x, rfl⟩ := isR_v h2
    cases one hlen
    have h3 := lvR_get hr h1
    have h4 := k (okS_i (hls _ _ h1) hst)
    rw [List.map_cons] at h4
    rcases cv_ref B b sA x with q | ⟨a, q⟩
    · rw [q] at h3 h4
      exact lv_aload_nN hx hb hd rfl h3 h4
    · rw [q] at h3 h4
      exact lv_aload_n hx hb hd rfl h3 h4
  | _ => simp only [lmLd] at h; cases h
set_option maxHeartbeats 4000000 in
theorem sim_St (hx : p.tables.exec = Jvm.exec) (hb : c.code = cc) {i : Instr} {len : Nat} {st : List LV} {ls : LL} {v : LV} {j : Nat} (h : lmSt i v = some j) (hj : j + (if isL v then 1 else 0) < ls.length) (hlen : ilen i len = true) (hd : decode cc pc = .ok (i, len)) (hst : okS (v :: st)) (hls : okL ls) (hr : lvR B b sA sl nL ls)
    (k : ∀ sl' : Array Slot, okS st → okL (lst ls j v) → lvR B b sA sl' nL (lst ls j v) → W p l e R s m args below meth c H locs cells slots Q (F0 m (pc + len) sl' (st.map (cv B b sA)))) :
    W p l e R s m args below meth c H locs cells slots Q (F0 m pc sl ((v :: st).map (cv B b sA))) := by
  have one : ∀ {n : Nat}, (n == 1) = true → n = 1 := fun h => by simpa using h
  have two : ∀ {n : Nat}, (n == 2) = true → n = 2 := fun h => by simpa using h
  obtain ⟨h1, h2⟩ := okS_c hst
  have hn := hr.1
  have hj1 : j < ls.length := by omega
  have ok := okL_lst hj1 hls h1
  have K1 : isL v = false → ∀ sl' : Array Slot, lv_has sl' nL ((j, cv B b sA v) :: (lasc B b sA ls).filter (fun q => !(q.1 == j) && !(q.1 + 1 == j && q.2.category == 2))) → W p l e R s m args below meth c H locs cells slots Q (F0 m (pc + len) sl' (st.map (cv B b sA))) := fun hv sl' h' => k sl' h2 ok (lvR_1 hj1 hr h' hv)
  have K2 : isL v = true → ∀ sl' : Array Slot, lv_has sl' nL ((j, cv B b sA v) :: (lasc B b sA ls).filter (fun q => !(q.1 == j) && (!(q.1 == j + 1) && !(q.1 + 1 == j && q.2.category == 2)))) → W p l e R s m args below meth c H locs cells slots Q (F0 m (pc + len) sl' (st.map (cv B b sA))) := fun hv sl' h' => k sl' h2 ok (lvR_2 hj1 hr h' hv)
  cases i with
  | istore q =>
    simp only [lmSt] at h
    split at h
    · next hi =>
      obtain ⟨x, rfl⟩ := isI_v hi
      cases some_i h
      cases two hlen
      exact lv_istore hx hb hd hr.2 (by omega) rfl (K1 rfl)
    · cases h
  | istore_n q =>
    simp only [lmSt] at h
    split at h
    · next hi =>
      obtain ⟨x, rfl⟩ := isI_v hi
      cases some_i h
      cases one hlen
      exact lv_istore_n hx hb hd rfl hr.2 (by omega) rfl (K1 rfl)
    · cases h
  | lstore q =>
    simp only [lmSt] at h
    split at h
    · next hi =>
      obtain ⟨x, rfl⟩ := isL_v hi
      cases some_i h
      cases two hlen
      exact lv_lstore hx hb hd hr.2 (by simp [isL] at hj; omega) rfl (K2 rfl)
    · cases h
  | lstore_n q =>
    simp only [lmSt] at h
    split at h
    · next hi =>
      obtain ⟨x, rfl⟩ := isL_v hi
      cases some_i h
      cases one hlen
      exact lv_lstore_n hx hb hd rfl hr.2 (by simp [isL] at hj; omega) rfl (K2 rfl)
    · cases h
  | astore q =>
    simp only [lmSt] at h
    split at h
    · next hi =>
      obtain ⟨x, rfl⟩ := isR_v hi
      cases some_i h
      cases two hlen
      have K := K1 rfl
      rw [List.map_cons]
      rcases cv_ref B b sA x with z | ⟨a, z⟩
      · rw [z] at K ⊢
        exact lv_astoreN hx hb hd hr.2 (by omega) rfl K
      · rw [z] at K ⊢
        exact lv_astore hx hb hd hr.2 (by omega) rfl K
    · cases h
  | astore_n q =>
    simp only [lmSt] at h
    split at h
    · next hi =>
      obtain ⟨x, rfl⟩ := isR_v hi
      cases some_i h
      cases one hlen
      have K := K1 rfl
      rw [List.map_cons]
      rcases cv_ref B b sA x with z | ⟨a, z⟩
      · rw [z] at K ⊢
        exact lv_astore_nN hx hb hd rfl hr.2 (by omega) rfl K
      · rw [z] at K ⊢
        exact lv_astore_n hx hb hd rfl hr.2 (by omega) rfl K
    · cases h
  | _ => simp only [lmSt] at h; cases h
set_option maxHeartbeats 4000000 in
theorem sim_Inc (hx : p.tables.exec = Jvm.exec) (hb : c.code = cc) {i : Instr} {len : Nat} {st : List LV} {ls ls' : LL} (h : lmInc i ls = some ls') (hlen : ilen i len = true) (hd : decode cc pc = .ok (i, len)) (hls : okL ls) (hr : lvR B b sA sl nL ls)
    (k : ∀ sl' : Array Slot, okL ls' → lvR B b sA sl' nL ls' → W p l e R s m args below meth c H locs cells slots Q (F0 m (pc + len) sl' (st.map (cv B b sA)))) :
    W p l e R s m args below meth c H locs cells slots Q (F0 m pc sl (st.map (cv B b sA))) := by
  cases i with
  | iinc j n =>
    simp only [lmInc] at h
    split at h
    · next x hx1 =>
      split at h
      · next hn1 =>
        cases some_i h
        have e : len = 3 := by simpa [ilen] using hlen
        subst e
        have hj := lget_lt hx1
        have hn := hr.1
        obtain ⟨q, hq⟩ := List.getElem?_of_mem (lasc_mem (B := B) (b := b) (sA := sA) (q := (j, cv B b sA (.inl x))).mpr ⟨_, hx1, rfl⟩)
        have hx2 : i32 x := hls _ _ hx1
        refine lv_iinc hx hb hd hr.2 (k := q) hq (v := Int32.ofInt (w32 (x + n))) (o_add hx2 (by unfold i32; omega)) (by omega) rfl (fun sl' h' => k sl' (okL_lst hj hls (w32_in _)) (lvR_1 hj hr h' rfl))
      · cases h
    · cases h
  | _ => simp only [lmInc] at h; cases h
theorem cnd_eq {a b : Int} : cnd .eq a b = true ↔ a = b := by simp [cnd]
theorem cnd_ne {a b : Int} : cnd .ne a b = true ↔ a ≠ b := by simp [cnd]
theorem cnd_lt {a b : Int} : cnd .lt a b = true ↔ a < b := by simp [cnd]
theorem cnd_ge {a b : Int} : cnd .ge a b = true ↔ b ≤ a := by simp [cnd]
theorem cnd_gt {a b : Int} : cnd .gt a b = true ↔ b < a := by simp [cnd]
theorem cnd_le {a b : Int} : cnd .le a b = true ↔ a ≤ b := by simp [cnd]
set_option maxHeartbeats 4000000 in
theorem sim_J (hx : p.tables.exec = Jvm.exec) (hb : c.code = cc) {i : Instr} {len : Nat} {st st' : List LV} {t : Int} (h : lmJ i pc len st = some (t, st')) (ht : 0 ≤ t) (hlen : ilen i len = true) (hd : decode cc pc = .ok (i, len)) (hst : okS st)
    (k : okS st' → W p l e R s m args below meth c H locs cells slots Q (F0 m t.toNat sl (st'.map (cv B b sA)))) :
    W p l e R s m args below meth c H locs cells slots Q (F0 m pc sl (st.map (cv B b sA))) := by
  have three : ∀ {n : Nat}, (n == 3) = true → n = 3 := fun h => by simpa using h
  have tg : (t.toNat : Int) = t := Int.toNat_of_nonneg ht
  cases i with
  | goto off =>
    simp only [lmJ] at h
    cases some_i h
    cases three hlen
    exact lv_goto hx hb hd tg.symm (k hst)
  | ifCond cn off =>
    simp only [lmJ] at h
    split at h
    · next x r =>
      split at h
      · next hoff =>
        cases three hlen
        have to : (pc : Int) + off = ((((pc : Int) + off).toNat : Nat) : Int) := (Int.toNat_of_nonneg hoff).symm
        obtain ⟨h1, h2⟩ := okS_c hst
        have hx1 : i32 x := h1
        by_cases hc : cnd cn x 0 = true
        · rw [if_pos hc] at h
          cases some_i h
          have K := k h2
          cases cn
          · exact lv_if_eq hx hb hd to (fun _ => K) (fun q => absurd ((o_eq hx1 z32).mpr (cnd_eq.mp hc)) q)
          · exact lv_if_ne hx hb hd to (fun _ => K) (fun q => absurd ((o_eq hx1 z32).mp q) (cnd_ne.mp hc))
          · exact lv_if_lt hx hb hd to (fun _ => K) (fun q => absurd ((o_lt hx1 z32).mpr (cnd_lt.mp hc)) q)
          · exact lv_if_ge hx hb hd to (fun _ => K) (fun q => absurd ((o_le z32 hx1).mpr (cnd_ge.mp hc)) q)
          · exact lv_if_gt hx hb hd to (fun _ => K) (fun q => absurd ((o_lt z32 hx1).mpr (cnd_gt.mp hc)) q)
          · exact lv_if_le hx hb hd to (fun _ => K) (fun q => absurd ((o_le hx1 z32).mpr (cnd_le.mp hc)) q)
        · rw [if_neg hc] at h
          cases some_i h
          have K := k h2
          rw [show ((pc : Int) + (3 : Nat)).toNat = pc + 3 by omega] at K
          cases cn
          · exact lv_if_eq hx hb hd to (fun q => absurd (cnd_eq.mpr ((o_eq hx1 z32).mp q)) hc) (fun _ => K)
          · exact lv_if_ne hx hb hd to (fun q => absurd (cnd_ne.mpr (fun z => q ((o_eq hx1 z32).mpr z))) hc) (fun _ => K)
          · exact lv_if_lt hx hb hd to (fun q => absurd (cnd_lt.mpr ((o_lt hx1 z32).mp q)) hc) (fun _ => K)
          · exact lv_if_ge hx hb hd to (fun q => absurd (cnd_ge.mpr ((o_le z32 hx1).mp q)) hc) (fun _ => K)
          · exact lv_if_gt hx hb hd to (fun q => absurd (cnd_gt.mpr ((o_lt z32 hx1).mp q)) hc) (fun _ => K)
          · exact lv_if_le hx hb hd to (fun q => absurd (cnd_le.mpr ((o_le hx1 z32).mp q)) hc) (fun _ => K)
      · cases h
    · cases h
  | if_icmp cn off =>
    simp only [lmJ] at h
    split at h
    · next y x r =>
      split at h
      · next hoff =>
        cases three hlen
        have to : (pc : Int) + off = ((((pc : Int) + off).toNat : Nat) : Int) := (Int.toNat_of_nonneg hoff).symm
        obtain ⟨h1, h2⟩ := okS_c hst
        obtain ⟨h3, h2⟩ := okS_c h2
        have hx1 : i32 x := h3
        have hy1 : i32 y := h1
        by_cases hc : cnd cn x y = true
        · rw [if_pos hc] at h
          cases some_i h
          have K := k h2
          cases cn
          · exact lv_icmp_eq hx hb hd to (fun _ => K) (fun q => absurd ((o_eq hx1 hy1).mpr (cnd_eq.mp hc)) q)
          · exact lv_icmp_ne hx hb hd to (fun _ => K) (fun q => absurd ((o_eq hx1 hy1).mp q) (cnd_ne.mp hc))
          · exact lv_icmp_lt hx hb hd to (fun _ => K) (fun q => absurd ((o_lt hx1 hy1).mpr (cnd_lt.mp hc)) q)
          · exact lv_icmp_ge hx hb hd to (fun _ => K) (fun q => absurd ((o_le hy1 hx1).mpr (cnd_ge.mp hc)) q)
          · exact lv_icmp_gt hx hb hd to (fun _ => K) (fun q => absurd ((o_lt hy1 hx1).mpr (cnd_gt.mp hc)) q)
          · exact lv_icmp_le hx hb hd to (fun _ => K) (fun q => absurd ((o_le hx1 hy1).mpr (cnd_le.mp hc)) q)
        · rw [if_neg hc] at h
          cases some_i h
          have K := k h2
          rw [show ((pc : Int) + (3 : Nat)).toNat = pc + 3 by omega] at K
          cases cn
          · exact lv_icmp_eq hx hb hd to (fun q => absurd (cnd_eq.mpr ((o_eq hx1 hy1).mp q)) hc) (fun _ => K)
          · exact lv_icmp_ne hx hb hd to (fun q => absurd (cnd_ne.mpr (fun z => q ((o_eq hx1 hy1).mpr z))) hc) (fun _ => K)
          · exact lv_icmp_lt hx hb hd to (fun q => absurd (cnd_lt.mpr ((o_lt hx1 hy1).mp q)) hc) (fun _ => K)
          · exact lv_icmp_ge hx hb hd to (fun q => absurd (cnd_ge.mpr ((o_le hy1 hx1).mp q)) hc) (fun _ => K)
          · exact lv_icmp_gt hx hb hd to (fun q => absurd (cnd_gt.mpr ((o_lt hy1 hx1).mp q)) hc) (fun _ => K)
          · exact lv_icmp_le hx hb hd to (fun q => absurd (cnd_le.mpr ((o_le hx1 hy1).mp q)) hc) (fun _ => K)
      · cases h
    · cases h
  | tableswitch d lo hi offs =>
    simp only [lmJ] at h
    split at h
    · next x r =>
      obtain ⟨h1, h2⟩ := okS_c hst
      have hx1 : (Int32.ofInt x).toInt = x := x_of h1
      split at h
      · next ho =>
        cases some_i h
        exact lv_tableOut hx hb hd (by rw [hx1]; exact ho) tg.symm (k h2)
      · next ho =>
        split at h
        · next f hf =>
          cases some_i h
          exact lv_tableIn hx hb hd (by rw [hx1]; omega) (by rw [hx1]; omega) (by rw [hx1]; exact hf) tg.symm (k h2)
        · cases h
    · cases h
  | lookupswitch d ps =>
    simp only [lmJ] at h
    split at h
    · next x r =>
      obtain ⟨h1, h2⟩ := okS_c hst
      have hx1 : (Int32.ofInt x).toInt = x := x_of h1
      split at h
      · next ho =>
        cases some_i h
        exact lv_lookup hx hb hd ho (by rw [hx1]) tg.symm (k h2)
      · cases h
    · cases h
  | _ => simp only [lmJ] at h; cases h
end SL
