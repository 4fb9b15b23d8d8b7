/-! LM, part 9: the cells on the machine; what reads and writes them -/
def ztyp (k : Nat) : FieldType := match k with
  | 0 => .int
  | 1 => .long
  | 2 => .byte
  | 3 => .boolean
  | 5 => .object "OneSided$Door"
  | 7 => .object "OneSided$Memory"
  | 8 => .object "OneSided$Person"
  | 13 => .object "OneSided$Scene"
  | _ => .int
def zty (cA : Nat → ClassId) : List (ClassId × FieldType) := (List.range 17).map (fun k => (cA k, ztyp k))
theorem zty_at (cA : Nat → ClassId) {k : Nat} (h : k < 17) : (zty cA)[k]? = some (cA k, ztyp k) := by
  unfold zty
  rw [List.getElem?_map, List.getElem?_range h]
  rfl
def rf1 (B : Nat) (x : Int) : Option Nat := if x = 0 then none else some (B + x.toNat)
def fvs (B b sA : Nat) (h : LH) (a c N : Nat) : List Value := (List.range N).map (fun k => cv B b sA (mkv (fkd c k) (rd h a k)))
def cellE (B b sA : Nat) (cA : Nat → ClassId) (h : LH) (a : Nat) : va_E := match (lay a).1 with
  | 0 => .inr ((lay a).2.1, fvs B b sA h a (lay a).2.1 (lay a).2.2)
  | 1 => .inl (cA 0, (lay a).2.2, .inl (fun j => Int32.ofInt (rd h a j)))
  | 2 => .inl (cA 1, (lay a).2.2, .inr (.inl (fun j => Int64.ofInt (rd h a j))))
  | 3 => .inl (cA 2, (lay a).2.2, .inl (fun j => Int32.ofInt (rd h a j)))
  | 4 => .inl (cA 3, (lay a).2.2, .inl (fun j => Int32.ofInt (rd h a j)))
  | _ => .inl (cA (4 + (lay a).2.1), (lay a).2.2, .inr (.inr (.inr (.inr (fun j => rf1 B (rd h a j))))))
def zws (B b sA : Nat) (cA : Nat → ClassId) (n : Nat) (h : LH) : va_W := (List.range n).map (fun j => (B + (j + 1), cellE B b sA cA h (j + 1)))
def zA (B : Nat) : Nat → Prop := fun q => B < q
theorem LAY_ok : LAYL.all (fun e => (e.1 != 0 || decide ((zcl[e.2.1]?).map (fun q => q.2.2) = some e.2.2)) && (e.1 != 5 || (decide (ztyp (4 + e.2.1) = .object (onm e.2.1)) && decide (e.2.1 < 13))) && decide (e.2.2 ≤ 3000)) = true := by decide +kernel
theorem lay_in (a : Nat) : lay a = (6, 0, 0) ∨ lay a ∈ LAYL := by
  unfold lay
  rw [List.getD_eq_getElem?_getD]
  cases h : LAYL[a]? with
  | none => left; rfl
  | some q => right; exact List.mem_of_getElem? h
theorem lay_obj {a : Nat} (h : (lay a).1 = 0) : (zcl[(lay a).2.1]?).map (fun q => q.2.2) = some (lay a).2.2 := by
  rcases lay_in a with e | e
  · rw [e] at h; cases h
  · have := List.all_eq_true.mp LAY_ok _ e
    simp only [Bool.and_eq_true, Bool.or_eq_true, bne_iff_ne, ne_eq, decide_eq_true_eq] at this
    exact this.1.1.resolve_left (fun q => q h)
theorem lay_ref {a : Nat} (h : (lay a).1 = 5) : ztyp (4 + (lay a).2.1) = .object (onm (lay a).2.1) ∧ (lay a).2.1 < 13 := by
  rcases lay_in a with e | e
  · rw [e] at h; cases h
  · have := List.all_eq_true.mp LAY_ok _ e
    simp only [Bool.and_eq_true, Bool.or_eq_true, bne_iff_ne, ne_eq, decide_eq_true_eq] at this
    exact this.1.2.resolve_left (fun q => q h)
theorem lay_len (a : Nat) : (lay a).2.2 ≤ 3000 := by
  rcases lay_in a with e | e
  · rw [e]; exact Nat.zero_le _
  · have := List.all_eq_true.mp LAY_ok _ e
    simp only [Bool.and_eq_true, decide_eq_true_eq] at this
    exact this.2
section ZW
variable {B b sA : Nat} {cA : Nat → ClassId}
theorem zws_len (n : Nat) (h : LH) : (zws B b sA cA n h).length = n := by unfold zws; simp
theorem zws_at {n : Nat} {h : LH} {a : Nat} (h1 : 1 ≤ a) (h2 : a ≤ n) : (zws B b sA cA n h)[a - 1]? = some (B + a, cellE B b sA cA h a) := by
  unfold zws
  rw [List.getElem?_map, List.getElem?_range (by omega)]
  simp only [Option.map_some]
  rw [show a - 1 + 1 = a by omega]
theorem zws_get {n : Nat} {h : LH} {k : Nat} {q : Nat × va_E} (hq : (zws B b sA cA n h)[k]? = some q) : k < n ∧ q = (B + (k + 1), cellE B b sA cA h (k + 1)) := by
  have hk : k < n := by
    have := (List.getElem?_eq_some_iff.mp hq).1
    rw [zws_len] at this
    exact this
  refine ⟨hk, ?_⟩
  have := zws_at (B := B) (b := b) (sA := sA) (cA := cA) (h := h) (a := k + 1) (n := n) (by omega) (by omega)
  rw [show k + 1 - 1 = k by omega, hq] at this
  exact Option.some.inj this
theorem zD (n : Nat) (h : LH) : va_D (zA B) (zws B b sA cA n h) := by
  refine ⟨fun i j p q hp hq e => ?_, fun k q hq => ?_⟩
  · obtain ⟨-, rfl⟩ := zws_get hp
    obtain ⟨-, rfl⟩ := zws_get hq
    simp only at e
    omega
  · obtain ⟨-, rfl⟩ := zws_get hq
    show B < B + (k + 1)
    omega
theorem rd_ne {h : LH} {a i v b' j : Int} (hne : ¬ a = b') : rd (wr h a i v) b' j = rd h b' j := by
  rw [rd_wr, if_neg (fun q => hne q.1)]
theorem cellE_ne {h h' : LH} {a : Nat} (hne : ∀ j : Int, rd h' (a : Int) j = rd h (a : Int) j) : cellE B b sA cA h' a = cellE B b sA cA h a := by
  unfold cellE fvs
  simp only [hne]
theorem zws_set {n : Nat} {h h' : LH} {a : Nat} {e : va_E} (h1 : 1 ≤ a) (h2 : a ≤ n) (he : cellE B b sA cA h' a = e) (hne : ∀ (k : Nat) (j : Int), k ≠ a → rd h' (k : Int) j = rd h (k : Int) j) : (zws B b sA cA n h).set (a - 1) (B + a, e) = zws B b sA cA n h' := by
  apply List.ext_getElem?
  intro k
  by_cases hk : k < n
  · by_cases e1 : k = a - 1
    · subst e1
      rw [List.getElem?_set_self (by rw [zws_len]; exact hk), zws_at h1 h2, he]
    · rw [List.getElem?_set_ne (fun q => e1 q.symm)]
      have g1 := zws_at (B := B) (b := b) (sA := sA) (cA := cA) (h := h) (a := k + 1) (n := n) (by omega) (by omega)
      have g2 := zws_at (B := B) (b := b) (sA := sA) (cA := cA) (h := h') (a := k + 1) (n := n) (by omega) (by omega)
      rw [show k + 1 - 1 = k by omega] at g1 g2
      rw [g1, g2, cellE_ne (fun j => hne (k + 1) j (by omega))]
  · rw [List.getElem?_eq_none (by rw [List.length_set, zws_len]; omega), List.getElem?_eq_none (by rw [zws_len]; omega)]
theorem zws_succ (n : Nat) (h : LH) : zws B b sA cA (n + 1) h = zws B b sA cA n h ++ [(B + (n + 1), cellE B b sA cA h (n + 1))] := by
  unfold zws
  rw [List.range_succ, List.map_append]
  rfl
theorem cv_pos {a : Int} (h : 1 ≤ a) : cv B b sA (.inr (.inr a)) = .ref (B + a.toNat) := by
  simp only [cv]
  rw [if_neg (by omega), if_neg (by omega), if_neg (by omega)]
theorem cv_rf1 {x : Int} (h : 0 ≤ x) : cv B b sA (.inr (.inr x)) = va_rf (rf1 B x) := by
  unfold rf1
  by_cases h0 : x = 0
  · rw [if_pos h0, h0]
    rfl
  · rw [if_neg h0, cv_pos (by omega)]
    rfl
end ZW
theorem isO_of {n : Nat} {a : Int} {c : Nat} (h : isO n a c = true) : 1 ≤ a ∧ a ≤ n ∧ (lay a.toNat).1 = 0 ∧ (lay a.toNat).2.1 = c := by
  unfold isO at h
  simp only [Bool.and_eq_true, decide_eq_true_eq, beq_iff_eq] at h
  exact ⟨h.1.1.1, h.1.1.2, h.1.2, h.2⟩
theorem isA_of {n : Nat} {a : Int} {k : Nat} (h : isA n a k = true) : 1 ≤ a ∧ a ≤ n ∧ (lay a.toNat).1 = k := by
  unfold isA at h
  simp only [Bool.and_eq_true, decide_eq_true_eq, beq_iff_eq] at h
  exact ⟨h.1.1, h.1.2, h.2⟩
theorem inA_of {a i : Int} (h : inA a i = true) : 0 ≤ i ∧ i < ((lay a.toNat).2.2 : Int) := by
  unfold inA at h
  simp only [Bool.and_eq_true, decide_eq_true_eq] at h
  exact h
theorem inA_vp {a i : Int} (h : inA a i = true) : vp_in (Int32.ofInt i) (lay a.toNat).2.2 := by
  obtain ⟨h1, h2⟩ := inA_of h
  have := lay_len a.toNat
  have hi : i32 i := by unfold i32; omega
  rw [vp_in_iff, x_of hi]
  exact ⟨h1, h2⟩
theorem inA_clamp {a i : Int} (h : inA a i = true) : (Int32.ofInt i).toNatClampNeg = i.toNat := by
  obtain ⟨h1, h2⟩ := inA_of h
  have := lay_len a.toNat
  exact o_clamp (by unfold i32; omega)
theorem all17 {α : Type} (F : Nat → List α) (ck : Nat → α → Bool) (h : ∀ o, o < 17 → (F o).all (ck o) = true) (hn : ∀ o, 17 ≤ o → F o = []) {o : Nat} {e : α} (he : e ∈ F o) : o < 17 ∧ ck o e = true := by
  rcases Nat.lt_or_ge o 17 with q | q
  · exact ⟨q, List.all_eq_true.mp (h o q) e he⟩
  · rw [hn o q] at he
    cases he
theorem FT_nil : ∀ o, 17 ≤ o → FT o = [] := by intro o h; unfold FT; split <;> first | omega | rfl
theorem CT_nil : ∀ o, 17 ≤ o → CT o = [] := by intro o h; unfold CT; split <;> first | omega | rfl
theorem CLT_nil : ∀ o, 17 ≤ o → CLT o = [] := by intro o h; unfold CLT; split <;> first | omega | rfl
theorem KT_nil : ∀ o, 17 ≤ o → KT o = [] := by intro o h; unfold KT; split <;> first | omega | rfl
theorem MTC_nil : ∀ o, 17 ≤ o → MTC o = [] := by intro o h; unfold MTC; split <;> first | omega | rfl
theorem PTC_nil : ∀ o, 17 ≤ o → PTC o = [] := by intro o h; unfold PTC; split <;> first | omega | rfl
theorem find_of {α : Type} {l : List (Nat × α)} {x : Nat} {q : Nat × α} (h : l.find? (fun q => q.1 == x) = some q) : q ∈ l ∧ q.1 = x := by
  have h1 := List.mem_of_find?_eq_some h
  have h2 := List.find?_some h
  exact ⟨h1, by simpa using h2⟩
/-- what a field's link says -/
theorem fld_of {o x c k : Nat} (h : fld o x = some (c, k)) : ∃ C T N, zcl[c]? = some (C, T, N) ∧ k < N ∧ Cond.fieldLink (onm o) x C (T k).2.1 (T k).2.2.1 ∈ ZB := by
  unfold fld at h
  rw [Option.map_eq_some_iff] at h
  obtain ⟨q, h1, h2⟩ := h
  obtain ⟨h3, h4⟩ := find_of h1
  obtain ⟨-, h5⟩ := all17 FT chkF FT_ok17 FT_nil h3
  simp only [Prod.mk.injEq] at h2
  unfold chkF at h5
  rw [h2.1, h2.2, h4] at h5
  split at h5
  · next r hr =>
    simp only [Bool.and_eq_true, decide_eq_true_eq] at h5
    exact ⟨r.1, r.2.1, r.2.2, hr, h5.1, inT_in h5.2⟩
  · cases h5
theorem zcl_lt {c : Nat} {q : vw_C} (h : zcl[c]? = some q) : c < 13 := (List.getElem?_eq_some_iff.mp h).1
/-- what the tables say of a class -/
theorem cls_of {c : Nat} {C : String} {T : u_T} {N : Nat} (h : zcl[c]? = some (C, T, N)) : (∀ w ∈ u_ws C T N, w ∈ ZB) ∧ Cond.instantiable C N ∈ ZB ∧ C = onm c ∧ ∀ k, k < N → (T k).1 = C := by
  have h1 := U_ok c (zcl_lt h)
  unfold chkU at h1
  rw [h] at h1
  simp only [Bool.and_eq_true, decide_eq_true_eq] at h1
  obtain ⟨⟨⟨⟨g1, g2⟩, g3⟩, g4⟩, g5⟩ := h1
  refine ⟨fun w hw => ?_, inT_in g3, g4, g5⟩
  have g6 := List.all_eq_true.mp g2 w hw
  rw [g1] at hw
  obtain ⟨p, -, hp⟩ := List.mem_filterMap.mp hw
  exact List.mem_filter.mpr ⟨List.mem_append_right _ (tabAt_in hp), g6⟩
def tyF (c : Nat) : Nat → FieldType := match c with
  | 0 => tyX0 | 1 => tyX1 | 2 => tyX2 | 3 => tyX3 | 4 => tyX4 | 5 => tyX5 | 6 => tyX6 | 7 => tyX7 | 8 => tyX8 | 9 => tyX9 | 10 => tyX10 | 11 => tyX11 | _ => tyX12
def kdOk (k : Nat) (t : FieldType) : Bool := match k, t with
  | 0, .int => true
  | 1, .long => true
  | 2, .object _ => true
  | 2, .array _ => true
  | 3, .boolean => true
  | _, _ => false
theorem KD_ok : ∀ c, c < 13 → ∀ q, zcl[c]? = some q → ∀ k, k < q.2.2 → kdOk (fkd c k) (tyF c k) = true := by
  have : ∀ c, c < 13 → ((zcl[c]?).all (fun q => decide (∀ k, k < q.2.2 → kdOk (fkd c k) (tyF c k) = true))) = true := by decide +kernel
  intro c hc q hq
  have h := this c hc
  rw [hq] at h
  simpa using h
theorem TY_ok {c : Nat} {C : String} {T : u_T} {N : Nat} (h : zcl[c]? = some (C, T, N)) : (∀ k, k < N → parseFieldDescriptor (T k).2.2.1 = some (tyF c k)) ∧ ∀ a, a < N → ∀ b, b < N → a ≠ b → (T a).2.1 ≠ (T b).2.1 := by
  match c, h with
  | 0, h => cases h; exact ⟨tyX0_ok, nmX0⟩
  | 1, h => cases h; exact ⟨tyX1_ok, nmX1⟩
  | 2, h => cases h; exact ⟨tyX2_ok, nmX2⟩
  | 3, h => cases h; exact ⟨tyX3_ok, nmX3⟩
  | 4, h => cases h; exact ⟨tyX4_ok, nmX4⟩
  | 5, h => cases h; exact ⟨tyX5_ok, nmX5⟩
  | 6, h => cases h; exact ⟨tyX6_ok, nmX6⟩
  | 7, h => cases h; exact ⟨tyX7_ok, nmX7⟩
  | 8, h => cases h; exact ⟨tyX8_ok, nmX8⟩
  | 9, h => cases h; exact ⟨tyX9_ok, nmX9⟩
  | 10, h => cases h; exact ⟨tyX10_ok, nmX10⟩
  | 11, h => cases h; exact ⟨tyX11_ok, nmX11⟩
  | 12, h => cases h; exact ⟨tyX12_ok, nmX12⟩
  | c + 13, h => exact absurd (zcl_lt h) (by omega)
