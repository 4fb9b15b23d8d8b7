/-! LM, part 10: gets on the machine -/
theorem tn {a : Int} (h : 1 ≤ a) : ((a.toNat : Nat) : Int) = a := Int.toNat_of_nonneg (by omega)
theorem tn0 {a : Int} (h : 0 ≤ a) : ((a.toNat : Nat) : Int) = a := Int.toNat_of_nonneg h
theorem okX0 {h : LH} {a i : Int} (hh : okH h) (hk : (lay a.toNat).1 = 1 ∨ (lay a.toNat).1 = 3 ∨ (lay a.toNat).1 = 4) : i32 (rd h a i) := by
  have h1 := hh a i
  have e : lkd a i = 0 := by
    unfold lkd
    split
    · next e => rw [e] at hk; simp at hk
    · next e => rw [e] at hk; simp at hk
    · next e => rw [e] at hk; simp at hk
    · rfl
  rw [e] at h1
  exact h1
theorem okX1 {h : LH} {a i : Int} (hh : okH h) (hk : (lay a.toNat).1 = 2) : i64 (rd h a i) := by
  have h1 := hh a i
  have e : lkd a i = 1 := by
    unfold lkd
    split
    · next e => rw [e] at hk; simp at hk
    · rfl
    · next e => rw [e] at hk; simp at hk
    · next h1 h2 h3 =>
      exact absurd (show lay a.toNat = (2, (lay a.toNat).2.1, (lay a.toNat).2.2) from Prod.ext hk rfl) (h2 _ _)
  rw [e] at h1
  exact h1
theorem okXf {h : LH} {a : Int} {c k : Nat} (hh : okH h) (hk : (lay a.toNat).1 = 0) (hc : (lay a.toNat).2.1 = c) : okX (fkd c k) (rd h a k) := by
  have h1 := hh a k
  have e : lkd a k = fkd c k := by
    unfold lkd
    rw [show lay a.toNat = (0, c, (lay a.toNat).2.2) from Prod.ext hk (Prod.ext hc rfl)]
    simp
  rw [e] at h1
  exact h1
theorem cellE_0 {B b sA : Nat} {cA : Nat → ClassId} {h : LH} {a : Nat} (hk : (lay a).1 = 0) : cellE B b sA cA h a = .inr ((lay a).2.1, fvs B b sA h a (lay a).2.1 (lay a).2.2) := by unfold cellE; rw [hk]; rfl
theorem cellE_1 {B b sA : Nat} {cA : Nat → ClassId} {h : LH} {a : Nat} (hk : (lay a).1 = 1) : cellE B b sA cA h a = .inl (cA 0, (lay a).2.2, .inl (fun j => Int32.ofInt (rd h a j))) := by unfold cellE; rw [hk]; rfl
theorem cellE_2 {B b sA : Nat} {cA : Nat → ClassId} {h : LH} {a : Nat} (hk : (lay a).1 = 2) : cellE B b sA cA h a = .inl (cA 1, (lay a).2.2, .inr (.inl (fun j => Int64.ofInt (rd h a j)))) := by unfold cellE; rw [hk]; rfl
theorem cellE_3 {B b sA : Nat} {cA : Nat → ClassId} {h : LH} {a : Nat} (hk : (lay a).1 = 3) : cellE B b sA cA h a = .inl (cA 2, (lay a).2.2, .inl (fun j => Int32.ofInt (rd h a j))) := by unfold cellE; rw [hk]; rfl
theorem cellE_4 {B b sA : Nat} {cA : Nat → ClassId} {h : LH} {a : Nat} (hk : (lay a).1 = 4) : cellE B b sA cA h a = .inl (cA 3, (lay a).2.2, .inl (fun j => Int32.ofInt (rd h a j))) := by unfold cellE; rw [hk]; rfl
theorem cellE_5 {B b sA : Nat} {cA : Nat → ClassId} {h : LH} {a : Nat} (hk : (lay a).1 = 5) : cellE B b sA cA h a = .inl (cA (4 + (lay a).2.1), (lay a).2.2, .inr (.inr (.inr (.inr (fun j => rf1 B (rd h a j)))))) := by unfold cellE; rw [hk]; rfl
/-- refs that are kept are cells or null -/
def okN (h : LH) : Prop := ∀ a i : Int, lkd a i = 2 → 0 ≤ rd h a i
section SG
variable {p : Program} {l : Launch} {e : Env} {R : Room} {s : State} {m : MethodId} {args : Array Value} {below : List Frame} {meth : Method} {c : Code} {H : Heap} {locs : List Loc} {cells slots : Nat} {Q : State → Prop}
variable {cc : ByteArray} {pc : Nat} {sl : Array Slot} {B b sA nL o n xl : Nat} {xs : Nat → Int} {D : va_G} {cA : Nat → ClassId}
set_option maxHeartbeats 4000000 in
theorem sim_G (hx : p.tables.exec = Jvm.exec) (hb : c.code = cc) (hown : s.vm.findClass (onm o) = some m.cls) (hts : ∀ w ∈ ZB, w.before args s = true) (hK : va_K D zcl (zty cA) s)
    (hX : va_X b xl (fun j => Int32.ofInt (xs j)) s s.heap) (hbB : b ≤ B) (hxs : ∀ j, i32 (xs j)) (hxl : xl ≤ 3584) {h : LH} (hh : okH h) (hN : okN h)
    (hP : va_P D zcl (zws B b sA cA n h) H) (hS : va_S (zA B) s.heap H locs)
    {i : Instr} {len : Nat} {st st' : List LV} (hg : lmG o n xs xl i st h = some st') (hlen : ilen i len = true) (hd : decode cc pc = .ok (i, len)) (hst : okS st)
    (k : okS st' → W p l e R s m args below meth c H locs cells slots Q (F0 m (pc + len) sl (st'.map (cv B b sA)))) :
    W p l e R s m args below meth c H locs cells slots Q (F0 m pc sl (st.map (cv B b sA))) := by
  have one : ∀ {n : Nat}, (n == 1) = true → n = 1 := fun h => by simpa using h
  have hbA : ¬ zA B b := by unfold zA; omega
  have hbl : b < s.heap.size := by
    obtain ⟨scr, h1, -⟩ := hX
    exact (Array.getElem?_eq_some_iff.mp h1).1
  cases i with
  | getfield x =>
    simp only [lmG] at hg
    split at hg
    · next a r =>
      split at hg
      · next c0 k0 hf =>
        split at hg
        · next hO =>
          cases some_i hg
          have e3 : len = 3 := by simpa [ilen] using hlen
          subst e3
          obtain ⟨g1, g2, g3, g4⟩ := isO_of hO
          obtain ⟨C, T, N, hc, hk, hw⟩ := fld_of hf
          obtain ⟨u1, -, -, u4⟩ := cls_of hc
          have hNe : (lay a.toNat).2.2 = N := by
            have := lay_obj g3
            rw [g4, hc] at this
            exact (Option.some.inj this).symm
          have he := zws_at (B := B) (b := b) (sA := sA) (cA := cA) (h := h) (a := a.toNat) (n := n) (by omega) (by omega)
          rw [cellE_0 g3, g4, hNe] at he
          have hv : (fvs B b sA h a.toNat c0 N)[k0]? = some (cv B b sA (mkv (fkd c0 k0) (rd h a k0))) := by
            unfold fvs
            rw [List.getElem?_map, List.getElem?_range hk]
            simp only [Option.map_some]
            rw [tn g1]
          have K := k (okS_i (okV_mkv (okXf hh g3 g4)) (okS_c hst).2)
          rw [List.map_cons] at K ⊢
          rw [cv_pos g1]
          exact va_get hx hb hts u1 hown hK hP (a.toNat - 1) he hc k0 hk (hts _ hw) (by rw [u4 k0 hk]; exact fun _ q => q) hv hd K
        · cases hg
      · cases hg
    · cases hg
  | iaload =>
    simp only [lmG] at hg
    split at hg
    · next j a r =>
      cases one hlen
      obtain ⟨h1, h2⟩ := okS_c hst
      obtain ⟨-, h4⟩ := okS_c h2
      split at hg
      · next ha =>
        split at hg
        · next hj =>
          cases some_i hg
          subst ha
          have hj2 : i32 j := h1
          have hin : vp_in (Int32.ofInt j) xl := by rw [vp_in_iff, x_of hj2]; exact hj
          have K := k (okS_i (hxs _) h4)
          rw [List.map_cons] at K
          have e1 : cv B b sA (.inl (xs j.toNat)) = .int ((fun j => Int32.ofInt (xs j)) (Int32.ofInt j).toNatClampNeg) := by
            rw [o_clamp hj2]; rfl
          rw [e1] at K
          exact va_sld hx hb hX hbl hbA hS hin hd K
        · cases hg
      · next ha =>
        split at hg
        · next hA =>
          simp only [Bool.and_eq_true] at hA
          cases some_i hg
          obtain ⟨g1, g2, g3⟩ := isA_of hA.1
          have he := zws_at (B := B) (b := b) (sA := sA) (cA := cA) (h := h) (a := a.toNat) (n := n) (by omega) (by omega)
          rw [cellE_1 g3] at he
          have K := k (okS_i (show okV (.inl (rd h a j)) from okX0 hh (Or.inl g3)) h4)
          rw [List.map_cons] at K ⊢
          rw [List.map_cons, cv_pos g1]
          refine va_iald hx hb hK hP (a.toNat - 1) 0 he (zty_at cA (by omega)) (inA_vp hA.2) hd ?_
          rw [inA_clamp hA.2, tn g1, tn0 (inA_of hA.2).1]
          exact K
        · cases hg
    · cases hg
  | laload =>
    simp only [lmG] at hg
    split at hg
    · next j a r =>
      cases one hlen
      obtain ⟨h1, h2⟩ := okS_c hst
      obtain ⟨-, h4⟩ := okS_c h2
      split at hg
      · next hA =>
        simp only [Bool.and_eq_true] at hA
        cases some_i hg
        obtain ⟨g1, g2, g3⟩ := isA_of hA.1
        have he := zws_at (B := B) (b := b) (sA := sA) (cA := cA) (h := h) (a := a.toNat) (n := n) (by omega) (by omega)
        rw [cellE_2 g3] at he
        have K := k (okS_i (show okV (.inr (.inl (rd h a j))) from okX1 hh g3) h4)
        rw [List.map_cons] at K ⊢
        rw [List.map_cons, cv_pos g1]
        refine va_lald hx hb hK hP (a.toNat - 1) 1 he (zty_at cA (by omega)) (inA_vp hA.2) hd ?_
        rw [inA_clamp hA.2, tn g1, tn0 (inA_of hA.2).1]
        exact K
      · cases hg
    · cases hg
  | baload =>
    simp only [lmG] at hg
    split at hg
    · next j a r =>
      cases one hlen
      obtain ⟨h1, h2⟩ := okS_c hst
      obtain ⟨-, h4⟩ := okS_c h2
      split at hg
      · next hA =>
        simp only [Bool.and_eq_true, Bool.or_eq_true] at hA
        cases some_i hg
        rcases hA.1 with hA1 | hA1
        · obtain ⟨g1, g2, g3⟩ := isA_of hA1
          have he := zws_at (B := B) (b := b) (sA := sA) (cA := cA) (h := h) (a := a.toNat) (n := n) (by omega) (by omega)
          rw [cellE_3 g3] at he
          have K := k (okS_i (show okV (.inl (rd h a j)) from okX0 hh (Or.inr (Or.inl g3))) h4)
          rw [List.map_cons] at K ⊢
          rw [List.map_cons, cv_pos g1]
          refine va_bald hx hb hK hP (a.toNat - 1) 2 he (zty_at cA (by omega)) (inA_vp hA.2) hd ?_
          rw [inA_clamp hA.2, tn g1, tn0 (inA_of hA.2).1]
          exact K
        · obtain ⟨g1, g2, g3⟩ := isA_of hA1
          have he := zws_at (B := B) (b := b) (sA := sA) (cA := cA) (h := h) (a := a.toNat) (n := n) (by omega) (by omega)
          rw [cellE_4 g3] at he
          have K := k (okS_i (show okV (.inl (rd h a j)) from okX0 hh (Or.inr (Or.inr g3))) h4)
          rw [List.map_cons] at K ⊢
          rw [List.map_cons, cv_pos g1]
          refine va_zald hx hb hK hP (a.toNat - 1) 3 he (zty_at cA (by omega)) (inA_vp hA.2) hd ?_
          rw [inA_clamp hA.2, tn g1, tn0 (inA_of hA.2).1]
          exact K
      · cases hg
    · cases hg
  | aaload =>
    simp only [lmG] at hg
    split at hg
    · next j a r =>
      cases one hlen
      obtain ⟨h1, h2⟩ := okS_c hst
      obtain ⟨-, h4⟩ := okS_c h2
      split at hg
      · next hA =>
        simp only [Bool.and_eq_true] at hA
        cases some_i hg
        obtain ⟨g1, g2, g3⟩ := isA_of hA.1
        obtain ⟨t1, t2⟩ := lay_ref g3
        have he := zws_at (B := B) (b := b) (sA := sA) (cA := cA) (h := h) (a := a.toNat) (n := n) (by omega) (by omega)
        rw [cellE_5 g3] at he
        have K := k (okS_i (show okV (.inr (.inr (rd h a j))) from trivial) h4)
        have hl : lkd a j = 2 := by
          unfold lkd
          rw [show lay a.toNat = (5, (lay a.toNat).2.1, (lay a.toNat).2.2) from Prod.ext g3 rfl]
          rfl
        rw [List.map_cons, cv_rf1 (hN a j hl)] at K
        rw [List.map_cons, List.map_cons, cv_pos g1]
        refine va_aldq hx hb hK hP (a.toNat - 1) (4 + (lay a.toNat).2.1) he (by rw [zty_at cA (by omega), t1]) (inA_vp hA.2) hd ?_
        rw [inA_clamp hA.2, tn g1, tn0 (inA_of hA.2).1]
        exact K
      · cases hg
    · cases hg
  | arraylength =>
    simp only [lmG] at hg
    split at hg
    · next a r =>
      cases one hlen
      obtain ⟨-, h4⟩ := okS_c hst
      split at hg
      · next ha =>
        cases some_i hg
        subst ha
        have K := k (okS_i (show i32 (xl : Int) by unfold i32; omega) h4)
        rw [List.map_cons] at K
        have e1 : cv B b sA (.inl (xl : Int)) = .int (Int32.ofNat xl) := rfl
        rw [e1] at K
        exact va_slen hx hb hX hbl hbA hS hd K
      · next ha =>
        split at hg
        · next hA =>
          cases some_i hg
          obtain ⟨g1, g2, g3⟩ := isA_of hA
          have he := zws_at (B := B) (b := b) (sA := sA) (cA := cA) (h := h) (a := a.toNat) (n := n) (by omega) (by omega)
          rw [cellE_1 g3] at he
          have hl := lay_len a.toNat
          have K := k (okS_i (show i32 ((lay a.toNat).2.2 : Int) by unfold i32; omega) h4)
          rw [List.map_cons] at K ⊢
          rw [cv_pos g1]
          exact va_alen hx hb hK hP (a.toNat - 1) 0 he (zty_at cA (by omega)) rfl hd K
        · cases hg
    · cases hg
  | _ => simp only [lmG] at hg; cases hg
end SG
