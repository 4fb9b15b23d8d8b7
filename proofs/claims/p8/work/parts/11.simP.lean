/-! LM, part 11: puts on the machine -/
theorem lkd_o {a : Int} {c k : Nat} (hk : (lay a.toNat).1 = 0) (hc : (lay a.toNat).2.1 = c) : lkd a k = fkd c k := by
  unfold lkd
  rw [show lay a.toNat = (0, c, (lay a.toNat).2.2) from Prod.ext hk (Prod.ext hc rfl)]
  simp
theorem lkd_1 {a i : Int} (hk : (lay a.toNat).1 = 1) : lkd a i = 0 := by
  unfold lkd
  rw [show lay a.toNat = (1, (lay a.toNat).2.1, (lay a.toNat).2.2) from Prod.ext hk rfl]
  rfl
theorem lkd_2 {a i : Int} (hk : (lay a.toNat).1 = 2) : lkd a i = 1 := by
  unfold lkd
  rw [show lay a.toNat = (2, (lay a.toNat).2.1, (lay a.toNat).2.2) from Prod.ext hk rfl]
  rfl
theorem lkd_3 {a i : Int} (hk : (lay a.toNat).1 = 3) : lkd a i = 0 := by
  unfold lkd
  rw [show lay a.toNat = (3, (lay a.toNat).2.1, (lay a.toNat).2.2) from Prod.ext hk rfl]
  rfl
theorem lkd_4 {a i : Int} (hk : (lay a.toNat).1 = 4) : lkd a i = 0 := by
  unfold lkd
  rw [show lay a.toNat = (4, (lay a.toNat).2.1, (lay a.toNat).2.2) from Prod.ext hk rfl]
  rfl
theorem lkd_5 {a i : Int} (hk : (lay a.toNat).1 = 5) : lkd a i = 2 := by
  unfold lkd
  rw [show lay a.toNat = (5, (lay a.toNat).2.1, (lay a.toNat).2.2) from Prod.ext hk rfl]
  rfl
theorem okN_wr {h : LH} {a i v : Int} (hh : okN h) (hv : lkd a i = 2 → 0 ≤ v) : okN (wr h a i v) := fun b j hk => by
  rw [rd_wr]
  split
  · next e => obtain ⟨rfl, rfl⟩ := e; exact hv hk
  · exact hh b j hk
theorem wr_ne {h : LH} {a i v : Int} (ha : 1 ≤ a) (k : Nat) (j : Int) (hk : k ≠ a.toNat) : rd (wr h a i v) (k : Int) j = rd h (k : Int) j := rd_ne (by omega)
theorem fvs_set {B b sA : Nat} {h : LH} {a : Int} {c N k : Nat} {v : Int} (ha : 1 ≤ a) (hk : k < N) : (fvs B b sA h a.toNat c N).set k (cv B b sA (mkv (fkd c k) v)) = fvs B b sA (wr h a k v) a.toNat c N := by
  apply List.ext_getElem?
  intro j
  unfold fvs
  by_cases e : k = j
  · subst e
    rw [List.getElem?_set_self (by simpa using hk), List.getElem?_map, List.getElem?_range hk]
    simp only [Option.map_some]
    rw [tn ha, rd_wr, if_pos ⟨rfl, rfl⟩]
  · rw [List.getElem?_set_ne e, List.getElem?_map, List.getElem?_map]
    by_cases hj : j < N
    · rw [List.getElem?_range hj]
      simp only [Option.map_some]
      rw [rd_wr, if_neg (fun q => e (by omega))]
    · rw [List.getElem?_eq_none (by simpa using hj)]
      rfl
theorem okk_of {k : Nat} {v : LV} {z : Int} (h : okk k v = some z) : v = mkv k z ∧ (k = 2 → 0 ≤ z) ∧ (k = 3 → z = 0 ∨ z = 1) ∧ k ≤ 3 := by
  unfold okk at h
  split at h
  · cases some_i h; exact ⟨rfl, fun q => by omega, fun q => by omega, by omega⟩
  · cases some_i h; exact ⟨rfl, fun q => by omega, fun q => by omega, by omega⟩
  · split at h
    · next q => cases some_i h; exact ⟨rfl, fun _ => q, fun q => by omega, by omega⟩
    · cases h
  · split at h
    · next q => cases some_i h; exact ⟨rfl, fun q => by omega, fun _ => q, by omega⟩
    · cases h
  · cases h
theorem okk_ok {k : Nat} {z : Int} (hk : k ≤ 3) (h : okV (mkv k z)) : okX k z := by
  match k, hk with
  | 0, _ => exact h
  | 1, _ => exact h
  | 2, _ => trivial
  | 3, _ => exact h
theorem fit_of {B b sA : Nat} {k : Nat} {z : Int} {ty : FieldType} (hk : kdOk k ty = true) (h2 : k = 2 → 0 ≤ z) (h3 : k = 3 → z = 0 ∨ z = 1) : narrow ty (cv B b sA (mkv k z)) = cv B b sA (mkv k z) ∧ fits ty (cv B b sA (mkv k z)) = true := by
  unfold kdOk at hk
  split at hk
  · exact ⟨rfl, rfl⟩
  · exact ⟨rfl, rfl⟩
  · show narrow _ (cv B b sA (.inr (.inr z))) = cv B b sA (.inr (.inr z)) ∧ fits _ (cv B b sA (.inr (.inr z))) = true
    rcases cv_ref B b sA z with q | ⟨a, q⟩ <;> rw [q] <;> exact ⟨rfl, rfl⟩
  · show narrow _ (cv B b sA (.inr (.inr z))) = cv B b sA (.inr (.inr z)) ∧ fits _ (cv B b sA (.inr (.inr z))) = true
    rcases cv_ref B b sA z with q | ⟨a, q⟩ <;> rw [q] <;> exact ⟨rfl, rfl⟩
  · rcases h3 rfl with rfl | rfl <;> exact ⟨rfl, rfl⟩
  · cases hk
theorem nar_byte {x : Int} (h : -128 ≤ x ∧ x ≤ 127) : vp_nar .byte (Int32.ofInt x) = Int32.ofInt x := by
  rw [vp_nar_byte]
  refine x_eq ?_
  rw [Int8.toInt_toInt32, Int32.toInt_toInt8, x_of (by unfold i32; omega), Int.bmod_def]
  omega
theorem nar_bool {x : Int} (h : x = 0 ∨ x = 1) : vp_nar .boolean (Int32.ofInt x) = Int32.ofInt x := by
  rcases h with rfl | rfl <;> rfl
section SP
variable {p : Program} {l : Launch} {e : Env} {R : Room} {s : State} {m : MethodId} {args : Array Value} {below : List Frame} {meth : Method} {c : Code} {H : Heap} {locs : List Loc} {cells slots : Nat} {Q : State → Prop}
variable {cc : ByteArray} {pc : Nat} {sl : Array Slot} {B b sA nL o n : Nat} {D : va_G} {cA : Nat → ClassId} {H0 : Heap}
set_option maxHeartbeats 4000000 in
theorem sim_P (hx : p.tables.exec = Jvm.exec) (hb : c.code = cc) (hown : s.vm.findClass (onm o) = some m.cls) (hts : ∀ w ∈ ZB, w.before args s = true) (hK : va_K D zcl (zty cA) s)
    {ini : Bool} (hini : ini = true → meth.name = "<init>") {h h' : LH} (hh : okH h) (hN : okN h)
    (hP : va_P D zcl (zws B b sA cA n h) H) (hS : va_S (zA B) H0 H locs)
    {i : Instr} {len : Nat} {st st' : List LV} (hg : lmP o n ini i st h = some (st', h')) (hlen : ilen i len = true) (hd : decode cc pc = .ok (i, len)) (hst : okS st)
    (k : ∀ (H1 : Heap) (locs1 : List Loc), okS st' → okH h' → okN h' → va_P D zcl (zws B b sA cA n h') H1 → va_S (zA B) H0 H1 locs1 → W p l e R s m args below meth c H1 locs1 cells slots Q (F0 m (pc + len) sl (st'.map (cv B b sA)))) :
    W p l e R s m args below meth c H locs cells slots Q (F0 m pc sl (st.map (cv B b sA))) := by
  have one : ∀ {n : Nat}, (n == 1) = true → n = 1 := fun h => by simpa using h
  have hD := zD (B := B) (b := b) (sA := sA) (cA := cA) n h
  cases i with
  | putfield x =>
    simp only [lmP] at hg
    split at hg
    · next v a r =>
      split at hg
      · next c0 k0 hf =>
        split at hg
        · next hO =>
          rw [Option.map_eq_some_iff] at hg
          obtain ⟨z, hz, hg⟩ := hg
          cases hg
          have e3 : len = 3 := by simpa [ilen] using hlen
          subst e3
          simp only [Bool.and_eq_true, Bool.or_eq_true, Bool.not_eq_true', beq_iff_eq] at hO
          obtain ⟨g1, g2, g3, g4⟩ := isO_of hO.1
          obtain ⟨C, T, N, hc, hk, hw⟩ := fld_of hf
          obtain ⟨u1, -, u3, u4⟩ := cls_of hc
          obtain ⟨y1, y2⟩ := TY_ok hc
          have hNe : (lay a.toNat).2.2 = N := by
            have := lay_obj g3
            rw [g4, hc] at this
            exact (Option.some.inj this).symm
          have he := zws_at (B := B) (b := b) (sA := sA) (cA := cA) (h := h) (a := a.toNat) (n := n) (by omega) (by omega)
          rw [cellE_0 g3, g4, hNe] at he
          obtain ⟨z1, z2, z3, z4⟩ := okk_of hz
          obtain ⟨h1, h2⟩ := okS_c hst
          obtain ⟨-, h4⟩ := okS_c h2
          have hkd := KD_ok c0 (zcl_lt hc) _ hc k0 hk
          subst z1
          obtain ⟨f1, f2⟩ := fit_of (B := B) (b := b) (sA := sA) hkd z2 z3
          have hl : k0 < (fvs B b sA h a.toNat c0 N).length := by unfold fvs; simpa using hk
          have hlk := lkd_o (k := k0) g3 g4
          have ok1 : okH (wr h a k0 z) := okH_wr hh (by rw [hlk]; exact okk_ok z4 h1)
          have ok2 : okN (wr h a k0 z) := okN_wr hN (by rw [hlk]; exact z2)
          have hset : (zws B b sA cA n h).set (a.toNat - 1) (B + a.toNat, .inr (c0, (fvs B b sA h a.toNat c0 N).set k0 (cv B b sA (mkv (fkd c0 k0) z)))) = zws B b sA cA n (wr h a k0 z) := by
            refine zws_set (by omega) (by omega) ?_ (fun q j hq => wr_ne g1 q j hq)
            rw [cellE_0 g3, g4, hNe, fvs_set g1 hk]
          rw [List.map_cons, List.map_cons, cv_pos g1]
          rcases hO.2 with hfin | ⟨hi, ho⟩
          · have hfin2 : (T k0).2.2.2 = false := by unfold fin at hfin; rw [hc] at hfin; exact hfin
            refine va_put hx hb hts u1 (tyF c0) y1 y2 hown hK hP hD hS (a.toNat - 1) he hc k0 hk (hts _ hw) (by rw [u4 k0 hk]; exact fun _ q => q) hfin2 (y1 k0 hk) f1 f2 hl hd (fun H1 locs1 q1 q2 q3 => ?_)
            rw [hset] at q1
            exact k H1 locs1 h4 ok1 ok2 q1 q3
          · by_cases hfin2 : (T k0).2.2.2 = true
            · refine va_putF hx hb hts u1 (tyF c0) y1 y2 hown hK hP hD hS (a.toNat - 1) he hc k0 hk (hts _ hw) (by rw [u4 k0 hk]; exact fun _ q => q) hfin2 (hini hi) (by rw [u4 k0 hk, u3, ho]) (y1 k0 hk) f1 f2 hl hd (fun H1 locs1 q1 q2 q3 => ?_)
              rw [hset] at q1
              exact k H1 locs1 h4 ok1 ok2 q1 q3
            · refine va_put hx hb hts u1 (tyF c0) y1 y2 hown hK hP hD hS (a.toNat - 1) he hc k0 hk (hts _ hw) (by rw [u4 k0 hk]; exact fun _ q => q) (by simpa using hfin2) (y1 k0 hk) f1 f2 hl hd (fun H1 locs1 q1 q2 q3 => ?_)
              rw [hset] at q1
              exact k H1 locs1 h4 ok1 ok2 q1 q3
        · cases hg
      · cases hg
    · cases hg
  | iastore =>
    simp only [lmP] at hg
    split at hg
    · next v j a r =>
      split at hg
      · next hA =>
        simp only [Bool.and_eq_true] at hA
        cases some_i hg
        cases one hlen
        obtain ⟨h1, h2⟩ := okS_c hst
        obtain ⟨-, h3⟩ := okS_c h2
        obtain ⟨-, h4⟩ := okS_c h3
        obtain ⟨g1, g2, g3⟩ := isA_of hA.1
        obtain ⟨i1, i2⟩ := inA_of hA.2
        have he := zws_at (B := B) (b := b) (sA := sA) (cA := cA) (h := h) (a := a.toNat) (n := n) (by omega) (by omega)
        rw [cellE_1 g3] at he
        rw [List.map_cons, List.map_cons, List.map_cons, cv_pos g1]
        refine va_iast hx hb hK hP hD hS (a.toNat - 1) 0 he (zty_at cA (by omega)) (inA_vp hA.2) hd (fun H1 locs1 q1 q2 q3 => ?_)
        rw [zws_set (h' := wr h a j v) (by omega) (by omega) ?_ (fun q j hq => wr_ne g1 q j hq)] at q1
        · exact k H1 locs1 h4 (okH_wr hh (by rw [lkd_1 g3]; exact h1)) (okN_wr hN (by rw [lkd_1 g3]; omega)) q1 q3
        · rw [cellE_1 g3, inA_clamp hA.2]
          congr 4
          funext q
          rw [tn g1, rd_wr]
          unfold upd
          by_cases e : q = j.toNat
          · rw [if_pos e, if_pos ⟨rfl, by omega⟩]
          · rw [if_neg e, if_neg (fun z => e (by omega))]
      · cases hg
    · cases hg
  | lastore =>
    simp only [lmP] at hg
    split at hg
    · next v j a r =>
      split at hg
      · next hA =>
        simp only [Bool.and_eq_true] at hA
        cases some_i hg
        cases one hlen
        obtain ⟨h1, h2⟩ := okS_c hst
        obtain ⟨-, h3⟩ := okS_c h2
        obtain ⟨-, h4⟩ := okS_c h3
        obtain ⟨g1, g2, g3⟩ := isA_of hA.1
        obtain ⟨i1, i2⟩ := inA_of hA.2
        have he := zws_at (B := B) (b := b) (sA := sA) (cA := cA) (h := h) (a := a.toNat) (n := n) (by omega) (by omega)
        rw [cellE_2 g3] at he
        rw [List.map_cons, List.map_cons, List.map_cons, cv_pos g1]
        refine va_last hx hb hK hP hD hS (a.toNat - 1) 1 he (zty_at cA (by omega)) (inA_vp hA.2) hd (fun H1 locs1 q1 q2 q3 => ?_)
        rw [zws_set (h' := wr h a j v) (by omega) (by omega) ?_ (fun q j hq => wr_ne g1 q j hq)] at q1
        · exact k H1 locs1 h4 (okH_wr hh (by rw [lkd_2 g3]; exact h1)) (okN_wr hN (by rw [lkd_2 g3]; omega)) q1 q3
        · rw [cellE_2 g3, inA_clamp hA.2]
          congr 5
          funext q
          rw [tn g1, rd_wr]
          unfold vp_updL
          by_cases e : q = j.toNat
          · rw [if_pos e, if_pos ⟨rfl, by omega⟩]
          · rw [if_neg e, if_neg (fun z => e (by omega))]
      · cases hg
    · cases hg
  | bastore =>
    simp only [lmP] at hg
    split at hg
    · next v j a r =>
      split at hg
      · next hA =>
        simp only [Bool.and_eq_true, Bool.or_eq_true, decide_eq_true_eq] at hA
        cases some_i hg
        cases one hlen
        obtain ⟨h1, h2⟩ := okS_c hst
        obtain ⟨-, h3⟩ := okS_c h2
        obtain ⟨-, h4⟩ := okS_c h3
        obtain ⟨i1, i2⟩ := inA_of hA.1
        rcases hA.2 with ⟨hA2, hv⟩ | ⟨hA2, hv⟩
        · obtain ⟨g1, g2, g3⟩ := isA_of hA2
          have he := zws_at (B := B) (b := b) (sA := sA) (cA := cA) (h := h) (a := a.toNat) (n := n) (by omega) (by omega)
          rw [cellE_3 g3] at he
          rw [List.map_cons, List.map_cons, List.map_cons, cv_pos g1]
          refine va_bast hx hb hK hP hD hS (a.toNat - 1) 2 he (zty_at cA (by omega)) (inA_vp hA.1) hd (fun H1 locs1 q1 q2 q3 => ?_)
          rw [zws_set (h' := wr h a j v) (by omega) (by omega) ?_ (fun q j hq => wr_ne g1 q j hq)] at q1
          · exact k H1 locs1 h4 (okH_wr hh (by rw [lkd_3 g3]; exact h1)) (okN_wr hN (by rw [lkd_3 g3]; omega)) q1 q3
          · rw [cellE_3 g3, inA_clamp hA.1, nar_byte hv]
            congr 4
            funext q
            rw [tn g1, rd_wr]
            unfold upd
            by_cases e : q = j.toNat
            · rw [if_pos e, if_pos ⟨rfl, by omega⟩]
            · rw [if_neg e, if_neg (fun z => e (by omega))]
        · obtain ⟨g1, g2, g3⟩ := isA_of hA2
          have he := zws_at (B := B) (b := b) (sA := sA) (cA := cA) (h := h) (a := a.toNat) (n := n) (by omega) (by omega)
          rw [cellE_4 g3] at he
          rw [List.map_cons, List.map_cons, List.map_cons, cv_pos g1]
          refine va_zast hx hb hK hP hD hS (a.toNat - 1) 3 he (zty_at cA (by omega)) (inA_vp hA.1) hd (fun H1 locs1 q1 q2 q3 => ?_)
          rw [zws_set (h' := wr h a j v) (by omega) (by omega) ?_ (fun q j hq => wr_ne g1 q j hq)] at q1
          · exact k H1 locs1 h4 (okH_wr hh (by rw [lkd_4 g3]; exact h1)) (okN_wr hN (by rw [lkd_4 g3]; omega)) q1 q3
          · rw [cellE_4 g3, inA_clamp hA.1, nar_bool hv]
            congr 4
            funext q
            rw [tn g1, rd_wr]
            unfold upd
            by_cases e : q = j.toNat
            · rw [if_pos e, if_pos ⟨rfl, by omega⟩]
            · rw [if_neg e, if_neg (fun z => e (by omega))]
      · cases hg
    · cases hg
  | aastore =>
    simp only [lmP] at hg
    split at hg
    · next v j a r =>
      split at hg
      · next hA =>
        simp only [Bool.and_eq_true] at hA
        cases some_i hg
        cases one hlen
        obtain ⟨h1, h2⟩ := okS_c hst
        obtain ⟨-, h3⟩ := okS_c h2
        obtain ⟨-, h4⟩ := okS_c h3
        obtain ⟨g1, g2, g3⟩ := isA_of hA.1.1
        obtain ⟨i1, i2⟩ := inA_of hA.1.2
        obtain ⟨t1, t2⟩ := lay_ref g3
        obtain ⟨v1, v2, v3, v4⟩ := isO_of hA.2
        have hc : ∃ q, zcl[(lay a.toNat).2.1]? = some q := by
          have := lay_obj v3
          rw [v4, Option.map_eq_some_iff] at this
          obtain ⟨q, hq, -⟩ := this
          exact ⟨q, hq⟩
        obtain ⟨⟨C, T, N⟩, hc⟩ := hc
        obtain ⟨-, -, u3, -⟩ := cls_of hc
        have he := zws_at (B := B) (b := b) (sA := sA) (cA := cA) (h := h) (a := a.toNat) (n := n) (by omega) (by omega)
        rw [cellE_5 g3] at he
        have he2 := zws_at (B := B) (b := b) (sA := sA) (cA := cA) (h := h) (a := v.toNat) (n := n) (by omega) (by omega)
        rw [cellE_0 v3, v4] at he2
        rw [List.map_cons, List.map_cons, List.map_cons, cv_pos g1, cv_pos v1]
        refine va_astq hx hb hK hP hD hS (a.toNat - 1) (4 + (lay a.toNat).2.1) (v.toNat - 1) (lay a.toNat).2.1 he (by rw [zty_at cA (by omega), t1, u3]) he2 hc (inA_vp hA.1.2) hd (fun H1 locs1 q1 q2 q3 => ?_)
        rw [zws_set (h' := wr h a j v) (by omega) (by omega) ?_ (fun q j hq => wr_ne g1 q j hq)] at q1
        · exact k H1 locs1 h4 (okH_wr hh (by rw [lkd_5 g3]; trivial)) (okN_wr hN (fun _ => by omega)) q1 q3
        · rw [cellE_5 g3, inA_clamp hA.1.2]
          congr 7
          funext q
          rw [tn g1, rd_wr]
          unfold va_up
          by_cases e : q = j.toNat
          · rw [if_pos e, if_pos ⟨rfl, by omega⟩]
            unfold rf1
            rw [if_neg (by omega)]
          · rw [if_neg e, if_neg (fun z => e (by omega))]
      · cases hg
    · cases hg
  | _ => simp only [lmP] at hg; cases hg
end SP
