/-! p3, part e1: feed: both lay the same signs, sign by sign -/
def sgX (c m : Int) (X : Int → Int) : Int → Int := if (c = 10 ∨ (32 ≤ c ∧ c ≤ 126)) ∧ m < 1000 then (fun i => if i = m then c else X i) else X
def fedX : Nat → Int → Int → (Int → Int) → Int → Int
  | 0, _, _, X => X
  | j + 1, v, m, X => fedX j v (sgn (zand (w32 (lushr_ v (8 * (j : Int)))) 255) m) (sgX (zand (w32 (lushr_ v (8 * (j : Int)))) 255) m X)
def fedX3 (a b c m : Int) (X : Int → Int) : Int → Int := fedX 8 c (fed 8 b (fed 8 a m)) (fedX 8 b (fed 8 a m) (fedX 8 a m X))
theorem i2b_id {c : Int} (h0 : 0 ≤ c) (h1 : c ≤ 127) : (Int32.ofInt c).toInt8.toInt32.toInt = c := by
  have key : ∀ m : Nat, m < 128 → (Int32.ofInt (m : Int)).toInt8.toInt32.toInt = (m : Int) := by decide +kernel
  have := key c.toNat (by omega)
  rw [show ((c.toNat : Nat) : Int) = c by omega] at this
  exact this
theorem sgX_up {h : LH} {z m : Int} (hp : (z = 10 ∨ (32 ≤ z ∧ z ≤ 126)) ∧ m < 1000) : sgX z m (rd h 3) = rd (wr (wr h 3 m z) 2 0 (m + 1)) 3 := by
  unfold sgX
  rw [if_pos hp]
  funext i
  rw [rdw_ne (by decide), rd_wr]
  by_cases e : i = m
  · rw [if_pos e, if_pos ⟨rfl, e.symm⟩]
  · rw [if_neg e, if_neg (fun q => e q.2.symm)]
theorem sgX_up' {h : LH} {z m : Int} (hp : (z = 10 ∨ (32 ≤ z ∧ z ≤ 126)) ∧ m < 1000) : sgX z m (rd h 183) = rd (wr (wr h 183 m z) 182 2 (m + 1)) 183 := by
  unfold sgX
  rw [if_pos hp]
  funext i
  rw [rdw_ne (by decide), rd_wr]
  by_cases e : i = m
  · rw [if_pos e, if_pos ⟨rfl, e.symm⟩]
  · rw [if_neg e, if_neg (fun q => e q.2.symm)]
/-- tapes that agree go on agreeing -/
theorem fedX_ag : ∀ (j : Nat) (v m : Int) (X Y : Int → Int), (∀ i, 0 ≤ i → i < m → X i = Y i) → ∀ i, 0 ≤ i → i < fed j v m → fedX j v m X i = fedX j v m Y i
  | 0, _, _, _, _, h => h
  | j + 1, v, m, X, Y, h => by
    refine fedX_ag j v _ _ _ ?_
    intro i i0 i1
    unfold sgn at i1
    unfold sgX
    split at i1
    · next c =>
      rw [if_pos c, if_pos c]
      show (if i = m then _ else X i) = (if i = m then _ else Y i)
      by_cases e : i = m
      · rw [if_pos e, if_pos e]
      · rw [if_neg e, if_neg e]
        exact h i i0 (by omega)
    · next c =>
      rw [if_neg c, if_neg c]
      exact h i i0 i1
theorem fedX3_ag {a b c m : Int} {X Y : Int → Int} (h : ∀ i, 0 ≤ i → i < m → X i = Y i) : ∀ i, 0 ≤ i → i < fed3 a b c m → fedX3 a b c m X i = fedX3 a b c m Y i :=
  fedX_ag 8 c _ _ _ (fedX_ag 8 b _ _ _ (fedX_ag 8 a _ _ _ h))
section FEX
variable {xs : Nat → Int} {xl e : Nat} {h : LH} {Q : Option LV → LH → Prop}
theorem L_putX {v : Int} : ∀ (j : Nat) (o4 o5 : Option LV) (h : LH), j ≤ 8 → INV h → (∀ g, INV g → rd g 2 0 = fed j v (rd h 2 0) → rd g 3 = fedX j v (rd h 2 0) (rd h 3) → (∀ a i, ¬ (a = 2 ∧ i = 0) → a ≠ 3 → rd g a i = rd h a i) → Q none g) → Rn xs xl e mm_Reader_putBytes 3 [some (.inr (.inr 2)), some (.inr (.inl v)), none, some (.inl (8 * (j : Int) - 8)), o4, o5] [] h Q := by
  intro j
  induction j with
  | zero =>
    intro o4 o5 h hj hI k
    exact B_Reader_putBytes_3 (RF_of hI.1) (by omega) ⟨fun _ => k h hI rfl rfl (fun _ _ _ _ => rfl), fun z => absurd z (by omega)⟩
  | succ j ih =>
    intro o4 o5 h hj hI k
    rw [show 8 * ((j + 1 : Nat) : Int) - 8 = 8 * (j : Int) by omega]
    have n0 := rG_2_0 hI.1
    have cin := zand_r (a := w32 (lushr_ v (8 * (j : Int)))) (b := 255) (by decide) (by unfold i32; omega)
    have fe : fed (j + 1) v (rd h 2 0) = fed j v (sgn (zand (w32 (lushr_ v (8 * (j : Int)))) 255) (rd h 2 0)) := rfl
    have fx : fedX (j + 1) v (rd h 2 0) (rd h 3) = fedX j v (sgn (zand (w32 (lushr_ v (8 * (j : Int)))) 255) (rd h 2 0)) (sgX (zand (w32 (lushr_ v (8 * (j : Int)))) 255) (rd h 2 0) (rd h 3)) := rfl
    rw [fe, fx] at k
    have st : ∀ o4 o5 : Option LV, ¬ ((zand (w32 (lushr_ v (8 * (j : Int)))) 255 = 10 ∨ (32 ≤ zand (w32 (lushr_ v (8 * (j : Int)))) 255 ∧ zand (w32 (lushr_ v (8 * (j : Int)))) 255 ≤ 126)) ∧ rd h 2 0 < 1000) → Rn xs xl e mm_Reader_putBytes 82 [some (.inr (.inr 2)), some (.inr (.inl v)), none, some (.inl (8 * (j : Int))), o4, o5] [] h Q := by
      intro o4 o5 hn
      rw [show sgn (zand (w32 (lushr_ v (8 * (j : Int)))) 255) (rd h 2 0) = rd h 2 0 by unfold sgn; rw [if_neg hn], show sgX (zand (w32 (lushr_ v (8 * (j : Int)))) 255) (rd h 2 0) (rd h 3) = rd h 3 by unfold sgX; rw [if_neg hn]] at k
      exact B_Reader_putBytes_82 (RF_of hI.1) (by omega) (ih _ _ h (by omega) hI k)
    have up : ∀ (o4 o5 : Option LV) (z : Int), (-128 ≤ z ∧ z ≤ 127) → z = zand (w32 (lushr_ v (8 * (j : Int)))) 255 → ((zand (w32 (lushr_ v (8 * (j : Int)))) 255 = 10 ∨ (32 ≤ zand (w32 (lushr_ v (8 * (j : Int)))) 255 ∧ zand (w32 (lushr_ v (8 * (j : Int)))) 255 ≤ 126)) ∧ rd h 2 0 < 1000) → Rn xs xl e mm_Reader_putBytes 82 [some (.inr (.inr 2)), some (.inr (.inl v)), none, some (.inl (8 * (j : Int))), o4, o5] [] (wr (wr h 3 (rd h 2 0) z) 2 0 ((rd h 2 0) + 1)) Q := by
      intro o4 o5 z hz ez hp
      rw [show sgn (zand (w32 (lushr_ v (8 * (j : Int)))) 255) (rd h 2 0) = rd h 2 0 + 1 by unfold sgn; rw [if_pos hp], ← ez, show sgX z (rd h 2 0) (rd h 3) = rd (wr (wr h 3 (rd h 2 0) z) 2 0 ((rd h 2 0) + 1)) 3 by rw [← ez] at hp; exact sgX_up hp] at k
      have i2 := wG_2_0 (wB_3 hI (i := rd h 2 0) (v := z) hz.1 hz.2) (v := rd h 2 0 + 1) (by omega) (by omega)
      refine B_Reader_putBytes_82 (RF_of i2.1) (by omega) (ih _ _ _ (by omega) i2 (fun g gI ge gx gf => k g gI (by rw [ge, rdw_eq]) (by rw [gx, rdw_eq]) (fun a i n1 n2 => ?_)))
      rw [gf a i n1 n2, rd_wr, if_neg (fun q => n1 ⟨q.1.symm, q.2.symm⟩), rdw_ne (fun q => n2 q.symm)]
    generalize hc : zand (w32 (lushr_ v (8 * (j : Int)))) 255 = c at *
    have bb := i2b_in c
    refine B_Reader_putBytes_3 (RF_of hI.1) (by omega) ⟨fun z => absurd z (by omega), fun _ => ?_⟩
    rw [hc]
    exact ⟨fun z => ⟨fun z1 => st _ _ (by omega), fun z1 => ⟨by omega, by omega, up _ _ _ bb (i2b_id (by omega) (by omega)) (by omega)⟩⟩, fun z => ⟨fun z1 => st _ _ (by omega), fun z1 => ⟨fun z2 => st _ _ (by omega), fun z2 => ⟨fun z3 => st _ _ (by omega), fun z3 => ⟨by omega, by omega, up _ _ _ bb (i2b_id (by omega) (by omega)) (by omega)⟩⟩⟩⟩⟩
theorem L_layX {v : Int} (hv : i64 v) : ∀ (j : Nat) (o4 : Option LV) (h : LH), j ≤ 8 → INV h → (∀ g, INV g → rd g 182 2 = fed j v (rd h 182 2) → rd g 183 = fedX j v (rd h 182 2) (rd h 183) → (∀ a i, ¬ (a = 182 ∧ i = 2) → a ≠ 183 → rd g a i = rd h a i) → Q none g) → Rn xs xl e mm_lay 3 [some (.inr (.inr 182)), some (.inr (.inl v)), none, some (.inl (8 * (j : Int) - 8)), o4] [] h Q := by
  intro j
  induction j with
  | zero =>
    intro o4 h hj hI k
    exact B_lay_3 (RF_of hI.1) (by omega) ⟨fun _ => k h hI rfl rfl (fun _ _ _ _ => rfl), fun z => absurd z (by omega)⟩
  | succ j ih =>
    intro o4 h hj hI k
    rw [show 8 * ((j + 1 : Nat) : Int) - 8 = 8 * (j : Int) by omega]
    have n0 := rF_taped hI.1
    have cin := zand_r (a := w32 (lushr_ v (8 * (j : Int)))) (b := 255) (by decide) (by unfold i32; omega)
    have fe : fed (j + 1) v (rd h 182 2) = fed j v (sgn (zand (w32 (lushr_ v (8 * (j : Int)))) 255) (rd h 182 2)) := rfl
    have fx : fedX (j + 1) v (rd h 182 2) (rd h 183) = fedX j v (sgn (zand (w32 (lushr_ v (8 * (j : Int)))) 255) (rd h 182 2)) (sgX (zand (w32 (lushr_ v (8 * (j : Int)))) 255) (rd h 182 2) (rd h 183)) := rfl
    rw [fe, fx, ← byt hv (by omega)] at k
    rw [← byt hv (by omega)] at cin
    have st : ∀ o4 : Option LV, ¬ ((zand (w32 (lshr_ v (8 * (j : Int)))) 255 = 10 ∨ (32 ≤ zand (w32 (lshr_ v (8 * (j : Int)))) 255 ∧ zand (w32 (lshr_ v (8 * (j : Int)))) 255 ≤ 126)) ∧ rd h 182 2 < 1000) → Rn xs xl e mm_lay 69 [some (.inr (.inr 182)), some (.inr (.inl v)), none, some (.inl (8 * (j : Int))), o4] [] h Q := by
      intro o4 hn
      rw [show sgn (zand (w32 (lshr_ v (8 * (j : Int)))) 255) (rd h 182 2) = rd h 182 2 by unfold sgn; rw [if_neg hn], show sgX (zand (w32 (lshr_ v (8 * (j : Int)))) 255) (rd h 182 2) (rd h 183) = rd h 183 by unfold sgX; rw [if_neg hn]] at k
      exact B_lay_69 (RF_of hI.1) (by omega) (ih _ h (by omega) hI k)
    have up : ∀ (o4 : Option LV) (z : Int), (0 ≤ z ∧ z ≤ 126) → z = zand (w32 (lshr_ v (8 * (j : Int)))) 255 → ((zand (w32 (lshr_ v (8 * (j : Int)))) 255 = 10 ∨ (32 ≤ zand (w32 (lshr_ v (8 * (j : Int)))) 255 ∧ zand (w32 (lshr_ v (8 * (j : Int)))) 255 ≤ 126)) ∧ rd h 182 2 < 1000) → Rn xs xl e mm_lay 69 [some (.inr (.inr 182)), some (.inr (.inl v)), none, some (.inl (8 * (j : Int))), o4] [] (wr (wr h 183 (rd h 182 2) z) 182 2 ((rd h 182 2) + 1)) Q := by
      intro o4 z hz ez hp
      rw [show sgn (zand (w32 (lshr_ v (8 * (j : Int)))) 255) (rd h 182 2) = rd h 182 2 + 1 by unfold sgn; rw [if_pos hp], ← ez, show sgX z (rd h 182 2) (rd h 183) = rd (wr (wr h 183 (rd h 182 2) z) 182 2 ((rd h 182 2) + 1)) 183 by rw [← ez] at hp; exact sgX_up' hp] at k
      have i2 := wF_taped (wA_tape hI (i := rd h 182 2) (v := z) (by omega) hz.1 hz.2) (v := rd h 182 2 + 1) (by omega) (by omega)
      refine B_lay_69 (RF_of i2.1) (by omega) (ih _ _ (by omega) i2 (fun g gI ge gx gf => k g gI (by rw [ge, rdw_eq]) (by rw [gx, rdw_eq]) (fun a i n1 n2 => ?_)))
      rw [gf a i n1 n2, rd_wr, if_neg (fun q => n1 ⟨q.1.symm, q.2.symm⟩), rdw_ne (fun q => n2 q.symm)]
    generalize hc : zand (w32 (lshr_ v (8 * (j : Int)))) 255 = c at *
    refine B_lay_3 (RF_of hI.1) (by omega) ⟨fun z => absurd z (by omega), fun _ => ?_⟩
    rw [hc]
    exact ⟨fun z => ⟨fun z1 => st _ (by omega), fun z1 => ⟨by omega, by omega, up _ _ (by omega) rfl (by omega)⟩⟩, fun z => ⟨fun z1 => st _ (by omega), fun z1 => ⟨fun z2 => st _ (by omega), fun z2 => ⟨fun z3 => st _ (by omega), fun z3 => ⟨by omega, by omega, up _ _ (by omega) rfl (by omega)⟩⟩⟩⟩⟩
theorem D_putX {v : Int} (hI : INV h) (k : ∀ g, INV g → rd g 2 0 = fed 8 v (rd h 2 0) → rd g 3 = fedX 8 v (rd h 2 0) (rd h 3) → (∀ a i, ¬ (a = 2 ∧ i = 0) → a ≠ 3 → rd g a i = rd h a i) → Q none g) : Rn xs xl e mm_Reader_putBytes 0 [some (.inr (.inr 2)), some (.inr (.inl v)), none, none, none, none] [] h Q :=
  B_Reader_putBytes_0 (RF_of hI.1) (L_putX 8 none none h (Nat.le_refl 8) hI k)
theorem D_layX {v : Int} (hv : i64 v) (hI : INV h) (k : ∀ g, INV g → rd g 182 2 = fed 8 v (rd h 182 2) → rd g 183 = fedX 8 v (rd h 182 2) (rd h 183) → (∀ a i, ¬ (a = 182 ∧ i = 2) → a ≠ 183 → rd g a i = rd h a i) → Q none g) : Rn xs xl e mm_lay 0 [some (.inr (.inr 182)), some (.inr (.inl v)), none, none, none] [] h Q :=
  B_lay_0 (RF_of hI.1) (L_layX hv 8 none h (Nat.le_refl 8) hI k)
theorem E_feedX {a b c : Int} (he : 1 ≤ e) (hI : INV h) (k : ∀ g, INV g → rd g 2 0 = fed3 a b c (rd h 2 0) → rd g 3 = fedX3 a b c (rd h 2 0) (rd h 3) → (∀ x i, ¬ (x = 2 ∧ i = 0) → x ≠ 3 → rd g x i = rd h x i) → Q (some (.inl (fed3 a b c (rd h 2 0)))) g) : Rn xs xl e mm_OneSided_feed 0 [some (.inr (.inr 1)), some (.inr (.inl a)), none, some (.inr (.inl b)), none, some (.inr (.inl c)), none] [] h Q := by
  refine B_OneSided_feed_0 (RF_of hI.1) ⟨0, by omega, D_putX hI (fun h1 i1 e1 x1 f1 => ?_)⟩
  refine B_OneSided_feed_8 (RF_of i1.1) ⟨0, by omega, D_putX i1 (fun h2 i2 e2 x2 f2 => ?_)⟩
  refine B_OneSided_feed_16 (RF_of i2.1) ⟨0, by omega, D_putX i2 (fun h3 i3 e3 x3 f3 => ?_)⟩
  have ee : rd h3 2 0 = fed3 a b c (rd h 2 0) := by
    rw [e3, e2, e1]
    rfl
  refine B_OneSided_feed_25 (RF_of i3.1) ?_
  rw [ee]
  exact k h3 i3 ee (by rw [x3, x2, x1, e2, e1]; rfl) (fun x i n1 n2 => (f3 x i n1 n2).trans ((f2 x i n1 n2).trans (f1 x i n1 n2)))
theorem D_feedX {a b c : Int} (ha : i64 a) (hb : i64 b) (hc : i64 c) (he : 1 ≤ e) (hI : INV h) (k : ∀ g, INV g → rd g 182 2 = fed3 a b c (rd h 182 2) → rd g 183 = fedX3 a b c (rd h 182 2) (rd h 183) → (∀ x i, ¬ (x = 182 ∧ (i = 0 ∨ i = 2)) → x ≠ 183 → rd g x i = rd h x i) → Q (some (.inl (fed3 a b c (rd h 182 2)))) g) : Rn xs xl e mm_feed 0 [some (.inr (.inr 182)), some (.inr (.inl a)), none, some (.inr (.inl b)), none, some (.inr (.inl c)), none] [] h Q := by
  have i0 := wF_thrown hI (v := 0) (by omega) (by omega)
  refine B_feed_0 (RF_of hI.1) ⟨0, by omega, D_layX ha i0 (fun h1 i1 e1 x1 f1 => ?_)⟩
  refine B_feed_10 (RF_of i1.1) ⟨0, by omega, D_layX hb i1 (fun h2 i2 e2 x2 f2 => ?_)⟩
  refine B_feed_15 (RF_of i2.1) ⟨0, by omega, D_layX hc i2 (fun h3 i3 e3 x3 f3 => ?_)⟩
  have ee : rd h3 182 2 = fed3 a b c (rd h 182 2) := by
    rw [e3, e2, e1, rdw_nei (by decide)]
    rfl
  refine B_feed_21 (RF_of i3.1) ?_
  rw [ee]
  have xx : rd (wr h 182 0 0) 183 = rd h 183 := funext (fun i => rdw_ne (by decide))
  refine k h3 i3 ee (by rw [x3, x2, x1, e2, e1, rdw_nei (by decide), xx]; rfl) (fun x i n1 n2 => ?_)
  rw [f3 x i (by omega) n2, f2 x i (by omega) n2, f1 x i (by omega) n2, rd_wr, if_neg (by omega)]
end FEX
