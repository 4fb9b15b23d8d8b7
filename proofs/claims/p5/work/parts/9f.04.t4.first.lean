/-! plans, part t4: the first hour in which something holds -/
def fsH (f : Int) (P : Int → Prop) (r : Int) : Prop := (r = -1 ∧ ∀ x, f ≤ x → x < 24 → ¬ P x) ∨ (f ≤ r ∧ r < 24 ∧ P r ∧ ∀ x, f ≤ x → x < r → ¬ P x)
theorem fsH_one {f r r' : Int} {P P' : Int → Prop} (hf : 0 ≤ f) (hp : ∀ x, f ≤ x → x < 24 → (P x ↔ P' x)) (h : fsH f P r) (h' : fsH f P' r') : r = r' := by
  rcases h with ⟨rfl, n⟩ | ⟨a, b, c, d⟩
  · rcases h' with ⟨rfl, n'⟩ | ⟨a', b', c', d'⟩
    · rfl
    · exact absurd ((hp r' a' b').mpr c') (n r' a' b')
  · rcases h' with ⟨rfl, n'⟩ | ⟨a', b', c', d'⟩
    · exact absurd ((hp r a b).mp c) (n' r a b)
    · by_cases z : r < r'
      · exact absurd ((hp r a b).mp c) (d' r a z)
      · by_cases y : r' < r
        · exact absurd ((hp r' a' b').mpr c') (d r' a' y)
        · omega
section PL4
variable {xs : Nat → Int} {xl e : Nat} {h : LH} {Q : Option LV → LH → Prop} {K : KEY} {S : Int → Int} {b p : Int}
theorem Rch_last : ∀ {n : Nat} {hr k0 j : Int}, Rch K S b p (n + 1) hr k0 j → ∃ k, Rch K S b p n hr k0 k ∧ (k = j ∨ ∃ d, 0 ≤ d ∧ d < K.1 1 ∧ 0 ≤ tr K S b p (hr + n) k d ∧ tr K S b p (hr + n) k d = j)
  | 0, hr, k0, j, h => by
    refine ⟨k0, rfl, ?_⟩
    rw [show hr + ((0 : Nat) : Int) = hr by omega]
    rcases h with q | ⟨d, d0, d1, d2, d3⟩
    · exact Or.inl q
    · exact Or.inr ⟨d, d0, d1, d2, d3⟩
  | n + 1, hr, k0, j, h => by
    have e : hr + ((n + 1 : Nat) : Int) = hr + 1 + (n : Int) := by omega
    rw [e]
    rcases h with q | ⟨d, d0, d1, d2, d3⟩
    · obtain ⟨k, k1, k2⟩ := Rch_last q
      exact ⟨k, Or.inl k1, k2⟩
    · obtain ⟨k, k1, k2⟩ := Rch_last d3
      exact ⟨k, Or.inr ⟨d, d0, d1, d2, k1⟩, k2⟩
theorem Rch_in (kb : KB K p) : ∀ {n : Nat} {hr k0 j : Int}, 0 ≤ hr → hr + n ≤ 26 → 0 ≤ k0 → k0 ≤ 19 → Rch K S b p n hr k0 j → 0 ≤ j ∧ j ≤ 19
  | 0, hr, k0, j, h0, h1, a, c, h => by
    have h : k0 = j := h
    omega
  | n + 1, hr, k0, j, h0, h1, a, c, h => by
    rcases h with q | ⟨d, d0, d1, d2, d3⟩
    · exact Rch_in kb (by omega) (by omega) a c q
    · have t := tr_ok (S := S) (b := b) (hr := hr) kb ⟨a, c⟩ ⟨d0, d1⟩ (by omega)
      exact Rch_in kb (by omega) (by omega) d2 t.2.1 d3
/-- one hour more -/
theorem Rch_stp (kb : KB K p) {n : Nat} {hr k0 j : Int} (h0 : 0 ≤ hr) (h1 : hr + n ≤ 25) (a : 0 ≤ k0) (c : k0 ≤ 19) : Rch K S b p (n + 1) hr k0 j ↔ stp K S b p (hr + n) (fun j => Rch K S b p n hr k0 j) j := by
  unfold stp
  constructor
  · intro h
    obtain ⟨k, k1, k2⟩ := Rch_last h
    rcases k2 with rfl | ⟨d, d0, d1, d2, d3⟩
    · exact Or.inl k1
    · have i := Rch_in kb h0 (by omega) a c k1
      exact Or.inr ⟨k, d, i.1, i.2, d0, d1, k1, d2, d3⟩
  · rintro (y | ⟨k, d, i0, i1, d0, d1, k1, d2, d3⟩)
    · exact Rch_snoc y (Or.inl rfl)
    · exact Rch_snoc k1 (Or.inr ⟨d, d0, d1, d2, d3⟩)
theorem stp_congr {hr j : Int} {X Y : Int → Prop} (h : ∀ j, 0 ≤ j → j < 32 → (X j ↔ Y j)) (j0 : 0 ≤ j) (j1 : j < 32) : stp K S b p hr X j ↔ stp K S b p hr Y j := by
  unfold stp
  rw [h j j0 j1]
  constructor
  · rintro (y | ⟨k, d, i0, i1, d0, d1, k1, x⟩)
    · exact Or.inl y
    · exact Or.inr ⟨k, d, i0, i1, d0, d1, (h k i0 (by omega)).mp k1, x⟩
  · rintro (y | ⟨k, d, i0, i1, d0, d1, k1, x⟩)
    · exact Or.inl y
    · exact Or.inr ⟨k, d, i0, i1, d0, d1, (h k i0 (by omega)).mpr k1, x⟩
/-- what firstHour answers, asked for the states m -/
def FHr (K : KEY) (S : Int → Int) (b p m r : Int) : Prop := (bitZ m (k0F S b p) ∧ r = S b) ∨ (¬ bitZ m (k0F S b p) ∧ fsH (S b + S (b + p + 14)) (fun x => ∃ j, 0 ≤ j ∧ j ≤ 19 ∧ bitZ m j ∧ Rch K S b p (x + 1 - (S b + S (b + p + 14))).toNat (S b + S (b + p + 14)) (k0F S b p) j) r)
theorem G_firstHourX {m : Int} (he : 6 ≤ e) (w : WC K S h) (b0 : b % 70 = 0) (hb : 0 ≤ b ∧ b ≤ 1540) (hp : 0 ≤ p ∧ p ≤ 5) (k : ∀ r h', WC K S h' → frL h h' → FHr K S b p m r → Q (some (.inl r)) h') : Rn xs xl e mm_firstHour 0 [some (.inr (.inr 182)), some (.inl b), some (.inl p), some (.inl m), none, none] [] h Q := by
  have kb := KB_of w hp
  obtain ⟨s0, s1, s2, s3⟩ := SB_of w b0 hb hp
  have k0r : 0 ≤ k0F S b p ∧ k0F S b p ≤ 19 := by unfold k0F; split <;> omega
  generalize ef : S b + S (b + p + 14) = f at *
  -- the set before hour hr
  have loop : ¬ bitZ m (k0F S b p) → ∀ (n : Nat) (g : LH) (set hr : Int), 24 - hr ≤ n → S b ≤ hr → hr ≤ 24 → WC K S g → frL h g → i32 set → (∀ j, 0 ≤ j → j < 32 → (bitZ set j ↔ Rch K S b p (hr - f).toNat f (k0F S b p) j)) → (∀ x, f ≤ x → x < hr → ¬ ∃ j, 0 ≤ j ∧ j ≤ 19 ∧ bitZ m j ∧ Rch K S b p (x + 1 - f).toNat f (k0F S b p) j) → Rn xs xl e mm_firstHour 34 [some (.inr (.inr 182)), some (.inl b), some (.inl p), some (.inl m), some (.inl set), some (.inl hr)] [] g Q := by
    intro nm n
    have stop : ∀ (g : LH) (hr : Int), 24 ≤ hr → WC K S g → frL h g → (∀ x, f ≤ x → x < hr → ¬ ∃ j, 0 ≤ j ∧ j ≤ 19 ∧ bitZ m j ∧ Rch K S b p (x + 1 - f).toNat f (k0F S b p) j) → Q (some (.inl (-1))) g := by
      intro g hr h24 gw gf gn
      refine k (-1) g gw gf (Or.inr ⟨nm, Or.inl ⟨rfl, fun x x0 x1 => ?_⟩⟩)
      rw [ef] at x0 ⊢
      exact gn x x0 (by omega)
    induction n with
    | zero =>
      intro g set hr hn h0 h1 gw gf si gi gn
      exact B_firstHour_34 (RF_of gw.1.1) hb hp (by omega) ⟨fun c => stop g hr c gw gf gn, fun c => by omega⟩
    | succ n ih =>
      intro g set hr hn h0 h1 gw gf si gi gn
      have e0 : rd g 198 b = S b := by rw [gw.2.2]
      have e1 : rd g 198 (b + p + 14) = S (b + p + 14) := by rw [gw.2.2]
      have t84 : ∀ (g' : LH) (set' : Int), hr < 24 → WC K S g' → frL h g' → i32 set' → (∀ j, 0 ≤ j → j < 32 → (bitZ set' j ↔ Rch K S b p (hr + 1 - f).toNat f (k0F S b p) j)) → Rn xs xl e mm_firstHour 84 [some (.inr (.inr 182)), some (.inl b), some (.inl p), some (.inl m), some (.inl set), some (.inl hr)] [.inl set'] g' Q := by
        intro g' set' hl gw' gf' si' gi'
        have hit : zand set' m ≠ 0 ↔ ∃ j, 0 ≤ j ∧ j ≤ 19 ∧ bitZ m j ∧ Rch K S b p (hr + 1 - f).toNat f (k0F S b p) j := by
          rw [zand_ne]
          constructor
          · rintro ⟨j, j0, j1, a, c⟩
            have y := (gi' j j0 j1).mp a
            have i := Rch_in kb (by omega) (by omega) k0r.1 k0r.2 y
            exact ⟨j, i.1, i.2, c, y⟩
          · rintro ⟨j, j0, j1, a, c⟩
            exact ⟨j, j0, by omega, (gi' j j0 (by omega)).mpr c, a⟩
        refine B_firstHour_84 (RF_of gw'.1.1) hb hp (by omega) ⟨fun z => ih g' set' (hr + 1) (by omega) (by omega) (by omega) gw' gf' si' gi' (fun x x0 x1 => ?_), fun z => ?_⟩
        · by_cases y : x = hr
          · rw [y]
            exact fun v => absurd z (hit.mpr v)
          · exact gn x x0 (by omega)
        · have v := hit.mp z
          have fh : f ≤ hr := by
            refine Classical.byContradiction (fun n => ?_)
            rw [show (hr + 1 - f).toNat = 0 by omega] at v
            obtain ⟨j, j0, j1, a, c⟩ := v
            have c : k0F S b p = j := c
            rw [c] at nm
            exact nm a
          refine k hr g' gw' gf' (Or.inr ⟨nm, Or.inr ?_⟩)
          rw [ef]
          exact ⟨fh, hl, v, fun x x0 x1 => gn x x0 x1⟩
      have stpc : hr < 24 → ¬ (hr = S b ∧ S (b + p + 14) = 1) → ∃ c, c < e ∧ Rn xs xl c mm_stepOf 0 [some (.inr (.inr 182)), some (.inl b), some (.inl p), some (.inl set), some (.inl hr), none, none, none, none, none] [] g (fun r h' => Rn xs xl e mm_firstHour 84 [some (.inr (.inr 182)), some (.inl b), some (.inl p), some (.inl m), some (.inl set), some (.inl hr)] (r.toList ++ []) h' Q) := by
        intro hl hn2
        refine ⟨5, by omega, G_stepOfX (by omega) gw hb hp (by omega) si (fun r g' gw' gf' ri rb => t84 g' r hl gw' (gf.trans gf') ri (fun j j0 j1 => ?_))⟩
        have el : (hr + 1 - f).toNat = (hr - f).toNat + 1 := by omega
        have ec : f + (((hr - f).toNat : Nat) : Int) = hr := by omega
        rw [rb j j0 j1, el, Rch_stp kb (by omega) (by omega) k0r.1 k0r.2, ec]
        exact stp_congr gi j0 j1
      refine B_firstHour_34 (RF_of gw.1.1) hb hp (by omega) ⟨fun c => stop g hr c gw gf gn, fun c => ⟨fun c1 => stpc c (by omega), fun c1 => ⟨fun c2 => stpc c (by omega), fun c2 => t84 g set c gw gf si (fun j j0 j1 => ?_)⟩⟩⟩
      rw [gi j j0 j1, show (hr + 1 - f).toNat = (hr - f).toNat by omega]
  have e0 : rd h 198 b = S b := by rw [w.2.2]
  have e2 : rd h 198 (b + p + 2) = S (b + p + 2) := by rw [w.2.2]
  have e8 : rd h 198 (b + p + 8) = S (b + p + 8) := by rw [w.2.2]
  have strt : ∀ x : Int, 0 ≤ x → x ≤ 19 → k0F S b p = x → (zand (zshl 1 x) m = 0 → Rn xs xl e mm_firstHour 34 [some (.inr (.inr 182)), some (.inl b), some (.inl p), some (.inl m), some (.inl (zshl 1 x)), some (.inl (rd h 198 b))] [] h Q) ∧ (zand (zshl 1 x) m ≠ 0 → Q (some (.inl (rd h 198 b))) h) := by
    intro x x0 x1 hx
    have hit : zand (zshl 1 x) m ≠ 0 ↔ bitZ m x := by
      rw [zand_ne]
      constructor
      · rintro ⟨j, j0, j1, a, c⟩
        rw [bit_shl x0 (by omega) j0 j1] at a
        rw [← a]; exact c
      · intro a
        exact ⟨x, x0, by omega, (bit_shl x0 (by omega) x0 (by omega)).mpr rfl, a⟩
    rw [e0]
    refine ⟨fun c => loop (by rw [hx]; exact fun y => absurd c (hit.mpr y)) 24 h _ (S b) (by omega) (by omega) (by omega) w (frL.refl h) (zshl_i _ _) (fun j j0 j1 => ?_) (fun y y0 y1 => by omega), fun c => k _ h w (frL.refl h) (Or.inl ⟨by rw [hx]; exact hit.mp c, rfl⟩)⟩
    rw [show (S b - f).toNat = 0 by omega, bit_shl x0 (by omega) j0 j1, hx]
    exact ⟨fun y => y.symm, fun y => y.symm⟩
  refine B_firstHour_0 (RF_of w.1.1) hb hp (by omega) ⟨fun c => ?_, fun c => ?_⟩
  · rw [e8] at c
    rw [e2]
    have y := strt (S (b + p + 2)) (by omega) (by omega) (by unfold k0F; rw [if_neg c])
    exact ⟨by omega, y.1, y.2⟩
  · rw [e8] at c
    rw [e2]
    have y := strt (S (b + p + 2) + 10) (by omega) (by omega) (by unfold k0F; rw [if_pos c])
    exact ⟨by omega, y.1, y.2⟩
end PL4
