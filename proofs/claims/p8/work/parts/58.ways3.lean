/-! LM, part 58: the reference's ways: the way itself -/
section C14
variable {xs : Nat → Int} {xl e : Nat} {h : LH} {Q : Option LV → LH → Prop} {K : KEY} {S : Int → Int} {b p : Int}
-- the table alone
def FOK (K : KEY) (S : Int → Int) (b p till lo : Int) (F : Int → Int) : Prop := lastR K p till F ∧ ∀ hr q, lo ≤ hr → hr ≤ till → 0 ≤ q → q ≤ 19 → good K S b p F hr q
theorem F_mono {till lo : Int} {F : Int → Int} (f : FOK K S b p till lo F) {q : Int} (hq : 0 ≤ q ∧ q ≤ 19) : ∀ (n : Nat) (hr : Int), lo ≤ hr → hr + n ≤ till + 1 → F (20 * hr + q) ≤ F (20 * (hr + n) + q)
  | 0, hr, _, _ => by rw [show hr + ((0 : Nat) : Int) = hr by omega]; exact Int.le_refl _
  | n + 1, hr, h0, h1 => by
    have a := (f.2 hr q h0 (by omega) hq.1 hq.2).2.1
    have c := F_mono f hq n (hr + 1) (by omega) (by omega)
    rw [show hr + ((n + 1 : Nat) : Int) = hr + 1 + n by omega]
    omega
theorem F_rng {till lo : Int} {F : Int → Int} (f : FOK K S b p till lo F) {q hr : Int} (hq : 0 ≤ q ∧ q ≤ 19) (h0 : lo ≤ hr) (h1 : hr ≤ till + 1) : 0 ≤ F (20 * hr + q) ∧ F (20 * hr + q) ≤ 1000000 := by
  by_cases c : hr = till + 1
  · rw [c, f.1 q hq.1 hq.2]
    split <;> omega
  · exact (f.2 hr q h0 (by omega) hq.1 hq.2).1
theorem F_fin {till lo g : Int} {F : Int → Int} (kb : KB K p) (hg : g = K.1 (4 * p + 117) + 10) (f : FOK K S b p till lo F) (lo0 : 0 ≤ lo) (t1 : till ≤ 23) : ∀ (n : Nat) (hr q : Int), 0 ≤ q → q ≤ 19 → q % 10 < K.1 0 → lo ≤ hr → hr + n = till + 1 → Rch K S b p n hr q g → F (20 * hr + q) ≤ n
  | 0, hr, q, q0, q1, _, h0, h1, r => by
    have r : q = g := r
    rw [show hr = till + 1 by omega, f.1 q q0 q1, if_pos (by omega)]
    omega
  | n + 1, hr, q, q0, q1, qr, h0, h1, r => by
    obtain ⟨g1, g2, g3, g4⟩ := f.2 hr q h0 (by omega) q0 q1
    rcases r with r | ⟨d, d0, d1, d2, r⟩
    · have := F_fin kb hg f lo0 t1 n (hr + 1) q q0 q1 qr (by omega) (by omega) r
      omega
    · have t := tr_ok (S := S) (b := b) (hr := hr) kb ⟨q0, q1⟩ ⟨d0, d1⟩ (by omega)
      have := F_fin kb hg f lo0 t1 n (hr + 1) _ d2 t.2.1 (t.2.2 d2) (by omega) (by omega) r
      have := g3 qr d d0 d1 d2
      omega
theorem F_next {till lo : Int} {F : Int → Int} (f : FOK K S b p till lo F) {q : Int} (hq : 0 ≤ q ∧ q ≤ 19) : ∀ (n : Nat) (hr : Int), lo ≤ hr → hr + n = till + 1 → 0 < F (20 * hr + q) → F (20 * hr + q) < 1000000 → ∃ x d, hr ≤ x ∧ x ≤ till ∧ 0 ≤ d ∧ d < K.1 1 ∧ 0 ≤ tr K S b p x q d ∧ F (20 * (x + 1) + tr K S b p x q d) + 1 = F (20 * hr + q)
  | 0, hr, h0, h1, a, c => by
    rw [show hr = till + 1 by omega, f.1 q hq.1 hq.2] at a c
    split at a <;> omega
  | n + 1, hr, h0, h1, a, c => by
    obtain ⟨g1, g2, g3, g4⟩ := f.2 hr q h0 (by omega) hq.1 hq.2
    rcases g4 with r | ⟨d, d0, d1, d2, r⟩
    · obtain ⟨x, d, x0, x1, d0, d1, d2, r2⟩ := F_next f hq n (hr + 1) (by omega) (by omega) (by omega) (by omega)
      exact ⟨x, d, by omega, x1, d0, d1, d2, by omega⟩
    · exact ⟨hr, d, by omega, by omega, d0, d1, d2, by omega⟩
theorem F_zero {till lo g : Int} {F : Int → Int} (kb : KB K p) (hg : g = K.1 (4 * p + 117) + 10) (f : FOK K S b p till lo F) (lo0 : 0 ≤ lo) (t1 : till ≤ 23) {q : Int} (hq : 0 ≤ q ∧ q ≤ 19) : ∀ (n : Nat) (hr : Int), lo ≤ hr → hr + n = till + 1 → F (20 * hr + q) = 0 → q = g
  | 0, hr, h0, h1, a => by
    rw [show hr = till + 1 by omega, f.1 q hq.1 hq.2] at a
    split at a
    · omega
    · omega
  | n + 1, hr, h0, h1, a => by
    obtain ⟨g1, g2, g3, g4⟩ := f.2 hr q h0 (by omega) hq.1 hq.2
    rcases g4 with r | ⟨d, d0, d1, d2, r⟩
    · exact F_zero kb hg f lo0 t1 hq n (hr + 1) (by omega) (by omega) (by omega)
    · have t := tr_ok (S := S) (b := b) (hr := hr) kb hq ⟨d0, d1⟩ (by omega)
      have := F_rng f (q := tr K S b p hr q d) (hr := hr + 1) ⟨d2, t.2.1⟩ (by omega) (by omega)
      omega
theorem F_goal {till lo g hr : Int} {F : Int → Int} (kb : KB K p) (hg : g = K.1 (4 * p + 117) + 10) (f : FOK K S b p till lo F) (h0 : lo ≤ hr) (h1 : hr ≤ till + 1) : F (20 * hr + g) = 0 := by
  have k4 := kb.2.2.2.1
  have m := F_mono f (q := g) (by omega) (till + 1 - hr).toNat hr h0 (by omega)
  have l := f.1 g (by omega) (by omega)
  rw [if_pos hg] at l
  rw [show hr + (((till + 1 - hr).toNat : Nat) : Int) = till + 1 by omega, l] at m
  have := F_rng f (q := g) (hr := hr) (by omega) h0 h1
  omega
/-- the first hour in which a door leads on -/
def frst (K : KEY) (S : Int → Int) (b p hour till q d x : Int) : Prop := hour ≤ x ∧ x ≤ till ∧ 0 ≤ tr K S b p x q d ∧ ∀ y, hour ≤ y → y < x → tr K S b p y q d < 0
def frN (h h' : LH) : Prop := ∀ a i, a ≠ 196 → a ≠ 197 → ¬ (a = 182 ∧ (i = 35 ∨ i = 36)) → rd h' a i = rd h a i
theorem WC_fld {j v : Int} (hj : j = 34 ∨ j = 35 ∨ j = 36) (w : WC K S h) (hI : INV (wr h 182 j v)) : WC K S (wr h 182 j v) := by
  refine ⟨hI, ?_, ?_⟩
  · rw [← w.2.1]
    unfold key
    rw [show rd (wr h 182 j v) 188 = rd h 188 from funext (fun i => rdw_ne (by decide)), show rd (wr h 182 j v) 189 = rd h 189 from funext (fun i => rdw_ne (by decide)), show rd (wr h 182 j v) 190 = rd h 190 from funext (fun i => rdw_ne (by decide)), rdw_nei (by omega), rdw_nei (by omega), rdw_nei (by omega), rdw_nei (by omega)]
  · rw [← w.2.2]
    exact funext (fun i => rdw_ne (by decide))
theorem D_isNext {q d hour till left : Int} (he : 5 ≤ e) (w : WC K S h) (hb : 0 ≤ b ∧ b ≤ 1540) (hp : 0 ≤ p ∧ p ≤ 5) (hq : 0 ≤ q ∧ q ≤ 19) (hd : 0 ≤ d ∧ d < K.1 1) (hh : 0 ≤ hour ∧ hour ≤ till + 1) (ht : till ≤ 23) (k1 : ∀ h' x, WC K S h' → frN h h' → frst K S b p hour till q d x → rd h 201 (20 * (x + 1) + tr K S b p x q d) = left → rd h' 182 35 = tr K S b p x q d → rd h' 182 36 = x + 1 → Q (some (.inl 1)) h') (k0 : ∀ h', WC K S h' → frN h h' → (∀ x, frst K S b p hour till q d x → rd h 201 (20 * (x + 1) + tr K S b p x q d) ≠ left) → Q (some (.inl 0)) h') : Rn xs xl e mm_isNext 0 [some (.inr (.inr 182)), some (.inl b), some (.inl p), some (.inl q), some (.inl d), some (.inl hour), some (.inl till), some (.inl left), none, none] [] h Q := by
  have kb := KB_of w hp
  have kd := kb.1
  have nw : ∀ x, 0 ≤ x → x ≤ 24 → (0 ≤ tr K S b p x q d ↔ 0 ≤ NW K (S (b + 1)) (K.1 (4 * p + 116)) d (q % 10) x) := by
    intro x _ _
    unfold tr
    split
    · omega
    · split <;> omega
  have t39 : ∀ (g : LH) (x : Int), hour ≤ x → (till < x ∨ (x ≤ till ∧ 0 ≤ tr K S b p x q d)) → (∀ y, hour ≤ y → y < x → y ≤ till → tr K S b p y q d < 0) → WC K S g → frL h g → Rn xs xl e mm_isNext 39 [some (.inr (.inr 182)), some (.inl b), some (.inl p), some (.inl q), some (.inl d), some (.inl hour), some (.inl till), some (.inl left), some (.inl x), none] [] g Q := by
    intro g x x0 x1 x2 gw gf
    have frn : frN h g := fun a i n1 n2 _ => gf a i n1 n2
    have es : rd g 188 (4 * p + 116) = K.1 (4 * p + 116) := by rw [← gw.2.1]; rfl
    refine B_isNext_39 (RF_of gw.1.1) hb hp hq (by omega) ⟨fun c => ⟨4, by omega, ?_⟩, fun c => k0 g gw frn (fun y hy => ?_)⟩
    · have tx : 0 ≤ tr K S b p x q d := by
        rcases x1 with z | z
        · omega
        · exact z.2
      rw [es]
      refine D_leadsNow (by omega) gw hb (by omega) kb.2.2.1 (by omega) (by omega) (fun u uw uf => ?_)
      have e3 : rd u 188 (4 * p + 118) = K.1 (4 * p + 118) := by rw [← uw.2.1]; rfl
      have nb := NW_ok K (S (b + 1)) (s := K.1 (4 * p + 116)) (d := d) (room := q % 10) (hr := x) (by omega) kb.2.2.1 (by omega) (by omega)
      have n0 := (nw x (by omega) (by omega)).mp tx
      have htr : tr K S b p x q d = (if NW K (S (b + 1)) (K.1 (4 * p + 116)) d (q % 10) x < 0 then -1 else NW K (S (b + 1)) (K.1 (4 * p + 116)) d (q % 10) x + (if 10 ≤ q ∨ NW K (S (b + 1)) (K.1 (4 * p + 116)) d (q % 10) x = K.1 (4 * p + 118) then 10 else 0)) := rfl
      have tb := tr_ok (S := S) (b := b) (hr := x) kb hq hd (by omega)
      have fx : frst K S b p hour till q d x := ⟨x0, c, tx, fun y y0 y1 => x2 y y0 y1 (by omega)⟩
      have only : ∀ y, frst K S b p hour till q d y → y = x := by
        intro y hy
        rcases Int.lt_trichotomy y x with z | z | z
        · have := fx.2.2.2 y hy.1 z
          have := hy.2.2.1
          omega
        · exact z
        · have := hy.2.2.2 x x0 z
          omega
      have eu : ∀ i, rd u 201 i = rd h 201 i := fun i => (uf 201 i (by decide) (by decide)).trans (gf 201 i (by decide) (by decide))
      generalize NW K (S (b + 1)) (K.1 (4 * p + 116)) d (q % 10) x = z at *
      have fin : ∀ y i : Int, tr K S b p x q d = y → i = 20 * (x + 1) + y → (rd u 201 i ≠ left → Q (some (.inl 0)) (wr (wr u 182 35 y) 182 36 (x + 1))) ∧ (rd u 201 i = left → Q (some (.inl 1)) (wr (wr u 182 35 y) 182 36 (x + 1))) := by
        intro y i hy hi
        rw [hi, eu]
        have w1 := WC_fld (j := 35) (v := y) (by omega) uw (wF_nextState uw.1 (by omega) (by omega))
        have w2 := WC_fld (j := 36) (v := x + 1) (by omega) w1 (wF_nextHour w1.1 (by omega) (by omega))
        have fr : frN h (wr (wr u 182 35 y) 182 36 (x + 1)) := by
          intro a j n1 n2 n3
          rw [rd_wr, if_neg (by rintro ⟨rfl, rfl⟩; exact n3 ⟨rfl, Or.inr rfl⟩), rd_wr, if_neg (by rintro ⟨rfl, rfl⟩; exact n3 ⟨rfl, Or.inl rfl⟩), uf a j n1 n2]
          exact gf a j n1 n2
        refine ⟨fun c1 => k0 _ w2 fr (fun y2 hy2 => ?_), fun c1 => k1 _ x w2 fr fx (by rw [hy]; exact c1) ((rdw_nei (by decide)).trans (rdw_eq.trans hy.symm)) rdw_eq⟩
        rw [only y2 hy2, hy]
        exact c1
      refine B_isNext_67 (RF_of uw.1.1) hb hp hq (by omega) (by omega) (by omega) ⟨fun c3 => ?_, fun c3 => ⟨fun c6 => ?_, fun c6 => ?_⟩⟩
      · have f := fin (z + 10) (20 * (x + 1) + (z + 10)) (by rw [htr, if_neg (by omega), if_pos (Or.inl c3)]) rfl
        exact ⟨by omega, by omega, by omega, f.1, f.2⟩
      · have f := fin z (20 * (x + 1) + z) (by rw [htr, if_neg (by omega), if_neg (by omega), Int.add_zero]) rfl
        exact ⟨by omega, by omega, by omega, f.1, f.2⟩
      · have f := fin (z + 10) (20 * (x + 1) + (z + 10)) (by rw [htr, if_neg (by omega), if_pos (Or.inr (by omega))]) rfl
        exact ⟨by omega, by omega, by omega, f.1, f.2⟩
    · have := x2 y hy.1 (by have := hy.2.1; omega) hy.2.1
      have := hy.2.2.1
      omega
  have loop : ∀ (n : Nat) (g : LH) (x : Int), till + 1 - x ≤ n → hour ≤ x → x ≤ till + 1 → (∀ y, hour ≤ y → y < x → tr K S b p y q d < 0) → WC K S g → frL h g → Rn xs xl e mm_isNext 4 [some (.inr (.inr 182)), some (.inl b), some (.inl p), some (.inl q), some (.inl d), some (.inl hour), some (.inl till), some (.inl left), some (.inl x), none] [] g Q := by
    intro n
    induction n with
    | zero =>
      intro g x hn x0 x1 x2 gw gf
      exact B_isNext_4 (RF_of gw.1.1) hb hp hq (by omega) (by omega) ⟨fun c => t39 g x x0 (Or.inl c) (fun y y0 y1 _ => x2 y y0 y1) gw gf, fun c => by omega⟩
    | succ n ih =>
      intro g x hn x0 x1 x2 gw gf
      have es : rd g 188 (4 * p + 116) = K.1 (4 * p + 116) := by rw [← gw.2.1]; rfl
      refine B_isNext_4 (RF_of gw.1.1) hb hp hq (by omega) (by omega) ⟨fun c => t39 g x x0 (Or.inl c) (fun y y0 y1 _ => x2 y y0 y1) gw gf, fun c => ⟨4, by omega, ?_⟩⟩
      rw [es]
      refine D_leadsNow (by omega) gw hb (by omega) kb.2.2.1 (by omega) (by omega) (fun u uw uf => ?_)
      have iff := nw x (by omega) (by omega)
      refine B_isNext_30 (RF_of uw.1.1) hb hp (by omega) ⟨fun c2 => t39 u x x0 (Or.inr ⟨c, iff.mpr c2⟩) (fun y y0 y1 _ => x2 y y0 y1) uw (gf.trans uf), fun c2 => ih u (x + 1) (by omega) (by omega) (by omega) (fun y y0 y1 => ?_) uw (gf.trans uf)⟩
      by_cases hy : y = x
      · rw [hy]
        have : ¬ 0 ≤ tr K S b p x q d := fun z => by have := iff.mp z; omega
        omega
      · exact x2 y y0 (by omega)
  exact B_isNext_0 (RF_of w.1.1) hb hp (loop (till + 1 - hour).toNat h hour (by omega) (by omega) (by omega) (fun y y0 y1 => by omega) w (frL.refl h))
def frW (h h' : LH) : Prop := ∀ a i, a ≠ 196 → a ≠ 197 → a ≠ 201 → a ≠ 202 → ¬ (a = 182 ∧ (i = 34 ∨ i = 35 ∨ i = 36)) → rd h' a i = rd h a i
theorem D_findWay (he : 8 ≤ e) (w : WC K S h) (b0 : b % 70 = 0) (hb : 0 ≤ b ∧ b ≤ 1540) (hp : 0 ≤ p ∧ p ≤ 5) (hro : S (b + p + 2) < K.1 0) (k : ∀ r h', WC K S h' → frW h h' → -1 ≤ r → r ≤ 24 → rd h' 182 34 ≤ 24 → (0 < rd h' 182 34 → rd h' 202 0 < K.1 1) → Q (some (.inl r)) h') : Rn xs xl e mm_findWay 0 [some (.inr (.inr 182)), some (.inl b), some (.inl p), none, none, none, none, none] [] h Q := by
  have kb := KB_of w hp
  have sb := SB_of w b0 hb hp
  obtain ⟨s0, s1, s2, s3⟩ := sb
  have kd := kb.1
  have kr := kb.2.1
  have kh := kb.2.2.2.1
  refine B_findWay_0 (RF_of w.1.1) hb hp ⟨7, by omega, D_errandHour (by omega) w b0 hb hp (fun till g gw gf hr => ?_)⟩
  have e2 : rd g 198 (b + p + 2) = S (b + p + 2) := by rw [gw.2.2]
  have e8 : rd g 198 (b + p + 8) = S (b + p + 8) := by rw [gw.2.2]
  have e7 : rd g 188 (4 * p + 117) = K.1 (4 * p + 117) := by rw [← gw.2.1]; rfl
  have w1 := WC_fld (j := 34) (v := 0) (by omega) gw (wF_wayMany gw.1 (by omega) (by omega))
  have f1 : frW h (wr g 182 34 0) := by
    intro a i n1 n2 n3 n4 n5
    rw [rd_wr, if_neg (by rintro ⟨rfl, rfl⟩; exact n5 ⟨rfl, Or.inl rfl⟩)]
    exact gf a i n1 n2
  have tb : -1 ≤ till ∧ till ≤ 24 := by
    rcases hr with z | z
    · omega
    · omega
  have ret : Q (some (.inl till)) (wr g 182 34 0) := k till _ w1 f1 tb.1 tb.2 (by rw [rdw_eq]; omega) (by rw [rdw_eq]; intro z; omega)
  -- there is a way
  have go : ∀ q0 : Int, k0F S b p = q0 → 0 ≤ q0 → q0 ≤ 19 → q0 % 10 < K.1 0 → 0 ≤ till → q0 ≠ K.1 (4 * p + 117) + 10 → ∃ c, c < e ∧ Rn xs xl c mm_findFewest 0 [some (.inr (.inr 182)), some (.inl b), some (.inl p), some (.inl till), none, none, none, none, none, none, none] [] (wr g 182 34 0) (fun r h' => Rn xs xl e mm_findWay 73 [some (.inr (.inr 182)), some (.inl b), some (.inl p), some (.inl till), some (.inl q0), none, none, none] (r.toList ++ []) h' Q) := by
    intro q0 hq0 x0 x1 x2 t0 hne
    obtain ⟨z0, z1, z2, z3⟩ : S b ≤ till ∧ till ≤ 23 ∧ till ≤ 24 ∧ Rch K S b p (till + 1 - (S b + S (b + p + 14))).toNat (S b + S (b + p + 14)) q0 (K.1 (4 * p + 117) + 10) := by
      rcases hr with z | ⟨z1, z2, z | z⟩
      · omega
      · omega
      · rw [hq0] at z
        exact ⟨z1, z.1, z2, z.2⟩
    refine ⟨5, by omega, D_findFewest (by omega) w1 b0 hb hp (by omega) (fun u uw uf ul ug => ?_)⟩
    have F : FOK K S b p till (S b) (rd u 201) := ⟨ul, ug⟩
    have u34 : rd u 182 34 = 0 := (uf 182 34 (by decide) (by decide) (by decide)).trans rdw_eq
    have u0 : rd u 198 b = S b := by rw [uw.2.2]
    have u14 : rd u 198 (b + p + 14) = S (b + p + 14) := by rw [uw.2.2]
    -- hour of beginning
    by_cases late : till + 1 < S b + S (b + p + 14)
    · exfalso
      rw [show (till + 1 - (S b + S (b + p + 14))).toNat = 0 by omega] at z3
      exact hne z3
    have fin := F_fin kb rfl F s0.1 z1 (till + 1 - (S b + S (b + p + 14))).toNat (S b + S (b + p + 14)) q0 x0 x1 x2 (by omega) (by omega) z3
    refine B_findWay_73 (RF_of uw.1.1) hb hp ⟨by omega, ?_⟩
    rw [u0, u14]
    -- the way, door by door
    have way : ∀ (n : Nat) (v : LH) (q hour : Int) (o6 o7 : Option LV), rd u 201 (20 * hour + q) = n → 0 ≤ q → q ≤ 19 → q % 10 < K.1 0 → S b ≤ hour → hour ≤ till + 1 → WC K S v → frW h v → (∀ i, rd v 201 i = rd u 201 i) → rd v 182 34 + n ≤ 24 → (0 < rd v 182 34 → rd v 202 0 < K.1 1) → Rn xs xl e mm_findWay 95 [some (.inr (.inr 182)), some (.inl b), some (.inl p), some (.inl till), some (.inl q), some (.inl hour), o6, o7] [] v Q := by
      intro n
      induction n with
      | zero =>
        intro v q hour o6 o7 hn q0' q1 q2 h0 h1 vw vf ve vm vz
        have eq := F_zero kb rfl F s0.1 z1 ⟨q0', q1⟩ (till + 1 - hour).toNat hour h0 (by omega) hn
        have ev := ve (20 * hour + q)
        have e7v : rd v 188 (4 * p + 117) = K.1 (4 * p + 117) := by rw [← vw.2.1]; rfl
        exact B_findWay_95 (RF_of vw.1.1) hb hp ⟨q0', q1⟩ (by omega) (by omega) ⟨by omega, fun c => by omega, fun _ => ⟨fun _ => k till v vw vf tb.1 tb.2 (by omega) vz, fun c => by omega⟩⟩
      | succ n ih =>
        intro v q hour o6 o7 hn q0' q1 q2 h0 h1 vw vf ve vm vz
        have ev := ve (20 * hour + q)
        have e7v : rd v 188 (4 * p + 117) = K.1 (4 * p + 117) := by rw [← vw.2.1]; rfl
        have v34 := rF_wayMany vw.1.1
        have qg : q ≠ K.1 (4 * p + 117) + 10 := by
          intro z
          have := F_goal kb z F h0 h1
          omega
        obtain ⟨x, d, xx0, xx1, d0, d1, d2, dr⟩ := F_next F ⟨q0', q1⟩ (till + 1 - hour).toNat hour h0 (by omega) (by omega) (by omega)
        -- the first door that is on a way
        have dl : ∀ (m : Nat) (y : LH) (door : Int), d - door ≤ m → 0 ≤ door → door ≤ d → WC K S y → frW h y → (∀ i, rd y 201 i = rd u 201 i) → (rd y 182 34 = rd v 182 34 ∧ rd y 202 0 = rd v 202 0) → Rn xs xl e mm_findWay 145 [some (.inr (.inr 182)), some (.inl b), some (.inl p), some (.inl till), some (.inl q), some (.inl hour), some (.inl (n : Int)), some (.inl door)] [] y Q := by
          have step : ∀ (y : LH) (door : Int), 0 ≤ door → door ≤ d → WC K S y → frW h y → (∀ i, rd y 201 i = rd u 201 i) → (rd y 182 34 = rd v 182 34 ∧ rd y 202 0 = rd v 202 0) → (∀ y' : LH, door ≠ d → WC K S y' → frW h y' → (∀ i, rd y' 201 i = rd u 201 i) → (rd y' 182 34 = rd v 182 34 ∧ rd y' 202 0 = rd v 202 0) → Rn xs xl e mm_findWay 145 [some (.inr (.inr 182)), some (.inl b), some (.inl p), some (.inl till), some (.inl q), some (.inl hour), some (.inl (n : Int)), some (.inl (door + 1))] [] y' Q) → Rn xs xl e mm_findWay 145 [some (.inr (.inr 182)), some (.inl b), some (.inl p), some (.inl till), some (.inl q), some (.inl hour), some (.inl (n : Int)), some (.inl door)] [] y Q := by
            intro y door dr0 dr1 yw yf ye ym more
            refine B_findWay_145 (RF_of yw.1.1) hb hp ⟨5, by omega, D_isNext (by omega) yw hb hp ⟨q0', q1⟩ ⟨dr0, by omega⟩ (by omega) (by omega) (fun y' z yw' yf' fz ez n35 n36 => ?_) (fun y' yw' yf' no => ?_)⟩
            · have t := tr_ok (S := S) (b := b) (hr := z) kb ⟨q0', q1⟩ ⟨dr0, by omega⟩ (by have := fz.1; have := fz.2.1; omega)
              have ym' : rd y' 182 34 = rd v 182 34 := (yf' 182 34 (by decide) (by decide) (by omega)).trans ym.1
              have yz' : rd y' 202 0 = rd v 202 0 := (yf' 202 0 (by decide) (by decide) (by omega)).trans ym.2
              have fwy : frW h y' := fun a i n1 n2 n3 n4 n5 => (yf' a i n1 n2 (fun c => n5 ⟨c.1, by omega⟩)).trans (yf a i n1 n2 n3 n4 n5)
              have i1 : INV (wr y' 202 (rd y' 182 34) door) := wA_wayDoors yw'.1 (by omega) (by omega) (by omega)
              have wv : WC K S (wr y' 202 (rd y' 182 34) door) := by
                refine ⟨i1, ?_, ?_⟩
                · rw [← yw'.2.1]
                  unfold key
                  rw [show rd (wr y' 202 (rd y' 182 34) door) 188 = rd y' 188 from funext (fun i => rdw_ne (by decide)), show rd (wr y' 202 (rd y' 182 34) door) 189 = rd y' 189 from funext (fun i => rdw_ne (by decide)), show rd (wr y' 202 (rd y' 182 34) door) 190 = rd y' 190 from funext (fun i => rdw_ne (by decide)), rdw_ne (by decide), rdw_ne (by decide), rdw_ne (by decide), rdw_ne (by decide)]
                · rw [← yw'.2.2]
                  exact funext (fun i => rdw_ne (by decide))
              have w3 := WC_fld (j := 34) (v := rd y' 182 34 + 1) (by omega) wv (wF_wayMany wv.1 (by omega) (by omega))
              refine B_findWay_160_1 (RF_of yw'.1.1) hb hp ⟨by omega, by omega, ?_⟩
              rw [n35, n36]
              have fz2 := fz.2.1
              have fz1 := fz.1
              refine ih _ _ (z + 1) _ _ ?_ fz.2.2.1 t.2.1 (t.2.2 fz.2.2.1) (by omega) (by omega) w3 (fun a i n1 n2 n3 n4 n5 => ?_) (fun i => ?_) ?_ ?_
              · rw [← ye]
                exact ez
              · rw [rd_wr, if_neg (by rintro ⟨rfl, rfl⟩; exact n5 ⟨rfl, Or.inl rfl⟩), rdw_ne (fun c => n4 c.symm)]
                exact fwy a i n1 n2 n3 n4 n5
              · rw [rdw_ne (by decide), rdw_ne (by decide), yf' 201 i (by decide) (by decide) (by omega)]
                exact ye i
              · rw [rdw_eq]
                omega
              · intro _
                rw [rdw_ne (by decide)]
                by_cases zz : rd y' 182 34 = 0
                · rw [zz, rdw_eq]
                  omega
                · rw [rdw_nei zz, yz']
                  exact vz (by omega)
            · have ym' : rd y' 182 34 = rd v 182 34 := (yf' 182 34 (by decide) (by decide) (by omega)).trans ym.1
              have yz' : rd y' 202 0 = rd v 202 0 := (yf' 202 0 (by decide) (by decide) (by omega)).trans ym.2
              have fwy : frW h y' := fun a i n1 n2 n3 n4 n5 => (yf' a i n1 n2 (fun c => n5 ⟨c.1, by omega⟩)).trans (yf a i n1 n2 n3 n4 n5)
              have ye' : ∀ i, rd y' 201 i = rd u 201 i := fun i => (yf' 201 i (by decide) (by decide) (by omega)).trans (ye i)
              have ne : door ≠ d := by
                intro hdd
                subst hdd
                -- the first hour of this door
                obtain ⟨f, ff⟩ : ∃ f, frst K S b p hour till q door f := by
                  have ex : ∀ (m : Nat), ∀ a : Int, a = hour + m → (∀ y, hour ≤ y → y < a → tr K S b p y q door < 0) ∨ ∃ f, frst K S b p hour till q door f ∨ till < f := by
                    intro m
                    induction m with
                    | zero => exact fun a ha => Or.inl (fun y y0 y1 => by omega)
                    | succ m im =>
                      intro a ha
                      rcases im (a - 1) (by omega) with z | z
                      · by_cases c : 0 ≤ tr K S b p (a - 1) q door
                        · by_cases c2 : a - 1 ≤ till
                          · exact Or.inr ⟨a - 1, Or.inl ⟨by omega, c2, c, fun y y0 y1 => z y y0 y1⟩⟩
                          · exact Or.inr ⟨a - 1, Or.inr (by omega)⟩
                        · refine Or.inl (fun y y0 y1 => ?_)
                          by_cases hy : y = a - 1
                          · rw [hy]; omega
                          · exact z y y0 (by omega)
                      · exact Or.inr z
                  have fnd : ∀ (m : Nat), hour + m ≤ x + 1 → (∀ y, hour ≤ y → y < hour + m → tr K S b p y q door < 0) ∨ ∃ f, frst K S b p hour till q door f := by
                    intro m
                    induction m with
                    | zero => exact fun _ => Or.inl (fun y y0 y1 => by omega)
                    | succ m im =>
                      intro hm
                      rcases im (by omega) with z | z
                      · by_cases c : 0 ≤ tr K S b p (hour + m) q door
                        · exact Or.inr ⟨hour + m, by omega, by omega, c, fun y y0 y1 => z y y0 y1⟩
                        · refine Or.inl (fun y y0 y1 => ?_)
                          by_cases hy : y = hour + m
                          · rw [hy]; omega
                          · exact z y y0 (by omega)
                      · exact Or.inr z
                  rcases fnd (x + 1 - hour).toNat (by omega) with z | z
                  · have := z x xx0 (by omega)
                    omega
                  · exact z
                have fx : f ≤ x := by
                  rcases Int.lt_or_le x f with z | z
                  · have := ff.2.2.2 x xx0 z
                    omega
                  · exact z
                have f0 := ff.1
                have f1' := ff.2.1
                have f2 := ff.2.2.1
                have same := tr_hour (S := S) (b := b) (hr := x) (hr' := f) kb ⟨q0', q1⟩ ⟨dr0, by omega⟩ (by omega) (by omega) d2 f2
                have t := tr_ok (S := S) (b := b) (hr := x) kb ⟨q0', q1⟩ ⟨dr0, by omega⟩ (by omega)
                have m1 := F_mono F (q := tr K S b p x q door) ⟨d2, t.2.1⟩ (x - f).toNat (f + 1) (by omega) (by omega)
                rw [show f + 1 + (((x - f).toNat : Nat) : Int) = x + 1 by omega] at m1
                have m2 := F_mono F (q := q) ⟨q0', q1⟩ (f - hour).toNat hour h0 (by omega)
                rw [show hour + (((f - hour).toNat : Nat) : Int) = f by omega] at m2
                have m3 := (F.2 f q (by omega) f1' q0' q1).2.2.1 q2 door dr0 (by omega) f2
                have nn := no f ff
                rw [ye, same] at nn
                rw [same] at m3
                omega
              exact B_findWay_160_0 (RF_of yw'.1.1) hb hp (by omega) (more y' ne yw' fwy ye' ⟨ym', yz'⟩)
          intro m
          induction m with
          | zero => exact fun y door hm dr0 dr1 yw yf ye ym => step y door dr0 dr1 yw yf ye ym (fun y' ne _ _ _ _ => by omega)
          | succ m im => exact fun y door hm dr0 dr1 yw yf ye ym => step y door dr0 dr1 yw yf ye ym (fun y' ne yw' yf' ye' ym' => im y' (door + 1) (by omega) (by omega) (by omega) yw' yf' ye' ym')
        have en : rd v 201 (20 * hour + q) - 1 = (n : Int) := by omega
        refine B_findWay_95 (RF_of vw.1.1) hb hp ⟨q0', q1⟩ (by omega) (by omega) ⟨by omega, fun _ => ⟨by omega, ?_⟩, fun c => by omega⟩
        rw [en]
        exact dl d.toNat v 0 (by omega) (by omega) (by omega) vw vf ve ⟨rfl, rfl⟩
    have r0 := F_rng F (q := q0) (hr := S b + S (b + p + 14)) ⟨x0, x1⟩ (by omega) (by omega)
    refine way (rd u 201 (20 * (S b + S (b + p + 14)) + q0)).toNat u q0 _ _ _ (by omega) x0 x1 x2 (by omega) (by omega) uw (fun a i n1 n2 n3 n4 n5 => ?_) (fun _ => rfl) (by omega) (fun z => by omega)
    rw [uf a i n1 n2 n3]
    exact f1 a i n1 n2 n3 n4 n5
  refine B_findWay_6 (RF_of gw.1.1) hb hp (by omega) ⟨fun c => ?_, fun c => ?_⟩
  · rw [e2, e7]
    have hk : k0F S b p = S (b + p + 2) := by unfold k0F; rw [if_neg (by omega)]
    exact ⟨by omega, fun _ => ret, fun t0 => ⟨by omega, fun ne => go _ hk (by omega) (by omega) (by omega) t0 ne, fun _ => ret⟩⟩
  · rw [e2, e7]
    have hk : k0F S b p = S (b + p + 2) + 10 := by unfold k0F; rw [if_pos (by omega)]
    exact ⟨by omega, fun _ => ret, fun t0 => ⟨by omega, fun ne => go _ hk (by omega) (by omega) (by omega) t0 ne, fun _ => ret⟩⟩
end C14
