section
/-! LM, part 46: the reference cuts its tape, reads a day -/
def muC (a i : Int) : Prop := (a = 182 ∧ (i = 2 ∨ i = 3 ∨ i = 7 ∨ i = 8)) ∨ a = 184 ∨ a = 185 ∨ a = 186
theorem INV_sort {h : LH} (hI : INV h) {i v : Int} (hi : i ≠ 1000) (h0 : 0 ≤ v) (h1 : v ≤ 4) : INV (wr h 184 i v) := by
  refine INV_wr hI (by unfold sens; omega) ?_
  rw [hA_sort, lkd_1 (by decide +kernel)]
  exact ⟨rfl, ⟨by omega, by omega⟩, h0, h1, Int.one_dvd _⟩
theorem INV_sort0 {h : LH} (hI : INV h) {i : Int} : INV (wr h 184 i 0) := by
  refine ⟨wR_sort hI.1 (by omega) (by omega), SP_of (fun b j hb => ?_) hI.2⟩
  rw [rd_wr]
  split
  · next q =>
    obtain ⟨rfl, rfl⟩ := q
    have : i = 1000 := by unfold sens at hb; omega
    subst this
    exact hI.2.2.2.1.symm
  · rfl
theorem i64_of {a : Int} (h : i32 a) : i64 a := i32_64 h
section C6
variable {xs : Nat → Int} {xl e : Nat} {h : LH} {Q : Option LV → LH → Prop} {v1 v2 v3 : Int}
theorem D_isSignOf (hF : RF h) (k : ∀ r, r = 0 ∨ r = 1 → Q (some (.inl r)) h) : Rn xs xl e mm_isSignOf 0 [some (.inl v1)] [] h Q := by
  have k0 := k 0 (Or.inl rfl)
  have k1 := k 1 (Or.inr rfl)
  exact B_isSignOf_0 hF ⟨fun _ => k1, fun _ => ⟨fun _ => k1, fun _ => ⟨fun _ => k1, fun _ => ⟨fun _ => k1, fun _ => ⟨fun _ => k1, fun _ => ⟨fun _ => k1, fun _ => ⟨fun _ => k1, fun _ => ⟨fun _ => k0, fun _ => k1⟩⟩⟩⟩⟩⟩⟩⟩
theorem D_cutAll (he : 2 ≤ e) (hI : INV h) (k : ∀ h', INV h' → rd h' 182 7 = 0 → rd h' 182 8 = 0 → rd h' 182 2 = 0 → (∀ a i, ¬ muC a i → rd h' a i = rd h a i) → Q none h') : Rn xs xl e mm_cutAll 0 [some (.inr (.inr 182)), none, none, none, none, none, none] [] h Q := by
  have t0 := rF_taped hI.1
  have loop : ∀ (n : Nat) (g : LH) (a b : Int) (o3 o4 o5 o6 : Option LV), 1000 - b ≤ n → INV g → rd g 182 2 = 0 → (∀ x i, ¬ muC x i → rd g x i = rd h x i) → 0 ≤ a → a ≤ b → b ≤ rd g 182 3 → Rn xs xl e mm_cutAll 17 [some (.inr (.inr 182)), some (.inl a), some (.inl b), o3, o4, o5, o6] [] g Q := by
    intro n
    induction n with
    | zero =>
      intro g a b o3 o4 o5 o6 hn gI g2 gf a0 ab bs
      have s0 := rF_size gI.1
      refine B_cutAll_17 (RF_of gI.1) (by omega) ⟨fun c => ⟨by omega, by omega, ?_⟩, fun c => by omega⟩
      have i1 : INV (wr g 184 a 0) := INV_sort0 gI
      have i2 := wA_place i1 (i := a) (v := rd g 182 3) (by omega) (by omega) (by omega)
      have i4 := wF_fault (wF_at i2 (v := 0) (by omega) (by omega)) (v := 0) (by omega) (by omega)
      refine k _ i4 ((rdw_nei (by decide)).trans rdw_eq) rdw_eq ?_ (fun x i hx => ?_)
      · exact ((rdw_nei (by decide)).trans ((rdw_nei (by decide)).trans ((rdw_ne (by decide)).trans (rdw_ne (by decide))))).trans g2
      · rw [← gf x i hx, rd_wr, if_neg, rd_wr, if_neg, rd_wr, if_neg, rd_wr, if_neg] <;> (rintro ⟨rfl, rfl⟩; exact hx (by unfold muC; omega))
    | succ n ih =>
      intro g a b o3 o4 o5 o6 hn gI g2 gf a0 ab bs
      have s0 := rF_size gI.1
      have fin : rd g 182 3 ≤ b → Q none (wr (wr (wr (wr g 184 a 0) 185 a (rd g 182 3)) 182 7 0) 182 8 0) := by
        intro c
        have i1 : INV (wr g 184 a 0) := INV_sort0 gI
        have i2 := wA_place i1 (i := a) (v := rd g 182 3) (by omega) (by omega) (by omega)
        have i4 := wF_fault (wF_at i2 (v := 0) (by omega) (by omega)) (v := 0) (by omega) (by omega)
        refine k _ i4 ((rdw_nei (by decide)).trans rdw_eq) rdw_eq ?_ (fun x i hx => ?_)
        · exact ((rdw_nei (by decide)).trans ((rdw_nei (by decide)).trans ((rdw_ne (by decide)).trans (rdw_ne (by decide))))).trans g2
        · rw [← gf x i hx, rd_wr, if_neg, rd_wr, if_neg, rd_wr, if_neg, rd_wr, if_neg] <;> (rintro ⟨rfl, rfl⟩; exact hx (by unfold muC; omega))
      by_cases hb : rd g 182 3 ≤ b
      · exact B_cutAll_17 (RF_of gI.1) (by omega) ⟨fun c => ⟨by omega, by omega, fin c⟩, fun c => by omega⟩
      have i1 : INV (wr g 185 a b) := wA_place gI (by omega) (by omega) (by omega)
      have z3 : rd (wr g 185 a b) 182 3 = rd g 182 3 := rdw_ne (by decide)
      have zt : ∀ i, rd (wr g 185 a b) 183 i = rd g 183 i := fun i => rdw_ne (by decide)
      have tb := rA_tape gI.1 (i := b) (by omega)
      -- behind a token
      have t265 : ∀ (s b' c v5 : Int), 0 ≤ s → s ≤ 4 → b + 1 ≤ b' → b' ≤ rd g 182 3 → i64 v5 → Rn xs xl e mm_cutAll 265 [some (.inr (.inr 182)), some (.inl a), some (.inl b'), some (.inl c), some (.inl b), some (.inr (.inl v5)), none] [] (wr (wr g 185 a b) 184 a s) Q := by
        intro s b' c v5 s0' s1 b0 b1 v64
        have i2 : INV (wr (wr g 185 a b) 184 a s) := INV_sort i1 (by omega) s0' s1
        have i3 := wA_value i2 (i := a) (v := v5) (by omega) v64
        refine B_cutAll_265 (RF_of i2.1) ⟨by omega, by omega, ih _ _ _ _ _ _ _ (by omega) i3 ?_ (fun x i hx => ?_) (by omega) (by omega) ?_⟩
        · exact ((rdw_ne (by decide)).trans ((rdw_ne (by decide)).trans (rdw_ne (by decide)))).trans g2
        · rw [← gf x i hx, rd_wr, if_neg, rd_wr, if_neg, rd_wr, if_neg] <;> (rintro ⟨rfl, rfl⟩; exact hx (by unfold muC; omega))
        · rw [show rd (wr (wr (wr g 185 a b) 184 a s) 186 a v5) 182 3 = rd g 182 3 from (rdw_ne (by decide)).trans ((rdw_ne (by decide)).trans (rdw_ne (by decide)))]
          exact b1
      have hF1 := RF_of i1.1
      -- letters
      have t129 : ∀ (b' c v5 : Int), b + 1 ≤ b' → b' ≤ rd g 182 3 → i64 v5 → Rn xs xl e mm_cutAll 129 [some (.inr (.inr 182)), some (.inl a), some (.inl b'), some (.inl c), some (.inl b), some (.inr (.inl v5)), none] [] (wr g 185 a b) Q := by
        intro b' c v5 b0 b1 v64
        exact B_cutAll_129 hF1 ⟨by omega, fun _ => ⟨by omega, t265 1 b' c v5 (by omega) (by omega) b0 b1 v64⟩, fun _ => ⟨by omega, t265 4 b' c v5 (by omega) (by omega) b0 b1 v64⟩⟩
      have t70 : ∀ (m : Nat) (b' c v5 : Int), rd g 182 3 - b' ≤ m → b + 1 ≤ b' → b' ≤ rd g 182 3 → i64 v5 → Rn xs xl e mm_cutAll 70 [some (.inr (.inr 182)), some (.inl a), some (.inl b'), some (.inl c), some (.inl b), some (.inr (.inl v5)), none] [] (wr g 185 a b) Q := by
        intro m
        induction m with
        | zero =>
          intro b' c v5 hm b0 b1 v64
          exact B_cutAll_70 hF1 he ⟨fun _ => t129 b' c v5 b0 b1 v64, fun q => by omega⟩
        | succ m im =>
          intro b' c v5 hm b0 b1 v64
          refine B_cutAll_70 hF1 he ⟨fun _ => t129 b' c v5 b0 b1 v64, fun q => ?_⟩
          have tc := rA_tape i1.1 (i := b') (by omega)
          have nx : ∀ w : Int, i64 w → Rn xs xl e mm_cutAll 123 [some (.inr (.inr 182)), some (.inl a), some (.inl b'), some (.inl c), some (.inl b), some (.inr (.inl w)), none] [] (wr g 185 a b) Q := fun w w64 => B_cutAll_123 hF1 ⟨by omega, im (b' + 1) c w (by omega) (by omega) (by omega) w64⟩
          exact ⟨by omega, fun _ => t129 b' c v5 b0 b1 v64, fun _ => ⟨fun _ => t129 b' c v5 b0 b1 v64, fun _ => ⟨by omega, fun _ => nx _ v64, fun _ => ⟨by omega, fun _ => ⟨by omega, nx _ (w64_in _)⟩, fun _ => ⟨fun _ => ⟨by omega, nx _ (w64_in _)⟩, fun _ => ⟨by omega, nx _ (w64_in _)⟩⟩⟩⟩⟩⟩
      have k70 : 97 ≤ rd g 183 b → rd g 183 b ≤ 122 → Rn xs xl e mm_cutAll 70 [some (.inr (.inr 182)), some (.inl a), some (.inl b), some (.inl (rd g 183 b)), some (.inl b), some (.inr (.inl 0)), none] [] (wr g 185 a b) Q := by
        intro c1 c2
        have ez := zt b
        have nx : ∀ w : Int, i64 w → Rn xs xl e mm_cutAll 123 [some (.inr (.inr 182)), some (.inl a), some (.inl b), some (.inl (rd g 183 b)), some (.inl b), some (.inr (.inl w)), none] [] (wr g 185 a b) Q := fun w w64 => B_cutAll_123 hF1 ⟨by omega, t70 (rd g 182 3 - (b + 1)).toNat (b + 1) _ w (by omega) (by omega) (by omega) w64⟩
        exact B_cutAll_70 hF1 he ⟨fun q => by omega, fun _ => ⟨by omega, fun q => by omega, fun _ => ⟨fun q => by omega, fun _ => ⟨by omega, fun q => by omega, fun _ => ⟨by omega, fun q => by omega, fun _ => ⟨fun q => by omega, fun _ => ⟨by omega, nx _ (w64_in _)⟩⟩⟩⟩⟩⟩⟩
      -- digits
      have t218 : ∀ (b' c v5 : Int), b + 1 ≤ b' → b' ≤ rd g 182 3 → i64 v5 → Rn xs xl e mm_cutAll 218 [some (.inr (.inr 182)), some (.inl a), some (.inl b'), some (.inl c), some (.inl b), some (.inr (.inl v5)), none] [] (wr g 185 a b) Q := by
        intro b' c v5 b0 b1 v64
        exact B_cutAll_218 hF1 ⟨by omega, fun _ => ⟨by omega, t265 2 b' c v5 (by omega) (by omega) b0 b1 v64⟩, fun _ => ⟨by omega, t265 4 b' c v5 (by omega) (by omega) b0 b1 v64⟩⟩
      have t159 : ∀ (m : Nat) (b' c v5 : Int), rd g 182 3 - b' ≤ m → b + 1 ≤ b' → b' ≤ rd g 182 3 → i64 v5 → Rn xs xl e mm_cutAll 159 [some (.inr (.inr 182)), some (.inl a), some (.inl b'), some (.inl c), some (.inl b), some (.inr (.inl v5)), none] [] (wr g 185 a b) Q := by
        intro m
        induction m with
        | zero =>
          intro b' c v5 hm b0 b1 v64
          exact B_cutAll_159 hF1 (by omega) ⟨fun _ => t218 b' c v5 b0 b1 v64, fun q => by omega⟩
        | succ m im =>
          intro b' c v5 hm b0 b1 v64
          refine B_cutAll_159 hF1 (by omega) ⟨fun _ => t218 b' c v5 b0 b1 v64, fun q => ?_⟩
          have nx : ∀ w : Int, i64 w → Rn xs xl e mm_cutAll 212 [some (.inr (.inr 182)), some (.inl a), some (.inl b'), some (.inl c), some (.inl b), some (.inr (.inl w)), none] [] (wr g 185 a b) Q := fun w w64 => B_cutAll_212 hF1 ⟨by omega, im (b' + 1) c w (by omega) (by omega) (by omega) w64⟩
          exact ⟨by omega, fun _ => t218 b' c v5 b0 b1 v64, fun _ => ⟨fun _ => t218 b' c v5 b0 b1 v64, fun _ => ⟨by omega, fun _ => nx _ v64, fun _ => ⟨by omega, nx _ (w64_in _)⟩⟩⟩⟩
      have k159 : 48 ≤ rd g 183 b → rd g 183 b ≤ 57 → Rn xs xl e mm_cutAll 159 [some (.inr (.inr 182)), some (.inl a), some (.inl b), some (.inl (rd g 183 b)), some (.inl b), some (.inr (.inl 0)), none] [] (wr g 185 a b) Q := by
        intro c1 c2
        have ez := zt b
        have nx : ∀ w : Int, i64 w → Rn xs xl e mm_cutAll 212 [some (.inr (.inr 182)), some (.inl a), some (.inl b), some (.inl (rd g 183 b)), some (.inl b), some (.inr (.inl w)), none] [] (wr g 185 a b) Q := fun w w64 => B_cutAll_212 hF1 ⟨by omega, t159 (rd g 182 3 - (b + 1)).toNat (b + 1) _ w (by omega) (by omega) (by omega) w64⟩
        exact B_cutAll_159 hF1 (by omega) ⟨fun q => by omega, fun _ => ⟨by omega, fun q => by omega, fun _ => ⟨fun q => by omega, fun _ => ⟨by omega, fun q => by omega, fun _ => ⟨by omega, nx _ (w64_in _)⟩⟩⟩⟩⟩
      -- signs
      have k240 : Rn xs xl e mm_cutAll 240 [some (.inr (.inr 182)), some (.inl a), some (.inl b), some (.inl (rd g 183 b)), some (.inl b), some (.inr (.inl 0)), none] [] (wr g 185 a b) Q := by
        refine B_cutAll_240 hF1 ⟨0, by omega, D_isSignOf hF1 (fun r hr => ?_)⟩
        have v64 : i64 (rd g 183 b) := ⟨by omega, by omega⟩
        exact B_cutAll_253 hF1 ⟨fun _ => ⟨by omega, by omega, t265 4 (b + 1) _ _ (by omega) (by omega) (by omega) (by omega) v64⟩, fun _ => ⟨by omega, by omega, t265 3 (b + 1) _ _ (by omega) (by omega) (by omega) (by omega) v64⟩⟩
      have bl : ∀ x, Rn xs xl e mm_cutAll 17 [some (.inr (.inr 182)), some (.inl a), some (.inl (b + 1)), x, o4, o5, o6] [] g Q := fun x => ih g a (b + 1) _ _ _ _ (by omega) gI g2 gf a0 (by omega) (by omega)
      exact B_cutAll_17 (RF_of gI.1) (by omega) ⟨fun c => ⟨by omega, by omega, fin c⟩, fun _ => ⟨by omega, fun _ => ⟨by omega, bl _⟩, fun _ => ⟨fun _ => ⟨by omega, fun _ => ⟨fun _ => k240, fun c1 => ⟨fun _ => k240, fun c2 => k159 c1 c2⟩⟩, fun c1 => ⟨fun _ => ⟨fun _ => k240, fun c2 => ⟨fun _ => k240, fun c3 => k159 c2 c3⟩⟩, fun c2 => k70 c1 c2⟩⟩, fun _ => ⟨by omega, bl _⟩⟩⟩⟩
  have i1 : INV (wr (wr h 182 3 (rd h 182 2)) 182 2 0) := wF_taped (wF_size hI (by omega) (by omega)) (by omega) (by omega)
  have e3 : rd (wr (wr h 182 3 (rd h 182 2)) 182 2 0) 182 3 = rd h 182 2 := (rdw_nei (by decide)).trans rdw_eq
  refine B_cutAll_0 (RF_of hI.1) (loop 1000 _ 0 0 none none none none (by omega) i1 rdw_eq (fun x i hx => ?_) (by omega) (by omega) (by omega))
  rw [rd_wr, if_neg, rd_wr, if_neg] <;> (rintro ⟨rfl, rfl⟩; exact hx (by unfold muC; omega))
end C6
end
section
/-! LM, part 47: the reference reads a day -/
theorem SP_195 {h h' : LH} (e : ∀ b j, sens b j → b ≠ 195 → rd h' b j = rd h b j) (hp : pairsOk h' 195 1) (hs : SP h) : SP h' := by
  obtain ⟨⟨h1, h2, h3, h4, h5, h6, h7, h8⟩, hl, ht, hq, hw⟩ := hs
  have c : ∀ b j, (b = 63 ∨ b = 64 ∨ b = 71 ∨ b = 72 ∨ b = 106 ∨ b = 107 ∨ b = 114 ∨ b = 115 ∨ b = 122 ∨ b = 123 ∨ b = 130 ∨ b = 131 ∨ b = 200) → rd h' b j = rd h b j := fun b j hb => e b j (sens_c hb) (by rintro rfl; revert hb; decide)
  have e0 : ∀ j, 0 ≤ j → j < 150 → rd h' 188 j = rd h 188 j := fun j j0 j1 => e 188 j (by unfold sens; omega) (by decide)
  refine ⟨⟨lines_same (fun j => c _ j (by omega)) (fun j => c _ j (by omega)) h1, lines_same (fun j => c _ j (by omega)) (fun j => c _ j (by omega)) h2, lines_same (fun j => c _ j (by omega)) (fun j => c _ j (by omega)) h3, lines_same (fun j => c _ j (by omega)) (fun j => c _ j (by omega)) h4, lines_same (fun j => c _ j (by omega)) (fun j => c _ j (by omega)) h5, lines_same (fun j => c _ j (by omega)) (fun j => c _ j (by omega)) h6, hp, ?_⟩, ?_, ?_, ?_, ?_⟩
  · intro m m0 m1 k k0 k1 q
    rw [c 200 _ (by omega)] at q ⊢
    exact h8 m m0 m1 k k0 k1 q
  · intro q
    rw [e0 3 (by decide) (by decide)] at q
    obtain ⟨n, n1, n2, n3⟩ := hl q
    exact ⟨n, n1, seg_same n2 (fun k k1 k2 => ⟨e 189 k (by unfold sens; omega) (by decide), e 190 k (by unfold sens; omega) (by decide)⟩), by rw [e 189 n (by unfold sens; omega) (by decide)]; exact n3⟩
  · unfold SPtok
    rw [e 184 1000 (by unfold sens; omega) (by decide)]
    exact ht
  · refine ⟨fun d d0 d1 d2 => ?_, fun p p0 p1 p2 => ?_⟩
    · rw [e0 1 (by decide) (by decide)] at d2
      rw [e0 (5 + 8 * d) (by omega) (by omega), e0 (6 + 8 * d) (by omega) (by omega), e0 0 (by decide) (by decide)]
      exact hq.1 d d0 d1 d2
    · rw [e0 2 (by decide) (by decide)] at p2
      rw [e0 (117 + 4 * p) (by omega) (by omega), e0 0 (by decide) (by decide)]
      exact hq.2 p p0 p1 p2
  · obtain ⟨w1, w2, w3⟩ := hw
    have x0 := e0 0 (by decide) (by decide)
    have x2 := e0 2 (by decide) (by decide)
    refine ⟨wOk_same x0 x2 (fun p p0 p1 => e 198 _ (by unfold sens; omega) (by decide)) w1, fun m m0 m1 q => ?_, fun j j0 j1 q => ?_⟩
    · rw [e 199 m (by unfold sens; omega) (by decide)] at q
      exact wOk_same x0 x2 (fun p p0 p1 => e 198 _ (by unfold sens; omega) (by decide)) (w2 m m0 m1 q)
    · rw [e 182 25 (by unfold sens; omega) (by decide)] at q
      exact wOk_same x0 x2 (fun p p0 p1 => e 198 _ (by unfold sens; omega) (by decide)) (w3 j j0 j1 q)
def muL (a i : Int) : Prop := (a = 182 ∧ (i = 7 ∨ i = 8 ∨ i = 21)) ∨ (a = 195 ∧ 50 ≤ i)
theorem muT_L (x i : Int) (q : muT x i) : muL x i := by unfold muT at q; unfold muL; omega
def dl (h : LH) : Prop := ∀ k, 0 ≤ k → k < rd h 182 21 → (-1 ≤ rd h 195 (50 + 2 * k) ∧ rd h 195 (50 + 2 * k) ≤ 5) ∧ (-1 ≤ rd h 195 (51 + 2 * k) ∧ rd h 195 (51 + 2 * k) ≤ 13) ∧ (0 ≤ rd h 195 (50 + 2 * k) → 0 ≤ rd h 195 (51 + 2 * k))
theorem INV_l {h : LH} (hI : INV h) {i v : Int} (i0 : 50 ≤ i) (i1 : i < 100) (hv : i32 v) : INV (wr h 195 i v) := wX_lines hI (by omega) (by unfold sens; omega) (ix := (0, 50, 99, 1)) (lo := -2147483648) (hi := 2147483647) (by decide +kernel) (inv1 i0 (by omega)) hv.1 hv.2 hv
theorem PG_l {h : LH} {i v : Int} (hp : PB h) (i0 : 50 ≤ i) (i1 : i < 100) (hv : i32 v) : PG muL h (wr h 195 i v) := by
  refine ⟨⟨INV_l hp.1 i0 i1 hv, trivial⟩, by rw [rdw_ne (by decide)]; exact Int.le_refl _, by rw [rdw_ne (by decide)]; exact id, fun a j hn => ?_⟩
  rw [rd_wr, if_neg]
  rintro ⟨rfl, rfl⟩
  exact hn (by unfold muL; omega)
theorem dl_T {h h' : LH} (p : PG muT h h') (hd : dl h) : dl h' := by
  have e : ∀ i, rd h' 195 i = rd h 195 i := fun i => p.2.2.2 _ _ (by unfold muT; omega)
  intro k k0 k1
  rw [p.2.2.2 182 21 (by unfold muT; omega)] at k1
  rw [e, e]
  exact hd k k0 k1
section C7
variable {xs : Nat → Int} {xl e : Nat} {h : LH} {Q : Option LV → LH → Prop}
/-- a line more -/
theorem turn_end {h g : LH} {x y v : Int} (hv : v = rd g 182 21 + 1) (hd : dl h) (h23 : rd h 182 21 ≤ 23) (h0 : 0 ≤ rd h 182 21) (p : PG muL h g) (e21 : rd g 182 21 = rd h 182 21) (lt : rd h 182 7 < rd g 182 7) (old : ∀ i, i < 50 + 2 * rd h 182 21 → rd g 195 i = rd h 195 i) (ex : rd g 195 (50 + 2 * rd h 182 21) = x) (ey : rd g 195 (51 + 2 * rd h 182 21) = y) (hxy : rd g 182 8 = 0 → -1 ≤ x ∧ x ≤ 5 ∧ -1 ≤ y ∧ y ≤ 13 ∧ (0 ≤ x → 0 ≤ y)) (k : ∀ h', PG muL h h' → rd h 182 7 < rd h' 182 7 → rd h' 182 21 = rd h 182 21 + 1 → (rd h' 182 8 = 0 → dl h') → Q none h') : Q none (wr g 182 21 v) := by
  subst hv
  have x7 : rd (wr g 182 21 (rd g 182 21 + 1)) 182 7 = rd g 182 7 := rdw_nei (by decide)
  have x8 : rd (wr g 182 21 (rd g 182 21 + 1)) 182 8 = rd g 182 8 := rdw_nei (by decide)
  have x21 : rd (wr g 182 21 (rd g 182 21 + 1)) 182 21 = rd g 182 21 + 1 := rdw_eq
  have xl' : ∀ i, rd (wr g 182 21 (rd g 182 21 + 1)) 195 i = rd g 195 i := fun i => rdw_ne (by decide)
  refine k _ ⟨⟨wF_readLines p.inv (by omega) (by omega), trivial⟩, by rw [x7]; exact p.2.1, by rw [x8]; exact p.2.2.1, fun a i hn => ?_⟩ (by omega) (by omega) (fun z => ?_)
  · rw [rd_wr, if_neg]
    · exact p.2.2.2 a i hn
    · rintro ⟨rfl, rfl⟩
      exact hn (by unfold muL; omega)
  · rw [x8] at z
    obtain ⟨y1, y2, y3, y4, y5⟩ := hxy z
    intro m m0 m1
    rw [xl', xl']
    by_cases hm : m = rd h 182 21
    · subst hm
      rw [ex, ey]
      exact ⟨⟨y1, y2⟩, ⟨y3, y4⟩, y5⟩
    · rw [old _ (by omega), old _ (by omega)]
      exact hd m m0 (by omega)
theorem D_readTurn (he : 4 ≤ e) (hp : PB h) (h9 : rd h 182 7 ≤ 999) (h23 : rd h 182 21 ≤ 23) (hd : dl h) (k : ∀ h', PG muL h h' → rd h 182 7 < rd h' 182 7 → rd h' 182 21 = rd h 182 21 + 1 → (rd h' 182 8 = 0 → dl h') → Q none h') : Rn xs xl e mm_readTurn 0 [some (.inr (.inr 182)), none, none] [] h Q := by
  have hF := RF_of hp.1.1
  have ha := rF_at hp.1.1
  have hl := rF_readLines hp.1.1
  have p1 := PG_at hp (v := rd h 182 7 + 1) (by omega) (by omega)
  have e7 : rd (wr h 182 7 (rd h 182 7 + 1)) 182 7 = rd h 182 7 + 1 := rdw_eq
  have e21 : rd (wr h 182 7 (rd h 182 7 + 1)) 182 21 = rd h 182 21 := rdw_nei (by decide)
  have eL : ∀ i, rd (wr h 182 7 (rd h 182 7 + 1)) 195 i = rd h 195 i := fun i => rdw_ne (by decide)
  have go : ∀ w : Int, Rn xs xl e mm_readTurn 16 [some (.inr (.inr 182)), some (.inl (2 * rd h 182 21 + 50)), none] [.inl w] h Q := by
    intro w
    refine B_readTurn_16 hF ⟨by omega, fun c => ⟨3, by omega, D_takeTold (by omega) p1.1 (by omega) (by omega) (fun r h2 p2 a2 r32 => ?_)⟩, fun c => ⟨by omega, by omega, fun c2 => absurd c2 c, fun _ => ⟨by omega, by omega, ?_⟩⟩⟩
    · have e2 : rd h2 182 21 = rd h 182 21 := (p2.2.2.2 _ _ (by unfold muT; omega)).trans e21
      have l2 : ∀ i, rd h2 195 i = rd h 195 i := fun i => (p2.2.2.2 _ _ (by unfold muT; omega)).trans (eL i)
      have q2 := p2.2.1
      have p3 := PG_l p2.1 (i := 2 * rd h 182 21 + 50) (v := r) (by omega) (by omega) r32
      refine B_readTurn_48 p2.rf ⟨by omega, by omega, fun _ => ⟨3, by omega, D_takeTold (by omega) p3.1 (by omega) (by omega) (fun s h4 p4 a4 s32 => ?_)⟩, fun c2 => absurd c c2⟩
      have q4 := p4.2.1
      have q3 := p3.2.1
      have l4 : ∀ i, rd h4 195 i = rd (wr h2 195 (2 * rd h 182 21 + 50) r) 195 i := fun i => p4.2.2.2 _ _ (by unfold muT; omega)
      have e4 : rd h4 182 21 = rd h 182 21 := (p4.2.2.2 _ _ (by unfold muT; omega)).trans ((rdw_ne (by decide)).trans e2)
      have p5 := PG_l p4.1 (i := 2 * rd h 182 21 + 50 + 1) (v := s) (by omega) (by omega) s32
      have pAll : PG muL h (wr h4 195 (2 * rd h 182 21 + 50 + 1) s) := ((((p1.mono muT_L).trans (p2.mono muT_L)).trans p3).trans (p4.mono muT_L)).trans p5
      have e5 : rd (wr h4 195 (2 * rd h 182 21 + 50 + 1) s) 182 21 = rd h4 182 21 := rdw_ne (by decide)
      have e58 : rd (wr h4 195 (2 * rd h 182 21 + 50 + 1) s) 182 8 = rd h4 182 8 := rdw_ne (by decide)
      have e57 : rd (wr h4 195 (2 * rd h 182 21 + 50 + 1) s) 182 7 = rd h4 182 7 := rdw_ne (by decide)
      refine B_readTurn_71 p4.rf ⟨by omega, by omega, ?_⟩
      refine turn_end (x := r) (y := s) (by omega) hd h23 hl.1 pAll (by omega) (by omega) (fun i hi => ?_) ?_ ?_ (fun z => ?_) k
      · rw [rdw_nei (by omega), l4, rdw_nei (by omega), l2]
      · rw [rdw_nei (by omega), l4, show (50 + 2 * rd h 182 21 : Int) = 2 * rd h 182 21 + 50 by omega, rdw_eq]
      · rw [show (51 + 2 * rd h 182 21 : Int) = 2 * rd h 182 21 + 50 + 1 by omega, rdw_eq]
      · rw [e58] at z
        have b4 := a4 z
        have z2 := p4.2.2.1 z
        rw [rdw_ne (by decide)] at z2
        have b2 := a2 z2
        omega
    · have p2 := PG_l p1.1 (i := 2 * rd h 182 21 + 50) (v := -1) (by omega) (by omega) (by unfold i32; omega)
      have p3 := PG_l p2.1 (i := 2 * rd h 182 21 + 50 + 1) (v := -1) (by omega) (by omega) (by unfold i32; omega)
      have x21 : rd (wr (wr (wr h 182 7 (rd h 182 7 + 1)) 195 (2 * rd h 182 21 + 50) (-1)) 195 (2 * rd h 182 21 + 50 + 1) (-1)) 182 21 = rd h 182 21 := (rdw_ne (by decide)).trans ((rdw_ne (by decide)).trans e21)
      have x7 : rd (wr (wr (wr h 182 7 (rd h 182 7 + 1)) 195 (2 * rd h 182 21 + 50) (-1)) 195 (2 * rd h 182 21 + 50 + 1) (-1)) 182 7 = rd h 182 7 + 1 := (rdw_ne (by decide)).trans ((rdw_ne (by decide)).trans e7)
      refine turn_end (x := -1) (y := -1) (by omega) hd h23 hl.1 (((p1.mono muT_L).trans p2).trans p3) x21 (by omega) (fun i hi => ?_) ?_ ?_ (fun z => by omega) k
      · rw [rdw_nei (by omega), rdw_nei (by omega), eL]
      · rw [rdw_nei (by omega), show (50 + 2 * rd h 182 21 : Int) = 2 * rd h 182 21 + 50 by omega, rdw_eq]
      · rw [show (51 + 2 * rd h 182 21 : Int) = 2 * rd h 182 21 + 50 + 1 by omega, rdw_eq]
  exact B_readTurn_0 hF ⟨by omega, by omega, 0, by omega, C_isWord hp.1 (by omega) (fun _ => go 1) (fun _ => go 0)⟩
def muY (a i : Int) : Prop := (a = 182 ∧ (i = 0 ∨ i = 2 ∨ i = 3 ∨ i = 7 ∨ i = 8 ∨ i = 21)) ∨ a = 184 ∨ a = 185 ∨ a = 186 ∨ a = 195
theorem copy_lines {H : LH} (hI : INV H) (hd : dl H) (h24 : rd H 182 21 ≤ 24) (k : ∀ g, INV g → (∀ a i, ¬ (a = 195 ∧ 0 ≤ i ∧ i ≤ 48) → rd g a i = rd H a i) → Q (some (.inl 0)) g) : ∀ (n : Nat) (g : LH) (v : Int), 2 * rd H 182 21 - v ≤ n → 0 ≤ v → v ≤ 2 * rd H 182 21 → RNG g → (∀ a i, ¬ (a = 195 ∧ 0 ≤ i ∧ i ≤ 48) → rd g a i = rd H a i) → (∀ j, 0 ≤ j → j < v → rd g 195 (1 + j) = rd H 195 (50 + j)) → (∀ j, v ≤ j → j < 48 → rd g 195 (1 + j) = rd H 195 (1 + j)) → Rn xs xl e mm_day 113 [some (.inr (.inr 182)), some (.inl v)] [] g Q := by
  have hl := rF_readLines hI.1
  have stop : ∀ (g : LH) (v : Int), v = 2 * rd H 182 21 → RNG g → (∀ a i, ¬ (a = 195 ∧ 0 ≤ i ∧ i ≤ 48) → rd g a i = rd H a i) → (∀ j, 0 ≤ j → j < v → rd g 195 (1 + j) = rd H 195 (50 + j)) → (∀ j, v ≤ j → j < 48 → rd g 195 (1 + j) = rd H 195 (1 + j)) → Q (some (.inl 0)) g := by
    intro g v ev gr gf g1 g2
    refine k g ⟨gr, SP_195 (fun b j hb hn => gf b j (by omega)) (fun m m0 m1 q => ?_) hI.2⟩ gf
    by_cases hm : m < rd H 182 21
    · rw [g1 (2 * m) (by omega) (by omega)] at q
      rw [show (1 + 2 * m + 1 : Int) = 1 + (2 * m + 1) by omega, g1 (2 * m + 1) (by omega) (by omega)]
      have x := hd m m0 hm
      rw [show (50 + (2 * m + 1) : Int) = 51 + 2 * m by omega]
      exact x.2.2 q
    · rw [g2 (2 * m) (by omega) (by omega)] at q
      rw [show (1 + 2 * m + 1 : Int) = 1 + (2 * m + 1) by omega, g2 (2 * m + 1) (by omega) (by omega)]
      have x := hI.2.1.2.2.2.2.2.2.1 m m0 m1 q
      rw [show (1 + 2 * m + 1 : Int) = 1 + (2 * m + 1) by omega] at x
      exact x
  intro n
  induction n with
  | zero =>
    intro g v hn v0 v1 gr gf g1 g2
    have e21 : rd g 182 21 = rd H 182 21 := gf _ _ (by omega)
    exact B_day_113 (RF_of gr) ⟨by omega, fun _ => stop g v (by omega) gr gf g1 g2, fun c => by omega⟩
  | succ n ih =>
    intro g v hn v0 v1 gr gf g1 g2
    have e21 : rd g 182 21 = rd H 182 21 := gf _ _ (by omega)
    refine B_day_113 (RF_of gr) ⟨by omega, fun c => stop g v (by omega) gr gf g1 g2, fun c => ⟨by omega, by omega, by omega, by omega, by omega, ?_⟩⟩
    have e50 : rd g 195 (v + 50) = rd H 195 (v + 50) := gf _ _ (by omega)
    have gr2 : RNG (wr g 195 (v + 1) (rd g 195 (v + 50))) := by
      rw [e50]
      rcases (show v % 2 = 0 ∨ v % 2 = 1 by omega) with q | q
      · have x := hd (v / 2) (by omega) (by omega)
        rw [show (50 + 2 * (v / 2) : Int) = v + 50 by omega] at x
        exact wY_lines gr (ix := (0, 1, 47, 2)) (lo := -1) (hi := 5) (by decide +kernel) (invs (s := 2) (k := v / 2) (by omega) (by omega) (by omega)) x.1.1 x.1.2 ⟨by omega, by omega⟩
      · have x := hd (v / 2) (by omega) (by omega)
        rw [show (51 + 2 * (v / 2) : Int) = v + 50 by omega] at x
        exact wY_lines gr (ix := (0, 2, 48, 2)) (lo := -1) (hi := 13) (by decide +kernel) (invs (s := 2) (k := v / 2) (by omega) (by omega) (by omega)) x.2.1.1 x.2.1.2 ⟨by omega, by omega⟩
    refine ih _ (v + 1) (by omega) (by omega) (by omega) gr2 (fun a i hn => ?_) (fun j j0 j1 => ?_) (fun j j0 j1 => ?_)
    · rw [rd_wr, if_neg]
      · exact gf a i hn
      · rintro ⟨rfl, rfl⟩
        exact hn (by omega)
    · rw [rd_wr]
      split
      · next q => rw [e50, show (v + 50 : Int) = 50 + j by omega]
      · next q => exact g1 j j0 (by omega)
    · rw [rdw_nei (by omega)]
      exact g2 j (by omega) j1
theorem D_day (he : 5 ≤ e) (hI : INV h) (k : ∀ r h', INV h' → rd h' 182 2 = 0 → (∀ a i, ¬ muY a i → rd h' a i = rd h a i) → Q (some (.inl r)) h') : Rn xs xl e mm_day 0 [some (.inr (.inr 182)), none] [] h Q := by
  have i0 : INV (wr h 182 0 0) := wF_thrown hI (by omega) (by omega)
  refine B_day_0 (RF_of hI.1) ⟨2, by omega, D_cutAll (by omega) i0 (fun h1 i1 a1 f1 t1 fr1 => ?_)⟩
  have i2 : INV (wr h1 182 21 0) := wF_readLines i1 (by omega) (by omega)
  have fr2 : ∀ a i, ¬ muY a i → rd (wr h1 182 21 0) a i = rd h a i := by
    intro a i hn
    rw [rd_wr, if_neg, fr1 a i (fun q => hn (by unfold muC at q; unfold muY; omega)), rd_wr, if_neg] <;> (rintro ⟨rfl, rfl⟩; exact hn (by unfold muY; omega))
  refine B_day_9 (RF_of i1.1) ?_
  have t89 : ∀ g, INV g → (rd g 182 8 = 0 → dl g) → rd g 182 2 = 0 → (∀ a i, ¬ muY a i → rd g a i = rd h a i) → Rn xs xl e mm_day 89 [some (.inr (.inr 182)), none] [] g Q := by
    intro g gI gd gt gf
    have ff := rF_fault gI.1
    have fl := rF_readLines gI.1
    refine B_day_89 (RF_of gI.1) ⟨fun c => ?_, fun _ => k _ g gI gt gf⟩
    have gd := gd (by omega)
    have iz : INV (wr g 195 0 (rd g 182 21)) := wX_lines gI (by omega) (by unfold sens; omega) (ix := (0, 0, 0, 0)) (lo := 0) (hi := 24) (by decide +kernel) (pt 0) (by omega) (by omega) ⟨by omega, by omega⟩
    have z21 : rd (wr g 195 0 (rd g 182 21)) 182 21 = rd g 182 21 := rdw_ne (by decide)
    have zd : dl (wr g 195 0 (rd g 182 21)) := by
      intro m m0 m1
      rw [z21] at m1
      rw [rdw_nei (by omega), rdw_nei (by omega)]
      exact gd m m0 m1
    refine copy_lines iz zd (by omega) (fun g' gI' gf' => k 0 g' gI' ?_ (fun a i hn => ?_)) (2 * rd g 182 21).toNat _ 0 (by omega) (by omega) (by omega) iz.1 (fun _ _ _ => rfl) (fun j _ _ => by omega) (fun _ _ _ => rfl)
    · rw [gf' _ _ (by omega), rdw_ne (by decide)]
      exact gt
    · rw [gf' a i (fun q => hn (by unfold muY; omega)), rd_wr, if_neg]
      · exact gf a i hn
      · rintro ⟨rfl, rfl⟩
        exact hn (by unfold muY; omega)
  have loop : ∀ (n : Nat) (g : LH), (rd g 182 8 = 0 → 1000 - rd g 182 7 < n) → INV g → (rd g 182 8 = 0 → dl g) → rd g 182 2 = 0 → (∀ a i, ¬ muY a i → rd g a i = rd h a i) → Rn xs xl e mm_day 14 [some (.inr (.inr 182)), none] [] g Q := by
    intro n
    induction n with
    | zero =>
      intro g hn gI gd gt gf
      have aa := rF_at gI.1
      refine B_day_14 (RF_of gI.1) ⟨fun _ => t89 g gI gd gt gf, fun c => ?_⟩
      have := hn c
      omega
    | succ n ih =>
      intro g hn gI gd gt gf
      have aa := rF_at gI.1
      have ll := rF_readLines gI.1
      have gF := RF_of gI.1
      have gp : PB g := ⟨gI, trivial⟩
      refine B_day_14 gF ⟨fun _ => t89 g gI gd gt gf, fun c => ⟨by omega, fun _ => t89 g gI gd gt gf, fun c2 => ?_⟩⟩
      have l9 := at_lt gI c2
      have hn := hn c
      have t80 : ∀ g1, PG muL g g1 → (rd g1 182 8 = 0 → dl g1 ∧ rd g 182 7 < rd g1 182 7) → Rn xs xl e mm_day 80 [some (.inr (.inr 182)), none] [] g1 Q := by
        intro g1 p1 d1
        refine B_day_80 p1.rf ⟨1, by omega, D_takeSign (by omega) p1.1 (fun g2 p2 _ => ?_)⟩
        have pp := p1.trans (p2.mono muT_L)
        have q2 := p2.2.1
        refine B_day_86 p2.rf (ih g2 (fun z => ?_) p2.inv (fun z => dl_T p2 (d1 (p2.2.2.1 z)).1) ?_ (fun a i hm => ?_))
        · have := (d1 (p2.2.2.1 z)).2
          omega
        · rw [pp.2.2.2 _ _ (by unfold muL; omega)]
          exact gt
        · rw [pp.2.2.2 a i (fun q => hm (by unfold muL at q; unfold muY; omega))]
          exact gf a i hm
      have bad : ∀ g1, PG muT g g1 → rd g1 182 8 ≠ 0 → Rn xs xl e mm_day 80 [some (.inr (.inr 182)), none] [] g1 Q := fun g1 p1 z1 => t80 g1 (p1.mono muT_L) (fun z => absurd z z1)
      have rt : rd g 182 21 ≠ 24 → ∃ c, c < e ∧ Rn xs xl c mm_readTurn 0 [some (.inr (.inr 182)), none, none] [] g (fun r h' => Rn xs xl e mm_day 80 [some (.inr (.inr 182)), none] (r.toList ++ []) h' Q) := fun c3 => ⟨4, by omega, D_readTurn (by omega) gp l9 (by omega) (gd c) (fun g1 p1 lt1 _ d1 => t80 g1 p1 (fun z => ⟨d1 z, lt1⟩))⟩
      have w5 : ∃ c, c < e ∧ Rn xs xl c mm_wrong 0 [some (.inr (.inr 182)), some (.inl 5)] [] g (fun r h' => Rn xs xl e mm_day 73 [some (.inr (.inr 182)), none] (r.toList ++ []) h' Q) := ⟨0, by omega, D_wrong gp (by omega) (fun g1 p1 z1 _ => B_day_73 p1.rf (bad g1 p1 z1))⟩
      refine ⟨0, by omega, C_isWord gI (by omega) (fun _ => ?_) (fun _ => ?_)⟩
      · exact B_day_39_1 gF ⟨rt, fun _ => w5⟩
      · refine B_day_39_0 gF ⟨0, by omega, C_isWord gI (by omega) (fun _ => ?_) (fun _ => ?_)⟩
        · exact B_day_48_1 gF ⟨rt, fun _ => w5⟩
        · exact B_day_48_0 gF ⟨0, by omega, D_wrong gp (by omega) (fun g1 p1 z1 _ => B_day_56 p1.rf (bad g1 p1 z1))⟩
  have e7 : rd (wr h1 182 21 0) 182 7 = 0 := (rdw_nei (by decide)).trans a1
  refine loop 1001 _ (fun _ => by omega) i2 (fun _ m m0 m1 => ?_) ((rdw_nei (by decide)).trans t1) fr2
  rw [rdw_eq] at m1
  omega
end C7
end
section
/-! LM, part 48: the reference reads a quarter -/
def SP4 (h : LH) : Prop := SPlines h ∧ SPlaw h ∧ SPtok h ∧ SPq h
theorem SP4_of {h h' : LH} (e : ∀ b j, sens b j → b ≠ 198 → b ≠ 199 → b ≠ 182 → rd h' b j = rd h b j) (hs : SP4 h) : SP4 h' := by
  obtain ⟨⟨h1, h2, h3, h4, h5, h6, h7, h8⟩, hl, ht, hq⟩ := hs
  have c : ∀ b j, (b = 63 ∨ b = 64 ∨ b = 71 ∨ b = 72 ∨ b = 106 ∨ b = 107 ∨ b = 114 ∨ b = 115 ∨ b = 122 ∨ b = 123 ∨ b = 130 ∨ b = 131 ∨ b = 200) → rd h' b j = rd h b j := fun b j hb => e b j (sens_c hb) (by rintro rfl; revert hb; decide) (by rintro rfl; revert hb; decide) (by rintro rfl; revert hb; decide)
  have e0 : ∀ j, 0 ≤ j → j < 150 → rd h' 188 j = rd h 188 j := fun j j0 j1 => e 188 j (by unfold sens; omega) (by decide) (by decide) (by decide)
  refine ⟨⟨lines_same (fun j => c _ j (by omega)) (fun j => c _ j (by omega)) h1, lines_same (fun j => c _ j (by omega)) (fun j => c _ j (by omega)) h2, lines_same (fun j => c _ j (by omega)) (fun j => c _ j (by omega)) h3, lines_same (fun j => c _ j (by omega)) (fun j => c _ j (by omega)) h4, lines_same (fun j => c _ j (by omega)) (fun j => c _ j (by omega)) h5, lines_same (fun j => c _ j (by omega)) (fun j => c _ j (by omega)) h6, ?_, ?_⟩, ?_, ?_, ?_⟩
  · intro k k0 k1 q
    rw [e 195 _ (by unfold sens; omega) (by decide) (by decide) (by decide)] at q ⊢
    exact h7 k k0 k1 q
  · intro m m0 m1 k k0 k1 q
    rw [c 200 _ (by omega)] at q ⊢
    exact h8 m m0 m1 k k0 k1 q
  · intro q
    rw [e0 3 (by decide) (by decide)] at q
    obtain ⟨n, n1, n2, n3⟩ := hl q
    exact ⟨n, n1, seg_same n2 (fun k k1 k2 => ⟨e 189 k (by unfold sens; omega) (by decide) (by decide) (by decide), e 190 k (by unfold sens; omega) (by decide) (by decide) (by decide)⟩), by rw [e 189 n (by unfold sens; omega) (by decide) (by decide) (by decide)]; exact n3⟩
  · unfold SPtok
    rw [e 184 1000 (by unfold sens; omega) (by decide) (by decide) (by decide)]
    exact ht
  · refine ⟨fun d d0 d1 d2 => ?_, fun p p0 p1 p2 => ?_⟩
    · rw [e0 1 (by decide) (by decide)] at d2
      rw [e0 (5 + 8 * d) (by omega) (by omega), e0 (6 + 8 * d) (by omega) (by omega), e0 0 (by decide) (by decide)]
      exact hq.1 d d0 d1 d2
    · rw [e0 2 (by decide) (by decide)] at p2
      rw [e0 (117 + 4 * p) (by omega) (by omega), e0 0 (by decide) (by decide)]
      exact hq.2 p p0 p1 p2
-- the state's places
theorem hs_rng {i lo hi : Int} {A : AV} (h0 : 0 ≤ i) (h1 : lo ≤ i % 70) (h2 : i % 70 ≤ hi) (hc : ((List.range 70).all (fun r => !(decide (lo ≤ (r : Int)) && decide ((r : Int) ≤ hi)) || decide (RGr63.getD r top0 = A))) = true) : hav 198 i = A := by
  have hm : i.toNat % 70 = (i % 70).toNat := by omega
  rw [havM (a := 198) (i := i) (L := RGr63) (n := 70) (r := (i % 70).toNat) (by decide +kernel) (by decide +kernel) hm]
  have h3 := List.all_eq_true.mp hc (i % 70).toNat (List.mem_range.mpr (by omega))
  have e : (((i % 70).toNat : Nat) : Int) = i % 70 := by omega
  rw [e, decide_eq_true h1, decide_eq_true h2] at h3
  simpa using h3
theorem ws {h : LH} (hr : RNG h) {i v : Int} (lo hi l u : Int) (h0 : 0 ≤ i) (h1 : lo ≤ i % 70) (h2 : i % 70 ≤ hi) (hc : ((List.range 70).all (fun r => !(decide (lo ≤ (r : Int)) && decide ((r : Int) ≤ hi)) || decide (RGr63.getD r top0 = (0, l, u, 1)))) = true) (v0 : l ≤ v) (v1 : v ≤ u) (v2 : i32 v) : RNG (wr h 198 i v) := wrR hr (Or.inl (lkd_1 (by decide +kernel))) (fun w hw => by rw [hs_rng h0 h1 h2 hc]; exact hw) v0 v1 v2
theorem wu {h : LH} (hr : RNG h) {v : Int} (v0 : 0 ≤ v) (v1 : v ≤ 16) : RNG (wr h 182 25 v) := wrR hr (Or.inl (by decide +kernel)) (leA1 (by decide +kernel)) v0 v1 ⟨by omega, by omega⟩
section C8
variable {xs : Nat → Int} {xl e : Nat} {h : LH} {Q : Option LV → LH → Prop}
theorem D_startsDay {b : Int} (he : 1 ≤ e) (hr : RNG h) (b0 : b % 70 = 0) (b1 : 0 ≤ b) (b2 : b ≤ 1540) (k : ∀ g, RNG g → (∀ p, 0 ≤ p → p ≤ 5 → rd g 198 (b + 2 + p) = rd h 188 (117 + 4 * p)) → (∀ a i, ¬ (a = 198 ∧ b ≤ i ∧ i < b + 34) → rd g a i = rd h a i) → Q none g) : Rn xs xl e mm_startsDay 0 [some (.inr (.inr 182)), some (.inl b), none] [] h Q := by
  have l84 : ∀ (n : Nat) (g : LH) (v : Int), 14 - v ≤ n → 0 ≤ v → v ≤ 14 → RNG g → (∀ p, 0 ≤ p → p ≤ 5 → rd g 198 (b + 2 + p) = rd h 188 (117 + 4 * p)) → (∀ a i, ¬ (a = 198 ∧ b ≤ i ∧ i < b + 34) → rd g a i = rd h a i) → Rn xs xl e mm_startsDay 84 [some (.inr (.inr 182)), some (.inl b), some (.inl v)] [] g Q := by
    intro n
    induction n with
    | zero =>
      intro g v hn v0 v1 gr gw gf
      exact B_startsDay_84 (RF_of gr) ⟨fun _ => k g gr gw gf, fun c => by omega⟩
    | succ n ih =>
      intro g v hn v0 v1 gr gw gf
      refine B_startsDay_84 (RF_of gr) ⟨fun _ => k g gr gw gf, fun c => ⟨by omega, by omega, by omega, by omega, ih _ (v + 1) (by omega) (by omega) (by omega) (ws gr 20 33 (-2147483648) 2147483647 (by omega) (by omega) (by omega) (by decide +kernel) (by omega) (by omega) (by unfold i32; omega)) (fun p p0 p1 => ?_) (fun a i hn => ?_)⟩⟩
      · rw [rdw_nei (by omega)]
        exact gw p p0 p1
      · rw [rd_wr, if_neg]
        · exact gf a i hn
        · rintro ⟨rfl, rfl⟩
          exact hn (by omega)
  have l11 : ∀ (n : Nat) (g : LH) (v : Int), 6 - v ≤ n → 0 ≤ v → v ≤ 6 → RNG g → (∀ p, 0 ≤ p → p < v → rd g 198 (b + 2 + p) = rd h 188 (117 + 4 * p)) → (∀ a i, ¬ (a = 198 ∧ b ≤ i ∧ i < b + 34) → rd g a i = rd h a i) → Rn xs xl e mm_startsDay 11 [some (.inr (.inr 182)), some (.inl b), some (.inl v)] [] g Q := by
    intro n
    induction n with
    | zero =>
      intro g v hn v0 v1 gr gw gf
      exact B_startsDay_11 (RF_of gr) he ⟨fun _ => l84 14 g 0 (by omega) (by omega) (by omega) gr (fun p p0 p1 => gw p p0 (by omega)) gf, fun c => by omega⟩
    | succ n ih =>
      intro g v hn v0 v1 gr gw gf
      by_cases hv : v < 6
      · have hm := rq_p1 gr (i := 4 * v + 117) (d := v) (by omega) (by omega) (by omega)
        have go : ∀ w : Int, 0 ≤ w → w ≤ 1 → Rn xs xl e mm_startsDay 11 [some (.inr (.inr 182)), some (.inl b), some (.inl (v + 1))] [] (wr (wr (wr g 198 (b + v + 2) (rd g 188 (4 * v + 117))) 198 (b + v + 8) w) 198 (b + v + 14) 0) Q := by
          intro w w0 w1
          have r1 := ws gr (i := b + v + 2) (v := rd g 188 (4 * v + 117)) 2 7 0 9 (by omega) (by omega) (by omega) (by decide +kernel) hm.1 hm.2 ⟨by omega, by omega⟩
          have r2 := ws r1 (i := b + v + 8) (v := w) 8 13 0 1 (by omega) (by omega) (by omega) (by decide +kernel) w0 w1 ⟨by omega, by omega⟩
          have r3 := ws r2 (i := b + v + 14) (v := 0) 14 19 0 1 (by omega) (by omega) (by omega) (by decide +kernel) (by omega) (by omega) ⟨by omega, by omega⟩
          refine ih _ (v + 1) (by omega) (by omega) (by omega) r3 (fun p p0 p1 => ?_) (fun a i hn => ?_)
          · rw [rdw_nei (by omega), rdw_nei (by omega), rd_wr]
            split
            · next q => rw [gf 188 _ (by omega), show (4 * v + 117 : Int) = 117 + 4 * p by omega]
            · next q => exact gw p p0 (by omega)
          · rw [rd_wr, if_neg, rd_wr, if_neg, rd_wr, if_neg]
            · exact gf a i hn
            all_goals (rintro ⟨rfl, rfl⟩; exact hn (by omega))
        exact B_startsDay_11 (RF_of gr) he ⟨fun c => by omega, fun c => ⟨by omega, by omega, by omega, by omega, by omega, by omega, by omega, by omega, by omega, by omega, by omega, by omega, by omega, by omega, by omega, by omega, by omega, fun _ => ⟨by omega, by omega, by omega, by omega, by omega, go 0 (by omega) (by omega)⟩, fun _ => ⟨by omega, by omega, by omega, by omega, by omega, go 1 (by omega) (by omega)⟩⟩⟩
      · exact B_startsDay_11 (RF_of gr) he ⟨fun _ => l84 14 g 0 (by omega) (by omega) (by omega) gr (fun p p0 p1 => gw p p0 (by omega)) gf, fun c => by omega⟩
  refine B_startsDay_0 (RF_of hr) ⟨by omega, by omega, l11 6 _ 0 (by omega) (by omega) (by omega) (ws hr 0 0 0 24 (by omega) (by omega) (by omega) (by decide +kernel) (by omega) (by omega) (by unfold i32; omega)) (fun p p0 p1 => by omega) (fun a i hn => ?_)⟩
  rw [rd_wr, if_neg]
  rintro ⟨rfl, rfl⟩
  exact hn (by omega)
def muG (a i : Int) : Prop := (a = 198 ∧ 0 ≤ i ∧ i < 35) ∨ (a = 195 ∧ i = 0) ∨ (a = 182 ∧ i = 25) ∨ a = 199
theorem D_begins (he : 2 ≤ e) (hr : RNG h) (hs : SP4 h) (k : ∀ g, INV g → (∀ a i, ¬ muG a i → rd g a i = rd h a i) → Q none g) : Rn xs xl e mm_begins 0 [some (.inr (.inr 182)), none] [] h Q := by
  refine B_begins_0 (RF_of hr) ⟨1, by omega, D_startsDay (by omega) hr (by omega) (by omega) (by omega) (fun g gr gw gf => ?_)⟩
  have r1 := ws gr (i := 1) (v := 0) 1 1 (-2147483648) 2147483647 (by omega) (by omega) (by omega) (by decide +kernel) (by omega) (by omega) (by unfold i32; omega)
  have r2 := ws r1 (i := 34) (v := 0) 34 34 0 10 (by omega) (by omega) (by omega) (by decide +kernel) (by omega) (by omega) (by unfold i32; omega)
  have r3 := wY_lines r2 (i := 0) (v := 0) (ix := (0, 0, 0, 0)) (lo := 0) (hi := 24) (by decide +kernel) (pt 0) (by omega) (by omega) (by unfold i32; omega)
  have r4 := wu r3 (v := 0) (by omega) (by omega)
  generalize hg4 : wr (wr (wr (wr g 198 1 0) 198 34 0) 195 0 0) 182 25 0 = g4 at *
  have f4 : ∀ a i, ¬ muG a i → rd g4 a i = rd h a i := by
    intro a i hn
    rw [← hg4, rd_wr, if_neg, rd_wr, if_neg, rd_wr, if_neg, rd_wr, if_neg]
    · exact gf a i (fun q => hn (by unfold muG; omega))
    all_goals (rintro ⟨rfl, rfl⟩; exact hn (by unfold muG; omega))
  have w4 : ∀ p, 0 ≤ p → p ≤ 5 → rd g4 198 (0 + 2 + p) = rd h 188 (117 + 4 * p) := by
    intro p p0 p1
    rw [← hg4, rdw_ne (by decide), rdw_ne (by decide), rdw_nei (by omega), rdw_nei (by omega)]
    exact gw p p0 p1
  have u4 : rd g4 182 25 = 0 := by
    rw [← hg4]
    exact rdw_eq
  refine B_begins_5 (RF_of gr) ?_
  rw [hg4]
  have loop : ∀ (n : Nat) (q : LH) (v : Int), 4 - v ≤ n → 0 ≤ v → v ≤ 4 → RNG q → (∀ m, 0 ≤ m → m < v → rd q 199 m = 0) → (∀ a i, a ≠ 199 → rd q a i = rd g4 a i) → Rn xs xl e mm_begins 34 [some (.inr (.inr 182)), some (.inl v)] [] q Q := by
    have stop : ∀ (q : LH), RNG q → (∀ m, 0 ≤ m → m < 4 → rd q 199 m = 0) → (∀ a i, a ≠ 199 → rd q a i = rd g4 a i) → Q none q := by
      intro q qr qm qf
      have qh : ∀ a i, ¬ muG a i → rd q a i = rd h a i := fun a i hn => (qf a i (fun z => hn (by unfold muG; omega))).trans (f4 a i hn)
      have s4 : SP4 q := SP4_of (fun b j hb n1 n2 n3 => qh b j (by unfold muG; unfold sens at hb; omega)) hs
      refine k q ⟨qr, s4.1, s4.2.1, s4.2.2.1, s4.2.2.2, ?_, fun m m0 m1 z => ?_, fun j j0 j1 z => ?_⟩ qh
      · intro p p0 p1 p2
        rw [qf 198 _ (by decide), w4 p p0 p1, qh 188 0 (by unfold muG; omega)]
        rw [qh 188 2 (by unfold muG; omega)] at p2
        exact hs.2.2.2.2 p p0 p1 p2
      · rw [qm m m0 m1] at z
        cases z
      · rw [qf 182 25 (by decide), u4] at z
        omega
    intro n
    induction n with
    | zero =>
      intro q v hn v0 v1 qr qm qf
      exact B_begins_34 (RF_of qr) ⟨fun _ => stop q qr (fun m m0 m1 => qm m m0 (by omega)) qf, fun c => by omega⟩
    | succ n ih =>
      intro q v hn v0 v1 qr qm qf
      refine B_begins_34 (RF_of qr) ⟨fun _ => stop q qr (fun m m0 m1 => qm m m0 (by omega)) qf, fun c => ⟨by omega, by omega, ih _ (v + 1) (by omega) (by omega) (by omega) (wR_isMarked qr (by omega) (by omega)) (fun m m0 m1 => ?_) (fun a i hn => ?_)⟩⟩
      · rw [rd_wr]
        split
        · rfl
        · exact qm m m0 (by omega)
      · rw [rdw_ne (fun q => hn q.symm)]
        exact qf a i hn
  exact loop 4 g4 0 (by omega) (by omega) (by omega) r4 (fun m _ _ => by omega) (fun _ _ _ => rfl)
theorem D_stands (hI : INV h) (k : ∀ g, INV g → rd g 188 153 = -1 → (∀ i, 150 ≤ i → i < 300 → i ≠ 153 → rd g 188 i = 0) → (∀ a i, ¬ (a = 188 ∧ 150 ≤ i) → rd g a i = rd h a i) → Q none g) : Rn xs xl e mm_standsAsAlways 0 [some (.inr (.inr 182)), some (.inl 150), none] [] h Q := by
  have loop : ∀ (n : Nat) (g : LH) (v : Int), 150 - v ≤ n → 0 ≤ v → v ≤ 150 → INV g → (∀ i, 150 ≤ i → i < 150 + v → rd g 188 i = 0) → (∀ a i, ¬ (a = 188 ∧ 150 ≤ i) → rd g a i = rd h a i) → Rn xs xl e mm_standsAsAlways 2 [some (.inr (.inr 182)), some (.inl 150), some (.inl v)] [] g Q := by
    have stop : ∀ (g : LH), INV g → (∀ i, 150 ≤ i → i < 300 → rd g 188 i = 0) → (∀ a i, ¬ (a = 188 ∧ 150 ≤ i) → rd g a i = rd h a i) → Q none (wr g 188 (150 + 3) (-1)) := by
      intro g gI g0 gf
      refine k _ (wq_let gI (by omega) (by omega)) rdw_eq (fun i i0 i1 i2 => ?_) (fun a i hn => ?_)
      · rw [rdw_nei (by omega)]
        exact g0 i i0 i1
      · rw [rd_wr, if_neg]
        · exact gf a i hn
        · rintro ⟨rfl, rfl⟩
          exact hn (by omega)
    intro n
    induction n with
    | zero =>
      intro g v hn v0 v1 gI g0 gf
      exact B_standsAsAlways_2 (RF_of gI.1) ⟨fun _ => ⟨by omega, by omega, stop g gI (fun i i0 i1 => g0 i i0 (by omega)) gf⟩, fun c => by omega⟩
    | succ n ih =>
      intro g v hn v0 v1 gI g0 gf
      refine B_standsAsAlways_2 (RF_of gI.1) ⟨fun _ => ⟨by omega, by omega, stop g gI (fun i i0 i1 => g0 i i0 (by omega)) gf⟩, fun c => ⟨by omega, by omega, by omega, ih _ (v + 1) (by omega) (by omega) (by omega) ?_ (fun i i0 i1 => ?_) (fun a i hn => ?_)⟩⟩
      · refine INV_wr gI (by unfold sens; omega) ?_
        rw [lkd_1 (by decide +kernel)]
        exact fitR_ok (a := 188) (ix := (0, 150, 299, 1)) (v := (0, 0, 0, 0)) (by decide +kernel) (inv1 (by omega) (by omega)) ⟨rfl, by unfold i32; omega, Int.le_refl _, Int.le_refl _, by simp⟩
      · rw [rd_wr]
        split
        · rfl
        · exact g0 i i0 (by omega)
      · rw [rd_wr, if_neg]
        · exact gf a i hn
        · rintro ⟨rfl, rfl⟩
          exact hn (by omega)
  exact B_standsAsAlways_0 (RF_of hI.1) (loop 150 h 0 (by omega) (by omega) (by omega) hI (fun i i0 i1 => by omega) (fun _ _ _ => rfl))
end C8
end
section
/-! LM, part 49: the reference reads a quarter: the whole -/
theorem hav188 {v : Int} (h0 : 0 ≤ v) : hav 188 (v + 150) = hav 188 v := by
  obtain ⟨L, hL, hn⟩ : ∃ L, RGL[(188 : Int).toNat]? = some L ∧ L.length = 150 := ⟨_, rfl, by decide +kernel⟩
  rw [havM hL hn (r := v.toNat % 150) (by omega), havM hL hn (r := v.toNat % 150) rfl]
theorem wR_names {h : LH} (hr : RNG h) {i v : Int} (hv : i64 v) : RNG (wr h 191 i v) := by
  refine RNG_wr hr ?_
  have e : hav 191 i = (1, -9223372036854775808, 9223372036854775807, 1) := by
    unfold hav
    rw [show RGL[(191 : Int).toNat]? = some [(1, -9223372036854775808, 9223372036854775807, 1)] by decide +kernel]
    simp only [List.length_singleton, Nat.mod_one]
    rfl
  rw [e, lkd_2 (by decide +kernel)]
  exact ⟨rfl, hv, hv.1, hv.2, Int.one_dvd _⟩
theorem rd_readNames64 {h : LH} (hr : RNG h) {i : Int} (hi : 0 ≤ i ∧ i < 20) : i64 (rd h 192 i) := by
  have q := hr 192 i (vldA (n := 20) (k := 2) (by decide +kernel) (by decide +kernel) hi)
  unfold hval at q
  rw [lkd_2 (by decide +kernel)] at q
  exact q.2.1
section C9
variable {xs : Nat → Int} {xl e : Nat} {h : LH} {Q : Option LV → LH → Prop}
theorem q_copy1 {G : LH} (k : ∀ g, RNG g → (∀ i, 0 ≤ i → i < 150 → rd g 188 i = rd G 188 (i + 150)) → (∀ a i, ¬ (a = 188 ∧ 0 ≤ i ∧ i < 150) → rd g a i = rd G a i) → Rn xs xl e mm_quarter 160 [some (.inr (.inr 182)), some (.inl 0)] [] g Q) : ∀ (n : Nat) (g : LH) (v : Int), 150 - v ≤ n → 0 ≤ v → v ≤ 150 → RNG g → (∀ i, 0 ≤ i → i < v → rd g 188 i = rd G 188 (i + 150)) → (∀ a i, ¬ (a = 188 ∧ 0 ≤ i ∧ i < 150) → rd g a i = rd G a i) → Rn xs xl e mm_quarter 129 [some (.inr (.inr 182)), some (.inl v)] [] g Q := by
  intro n
  induction n with
  | zero =>
    intro g v hn v0 v1 gr g1 gf
    exact B_quarter_129 (RF_of gr) ⟨fun _ => k g gr (fun i i0 i1 => g1 i i0 (by omega)) gf, fun c => by omega⟩
  | succ n ih =>
    intro g v hn v0 v1 gr g1 gf
    refine B_quarter_129 (RF_of gr) ⟨fun _ => k g gr (fun i i0 i1 => g1 i i0 (by omega)) gf, fun c => ⟨by omega, by omega, by omega, by omega, ih _ (v + 1) (by omega) (by omega) (by omega) ?_ (fun i i0 i1 => ?_) (fun a i hn => ?_)⟩⟩
    · refine RNG_wr gr ?_
      have q := gr 188 (v + 150) (vldA (n := 300) (k := 1) (by decide +kernel) (by decide +kernel) (by omega))
      unfold hval at q
      rw [lkd_1 (by decide +kernel), hav188 v0] at q
      rw [lkd_1 (by decide +kernel)]
      exact q
    · rw [rd_wr]
      split
      · next q => rw [gf 188 _ (by omega), show v = i by omega]
      · exact g1 i i0 (by omega)
    · rw [rd_wr, if_neg]
      · exact gf a i hn
      · rintro ⟨rfl, rfl⟩
        exact hn (by omega)
theorem q_copy2 {G : LH} (hc : rd G 182 13 ≤ 1000) (k : ∀ g, RNG g → (∀ i, 0 ≤ i → i < rd G 182 13 → rd g 189 i = rd G 189 (i + 1100) ∧ rd g 190 i = rd G 190 (i + 1100)) → (∀ a i, ¬ ((a = 189 ∨ a = 190) ∧ i < 1100) → rd g a i = rd G a i) → Rn xs xl e mm_quarter 208 [some (.inr (.inr 182)), some (.inl 0)] [] g Q) : ∀ (n : Nat) (g : LH) (v : Int), rd G 182 13 - v ≤ n → 0 ≤ v → v ≤ 1000 → RNG g → (∀ i, 0 ≤ i → i < v → rd g 189 i = rd G 189 (i + 1100) ∧ rd g 190 i = rd G 190 (i + 1100)) → (∀ a i, ¬ ((a = 189 ∨ a = 190) ∧ i < 1100) → rd g a i = rd G a i) → Rn xs xl e mm_quarter 160 [some (.inr (.inr 182)), some (.inl v)] [] g Q := by
  intro n
  induction n with
  | zero =>
    intro g v hn v0 v1 gr g1 gf
    have e13 : rd g 182 13 = rd G 182 13 := gf _ _ (by omega)
    exact B_quarter_160 (RF_of gr) ⟨fun _ => k g gr (fun i i0 i1 => g1 i i0 (by omega)) gf, fun c => by omega⟩
  | succ n ih =>
    intro g v hn v0 v1 gr g1 gf
    have e13 : rd g 182 13 = rd G 182 13 := gf _ _ (by omega)
    refine B_quarter_160 (RF_of gr) ⟨fun _ => k g gr (fun i i0 i1 => g1 i i0 (by omega)) gf, fun c => ⟨by omega, by omega, by omega, by omega, by omega, by omega, by omega, ih _ (v + 1) (by omega) (by omega) (by omega) ?_ (fun i i0 i1 => ?_) (fun a i hn => ?_)⟩⟩
    · have o1 := rA_op gr (i := v + 1100) (by omega)
      have o2 := rA_arg gr (i := v + 1100) (by omega)
      exact wR_arg (wR_op gr o1.1 o1.2) o2.1 o2.2
    · by_cases q : i = v
      · subst q
        exact ⟨((rdw_ne (by decide)).trans rdw_eq).trans (gf _ _ (by omega)), rdw_eq.trans (gf _ _ (by omega))⟩
      · rw [rdw_ne (by decide), rdw_nei (by omega), rdw_nei (by omega), rdw_ne (by decide)]
        exact g1 i i0 (by omega)
    · rw [rd_wr, if_neg, rd_wr, if_neg]
      · exact gf a i hn
      all_goals (rintro ⟨rfl, rfl⟩; exact hn (by omega))
theorem q_copy3 {G : LH} (k : ∀ g, RNG g → (∀ a i, ¬ (a = 191 ∨ a = 193 ∨ (a = 182 ∧ i = 18)) → rd g a i = rd G a i) → ∃ c, c < e ∧ Rn xs xl c mm_begins 0 [some (.inr (.inr 182)), none] [] g (fun r h' => ∀ v, Rn xs xl e mm_quarter 258 [some (.inr (.inr 182)), some (.inl v)] (r.toList ++ []) h' Q)) : ∀ (n : Nat) (g : LH) (v : Int), 20 - v ≤ n → 0 ≤ v → v ≤ 20 → RNG g → (∀ a i, ¬ (a = 191 ∨ a = 193) → rd g a i = rd G a i) → Rn xs xl e mm_quarter 208 [some (.inr (.inr 182)), some (.inl v)] [] g Q := by
  have stop : ∀ (g : LH) (v : Int), RNG g → (∀ a i, ¬ (a = 191 ∨ a = 193) → rd g a i = rd G a i) → ∃ c, c < e ∧ Rn xs xl c mm_begins 0 [some (.inr (.inr 182)), none] [] (wr g 182 18 (rd g 182 19)) (fun r h' => Rn xs xl e mm_quarter 258 [some (.inr (.inr 182)), some (.inl v)] (r.toList ++ []) h' Q) := by
    intro g v gr gf
    have m := rF_readMany gr
    obtain ⟨c, c1, c2⟩ := k (wr g 182 18 (rd g 182 19)) (wrR gr (Or.inl (by decide +kernel)) (lo := 0) (hi := 20) (leA1 (by decide +kernel)) m.1 m.2 ⟨by omega, by omega⟩) (fun a i hn => by
      rw [rd_wr, if_neg]
      · exact gf a i (fun q => hn (by omega))
      · rintro ⟨rfl, rfl⟩
        exact hn (by omega))
    exact ⟨c, c1, c2.mono (fun r h' q => q v)⟩
  intro n
  induction n with
  | zero =>
    intro g v hn v0 v1 gr gf
    have m := rF_readMany gr
    exact B_quarter_208 (RF_of gr) ⟨fun _ => stop g v gr gf, fun c => by omega⟩
  | succ n ih =>
    intro g v hn v0 v1 gr gf
    have m := rF_readMany gr
    refine B_quarter_208 (RF_of gr) ⟨fun _ => stop g v gr gf, fun c => ⟨by omega, by omega, by omega, by omega, by omega, ih _ (v + 1) (by omega) (by omega) (by omega) ?_ (fun a i hn => ?_)⟩⟩
    · have o2 := rA_readNameOf gr (i := v) (by omega)
      exact wR_nameOf (wR_names gr (rd_readNames64 gr (by omega))) o2.1 o2.2
    · rw [rd_wr, if_neg, rd_wr, if_neg]
      · exact gf a i hn
      all_goals (rintro ⟨rfl, rfl⟩; exact hn (by omega))
theorem D_quarter (he : 41 ≤ e) (hI : INV h) (k : ∀ r h', INV h' → rd h' 182 2 = 0 → (∀ a i, a < 182 → rd h' a i = rd h a i) → Q (some (.inl r)) h') : Rn xs xl e mm_quarter 0 [some (.inr (.inr 182)), none] [] h Q := by
  have i0 : INV (wr h 182 0 0) := wF_thrown hI (by omega) (by omega)
  -- a quarter without a fault
  have t129 : ∀ G, INV G → NQ G → rd G 182 8 = 0 → rd G 182 2 = 0 → (∀ a i, a < 182 → rd G a i = rd h a i) → Rn xs xl e mm_quarter 129 [some (.inr (.inr 182)), some (.inl 0)] [] G Q := by
    intro G gI gq f0 gt gf
    obtain ⟨q1, q2, q3, q4, q5⟩ := gq f0
    have c0 := rF_codes gI.1
    have n0 := rw_doors gI.1
    have n1 := rw_people gI.1
    refine q_copy1 (G := G) (fun g1 r1 c1 f1 => ?_) 150 G 0 (by omega) (by omega) (by omega) gI.1 (fun i i0 i1 => by omega) (fun _ _ _ => rfl)
    have e13 : rd g1 182 13 = rd G 182 13 := f1 _ _ (by omega)
    refine q_copy2 (G := g1) (by omega) (fun g2 r2 c2 f2 => ?_) (rd g1 182 13).toNat g1 0 (by omega) (by omega) (by omega) r1 (fun i i0 i1 => by omega) (fun _ _ _ => rfl)
    refine q_copy3 (G := g2) (fun g3 r3 f3 => ?_) 20 g2 0 (by omega) (by omega) (by omega) r2 (fun _ _ _ => rfl)
    have x188 : ∀ i, 0 ≤ i → i < 150 → rd g3 188 i = rd G 188 (i + 150) := fun i i0 i1 => ((f3 188 i (by omega)).trans (f2 188 i (by omega))).trans (c1 i i0 i1)
    have x0 := x188 0 (by omega) (by omega)
    have x1 := x188 1 (by omega) (by omega)
    have x2 := x188 2 (by omega) (by omega)
    have x3 := x188 3 (by omega) (by omega)
    have s4 : SP4 g3 := by
      have old : ∀ b j, b ≠ 188 → b ≠ 189 → b ≠ 190 → b ≠ 191 → b ≠ 193 → b ≠ 182 → rd g3 b j = rd G b j := fun b j n1 n2 n3 n4 n5 n6 => ((f3 b j (by omega)).trans (f2 b j (by omega))).trans (f1 b j (by omega))
      obtain ⟨⟨h1, h2, h3, h4, h5, h6, h7, h8⟩, hl, ht, hq, hw⟩ := gI.2
      refine ⟨⟨lines_same (fun j => old _ j (by decide) (by decide) (by decide) (by decide) (by decide) (by decide)) (fun j => old _ j (by decide) (by decide) (by decide) (by decide) (by decide) (by decide)) h1, lines_same (fun j => old _ j (by decide) (by decide) (by decide) (by decide) (by decide) (by decide)) (fun j => old _ j (by decide) (by decide) (by decide) (by decide) (by decide) (by decide)) h2, lines_same (fun j => old _ j (by decide) (by decide) (by decide) (by decide) (by decide) (by decide)) (fun j => old _ j (by decide) (by decide) (by decide) (by decide) (by decide) (by decide)) h3, lines_same (fun j => old _ j (by decide) (by decide) (by decide) (by decide) (by decide) (by decide)) (fun j => old _ j (by decide) (by decide) (by decide) (by decide) (by decide) (by decide)) h4, lines_same (fun j => old _ j (by decide) (by decide) (by decide) (by decide) (by decide) (by decide)) (fun j => old _ j (by decide) (by decide) (by decide) (by decide) (by decide) (by decide)) h5, lines_same (fun j => old _ j (by decide) (by decide) (by decide) (by decide) (by decide) (by decide)) (fun j => old _ j (by decide) (by decide) (by decide) (by decide) (by decide) (by decide)) h6, ?_, ?_⟩, ?_, ?_, ?_⟩
      · intro m m0 m1 q
        rw [old 195 _ (by decide) (by decide) (by decide) (by decide) (by decide) (by decide)] at q ⊢
        exact h7 m m0 m1 q
      · intro m m0 m1 j j0 j1 q
        rw [old 200 _ (by decide) (by decide) (by decide) (by decide) (by decide) (by decide)] at q ⊢
        exact h8 m m0 m1 j j0 j1 q
      · intro q
        rw [x3] at q
        rcases q5 with z | ⟨z1, n, z2, z3, z4⟩
        · have := z.1
          rw [show (3 + 150 : Int) = 153 by omega, this] at q
          cases q
        · have cp : ∀ j, 0 ≤ j → j < rd G 182 13 → rd g3 189 j = opR G j ∧ rd g3 190 j = arR G j := by
            intro j j0 j1
            have y := c2 j j0 (by omega)
            unfold opR arR
            rw [f3 189 j (by omega), f3 190 j (by omega), y.1, y.2, f1 189 _ (by omega), f1 190 _ (by omega), show (j + 1100 : Int) = 1100 + j by omega]
            exact ⟨rfl, rfl⟩
          have lt := seg_lt z3
          exact ⟨n, by omega, seg_same z3 (fun j j0 j1 => cp j j0 (by omega)), (cp n (by omega) (by omega)).1.trans z4⟩
      · unfold SPtok
        rw [old 184 _ (by decide) (by decide) (by decide) (by decide) (by decide) (by decide)]
        exact ht
      · refine ⟨fun d d0 d1 d2 => ?_, fun p p0 p1 p2 => ?_⟩
        · rw [x1] at d2
          rw [x188 _ (by omega) (by omega), x188 (6 + 8 * d) (by omega) (by omega), x0, show (5 + 8 * d + 150 : Int) = 155 + 8 * d by omega, show (6 + 8 * d + 150 : Int) = 156 + 8 * d by omega]
          exact q3 d d0 d2
        · rw [x2] at p2
          rw [x188 _ (by omega) (by omega), x0, show (117 + 4 * p + 150 : Int) = 267 + 4 * p by omega]
          exact q4 p p0 p2
    refine ⟨2, by omega, D_begins (by omega) r3 s4 (fun g4 i4 f4 v => ?_)⟩
    refine B_quarter_258 (RF_of i4.1) (k 0 g4 i4 ?_ (fun a i ha => ?_))
    · rw [f4 182 2 (by unfold muG; omega), f3 182 2 (by omega), f2 182 2 (by omega), f1 182 2 (by omega)]
      exact gt
    · rw [f4 a i (by unfold muG; omega), f3 a i (by omega), f2 a i (by omega), f1 a i (by omega)]
      exact gf a i ha
  have t115 : ∀ g, INV g → NQ g → rd g 182 2 = 0 → (∀ a i, a < 182 → rd g a i = rd h a i) → Rn xs xl e mm_quarter 115 [some (.inr (.inr 182)), none] [] g Q := by
    intro g gI gq gt gf
    have ff := rF_fault gI.1
    exact B_quarter_115 (RF_of gI.1) ⟨fun c => t129 g gI gq (by omega) gt gf, fun _ => k _ g gI gt gf⟩
  have loop : ∀ (n : Nat) (g : LH), (rd g 182 8 = 0 → 1000 - rd g 182 7 < n) → INV g → NQ g → rd g 182 2 = 0 → (∀ a i, a < 182 → rd g a i = rd h a i) → Rn xs xl e mm_quarter 52 [some (.inr (.inr 182)), none] [] g Q := by
    intro n
    induction n with
    | zero =>
      intro g hn gI gq gt gf
      have aa := rF_at gI.1
      refine B_quarter_52 (RF_of gI.1) ⟨fun _ => t115 g gI gq gt gf, fun c => ?_⟩
      have := hn c
      omega
    | succ n ih =>
      intro g hn gI gq gt gf
      have aa := rF_at gI.1
      have gF := RF_of gI.1
      have gp : PB g := ⟨gI, trivial⟩
      refine B_quarter_52 gF ⟨fun _ => t115 g gI gq gt gf, fun c => ⟨by omega, fun _ => t115 g gI gq gt gf, fun c2 => ?_⟩⟩
      have l9 := at_lt gI c2
      have hn := hn c
      have t106 : ∀ g1, PL g g1 → Rn xs xl e mm_quarter 106 [some (.inr (.inr 182)), none] [] g1 Q := by
        intro g1 p1
        refine B_quarter_106 (RF_of p1.1.1.1) ⟨1, by omega, D_takeSign (by omega) p1.1 (fun g2 p2 _ => ?_)⟩
        have q2 := p2.2.1
        refine B_quarter_112 p2.rf (ih g2 (fun z => ?_) p2.inv (NQ_T p2 p1.2.2.1) ?_ (fun a i ha => ?_))
        · have := (p1.2.1 (p2.2.2.1 z)).2
          omega
        · rw [p2.2.2.2 _ _ (by unfold muT; omega), p1.2.2.2 _ _ (by unfold muA; omega)]
          exact gt
        · rw [p2.2.2.2 _ _ (by unfold muT; omega), p1.2.2.2 _ _ (by unfold muA; omega)]
          exact gf a i ha
      refine ⟨0, by omega, C_isWord gI (by omega) (fun _ => ?_) (fun _ => ?_)⟩
      · exact B_quarter_76_1 gF ⟨4, by omega, D_readDoor (by omega) gp gq l9 c (fun g1 p1 => B_quarter_83 (RF_of p1.1.1.1) (t106 g1 p1))⟩
      · refine B_quarter_76_0 gF ⟨0, by omega, C_isWord gI (by omega) (fun _ => ?_) (fun _ => ?_)⟩
        · exact B_quarter_92_1 gF ⟨4, by omega, D_readPerson (by omega) gp gq l9 c (fun g1 p1 => B_quarter_99 (RF_of p1.1.1.1) (t106 g1 p1))⟩
        · exact B_quarter_92_0 gF ⟨39, by omega, D_readLet (by omega) gp gq c (fun g1 p1 => t106 g1 p1)⟩
  refine B_quarter_0 (RF_of hI.1) ⟨2, by omega, D_cutAll (by omega) i0 (fun h1 i1 a1 f1 t1 fr1 => ?_)⟩
  have i2 : INV (wr (wr h1 182 13 0) 182 19 0) := wF_readMany (wF_codes i1 (by omega) (by omega)) (by omega) (by omega)
  refine B_quarter_9 (RF_of i1.1) ⟨0, by omega, D_stands i2 (fun h3 i3 m3 z3 fr3 => ?_)⟩
  have e3 : ∀ a i, ¬ (a = 188 ∧ 150 ≤ i) → ¬ (a = 182 ∧ (i = 13 ∨ i = 19)) → rd h3 a i = rd h1 a i := by
    intro a i n1 n2
    rw [fr3 a i n1, rd_wr, if_neg, rd_wr, if_neg] <;> (rintro ⟨rfl, rfl⟩; exact n2 (by omega))
  have c3 : rd h3 182 13 = 0 := (fr3 _ _ (by omega)).trans ((rdw_nei (by decide)).trans rdw_eq)
  have m3' : rd h3 182 19 = 0 := (fr3 _ _ (by omega)).trans rdw_eq
  refine B_quarter_26 (RF_of i3.1) ⟨2, by omega, D_takeWord (by omega) ⟨i3, trivial⟩ (by omega) (fun h4 p4 => ?_)⟩
  refine B_quarter_31 p4.rf ⟨1, by omega, D_takeNumber (by omega) p4.1 (by unfold i32; omega) (by unfold i32; omega) (fun r h5 p5 a5 b5 => ?_)⟩
  have rb : 0 ≤ r ∧ r ≤ 10 := by
    by_cases z : rd h5 182 8 = 0
    · have := a5 z; omega
    · have := b5 z; omega
  have i6 : INV (wr h5 188 150 r) := wq_rooms p5.inv rb.1 rb.2
  refine B_quarter_45 p5.rf ⟨1, by omega, D_takeSign (by omega) ⟨i6, trivial⟩ (fun h7 p7 _ => ?_)⟩
  have p45 := p4.trans p5
  have e7 : ∀ a i, ¬ muT a i → ¬ (a = 188 ∧ i = 150) → rd h7 a i = rd h3 a i := by
    intro a i n1 n2
    rw [p7.2.2.2 a i n1, rd_wr, if_neg (by rintro ⟨rfl, rfl⟩; exact n2 ⟨rfl, rfl⟩)]
    exact p45.2.2.2 a i n1
  have a7 := rF_at p7.inv.1
  refine loop 1001 h7 (fun _ => by omega) p7.inv (fun z => ?_) ?_ (fun a i ha => ?_)
  · have z6 := p7.2.2.1 z
    rw [rdw_ne (by decide)] at z6
    have r2 := a5 z6
    have y : ∀ i, i ≠ 150 → rd h7 188 i = rd h3 188 i := fun i hi => e7 188 i (by unfold muT; omega) (by omega)
    have y0 : rd h7 188 150 = r := (p7.2.2.2 _ _ (by unfold muT; omega)).trans rdw_eq
    have y1 : rd h7 188 151 = 0 := (y 151 (by decide)).trans (z3 151 (by decide) (by decide) (by decide))
    have y2 : rd h7 188 152 = 0 := (y 152 (by decide)).trans (z3 152 (by decide) (by decide) (by decide))
    refine ⟨by omega, ?_, fun d d0 d1 => by omega, fun p p0 p1 => by omega, Or.inl ⟨(y 153 (by decide)).trans m3, (e7 182 13 (by unfold muT; omega) (by omega)).trans c3⟩⟩
    rw [e7 182 19 (by unfold muT; omega) (by omega), m3', y1, y2]
    rfl
  · rw [e7 182 2 (by unfold muT; omega) (by omega), e3 182 2 (by omega) (by omega)]
    exact t1
  · rw [e7 a i (by unfold muT; omega) (by omega), e3 a i (by omega) (by omega), fr1 a i (by unfold muC; omega), rdw_ne (by omega)]
end C9
end
section
/-! LM, part 50: more rows: switches, arraycopy, Math.min -/
section RW2
variable {xs : Nat → Int} {xl d : Nat} {M : LM_M} {pc p' : Nat} {ls : LL} {st : List LV} {h : LH} {Q : Option LV → LH → Prop}
theorem R_swj {df lo hi x v f : Int} {offs : Array Int} {len : Nat} (hd : decode M.2.1 pc = .ok (.tableswitch df lo hi offs, len)) (hx : x = v) (hv : ¬ (v < lo ∨ hi < v)) (ho : offs[(v - lo).toNat]? = some f) (hp : (pc : Int) + f = (p' : Int)) (k : Rn xs xl d M p' ls st h Q) : Rn xs xl d M pc ls (.inl x :: st) h Q := by
  subst hx
  refine R_J hd rfl rfl ?_ hp k
  simp only [lmJ]
  rw [if_neg hv, ho]
theorem R_swd {df lo hi x : Int} {offs : Array Int} {len : Nat} (hd : decode M.2.1 pc = .ok (.tableswitch df lo hi offs, len)) (hv : x < lo ∨ hi < x) (hp : (pc : Int) + df = (p' : Int)) (k : Rn xs xl d M p' ls st h Q) : Rn xs xl d M pc ls (.inl x :: st) h Q := by
  refine R_J hd rfl rfl ?_ hp k
  simp only [lmJ]
  rw [if_pos hv]
theorem R_Q {i : Instr} {st' : List LV} {h' : LH} {x : Nat} (hi : i = .invokestatic x) (hd : decode M.2.1 pc = .ok (i, 3)) (hn : noM M.2.2.2.2.1 x = true) (e : lmQ M.2.2.2.2.1 NC i st h = some (st', h')) (hp : pc + 3 = p') (k : Rn xs xl d M p' ls st' h' Q) : Rn xs xl d M pc ls st h Q := by
  subst hp
  subst hi
  exact Rn.step hd rfl (cls_R rfl _ _) (noM_ok hn) (lmI_Q rfl e) k
theorem R_acopy {x n m : Nat} {a b sp dp ln : Int} (hd : decode M.2.1 pc = .ok (.invokestatic x, 3)) (hn : noM M.2.2.2.2.1 x = true) (hq : ((PTC M.2.2.2.2.1).find? (fun q => q.1 == x)).map (fun q => q.2.1) = some 1) (ha : isA NC a 1 = true) (hb : isA NC b 1 = true) (la : (lay a.toNat).2.2 = n) (lb : (lay b.toNat).2.2 = m) (hs : 0 ≤ sp ∧ 0 ≤ dp ∧ 0 ≤ ln ∧ sp + ln ≤ (n : Int) ∧ dp + ln ≤ (m : Int)) (hc : lcat st ≤ 8) (hp : pc + 3 = p') (k : Rn xs xl d M p' ls st (cpyL h a sp b dp ln.toNat ++ h) Q) : Rn xs xl d M pc ls (.inl ln :: .inl dp :: .inr (.inr b) :: .inl sp :: .inr (.inr a) :: st) h Q := by
  refine R_Q rfl hd hn ?_ hp k
  simp only [lmQ]
  rw [Option.map_eq_some_iff] at hq
  obtain ⟨q, q1, q2⟩ := hq
  rw [q1]
  simp only
  rw [if_pos q2, if_pos]
  simp only [Bool.and_eq_true, decide_eq_true_eq]
  rw [la, lb]
  exact ⟨⟨⟨ha, hb⟩, hs⟩, hc⟩
theorem R_X {i : Instr} {st' : List LV} {x : Nat} (hi : i = .invokestatic x) (hd : decode M.2.1 pc = .ok (i, 3)) (hn : noM M.2.2.2.2.1 x = true) (hq : lmQ M.2.2.2.2.1 NC i st h = none) (e : lmX M.2.2.2.2.1 i st = some st') (hp : pc + 3 = p') (k : Rn xs xl d M p' ls st' h Q) : Rn xs xl d M pc ls st h Q := by
  subst hp
  subst hi
  exact Rn.step hd rfl (cls_R rfl _ _) (noM_ok hn) (lmI_X rfl hq e) k
theorem R_min {x : Nat} {a b : Int} (hd : decode M.2.1 pc = .ok (.invokestatic x, 3)) (hn : noM M.2.2.2.2.1 x = true) (hq : ((PTC M.2.2.2.2.1).find? (fun q => q.1 == x)).map (fun q => q.2.1) = some 4) (hc : lcat st ≤ 8) (hp : pc + 3 = p') (k : Rn xs xl d M p' ls (.inl (if b < a then b else a) :: st) h Q) : Rn xs xl d M pc ls (.inl b :: .inl a :: st) h Q := by
  rw [Option.map_eq_some_iff] at hq
  obtain ⟨q, q1, q2⟩ := hq
  refine R_X rfl hd hn ?_ ?_ hp k
  · simp only [lmQ]
    rw [q1]
    simp only
    rw [if_neg (by omega)]
  · simp only [lmX]
    rw [q1]
    simp only
    rw [if_pos hc, if_pos q2]
end RW2
end
