/-! LM, part 46: the reference cuts its tape, reads a day -/
def muC (a i : Int) : Prop := (a = 182 ∧ (i = 2 ∨ i = 3 ∨ i = 7 ∨ i = 8)) ∨ a = 184 ∨ a = 185 ∨ a = 186
theorem INV_sort {h : LH} (hI : INV h) {i v : Int} (hi : i ≠ 1000) (h0 : 0 ≤ v) (h1 : v ≤ 4) : INV (wr h 184 i v) := by
  refine INV_wr hI (by unfold sens; omega) ?_
  rw [hA_sort, lkd_1 (by decide +kernel)]
  exact ⟨rfl, ⟨by omega, by omega⟩, h0, h1, Int.one_dvd _⟩
theorem INV_sort0 {h : LH} (hI : INV h) {i : Int} : INV (wr h 184 i 0) := by
  refine ⟨wR_sort hI.1 (by omega) (by omega), SP_of (fun b j hb => ?_) hI.2⟩
  rw [rd_wr]
  split
  · next q =>
    obtain ⟨rfl, rfl⟩ := q
    have : i = 1000 := by unfold sens at hb; omega
    subst this
    exact hI.2.2.2.1.symm
  · rfl
theorem i64_of {a : Int} (h : i32 a) : i64 a := i32_64 h
section C6
variable {xs : Nat → Int} {xl e : Nat} {h : LH} {Q : Option LV → LH → Prop} {v1 v2 v3 : Int}
theorem D_isSignOf (hF : RF h) (k : ∀ r, r = 0 ∨ r = 1 → Q (some (.inl r)) h) : Rn xs xl e mm_isSignOf 0 [some (.inl v1)] [] h Q := by
  have k0 := k 0 (Or.inl rfl)
  have k1 := k 1 (Or.inr rfl)
  exact B_isSignOf_0 hF ⟨fun _ => k1, fun _ => ⟨fun _ => k1, fun _ => ⟨fun _ => k1, fun _ => ⟨fun _ => k1, fun _ => ⟨fun _ => k1, fun _ => ⟨fun _ => k1, fun _ => ⟨fun _ => k1, fun _ => ⟨fun _ => k0, fun _ => k1⟩⟩⟩⟩⟩⟩⟩⟩
theorem D_cutAll (he : 2 ≤ e) (hI : INV h) (k : ∀ h', INV h' → rd h' 182 7 = 0 → rd h' 182 8 = 0 → rd h' 182 2 = 0 → (∀ a i, ¬ muC a i → rd h' a i = rd h a i) → Q none h') : Rn xs xl e mm_cutAll 0 [some (.inr (.inr 182)), none, none, none, none, none, none] [] h Q := by
  have t0 := rF_taped hI.1
  have loop : ∀ (n : Nat) (g : LH) (a b : Int) (o3 o4 o5 o6 : Option LV), 1000 - b ≤ n → INV g → rd g 182 2 = 0 → (∀ x i, ¬ muC x i → rd g x i = rd h x i) → 0 ≤ a → a ≤ b → b ≤ rd g 182 3 → Rn xs xl e mm_cutAll 17 [some (.inr (.inr 182)), some (.inl a), some (.inl b), o3, o4, o5, o6] [] g Q := by
    intro n
    induction n with
    | zero =>
      intro g a b o3 o4 o5 o6 hn gI g2 gf a0 ab bs
      have s0 := rF_size gI.1
      refine B_cutAll_17 (RF_of gI.1) (by omega) ⟨fun c => ⟨by omega, by omega, ?_⟩, fun c => by omega⟩
      have i1 : INV (wr g 184 a 0) := INV_sort0 gI
      have i2 := wA_place i1 (i := a) (v := rd g 182 3) (by omega) (by omega) (by omega)
      have i4 := wF_fault (wF_at i2 (v := 0) (by omega) (by omega)) (v := 0) (by omega) (by omega)
      refine k _ i4 ((rdw_nei (by decide)).trans rdw_eq) rdw_eq ?_ (fun x i hx => ?_)
      · exact ((rdw_nei (by decide)).trans ((rdw_nei (by decide)).trans ((rdw_ne (by decide)).trans (rdw_ne (by decide))))).trans g2
      · rw [← gf x i hx, rd_wr, if_neg, rd_wr, if_neg, rd_wr, if_neg, rd_wr, if_neg] <;> (rintro ⟨rfl, rfl⟩; exact hx (by unfold muC; omega))
    | succ n ih =>
      intro g a b o3 o4 o5 o6 hn gI g2 gf a0 ab bs
      have s0 := rF_size gI.1
      have fin : rd g 182 3 ≤ b → Q none (wr (wr (wr (wr g 184 a 0) 185 a (rd g 182 3)) 182 7 0) 182 8 0) := by
        intro c
        have i1 : INV (wr g 184 a 0) := INV_sort0 gI
        have i2 := wA_place i1 (i := a) (v := rd g 182 3) (by omega) (by omega) (by omega)
        have i4 := wF_fault (wF_at i2 (v := 0) (by omega) (by omega)) (v := 0) (by omega) (by omega)
        refine k _ i4 ((rdw_nei (by decide)).trans rdw_eq) rdw_eq ?_ (fun x i hx => ?_)
        · exact ((rdw_nei (by decide)).trans ((rdw_nei (by decide)).trans ((rdw_ne (by decide)).trans (rdw_ne (by decide))))).trans g2
        · rw [← gf x i hx, rd_wr, if_neg, rd_wr, if_neg, rd_wr, if_neg, rd_wr, if_neg] <;> (rintro ⟨rfl, rfl⟩; exact hx (by unfold muC; omega))
      by_cases hb : rd g 182 3 ≤ b
      · exact B_cutAll_17 (RF_of gI.1) (by omega) ⟨fun c => ⟨by omega, by omega, fin c⟩, fun c => by omega⟩
      have i1 : INV (wr g 185 a b) := wA_place gI (by omega) (by omega) (by omega)
      have z3 : rd (wr g 185 a b) 182 3 = rd g 182 3 := rdw_ne (by decide)
      have zt : ∀ i, rd (wr g 185 a b) 183 i = rd g 183 i := fun i => rdw_ne (by decide)
      have tb := rA_tape gI.1 (i := b) (by omega)
      -- behind a token
      have t265 : ∀ (s b' c v5 : Int), 0 ≤ s → s ≤ 4 → b + 1 ≤ b' → b' ≤ rd g 182 3 → i64 v5 → Rn xs xl e mm_cutAll 265 [some (.inr (.inr 182)), some (.inl a), some (.inl b'), some (.inl c), some (.inl b), some (.inr (.inl v5)), none] [] (wr (wr g 185 a b) 184 a s) Q := by
        intro s b' c v5 s0' s1 b0 b1 v64
        have i2 : INV (wr (wr g 185 a b) 184 a s) := INV_sort i1 (by omega) s0' s1
        have i3 := wA_value i2 (i := a) (v := v5) (by omega) v64
        refine B_cutAll_265 (RF_of i2.1) ⟨by omega, by omega, ih _ _ _ _ _ _ _ (by omega) i3 ?_ (fun x i hx => ?_) (by omega) (by omega) ?_⟩
        · exact ((rdw_ne (by decide)).trans ((rdw_ne (by decide)).trans (rdw_ne (by decide)))).trans g2
        · rw [← gf x i hx, rd_wr, if_neg, rd_wr, if_neg, rd_wr, if_neg] <;> (rintro ⟨rfl, rfl⟩; exact hx (by unfold muC; omega))
        · rw [show rd (wr (wr (wr g 185 a b) 184 a s) 186 a v5) 182 3 = rd g 182 3 from (rdw_ne (by decide)).trans ((rdw_ne (by decide)).trans (rdw_ne (by decide)))]
          exact b1
      have hF1 := RF_of i1.1
      -- letters
      have t129 : ∀ (b' c v5 : Int), b + 1 ≤ b' → b' ≤ rd g 182 3 → i64 v5 → Rn xs xl e mm_cutAll 129 [some (.inr (.inr 182)), some (.inl a), some (.inl b'), some (.inl c), some (.inl b), some (.inr (.inl v5)), none] [] (wr g 185 a b) Q := by
        intro b' c v5 b0 b1 v64
        exact B_cutAll_129 hF1 ⟨by omega, fun _ => ⟨by omega, t265 1 b' c v5 (by omega) (by omega) b0 b1 v64⟩, fun _ => ⟨by omega, t265 4 b' c v5 (by omega) (by omega) b0 b1 v64⟩⟩
      have t70 : ∀ (m : Nat) (b' c v5 : Int), rd g 182 3 - b' ≤ m → b + 1 ≤ b' → b' ≤ rd g 182 3 → i64 v5 → Rn xs xl e mm_cutAll 70 [some (.inr (.inr 182)), some (.inl a), some (.inl b'), some (.inl c), some (.inl b), some (.inr (.inl v5)), none] [] (wr g 185 a b) Q := by
        intro m
        induction m with
        | zero =>
          intro b' c v5 hm b0 b1 v64
          exact B_cutAll_70 hF1 he ⟨fun _ => t129 b' c v5 b0 b1 v64, fun q => by omega⟩
        | succ m im =>
          intro b' c v5 hm b0 b1 v64
          refine B_cutAll_70 hF1 he ⟨fun _ => t129 b' c v5 b0 b1 v64, fun q => ?_⟩
          have tc := rA_tape i1.1 (i := b') (by omega)
          have nx : ∀ w : Int, i64 w → Rn xs xl e mm_cutAll 123 [some (.inr (.inr 182)), some (.inl a), some (.inl b'), some (.inl c), some (.inl b), some (.inr (.inl w)), none] [] (wr g 185 a b) Q := fun w w64 => B_cutAll_123 hF1 ⟨by omega, im (b' + 1) c w (by omega) (by omega) (by omega) w64⟩
          exact ⟨by omega, fun _ => t129 b' c v5 b0 b1 v64, fun _ => ⟨fun _ => t129 b' c v5 b0 b1 v64, fun _ => ⟨by omega, fun _ => nx _ v64, fun _ => ⟨by omega, fun _ => ⟨by omega, nx _ (w64_in _)⟩, fun _ => ⟨fun _ => ⟨by omega, nx _ (w64_in _)⟩, fun _ => ⟨by omega, nx _ (w64_in _)⟩⟩⟩⟩⟩⟩
      have k70 : 97 ≤ rd g 183 b → rd g 183 b ≤ 122 → Rn xs xl e mm_cutAll 70 [some (.inr (.inr 182)), some (.inl a), some (.inl b), some (.inl (rd g 183 b)), some (.inl b), some (.inr (.inl 0)), none] [] (wr g 185 a b) Q := by
        intro c1 c2
        have ez := zt b
        have nx : ∀ w : Int, i64 w → Rn xs xl e mm_cutAll 123 [some (.inr (.inr 182)), some (.inl a), some (.inl b), some (.inl (rd g 183 b)), some (.inl b), some (.inr (.inl w)), none] [] (wr g 185 a b) Q := fun w w64 => B_cutAll_123 hF1 ⟨by omega, t70 (rd g 182 3 - (b + 1)).toNat (b + 1) _ w (by omega) (by omega) (by omega) w64⟩
        exact B_cutAll_70 hF1 he ⟨fun q => by omega, fun _ => ⟨by omega, fun q => by omega, fun _ => ⟨fun q => by omega, fun _ => ⟨by omega, fun q => by omega, fun _ => ⟨by omega, fun q => by omega, fun _ => ⟨fun q => by omega, fun _ => ⟨by omega, nx _ (w64_in _)⟩⟩⟩⟩⟩⟩⟩
      -- digits
      have t218 : ∀ (b' c v5 : Int), b + 1 ≤ b' → b' ≤ rd g 182 3 → i64 v5 → Rn xs xl e mm_cutAll 218 [some (.inr (.inr 182)), some (.inl a), some (.inl b'), some (.inl c), some (.inl b), some (.inr (.inl v5)), none] [] (wr g 185 a b) Q := by
        intro b' c v5 b0 b1 v64
        exact B_cutAll_218 hF1 ⟨by omega, fun _ => ⟨by omega, t265 2 b' c v5 (by omega) (by omega) b0 b1 v64⟩, fun _ => ⟨by omega, t265 4 b' c v5 (by omega) (by omega) b0 b1 v64⟩⟩
      have t159 : ∀ (m : Nat) (b' c v5 : Int), rd g 182 3 - b' ≤ m → b + 1 ≤ b' → b' ≤ rd g 182 3 → i64 v5 → Rn xs xl e mm_cutAll 159 [some (.inr (.inr 182)), some (.inl a), some (.inl b'), some (.inl c), some (.inl b), some (.inr (.inl v5)), none] [] (wr g 185 a b) Q := by
        intro m
        induction m with
        | zero =>
          intro b' c v5 hm b0 b1 v64
          exact B_cutAll_159 hF1 (by omega) ⟨fun _ => t218 b' c v5 b0 b1 v64, fun q => by omega⟩
        | succ m im =>
          intro b' c v5 hm b0 b1 v64
          refine B_cutAll_159 hF1 (by omega) ⟨fun _ => t218 b' c v5 b0 b1 v64, fun q => ?_⟩
          have nx : ∀ w : Int, i64 w → Rn xs xl e mm_cutAll 212 [some (.inr (.inr 182)), some (.inl a), some (.inl b'), some (.inl c), some (.inl b), some (.inr (.inl w)), none] [] (wr g 185 a b) Q := fun w w64 => B_cutAll_212 hF1 ⟨by omega, im (b' + 1) c w (by omega) (by omega) (by omega) w64⟩
          exact ⟨by omega, fun _ => t218 b' c v5 b0 b1 v64, fun _ => ⟨fun _ => t218 b' c v5 b0 b1 v64, fun _ => ⟨by omega, fun _ => nx _ v64, fun _ => ⟨by omega, nx _ (w64_in _)⟩⟩⟩⟩
      have k159 : 48 ≤ rd g 183 b → rd g 183 b ≤ 57 → Rn xs xl e mm_cutAll 159 [some (.inr (.inr 182)), some (.inl a), some (.inl b), some (.inl (rd g 183 b)), some (.inl b), some (.inr (.inl 0)), none] [] (wr g 185 a b) Q := by
        intro c1 c2
        have ez := zt b
        have nx : ∀ w : Int, i64 w → Rn xs xl e mm_cutAll 212 [some (.inr (.inr 182)), some (.inl a), some (.inl b), some (.inl (rd g 183 b)), some (.inl b), some (.inr (.inl w)), none] [] (wr g 185 a b) Q := fun w w64 => B_cutAll_212 hF1 ⟨by omega, t159 (rd g 182 3 - (b + 1)).toNat (b + 1) _ w (by omega) (by omega) (by omega) w64⟩
        exact B_cutAll_159 hF1 (by omega) ⟨fun q => by omega, fun _ => ⟨by omega, fun q => by omega, fun _ => ⟨fun q => by omega, fun _ => ⟨by omega, fun q => by omega, fun _ => ⟨by omega, nx _ (w64_in _)⟩⟩⟩⟩⟩
      -- signs
      have k240 : Rn xs xl e mm_cutAll 240 [some (.inr (.inr 182)), some (.inl a), some (.inl b), some (.inl (rd g 183 b)), some (.inl b), some (.inr (.inl 0)), none] [] (wr g 185 a b) Q := by
        refine B_cutAll_240 hF1 ⟨0, by omega, D_isSignOf hF1 (fun r hr => ?_)⟩
        have v64 : i64 (rd g 183 b) := ⟨by omega, by omega⟩
        exact B_cutAll_253 hF1 ⟨fun _ => ⟨by omega, by omega, t265 4 (b + 1) _ _ (by omega) (by omega) (by omega) (by omega) v64⟩, fun _ => ⟨by omega, by omega, t265 3 (b + 1) _ _ (by omega) (by omega) (by omega) (by omega) v64⟩⟩
      have bl : ∀ x, Rn xs xl e mm_cutAll 17 [some (.inr (.inr 182)), some (.inl a), some (.inl (b + 1)), x, o4, o5, o6] [] g Q := fun x => ih g a (b + 1) _ _ _ _ (by omega) gI g2 gf a0 (by omega) (by omega)
      exact B_cutAll_17 (RF_of gI.1) (by omega) ⟨fun c => ⟨by omega, by omega, fin c⟩, fun _ => ⟨by omega, fun _ => ⟨by omega, bl _⟩, fun _ => ⟨fun _ => ⟨by omega, fun _ => ⟨fun _ => k240, fun c1 => ⟨fun _ => k240, fun c2 => k159 c1 c2⟩⟩, fun c1 => ⟨fun _ => ⟨fun _ => k240, fun c2 => ⟨fun _ => k240, fun c3 => k159 c2 c3⟩⟩, fun c2 => k70 c1 c2⟩⟩, fun _ => ⟨by omega, bl _⟩⟩⟩⟩
  have i1 : INV (wr (wr h 182 3 (rd h 182 2)) 182 2 0) := wF_taped (wF_size hI (by omega) (by omega)) (by omega) (by omega)
  have e3 : rd (wr (wr h 182 3 (rd h 182 2)) 182 2 0) 182 3 = rd h 182 2 := (rdw_nei (by decide)).trans rdw_eq
  refine B_cutAll_0 (RF_of hI.1) (loop 1000 _ 0 0 none none none none (by omega) i1 rdw_eq (fun x i hx => ?_) (by omega) (by omega) (by omega))
  rw [rd_wr, if_neg, rd_wr, if_neg] <;> (rintro ⟨rfl, rfl⟩; exact hx (by unfold muC; omega))
end C6
