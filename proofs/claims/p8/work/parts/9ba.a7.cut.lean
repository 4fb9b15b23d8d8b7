/-! p3, part a7: the reference's tokens are the tape's -/
theorem hA_value (i : Int) : hav 186 i = (1, -9223372036854775808, 9223372036854775807, 1) := by
  unfold hav
  rw [show RGL[(186 : Int).toNat]? = some [(1, -9223372036854775808, 9223372036854775807, 1)] by decide +kernel]
  simp only [List.length_singleton, Nat.mod_one]
  rfl
theorem hav_C {j : Nat} (h0 : j = 2 ∨ j = 3 ∨ j = 7 ∨ j = 8) : (hav 182 (j : Int)).1 ≠ 2 := by
  rcases h0 with rfl | rfl | rfl | rfl <;> decide +kernel
theorem RF_fc {h h' : LH} (hF : RF h) (hf : ∀ a i, ¬ muC a i → rd h' a i = rd h a i) : RF h' := by
  intro a j c hv he
  by_cases q : muC a j
  · exfalso
    rcases q with ⟨rfl, q⟩ | rfl | rfl | rfl
    · have := hav_C (j := j) (by omega)
      rw [he] at this
      exact absurd rfl this
    · rw [hA_sort] at he
      injection he with h1
      exact absurd h1 (by decide)
    · rw [hA_place] at he
      injection he with h1
      exact absurd h1 (by decide)
    · rw [hA_value] at he
      injection he with h1
      exact absurd h1 (by decide)
  · rw [hf a j q]
    exact hF a j c hv he
/-- the reference holds token j -/
def RTK (T : Int → Int) (n : Int) (g : LH) (j : Nat) : Prop := rd g 184 j = tO T n j ∧ rd g 185 j = tP T n j ∧ (1 ≤ tO T n j → tO T n j ≤ 3 → rd g 186 j = tV T n 37 j)
section CA
variable {xs : Nat → Int} {xl e : Nat} {h : LH} {Q : Option LV → LH → Prop} {v1 v2 v3 : Int} {T : Int → Int} {n : Int}
theorem F_isSignOf (hF : RF h) (k : Q (some (.inl (if isSn v1 = true then 1 else 0))) h) : Rn xs xl e mm_isSignOf 0 [some (.inl v1)] [] h Q := by
  have k1 : isSn v1 = true → Q (some (.inl 1)) h := fun q => by rw [if_pos q] at k; exact k
  have k0 : ¬ isSn v1 = true → Q (some (.inl 0)) h := fun q => by rw [if_neg q] at k; exact k
  exact B_isSignOf_0 hF ⟨fun q => k1 (by rw [q]; rfl), fun q1 => ⟨fun q => k1 (by rw [q]; rfl), fun q2 => ⟨fun q => k1 (by rw [q]; rfl), fun q3 => ⟨fun q => k1 (by rw [q]; rfl), fun q4 => ⟨fun q => k1 (by rw [q]; rfl), fun q5 => ⟨fun q => k1 (by rw [q]; rfl), fun q6 => ⟨fun q => k1 (by rw [q]; rfl), fun q7 => ⟨fun q8 => k0 (by simp [isSn]; omega), fun q => k1 (by rw [q]; rfl)⟩⟩⟩⟩⟩⟩⟩⟩
theorem F_cutAll (he : 2 ≤ e) (hF : RF h) (h2 : rd h 182 2 = n) (n0 : 0 ≤ n) (n1 : n ≤ 1000) (hT : ∀ i, 0 ≤ i → i < n → rd h 183 i = T i)
    (k : ∀ h' (m : Nat), (∀ j : Nat, j ≤ m → RTK T n h' j) → tO T n m = 0 → (∀ j : Nat, j < m → tO T n j ≠ 0) → m ≤ 1000 → rd h' 182 7 = 0 → rd h' 182 8 = 0 → rd h' 182 2 = 0 → (∀ a i, ¬ muC a i → rd h' a i = rd h a i) → Q none h') :
    Rn xs xl e mm_cutAll 0 [some (.inr (.inr 182)), none, none, none, none, none, none] [] h Q := by
  have loop : ∀ (m : Nat) (g : LH) (a : Nat) (b : Int) (o3 o4 o5 o6 : Option LV), n - b ≤ m → rd g 182 3 = n → rd g 182 2 = 0 → (∀ x i, ¬ muC x i → rd g x i = rd h x i) → (a : Int) ≤ b → b ≤ n → tS_ T n a ≤ b → (∀ r, tS_ T n a ≤ r → r < b → r < n ∧ isWs (T r) = true) → (∀ j : Nat, j < a → RTK T n g j ∧ tO T n j ≠ 0) → Rn xs xl e mm_cutAll 17 [some (.inr (.inr 182)), some (.inl (a : Int)), some (.inl b), o3, o4, o5, o6] [] g Q := by
    intro m
    induction m with
    | zero =>
      intro g a b o3 o4 o5 o6 hm g3 g2 gf ab bn sb ws old
      have gF := RF_fc hF gf
      have s0 := tS_in (T := T) n1 n0 a
      have ep : tP T n a = b := fw_eq s0.1 n1 sb ws (fun q => by omega)
      have eo : tO T n a = 0 := tO_0.mpr (by omega)
      refine B_cutAll_17 gF (by omega) ⟨fun c => ⟨by omega, by omega, ?_⟩, fun c => by omega⟩
      rw [g3]
      refine k _ a (fun j hj => ?_) eo (fun j hj => (old j hj).2) (by omega) ((rdw_nei (by decide)).trans rdw_eq) rdw_eq ?_ (fun x i hx => ?_)
      · by_cases ej : j = a
        · subst ej
          refine ⟨?_, ?_, fun q => by omega⟩
          · rw [eo]; exact (rdw_ne (by decide)).trans ((rdw_ne (by decide)).trans ((rdw_ne (by decide)).trans rdw_eq))
          · rw [ep, show b = n by omega]; exact (rdw_ne (by decide)).trans ((rdw_ne (by decide)).trans rdw_eq)
        · obtain ⟨r1, r2, r3⟩ := (old j (by omega)).1
          refine ⟨?_, ?_, fun q1 q2 => ?_⟩
          · rw [← r1]; exact (rdw_ne (by decide)).trans ((rdw_ne (by decide)).trans ((rdw_ne (by decide)).trans (rdw_nei (by omega))))
          · rw [← r2]; exact (rdw_ne (by decide)).trans ((rdw_ne (by decide)).trans ((rdw_nei (by omega)).trans (rdw_ne (by decide))))
          · rw [← r3 q1 q2]; exact (rdw_ne (by decide)).trans ((rdw_ne (by decide)).trans ((rdw_ne (by decide)).trans (rdw_ne (by decide))))
      · exact ((rdw_nei (by decide)).trans ((rdw_nei (by decide)).trans ((rdw_ne (by decide)).trans (rdw_ne (by decide))))).trans g2
      · rw [← gf x i hx, rd_wr, if_neg, rd_wr, if_neg, rd_wr, if_neg, rd_wr, if_neg] <;> (rintro ⟨rfl, rfl⟩; exact hx (by unfold muC; omega))
    | succ m ih =>
      intro g a b o3 o4 o5 o6 hm g3 g2 gf ab bn sb ws old
      have gF := RF_fc hF gf
      have s0 := tS_in (T := T) n1 n0 a
      by_cases hb : n ≤ b
      · have ep : tP T n a = b := fw_eq s0.1 n1 sb ws (fun q => by omega)
        have eo : tO T n a = 0 := tO_0.mpr (by omega)
        refine B_cutAll_17 gF (by omega) ⟨fun c => ⟨by omega, by omega, ?_⟩, fun c => by omega⟩
        rw [g3]
        refine k _ a (fun j hj => ?_) eo (fun j hj => (old j hj).2) (by omega) ((rdw_nei (by decide)).trans rdw_eq) rdw_eq ?_ (fun x i hx => ?_)
        · by_cases ej : j = a
          · subst ej
            refine ⟨?_, ?_, fun q => by omega⟩
            · rw [eo]; exact (rdw_ne (by decide)).trans ((rdw_ne (by decide)).trans ((rdw_ne (by decide)).trans rdw_eq))
            · rw [ep, show b = n by omega]; exact (rdw_ne (by decide)).trans ((rdw_ne (by decide)).trans rdw_eq)
          · obtain ⟨r1, r2, r3⟩ := (old j (by omega)).1
            refine ⟨?_, ?_, fun q1 q2 => ?_⟩
            · rw [← r1]; exact (rdw_ne (by decide)).trans ((rdw_ne (by decide)).trans ((rdw_ne (by decide)).trans (rdw_nei (by omega))))
            · rw [← r2]; exact (rdw_ne (by decide)).trans ((rdw_ne (by decide)).trans ((rdw_nei (by omega)).trans (rdw_ne (by decide))))
            · rw [← r3 q1 q2]; exact (rdw_ne (by decide)).trans ((rdw_ne (by decide)).trans ((rdw_ne (by decide)).trans (rdw_ne (by decide))))
        · exact ((rdw_nei (by decide)).trans ((rdw_nei (by decide)).trans ((rdw_ne (by decide)).trans (rdw_ne (by decide))))).trans g2
        · rw [← gf x i hx, rd_wr, if_neg, rd_wr, if_neg, rd_wr, if_neg, rd_wr, if_neg] <;> (rintro ⟨rfl, rfl⟩; exact hx (by unfold muC; omega))
      have gT : ∀ i, 0 ≤ i → i < n → rd g 183 i = T i := fun i i0 i1 => (gf _ _ (by unfold muC; omega)).trans (hT i i0 i1)
      have gb := gT b (by omega) (by omega)
      have f1 : ∀ x i, ¬ muC x i → rd (wr g 185 a b) x i = rd h x i := by
        intro x i hx
        rw [← gf x i hx, rd_wr, if_neg]
        rintro ⟨rfl, rfl⟩
        exact hx (by unfold muC; omega)
      have hF1 : RF (wr g 185 a b) := RF_fc hF f1
      have z3 : rd (wr g 185 a b) 182 3 = n := (rdw_ne (by decide)).trans g3
      have zt : ∀ i, 0 ≤ i → i < n → rd (wr g 185 a b) 183 i = T i := fun i i0 i1 => (rdw_ne (by decide)).trans (gT i i0 i1)
      -- behind a token
      have t265 : ¬ isWs (T b) = true → ∀ (s b' c v5 : Int), tP T n a = b → s = tO T n a → b' = tS_ T n (a + 1) → (1 ≤ tO T n a → tO T n a ≤ 3 → v5 = tV T n 37 a) → Rn xs xl e mm_cutAll 265 [some (.inr (.inr 182)), some (.inl (a : Int)), some (.inl b'), some (.inl c), some (.inl b), some (.inr (.inl v5)), none] [] (wr (wr g 185 a b) 184 a s) Q := by
        intro hw s b' c v5 ep es eb ev
        have pin := tP_in (T := T) n1 n0 a
        have s1 := tS_in (T := T) n1 n0 (a + 1)
        have f2 : ∀ x i, ¬ muC x i → rd (wr (wr g 185 a b) 184 a s) x i = rd h x i := by
          intro x i hx
          rw [← f1 x i hx, rd_wr, if_neg]
          rintro ⟨rfl, rfl⟩
          exact hx (by unfold muC; omega)
        refine B_cutAll_265 (RF_fc hF f2) ⟨by omega, by omega, ?_⟩
        rw [show (a : Int) + 1 = ((a + 1 : Nat) : Int) by omega]
        refine ih _ (a + 1) b' _ _ _ _ (by omega) ?_ ?_ (fun x i hx => ?_) (by omega) (by omega) (by omega) (fun r r0 r1 => by omega) (fun j hj => ?_)
        · exact ((rdw_ne (by decide)).trans ((rdw_ne (by decide)).trans (rdw_ne (by decide)))).trans g3
        · exact ((rdw_ne (by decide)).trans ((rdw_ne (by decide)).trans (rdw_ne (by decide)))).trans g2
        · rw [← f2 x i hx, rd_wr, if_neg]
          rintro ⟨rfl, rfl⟩
          exact hx (by unfold muC; omega)
        · by_cases ej : j = a
          · subst ej
            refine ⟨⟨?_, ?_, fun q1 q2 => ?_⟩, fun q => ?_⟩
            · rw [← es]; exact (rdw_ne (by decide)).trans rdw_eq
            · rw [ep]; exact (rdw_ne (by decide)).trans ((rdw_ne (by decide)).trans rdw_eq)
            · rw [rdw_eq]; exact ev q1 q2
            · have := tO_0.mp q
              omega
          · obtain ⟨⟨r1, r2, r3⟩, r4⟩ := old j (by omega)
            refine ⟨⟨?_, ?_, fun q1 q2 => ?_⟩, r4⟩
            · rw [← r1]; exact (rdw_ne (by decide)).trans ((rdw_nei (by omega)).trans (rdw_ne (by decide)))
            · rw [← r2]; exact (rdw_ne (by decide)).trans ((rdw_ne (by decide)).trans (rdw_nei (by omega)))
            · rw [← r3 q1 q2]; exact (rdw_nei (by omega)).trans ((rdw_ne (by decide)).trans (rdw_ne (by decide)))
      have epw : ¬ isWs (T b) = true → tP T n a = b := fun hw => fw_eq s0.1 n1 sb ws (fun q => hw q.2)
      -- letters
      have t70 : ¬ isWs (T b) = true → isLt (T b) = true → ∀ (m' : Nat) (b' c v5 : Int), n - b' ≤ m' → b ≤ b' → b' ≤ n → (∀ r, b ≤ r → r < b' → r < n ∧ isLt (T r) = true) → (b' - b ≤ 8 → v5 = enc T 37 b (b' - b).toNat) → Rn xs xl e mm_cutAll 70 [some (.inr (.inr 182)), some (.inl (a : Int)), some (.inl b'), some (.inl c), some (.inl b), some (.inr (.inl v5)), none] [] (wr g 185 a b) Q := by
        intro hw hl m'
        have ep := epw hw
        have kw := tk_w (T := T) (n := n) (k := a) (by omega) (by rw [ep]; exact hl)
        rw [ep] at kw
        have ex : ∀ (b' c v5 : Int), b ≤ b' → b' ≤ n → fw T n isLt b = b' → (b' - b ≤ 8 → v5 = enc T 37 b (b' - b).toNat) → Rn xs xl e mm_cutAll 129 [some (.inr (.inr 182)), some (.inl (a : Int)), some (.inl b'), some (.inl c), some (.inl b), some (.inr (.inl v5)), none] [] (wr g 185 a b) Q := by
          intro b' c v5 b0 b1 ef ev
          rw [ef] at kw
          refine B_cutAll_129 hF1 ⟨by omega, fun c1 => ⟨by omega, t265 hw 1 b' c v5 ep ?_ kw.1.symm (fun q1 q2 => ?_)⟩, fun c1 => ⟨by omega, t265 hw 4 b' c v5 ep ?_ kw.1.symm (fun q1 q2 => ?_)⟩⟩
          · rw [kw.2, if_neg (by omega)]
          · unfold tV tN
            rw [if_pos (by rw [kw.2, if_neg (by omega)]), ep, kw.1]
            exact ev (by omega)
          · rw [kw.2, if_pos (by omega)]
          · rw [kw.2, if_pos (by omega)] at q2
            omega
        induction m' with
        | zero =>
          intro b' c v5 hm' b0 b1 hd ev
          exact B_cutAll_70 hF1 he ⟨fun _ => ex b' c v5 b0 b1 (fw_eq (by omega) n1 b0 hd (fun q => by omega)) ev, fun q => by omega⟩
        | succ m' im =>
          intro b' c v5 hm' b0 b1 hd ev
          by_cases hq : b' < n ∧ isLt (T b') = true
          · have tc := zt b' (by omega) hq.1
            have dl := isLt_iff.mp hq.2
            have hd' : ∀ r, b ≤ r → r < b' + 1 → r < n ∧ isLt (T r) = true := by
              intro r r0 r1
              by_cases er : r = b'
              · rw [er]; exact hq
              · exact hd r r0 (by omega)
            refine B_cutAll_70 hF1 he ⟨fun q => by omega, fun _ => ⟨by omega, fun q => by omega, fun _ => ⟨fun q => by omega, fun _ => ⟨by omega, fun q8 => ?_, fun q8 => ⟨by omega, fun q => by omega, fun _ => ⟨fun q => by omega, fun _ => ⟨by omega, ?_⟩⟩⟩⟩⟩⟩⟩
            · exact B_cutAll_123 hF1 ⟨by omega, im (b' + 1) c v5 (by omega) (by omega) (by omega) hd' (fun q => by omega)⟩
            · refine B_cutAll_123 hF1 ⟨by omega, im (b' + 1) c _ (by omega) (by omega) (by omega) hd' (fun q => ?_)⟩
              rw [ev (by omega), tc, show (b' + 1 - b).toNat = (b' - b).toNat + 1 by omega]
              have bd := enc_bd (T := T) (p := b) (b' - b).toNat (by omega) (fun r r0 r1 => isLt_iff.mp (hd r r0 (by omega)).2)
              have pw := pow_le8 (b := 37) (m := (b' - b).toNat) (k := 7) (by decide) (by omega)
              show _ = 37 * enc T 37 b (b' - b).toNat + (T (b + ((b' - b).toNat : Nat)) - 96)
              rw [show b + (((b' - b).toNat : Nat) : Int) = b' by omega]
              have bb1 := bd.2.2.1
              have bb2 := bd.2.2.2
              clear bd
              generalize enc T 37 b (b' - b).toNat = y at bb1 bb2
              have pw2 : (37 : Int) ^ 7 = 94931877133 := by decide
              unfold w64
              omega
          · have x := ex b' c v5 b0 b1 (fw_eq (by omega) n1 b0 hd hq) ev
            refine B_cutAll_70 hF1 he ⟨fun _ => x, fun q => ⟨by omega, fun _ => x, fun q1 => ⟨fun _ => x, fun q2 => ?_⟩⟩⟩
            have tc := zt b' (by omega) (by omega)
            exact absurd ⟨by omega, isLt_iff.mpr (by omega)⟩ hq
      -- digits
      have t159 : ¬ isWs (T b) = true → ¬ isLt (T b) = true → isDg (T b) = true → ∀ (m' : Nat) (b' c v5 : Int), n - b' ≤ m' → b ≤ b' → b' ≤ n → (∀ r, b ≤ r → r < b' → r < n ∧ isDg (T r) = true) → (b' - b ≤ 4 → v5 = num T b (b' - b).toNat) → Rn xs xl e mm_cutAll 159 [some (.inr (.inr 182)), some (.inl (a : Int)), some (.inl b'), some (.inl c), some (.inl b), some (.inr (.inl v5)), none] [] (wr g 185 a b) Q := by
        intro hw hnl hl m'
        have ep := epw hw
        have kw := tk_n (T := T) (n := n) (k := a) (by omega) (by rw [ep]; exact hnl) (by rw [ep]; exact hl)
        rw [ep] at kw
        have ex : ∀ (b' c v5 : Int), b ≤ b' → b' ≤ n → fw T n isDg b = b' → (b' - b ≤ 4 → v5 = num T b (b' - b).toNat) → Rn xs xl e mm_cutAll 218 [some (.inr (.inr 182)), some (.inl (a : Int)), some (.inl b'), some (.inl c), some (.inl b), some (.inr (.inl v5)), none] [] (wr g 185 a b) Q := by
          intro b' c v5 b0 b1 ef ev
          rw [ef] at kw
          refine B_cutAll_218 hF1 ⟨by omega, fun c1 => ⟨by omega, t265 hw 2 b' c v5 ep ?_ kw.1.symm (fun q1 q2 => ?_)⟩, fun c1 => ⟨by omega, t265 hw 4 b' c v5 ep ?_ kw.1.symm (fun q1 q2 => ?_)⟩⟩
          · rw [kw.2, if_neg (by omega)]
          · have e2 : tO T n a = 2 := by rw [kw.2, if_neg (by omega)]
            unfold tV tN
            rw [if_neg (by omega), if_pos e2, ep, kw.1]
            exact ev (by omega)
          · rw [kw.2, if_pos (by omega)]
          · rw [kw.2, if_pos (by omega)] at q2
            omega
        induction m' with
        | zero =>
          intro b' c v5 hm' b0 b1 hd ev
          exact B_cutAll_159 hF1 (by omega) ⟨fun _ => ex b' c v5 b0 b1 (fw_eq (by omega) n1 b0 hd (fun q => by omega)) ev, fun q => by omega⟩
        | succ m' im =>
          intro b' c v5 hm' b0 b1 hd ev
          by_cases hq : b' < n ∧ isDg (T b') = true
          · have tc := zt b' (by omega) hq.1
            have dl := isDg_iff.mp hq.2
            have hd' : ∀ r, b ≤ r → r < b' + 1 → r < n ∧ isDg (T r) = true := by
              intro r r0 r1
              by_cases er : r = b'
              · rw [er]; exact hq
              · exact hd r r0 (by omega)
            refine B_cutAll_159 hF1 (by omega) ⟨fun q => by omega, fun _ => ⟨by omega, fun q => by omega, fun _ => ⟨fun q => by omega, fun _ => ⟨by omega, fun q8 => ?_, fun q8 => ⟨by omega, ?_⟩⟩⟩⟩⟩
            · exact B_cutAll_212 hF1 ⟨by omega, im (b' + 1) c v5 (by omega) (by omega) (by omega) hd' (fun q => by omega)⟩
            · refine B_cutAll_212 hF1 ⟨by omega, im (b' + 1) c _ (by omega) (by omega) (by omega) hd' (fun q => ?_)⟩
              rw [ev (by omega), tc, show (b' + 1 - b).toNat = (b' - b).toNat + 1 by omega]
              have bd := num_bd (T := T) (p := b) (b' - b).toNat (fun r r0 r1 => isDg_iff.mp (hd r r0 (by omega)).2)
              have pw := pow_le8 (b := 10) (m := (b' - b).toNat) (k := 4) (by decide) (by omega)
              show _ = 10 * num T b (b' - b).toNat + T (b + ((b' - b).toNat : Nat)) - 48
              rw [show b + (((b' - b).toNat : Nat) : Int) = b' by omega]
              generalize num T b (b' - b).toNat = y at bd
              have pw2 : (10 : Int) ^ 4 = 10000 := by decide
              unfold w64
              omega
          · have x := ex b' c v5 b0 b1 (fw_eq (by omega) n1 b0 hd hq) ev
            refine B_cutAll_159 hF1 (by omega) ⟨fun _ => x, fun q => ⟨by omega, fun _ => x, fun q1 => ⟨fun _ => x, fun q2 => ?_⟩⟩⟩
            have tc := zt b' (by omega) (by omega)
            exact absurd ⟨by omega, isDg_iff.mpr (by omega)⟩ hq
      -- signs
      have k240 : ¬ isWs (T b) = true → ¬ isLt (T b) = true → ¬ isDg (T b) = true → Rn xs xl e mm_cutAll 240 [some (.inr (.inr 182)), some (.inl (a : Int)), some (.inl b), some (.inl (rd g 183 b)), some (.inl b), some (.inr (.inl 0)), none] [] (wr g 185 a b) Q := by
        intro hw hl hd
        have ep := epw hw
        have kw := tk_s (T := T) (n := n) (k := a) (by omega) (by rw [ep]; exact hl) (by rw [ep]; exact hd)
        rw [ep] at kw
        rw [gb]
        refine B_cutAll_240 hF1 ⟨0, by omega, F_isSignOf hF1 ?_⟩
        have tv : 1 ≤ tO T n a → tO T n a ≤ 3 → T b = tV T n 37 a := by
          intro q1 q2
          have n1' : ¬ tO T n a = 1 := by rw [kw.2]; split <;> omega
          have n2' : ¬ tO T n a = 2 := by rw [kw.2]; split <;> omega
          unfold tV
          rw [if_neg n1', if_neg n2', ep]
        by_cases sn : isSn (T b) = true
        · rw [if_pos sn] at kw ⊢
          exact B_cutAll_253 hF1 ⟨fun q => absurd q (by decide), fun _ => ⟨by omega, by omega, t265 hw 3 (b + 1) _ _ ep kw.2.symm kw.1.symm tv⟩⟩
        · rw [if_neg sn] at kw ⊢
          exact B_cutAll_253 hF1 ⟨fun _ => ⟨by omega, by omega, t265 hw 4 (b + 1) _ _ ep kw.2.symm kw.1.symm tv⟩, fun q => absurd rfl q⟩
      have bl : isWs (T b) = true → ∀ x, Rn xs xl e mm_cutAll 17 [some (.inr (.inr 182)), some (.inl (a : Int)), some (.inl (b + 1)), x, o4, o5, o6] [] g Q := by
        intro hw x
        refine ih g a (b + 1) _ _ _ _ (by omega) g3 g2 gf (by omega) (by omega) (by omega) (fun r r0 r1 => ?_) old
        by_cases er : r = b
        · rw [er]; exact ⟨by omega, hw⟩
        · exact ws r r0 (by omega)
      have nws : rd g 183 b ≠ 10 → rd g 183 b ≠ 32 → ¬ isWs (T b) = true := by
        intro q1 q2 q
        have := isWs_iff.mp q
        omega
      have st0 : (0 : Int) = enc T 37 b (b - b).toNat := by rw [show (b - b).toNat = 0 by omega]; rfl
      have st1 : (0 : Int) = num T b (b - b).toNat := by rw [show (b - b).toNat = 0 by omega]; rfl
      have K240 : ∀ (q1 : rd g 183 b ≠ 10) (q2 : rd g 183 b ≠ 32), ¬ (97 ≤ rd g 183 b ∧ rd g 183 b ≤ 122) → ¬ (48 ≤ rd g 183 b ∧ rd g 183 b ≤ 57) → Rn xs xl e mm_cutAll 240 [some (.inr (.inr 182)), some (.inl (a : Int)), some (.inl b), some (.inl (rd g 183 b)), some (.inl b), some (.inr (.inl 0)), none] [] (wr g 185 a b) Q := fun q1 q2 q3 q4 => k240 (nws q1 q2) (fun q => q3 (by have := isLt_iff.mp q; omega)) (fun q => q4 (by have := isDg_iff.mp q; omega))
      have K159 : ∀ (q1 : rd g 183 b ≠ 10) (q2 : rd g 183 b ≠ 32), 48 ≤ rd g 183 b → rd g 183 b ≤ 57 → Rn xs xl e mm_cutAll 159 [some (.inr (.inr 182)), some (.inl (a : Int)), some (.inl b), some (.inl (rd g 183 b)), some (.inl b), some (.inr (.inl 0)), none] [] (wr g 185 a b) Q := fun q1 q2 q3 q4 => t159 (nws q1 q2) (fun q => by have := isLt_iff.mp q; omega) (isDg_iff.mpr (by omega)) (n - b).toNat b _ 0 (by omega) (by omega) (by omega) (fun r r0 r1 => by omega) (fun _ => st1)
      have K70 : ∀ (q1 : rd g 183 b ≠ 10) (q2 : rd g 183 b ≠ 32), 97 ≤ rd g 183 b → rd g 183 b ≤ 122 → Rn xs xl e mm_cutAll 70 [some (.inr (.inr 182)), some (.inl (a : Int)), some (.inl b), some (.inl (rd g 183 b)), some (.inl b), some (.inr (.inl 0)), none] [] (wr g 185 a b) Q := fun q1 q2 q3 q4 => t70 (nws q1 q2) (isLt_iff.mpr (by omega)) (n - b).toNat b _ 0 (by omega) (by omega) (by omega) (fun r r0 r1 => by omega) (fun _ => st0)
      exact B_cutAll_17 gF (by omega) ⟨fun c => by omega, fun _ => ⟨by omega, fun c => ⟨by omega, bl (isWs_iff.mpr (by omega)) _⟩, fun d1 => ⟨fun d2 => ⟨by omega, fun c1 => ⟨fun c2 => K240 d1 d2 (by omega) (by omega), fun c2 => ⟨fun c3 => K240 d1 d2 (by omega) (by omega), fun c3 => K159 d1 d2 c2 c3⟩⟩, fun c1 => ⟨fun c2 => ⟨fun c3 => K240 d1 d2 (by omega) (by omega), fun c3 => ⟨fun c4 => K240 d1 d2 (by omega) (by omega), fun c4 => K159 d1 d2 c3 c4⟩⟩, fun c2 => K70 d1 d2 c1 c2⟩⟩, fun d2 => ⟨by omega, bl (isWs_iff.mpr (by omega)) _⟩⟩⟩⟩
  have e3 : rd (wr (wr h 182 3 (rd h 182 2)) 182 2 0) 182 3 = n := (rdw_nei (by decide)).trans (rdw_eq.trans h2)
  refine B_cutAll_0 hF (loop n.toNat _ 0 0 none none none none (by omega) e3 rdw_eq (fun x i hx => ?_) (by omega) (by omega) (Int.le_refl _) (fun r r0 r1 => ?_) (fun j hj => by omega))
  · rw [rd_wr, if_neg, rd_wr, if_neg] <;> (rintro ⟨rfl, rfl⟩; exact hx (by unfold muC; omega))
  · have : tS_ T n 0 = 0 := rfl
    omega
end CA
