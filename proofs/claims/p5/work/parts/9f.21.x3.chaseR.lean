/-! chase, part x3: the reference's chase -/
def frMv (h g : LH) : Prop := ∀ a i, a ≠ 196 → a ≠ 197 → a ≠ 203 → a ≠ 212 → rd g a i = rd h a i
/-- what the reference knows of one place before a round -/
def MVs (E : Int → Int → Prop) (n rd' k v : Int) : Prop := (v = 1000000 ∧ ∀ j : Nat, (j : Int) < rd' → ¬ chK E n k j) ∨ (0 ≤ v ∧ v < rd' ∧ chK E n k v.toNat ∧ ∀ j : Nat, (j : Int) < v → ¬ chK E n k j)
section XC
variable {xs : Nat → Int} {xl e : Nat} {h g u : LH} {Q : Option LV → LH → Prop} {E : Int → Int → Prop} {K : KEY} {n a b c r v k R v1 v2 v3 v4 v7 v8 X : Int} {m : Nat}
theorem frMv.trans {h1 : LH} (a : frMv h g) (c : frMv g h1) : frMv h h1 := fun x i n1 n2 n3 n4 => (c x i n1 n2 n3 n4).trans (a x i n1 n2 n3 n4)
theorem frMv.key (f : frMv h g) : key g = key h := key_frs (fun a i a0 a1 => f a i (by omega) (by omega) (by omega) (by omega)) (fun i a0 a1 => f 182 i (by decide) (by decide) (by decide) (by decide))
theorem G_laysNow (he : 5 ≤ e) (hI : INV h) (eK : key h = K) (k : ∀ g, INV g → frI h g → (∀ a, 0 ≤ a → a < K.1 0 → ∀ b, 0 ≤ b → b < 32 → (bitZ (rd g 203 a) b ↔ chE K (rd h 198 0) v1 a b)) → Q none g) : Rn xs xl e mm_laysNow 0 [some (.inr (.inr 182)), some (.inl v1), none] [] h Q := by
  have hK : KR K := by
    rw [← eK]
    exact KR_of hI
  have k0 := hK.1
  have hn := rs_now hI.1 (i := 0) 0 0 (by decide) (by decide) (by decide) (by decide) (by decide) (by decide)
  have loop : ∀ (fuel : Nat) (g : LH) (v2 : Int), 10 - v2 ≤ fuel → 0 ≤ v2 → v2 ≤ 10 → INV g → frI h g → (∀ a, 0 ≤ a → a < v2 → rd g 203 a = 0) → Rn xs xl e mm_laysNow 2 [some (.inr (.inr 182)), some (.inl v1), some (.inl v2)] [] g Q := by
    intro fuel
    have stop : ∀ (g : LH) (v2 : Int), 10 ≤ v2 → INV g → frI h g → (∀ a, 0 ≤ a → a < v2 → rd g 203 a = 0) → (24 ≤ rd g 198 0 → Q none g) ∧ (rd g 198 0 < 24 → ∃ c, c < e ∧ Rn xs xl c mm_laysInto 0 [some (.inr (.inr 182)), some (.inl 0), some (.inl (rd g 198 0)), some (.inl v1), some (.inl 0), none, none, none] [] g (fun r h' => Rn xs xl e mm_laysNow 45 [some (.inr (.inr 182)), some (.inl v1), some (.inl v2)] (r.toList ++ []) h' Q)) := fun g v2 c gI gf gz => by
      have e8 : rd g 198 0 = rd h 198 0 := gf 198 0 (by decide) (by decide) (by decide)
      refine ⟨fun z => k g gI gf (fun a a0 a1 b b0 b1 => ?_), fun z => ⟨4, by omega, ?_⟩⟩
      · rw [gz a a0 (by omega)]
        exact ⟨fun y => absurd y bit_zero, fun y => by have := y.1; omega⟩
      · refine G_laysInto (K := K) (Nat.le_refl 4) gI (gf.key.trans eK) (by decide) (by omega) (fun w wI wf wl => B_laysNow_45 (RF_of wI.1) (k w wI (gf.trans wf) (fun a a0 a1 b b0 b1 => ?_)))
        rw [wl a a0 (by omega) b b0 b1, e8]
        exact ⟨fun y => ⟨by omega, b0, y⟩, fun y => y.2.2⟩
    induction fuel with
    | zero =>
      intro g v2 hm a0 a1 gI gf gz
      exact B_laysNow_2 (RF_of gI.1) (by omega) ⟨fun c => stop g v2 c gI gf gz, fun c => by omega⟩
    | succ fuel ih =>
      intro g v2 hm a0 a1 gI gf gz
      refine B_laysNow_2 (RF_of gI.1) (by omega) ⟨fun c => stop g v2 c gI gf gz, fun c => ⟨by omega, ih _ (v2 + 1) (by omega) (by omega) (by omega) (wA_into gI (by omega) (by decide) (by decide)) (fun a i n1 n2 n3 => ?_) (fun a c0 c1 => ?_)⟩⟩
      · rw [rdw_ne (fun z => n3 z.symm)]
        exact gf a i n1 n2 n3
      · by_cases z : a = v2
        · rw [z, rdw_eq]
        · rw [rdw_nei (by omega)]
          exact gz a c0 (by omega)
  exact B_laysNow_0 (RF_of hI.1) (loop 10 h 0 (by omega) (by omega) (by omega) hI (frI.refl h) (fun a a0 a1 => by omega))
theorem chK_even (b0 : 0 ≤ b ∧ b ≤ 9) : chK E n (20 * a + 2 * b) m ↔ (chT E n m).1 a b := by
  have e1 : (20 * a + 2 * b) / 20 = a := by omega
  have e2 : (20 * a + 2 * b) / 2 % 10 = b := by omega
  have e3 : (20 * a + 2 * b) % 2 = 0 := by omega
  unfold chK
  rw [e1, e2]
  exact ⟨fun z => z.elim (fun y => y.2) (fun y => absurd e3 y.1), fun z => Or.inl ⟨e3, z⟩⟩
theorem chK_odd (b0 : 0 ≤ b ∧ b ≤ 9) : chK E n (20 * a + 2 * b + 1) m ↔ (chT E n m).2 a b := by
  have e1 : (20 * a + 2 * b + 1) / 20 = a := by omega
  have e2 : (20 * a + 2 * b + 1) / 2 % 10 = b := by omega
  have e3 : (20 * a + 2 * b + 1) % 2 ≠ 0 := by omega
  unfold chK
  rw [e1, e2]
  exact ⟨fun z => z.elim (fun y => absurd y.1 e3) (fun y => y.2), fun z => Or.inr ⟨e3, z⟩⟩
theorem chK_0 : chK E n k 0 ↔ k / 20 = k / 2 % 10 := by
  unfold chK
  constructor
  · rintro (⟨_, z⟩ | ⟨_, z⟩)
    · exact z
    · exact z
  · intro z
    by_cases c : k % 2 = 0
    · exact Or.inl ⟨c, z⟩
    · exact Or.inr ⟨c, z⟩
theorem chK_le (hk : 0 ≤ k) (ha : k / 20 < n) (hb : k / 2 % 10 < n) (m j : Nat) (z : chK E n k m) : chK E n k (m + j) := by
  have s := ch_le (E := E) (n := n) (a := k / 20) (b := k / 2 % 10) (by omega) ha (by omega) hb m j
  exact z.elim (fun y => Or.inl ⟨y.1, s.1 y.2⟩) (fun y => Or.inr ⟨y.1, s.2 y.2⟩)
theorem MV_lt (hk : 0 ≤ k) (ha : k / 20 < n) (hb : k / 2 % 10 < n) (hR : 1 ≤ R ∧ R ≤ 199) (h : MVs E n R k v ∨ MVs E n (R + 1) k v) : v < R ↔ chK E n k (R - 1).toNat := by
  have up : 0 ≤ v → v < R → chK E n k v.toNat → chK E n k (R - 1).toNat := fun v0 v1 z => by
    have := chK_le hk ha hb v.toNat ((R - 1).toNat - v.toNat) z
    rw [show v.toNat + ((R - 1).toNat - v.toNat) = (R - 1).toNat by omega] at this
    exact this
  rcases h with (⟨z1, z2⟩ | ⟨z1, z2, z3, z4⟩) | (⟨z1, z2⟩ | ⟨z1, z2, z3, z4⟩)
  · exact ⟨fun y => by omega, fun y => absurd y (z2 _ (by omega))⟩
  · exact ⟨fun y => up z1 y z3, fun _ => z2⟩
  · exact ⟨fun y => by omega, fun y => absurd y (z2 _ (by omega))⟩
  · by_cases c : v < R
    · exact ⟨fun y => up z1 y z3, fun _ => c⟩
    · exact ⟨fun y => absurd y c, fun y => absurd y (z4 _ (by omega))⟩
theorem fork {G : Int → Int → Prop} (h7 : v7 = 0 ∨ v7 = 1) (h8 : v8 = 0 ∨ v8 = 1) (H : ∀ w7 w8, (w7 = 0 ∨ w7 = 1) → (w8 = 0 ∨ w8 = 1) → (w7 = 1 ↔ v7 = 1 ∧ X < v2) → (w8 = 1 ↔ v8 = 1 ∨ X < v2) → G w7 w8) : (v7 = 0 → (v8 ≠ 0 → G 0 1) ∧ (v8 = 0 → (v2 ≤ X → G 0 0) ∧ (X < v2 → G 0 1))) ∧ (v7 ≠ 0 → (v2 ≤ X → (v8 ≠ 0 → G 0 1) ∧ (v8 = 0 → G 0 0)) ∧ (X < v2 → (v8 ≠ 0 → G 1 1) ∧ (v8 = 0 → G 1 1))) :=
  ⟨fun a => ⟨fun b => H 0 1 (Or.inl rfl) (Or.inr rfl) (by omega) (by omega), fun b => ⟨fun c => H 0 0 (Or.inl rfl) (Or.inl rfl) (by omega) (by omega), fun c => H 0 1 (Or.inl rfl) (Or.inr rfl) (by omega) (by omega)⟩⟩, fun a => ⟨fun c => ⟨fun b => H 0 1 (Or.inl rfl) (Or.inr rfl) (by omega) (by omega), fun b => H 0 0 (Or.inl rfl) (Or.inl rfl) (by omega) (by omega)⟩, fun c => ⟨fun b => H 1 1 (Or.inr rfl) (Or.inr rfl) (by omega) (by omega), fun b => H 1 1 (Or.inr rfl) (Or.inr rfl) (by omega) (by omega)⟩⟩⟩
theorem G_afterMove (he : 1 ≤ e) (hF : RF h) (n0 : 0 ≤ n ∧ n ≤ 10) (en : rd h 188 0 = n) (h1 : 0 ≤ v1 ∧ v1 ≤ 199) (ha : v1 / 20 < n) (hb : v1 / 2 % 10 < n) (hE : ∀ a, 0 ≤ a → a < n → ∀ b, 0 ≤ b → b < 32 → (bitZ (rd h 203 a) b ↔ E a b)) (mv : ∀ k, 0 ≤ k → k ≤ 199 → k / 20 < n → k / 2 % 10 < n → (rd h 212 k < v2 ↔ chK E n k m)) (nd : v1 / 20 ≠ v1 / 2 % 10) (k : ∀ r, (r = 0 ∨ r = 1) → (r = 1 ↔ chK E n v1 (m + 1)) → Q (some (.inl r)) h) : Rn xs xl e mm_afterMove 0 [some (.inr (.inr 182)), some (.inl v1), some (.inl v2), none, none, none, none, none, none, none, none] [] h Q := by
  have a9 : 0 ≤ v1 / 20 ∧ v1 / 20 ≤ 9 := by omega
  have b9 : 0 ≤ v1 / 2 % 10 ∧ v1 / 2 % 10 ≤ 9 := by omega
  have kT : chK E n v1 (m + 1) ↔ (v1 % 2 = 0 ∧ (chT E n (m + 1)).1 (v1 / 20) (v1 / 2 % 10)) ∨ (v1 % 2 ≠ 0 ∧ (chT E n (m + 1)).2 (v1 / 20) (v1 / 2 % 10)) := Iff.rfl
  generalize eA : v1 / 20 = a at *
  generalize eB : v1 / 2 % 10 = b at *
  have mem : ∀ x, 0 ≤ x → x < n → ∀ r, 0 ≤ r → r < 32 → (bitZ (zor (rd h 203 x) (zshl 1 x)) r ↔ r = x ∨ E x r) := fun x x0 x1 r r0 r1 => by
    rw [bit_or r0 r1, bit_shl x0 (by omega) r0 r1, hE x x0 x1 r r0 r1]
    exact Or.comm
  have loop : ∀ (v5 v6 : Int) (fuel : Nat) (v7 v8 v9 : Int) (o10 : Option LV), n - v9 ≤ fuel → 0 ≤ v9 → v9 ≤ n → (v7 = 0 ∨ v7 = 1) → (v8 = 0 ∨ v8 = 1) → (v7 = 1 ↔ ∀ r, 0 ≤ r → r < v9 → bitZ v6 r → ((v1 % 2 ≠ 0 ∧ rd h 212 (20 * a + 2 * r) < v2) ∨ (v1 % 2 = 0 ∧ rd h 212 (20 * r + 2 * b + 1) < v2))) → (v8 = 1 ↔ ∃ r, 0 ≤ r ∧ r < v9 ∧ bitZ v6 r ∧ ((v1 % 2 ≠ 0 ∧ rd h 212 (20 * a + 2 * r) < v2) ∨ (v1 % 2 = 0 ∧ rd h 212 (20 * r + 2 * b + 1) < v2))) → (∀ r, (r = 0 ∨ r = 1) → (v1 % 2 = 0 → (r = 1 ↔ ∀ r, 0 ≤ r → r < n → bitZ v6 r → rd h 212 (20 * r + 2 * b + 1) < v2)) → (v1 % 2 ≠ 0 → (r = 1 ↔ ∃ r, 0 ≤ r ∧ r < n ∧ bitZ v6 r ∧ rd h 212 (20 * a + 2 * r) < v2)) → Q (some (.inl r)) h) → Rn xs xl e mm_afterMove 50 [some (.inr (.inr 182)), some (.inl v1), some (.inl v2), some (.inl a), some (.inl b), some (.inl v5), some (.inl v6), some (.inl v7), some (.inl v8), some (.inl v9), o10] [] h Q := by
    intro v5 v6 fuel
    have stop : ∀ (v7 v8 v9 : Int), n ≤ v9 → v9 ≤ n → (v7 = 0 ∨ v7 = 1) → (v8 = 0 ∨ v8 = 1) → (v7 = 1 ↔ ∀ r, 0 ≤ r → r < v9 → bitZ v6 r → ((v1 % 2 ≠ 0 ∧ rd h 212 (20 * a + 2 * r) < v2) ∨ (v1 % 2 = 0 ∧ rd h 212 (20 * r + 2 * b + 1) < v2))) → (v8 = 1 ↔ ∃ r, 0 ≤ r ∧ r < v9 ∧ bitZ v6 r ∧ ((v1 % 2 ≠ 0 ∧ rd h 212 (20 * a + 2 * r) < v2) ∨ (v1 % 2 = 0 ∧ rd h 212 (20 * r + 2 * b + 1) < v2))) → (∀ r, (r = 0 ∨ r = 1) → (v1 % 2 = 0 → (r = 1 ↔ ∀ r, 0 ≤ r → r < n → bitZ v6 r → rd h 212 (20 * r + 2 * b + 1) < v2)) → (v1 % 2 ≠ 0 → (r = 1 ↔ ∃ r, 0 ≤ r ∧ r < n ∧ bitZ v6 r ∧ rd h 212 (20 * a + 2 * r) < v2)) → Q (some (.inl r)) h) → (v1 % 2 ≠ 0 → (v8 = 0 ∨ v8 = 1) ∧ Q (some (.inl v8)) h) ∧ (v1 % 2 = 0 → (v7 = 0 ∨ v7 = 1) ∧ Q (some (.inl v7)) h) := fun v7 v8 v9 c0 c1 h7 h8 i7 i8 kk => by
      have ev : v9 = n := by omega
      rw [ev] at i7 i8
      refine ⟨fun t => ⟨h8, kk v8 h8 (fun z => absurd z t) (fun _ => i8.trans ⟨?_, ?_⟩)⟩, fun t => ⟨h7, kk v7 h7 (fun _ => i7.trans ⟨?_, ?_⟩) (fun z => absurd t z)⟩⟩
      · rintro ⟨r, r0, r1, r2, r3⟩
        exact ⟨r, r0, r1, r2, r3.elim (fun y => y.2) (fun y => absurd y.1 t)⟩
      · rintro ⟨r, r0, r1, r2, r3⟩
        exact ⟨r, r0, r1, r2, Or.inl ⟨t, r3⟩⟩
      · intro z r r0 r1 r2
        exact (z r r0 r1 r2).elim (fun y => absurd t y.1) (fun y => y.2)
      · intro z r r0 r1 r2
        exact Or.inr ⟨t, z r r0 r1 r2⟩
    induction fuel with
    | zero =>
      intro v7 v8 v9 o10 hm c0 c1 h7 h8 i7 i8 kk
      exact B_afterMove_50 hF h1 a9 b9 (by omega) he ⟨fun c => stop v7 v8 v9 (by omega) c1 h7 h8 i7 i8 kk, fun c => by omega⟩
    | succ fuel ih =>
      intro v7 v8 v9 o10 hm c0 c1 h7 h8 i7 i8 kk
      refine B_afterMove_50 hF h1 a9 b9 (by omega) he ⟨fun c => stop v7 v8 v9 (by omega) c1 h7 h8 i7 i8 kk, fun c => ⟨fun z => B_afterMove_147 hF (by omega) (ih v7 v8 (v9 + 1) o10 (by omega) (by omega) (by omega) h7 h8 (i7.trans ⟨?_, ?_⟩) (i8.trans ⟨?_, ?_⟩) kk), fun z => ⟨fun t => ⟨by omega, ?_⟩, fun t => ⟨by omega, ?_⟩⟩⟩⟩
      · intro y r r0 r1 r2
        by_cases w : r = v9
        · rw [w] at r2
          exact absurd r2 z
        · exact y r r0 (by omega) r2
      · intro y r r0 r1 r2
        exact y r r0 (by omega) r2
      · rintro ⟨r, r0, r1, r2⟩
        exact ⟨r, r0, by omega, r2⟩
      · rintro ⟨r, r0, r1, r2, r3⟩
        by_cases w : r = v9
        · rw [w] at r2
          exact absurd r2 z
        · exact ⟨r, r0, by omega, r2, r3⟩
      · refine fork (G := fun w7 w8 => Rn xs xl e mm_afterMove 147 [some (.inr (.inr 182)), some (.inl v1), some (.inl v2), some (.inl a), some (.inl b), some (.inl v5), some (.inl v6), some (.inl w7), some (.inl w8), some (.inl v9), some (.inl (rd h 212 (20 * a + 2 * v9)))] [] h Q) h7 h8 (fun w7 w8 q7 q8 j7 j8 => B_afterMove_147 hF (by omega) (ih w7 w8 (v9 + 1) _ (by omega) (by omega) (by omega) q7 q8 ?_ ?_ kk))
        · rw [j7, i7]
          constructor
          · rintro ⟨y1, y2⟩ r r0 r1 r2
            by_cases w : r = v9
            · rw [w]
              exact Or.inl ⟨t, y2⟩
            · exact y1 r r0 (by omega) r2
          · intro y
            exact ⟨fun r r0 r1 r2 => y r r0 (by omega) r2, (y v9 c0 (by omega) z).elim (fun w => w.2) (fun w => absurd w.1 t)⟩
        · rw [j8, i8]
          constructor
          · rintro (⟨r, r0, r1, r2⟩ | y)
            · exact ⟨r, r0, by omega, r2⟩
            · exact ⟨v9, c0, by omega, z, Or.inl ⟨t, y⟩⟩
          · rintro ⟨r, r0, r1, r2, r3⟩
            by_cases w : r = v9
            · rw [w] at r3
              exact Or.inr (r3.elim (fun w => w.2) (fun w => absurd w.1 t))
            · exact Or.inl ⟨r, r0, by omega, r2, r3⟩
      · refine fork (G := fun w7 w8 => Rn xs xl e mm_afterMove 147 [some (.inr (.inr 182)), some (.inl v1), some (.inl v2), some (.inl a), some (.inl b), some (.inl v5), some (.inl v6), some (.inl w7), some (.inl w8), some (.inl v9), some (.inl (rd h 212 (20 * v9 + 2 * b + 1)))] [] h Q) h7 h8 (fun w7 w8 q7 q8 j7 j8 => B_afterMove_147 hF (by omega) (ih w7 w8 (v9 + 1) _ (by omega) (by omega) (by omega) q7 q8 ?_ ?_ kk))
        · rw [j7, i7]
          constructor
          · rintro ⟨y1, y2⟩ r r0 r1 r2
            by_cases w : r = v9
            · rw [w]
              exact Or.inr ⟨t, y2⟩
            · exact y1 r r0 (by omega) r2
          · intro y
            exact ⟨fun r r0 r1 r2 => y r r0 (by omega) r2, (y v9 c0 (by omega) z).elim (fun w => absurd t w.1) (fun w => w.2)⟩
        · rw [j8, i8]
          constructor
          · rintro (⟨r, r0, r1, r2⟩ | y)
            · exact ⟨r, r0, by omega, r2⟩
            · exact ⟨v9, c0, by omega, z, Or.inr ⟨t, y⟩⟩
          · rintro ⟨r, r0, r1, r2, r3⟩
            by_cases w : r = v9
            · rw [w] at r3
              exact Or.inr (r3.elim (fun w => absurd t w.1) (fun w => w.2))
            · exact Or.inl ⟨r, r0, by omega, r2, r3⟩
  refine B_afterMove_0 hF h1 ⟨by omega, fun t => ⟨by omega, ?_⟩, fun t => ⟨by omega, ?_⟩⟩
  · rw [eA, eB]
    refine loop b (zor (rd h 203 b) (zshl 1 b)) n.toNat 1 0 0 none (by omega) (by omega) (by omega) (Or.inr rfl) (Or.inl rfl) ⟨fun _ r r0 r1 _ => by omega, fun _ => rfl⟩ ⟨fun z => by omega, fun ⟨r, r0, r1, _⟩ => by omega⟩ (fun r r01 _ go => k r r01 ((go t).trans (Iff.trans ⟨?_, ?_⟩ kT.symm)))
    · rintro ⟨r, r0, r1, r2, r3⟩
      exact Or.inr ⟨t, r, r0, r1, (mem b (by omega) hb r r0 (by omega)).mp r2, (chK_even ⟨r0, by omega⟩).mp ((mv (20 * a + 2 * r) (by omega) (by omega) (by omega) (by omega)).mp r3)⟩
    · rintro (z | ⟨_, r, r0, r1, r2, r3⟩)
      · exact absurd z.1 t
      · exact ⟨r, r0, r1, (mem b (by omega) hb r r0 (by omega)).mpr r2, (mv (20 * a + 2 * r) (by omega) (by omega) (by omega) (by omega)).mpr ((chK_even ⟨r0, by omega⟩).mpr r3)⟩
  · rw [eA, eB]
    refine loop a (zor (rd h 203 a) (zshl 1 a)) n.toNat 1 0 0 none (by omega) (by omega) (by omega) (Or.inr rfl) (Or.inl rfl) ⟨fun _ r r0 r1 _ => by omega, fun _ => rfl⟩ ⟨fun z => by omega, fun ⟨r, r0, r1, _⟩ => by omega⟩ (fun r r01 go _ => k r r01 ((go t).trans (Iff.trans ⟨?_, ?_⟩ kT.symm)))
    · intro z
      exact Or.inl ⟨t, Or.inr (fun r r0 r1 r2 => (chK_odd b9).mp ((mv (20 * r + 2 * b + 1) (by omega) (by omega) (by omega) (by omega)).mp (z r r0 r1 ((mem a (by omega) ha r r0 (by omega)).mpr r2))))⟩
    · rintro (⟨_, z | z⟩ | z)
      · exact absurd z nd
      · intro r r0 r1 r2
        exact (mv (20 * r + 2 * b + 1) (by omega) (by omega) (by omega) (by omega)).mpr ((chK_odd b9).mpr (z r r0 r1 ((mem a (by omega) ha r r0 (by omega)).mp r2)))
      · exact absurd t z.1
theorem EQL_M (hI : INV h) (hE : EQL h) (f : ∀ a i, a ≠ 196 → a ≠ 197 → a ≠ 203 → a ≠ 212 → ¬ (a = 182 ∧ i = 0) → rd g a i = rd h a i) : EQL g :=
  EQL_fr hI hE (f 2 0 (by decide) (by decide) (by decide) (by decide) (by decide)) (f 182 2 (by decide) (by decide) (by decide) (by decide) (by decide)) (fun a i ha => by
    obtain ⟨y1, y2, -⟩ := inK_p ha
    exact f a i (by omega) (by omega) (by omega) (by omega) (by omega))
theorem G_chaseS (he : 8 ≤ e) (hI : INV h) (hE : EQL h) (gI : INV g) (hj : chaJ v1 v2 h g r) (k : ∀ g', INV g' → EQL g' → Q (some (.inl r)) g') : Rn xs xl e mm_chase 0 [some (.inr (.inr 182)), some (.inl v1), some (.inl v2), none, none] [] g Q := by
  obtain ⟨sm, hc⟩ := hj
  have EG : EQL g := EQL_fr hI hE (sm 2 0 (by decide) (by decide) (by decide)) (sm 182 2 (by decide) (by decide) (by decide)) (fun a i ha => by
    obtain ⟨y1, -⟩ := inK_p ha
    exact sm a i (by omega) (by omega) (by omega))
  have ek : key g = key h := key_frs (fun a i a0 a1 => sm a i (by omega) (by omega) (by omega)) (fun i _ _ => sm 182 i (by decide) (by decide) (by decide))
  have n0 := rq_rooms gI.1
  have eC : chaC g v1 v2 ↔ chaC h v1 v2 := by
    unfold chaC
    rw [sm 188 0 (by decide) (by decide) (by decide)]
  rw [← eC, ← ek, ← sm 198 0 (by decide) (by decide) (by decide), ← sm 198 1 (by decide) (by decide) (by decide), ← sm 188 0 (by decide) (by decide) (by decide)] at hc
  have no : ¬ chaC g v1 v2 → Q (some (.inl (-1))) (wr g 182 0 0) := fun z => by
    obtain ⟨i1, e1⟩ := thr gI EG
    rcases hc with ⟨_, rfl⟩ | ⟨c, _⟩
    · exact k _ i1 e1
    · exact absurd c z
  refine B_chase_0 (RF_of gI.1) (by omega) ⟨fun c => no (fun z => by have := z.1; omega), fun a1 => ⟨fun c => no (fun z => by have := z.1; omega), fun a2 => ⟨fun c => no (fun z => by have := z.2; omega), fun a3 => ⟨fun c => no (fun z => by have := z.2; omega), fun a4 => ⟨5, by omega, ?_⟩⟩⟩⟩⟩
  have hR : chR (chE (key g) (rd g 198 0) (rd g 198 1)) (rd g 188 0) v1 v2 r := by
    rcases hc with ⟨z, _⟩ | ⟨_, z⟩
    · exact absurd ⟨⟨a1, a2⟩, a3, a4⟩ z
    · exact z
  obtain ⟨tI, tK, -⟩ := WC_thr gI
  refine G_laysNow (K := key g) (Nat.le_refl 5) tI tK (fun u uI uf ul => ?_)
  have t8 : rd (wr g 182 0 0) 198 0 = rd g 198 0 := rdw_ne (by decide)
  rw [t8] at ul
  generalize eE : chE (key g) (rd g 198 0) (rd g 198 1) = E at hR
  have ul' : ∀ a, 0 ≤ a → a < rd g 188 0 → ∀ b, 0 ≤ b → b < 32 → (bitZ (rd u 203 a) b ↔ E a b) := fun a a0 a1 b b0 b1 => by
    rw [← eE]
    exact ul a a0 a1 b b0 b1
  have eu : ∀ {w : LH}, frMv u w → rd w 188 0 = rd g 188 0 := fun f => by
    rw [f 188 0 (by decide) (by decide) (by decide) (by decide), uf 188 0 (by decide) (by decide) (by decide), rdw_ne (by decide)]
  have w203 : ∀ {w : LH}, (∀ i, rd w 203 i = rd u 203 i) → ∀ a, 0 ≤ a → a < rd g 188 0 → ∀ b, 0 ≤ b → b < 32 → (bitZ (rd w 203 a) b ↔ E a b) := fun f a a0 a1 b b0 b1 => by
    rw [f a]
    exact ul' a a0 a1 b b0 b1
  generalize eN : rd g 188 0 = n at *
  have fin : ∀ (w : LH) (x : Int), INV w → frMv u w → x = r → Q (some (.inl x)) w := fun w x wI wf ex => by
    rw [ex]
    exact k w wI (EQL_M gI EG (fun a i m1 m2 m3 m4 m5 => (wf a i m1 m2 m3 m4).trans ((uf a i m1 m2 m3).trans (by rw [rd_wr, if_neg (by omega)]))))
  -- the rounds
  have rounds : ∀ (fuel : Nat) (w : LH) (R : Int) (o4 : Option LV), 200 - R ≤ fuel → 1 ≤ R → R ≤ 200 → INV w → frMv u w → (∀ i, rd w 203 i = rd u 203 i) → (∀ k, 0 ≤ k → k ≤ 199 → k / 20 < n → k / 2 % 10 < n → MVs E n R k (rd w 212 k)) → Rn xs xl e mm_chase 76 [some (.inr (.inr 182)), some (.inl v1), some (.inl v2), some (.inl R), o4] [] w Q := by
    intro fuel
    have stop : ∀ (w : LH) (R : Int), 200 ≤ R → R ≤ 200 → INV w → frMv u w → (∀ k, 0 ≤ k → k ≤ 199 → k / 20 < n → k / 2 % 10 < n → MVs E n R k (rd w 212 k)) → (rd w 212 (20 * v1 + 2 * v2) ≠ 1000000 → Q (some (.inl (rd w 212 (20 * v1 + 2 * v2)))) w) ∧ (rd w 212 (20 * v1 + 2 * v2) = 1000000 → Q (some (.inl (-1))) w) := fun w R c0 c1 wI wf mv => by
      have hm := mv (20 * v1 + 2 * v2) (by omega) (by omega) (by omega) (by omega)
      have eR : R = 200 := by omega
      rw [eR] at hm
      have v9 : 0 ≤ v2 ∧ v2 ≤ 9 := by omega
      refine ⟨fun z => fin w _ wI wf (chR_one (E := E) (n := n) (a := v1) (b := v2) ?_ hR), fun z => fin w _ wI wf (chR_one (E := E) (n := n) (a := v1) (b := v2) ?_ hR)⟩
      · rcases hm with ⟨x, _⟩ | ⟨x1, x2, x3, x4⟩
        · exact absurd x z
        · exact Or.inr ⟨x1, (chK_even v9).mp x3, fun j hj t => x4 j (by omega) ((chK_even v9).mpr t)⟩
      · rcases hm with ⟨_, x⟩ | ⟨x1, x2, x3, x4⟩
        · exact Or.inl ⟨rfl, ch_never (by omega) (by omega) a1 a2 a3 a4 (fun j hj t => x j (by omega) ((chK_even v9).mpr t))⟩
        · omega
    induction fuel with
    | zero =>
      intro w R o4 hm r0 r1 wI wf w3 mv
      exact B_chase_76 (RF_of wI.1) (by omega) (by omega) (by omega) ⟨fun c => stop w R c r1 wI wf mv, fun c => by omega⟩
    | succ fuel ih =>
      intro w R o4 hm r0 r1 wI wf w3 mv
      refine B_chase_76 (RF_of wI.1) (by omega) (by omega) (by omega) ⟨fun c => stop w R c r1 wI wf mv, fun c => ?_⟩
      have inner : ∀ (fu : Nat) (y : LH) (v4 : Int), 200 - v4 ≤ fu → 0 ≤ v4 → v4 ≤ 200 → INV y → frMv u y → (∀ i, rd y 203 i = rd u 203 i) → (∀ k, 0 ≤ k → k ≤ 199 → k / 20 < n → k / 2 % 10 < n → (k < v4 → MVs E n (R + 1) k (rd y 212 k)) ∧ (v4 ≤ k → MVs E n R k (rd y 212 k))) → Rn xs xl e mm_chase 86 [some (.inr (.inr 182)), some (.inl v1), some (.inl v2), some (.inl R), some (.inl v4)] [] y Q := by
        intro fu
        have out : ∀ (y : LH) (v4 : Int), 200 ≤ v4 → INV y → frMv u y → (∀ i, rd y 203 i = rd u 203 i) → (∀ k, 0 ≤ k → k ≤ 199 → k / 20 < n → k / 2 % 10 < n → (k < v4 → MVs E n (R + 1) k (rd y 212 k)) ∧ (v4 ≤ k → MVs E n R k (rd y 212 k))) → Rn xs xl e mm_chase 76 [some (.inr (.inr 182)), some (.inl v1), some (.inl v2), some (.inl (R + 1)), some (.inl v4)] [] y Q := fun y v4 c0 yI yf y3 ym =>
          ih y (R + 1) _ (by omega) (by omega) (by omega) yI yf y3 (fun k k0 k1 ka kb => (ym k k0 k1 ka kb).1 (by omega))
        induction fu with
        | zero =>
          intro y v4 hn c0 c1 yI yf y3 ym
          exact B_chase_86 (RF_of yI.1) (by omega) (by omega) (by omega) ⟨fun x => out y v4 x yI yf y3 ym, fun x => by omega⟩
        | succ fu jh =>
          intro y v4 hn c0 c1 yI yf y3 ym
          have ey := eu yf
          refine B_chase_86 (RF_of yI.1) (by omega) (by omega) (by omega) ⟨fun x => out y v4 x yI yf y3 ym, fun x => ⟨by omega, ?_⟩⟩
          -- this place as it is
          have keep : (v4 / 20 < n → v4 / 2 % 10 < n → MVs E n (R + 1) v4 (rd y 212 v4)) → Rn xs xl e mm_chase 157 [some (.inr (.inr 182)), some (.inl v1), some (.inl v2), some (.inl R), some (.inl v4)] [] y Q := fun hv => by
            refine B_chase_157 (RF_of yI.1) (by omega) (by omega) (jh y (v4 + 1) (by omega) (by omega) (by omega) yI yf y3 (fun k k0 k1 ka kb => ⟨fun z => ?_, fun z => (ym k k0 k1 ka kb).2 (by omega)⟩))
            by_cases t : k = v4
            · rw [t] at ka kb ⊢
              exact hv ka kb
            · exact (ym k k0 k1 ka kb).1 (by omega)
          -- a new number for it
          have put : ∀ v : Int, 0 ≤ v → v ≤ 1000000 → MVs E n (R + 1) v4 v → Rn xs xl e mm_chase 157 [some (.inr (.inr 182)), some (.inl v1), some (.inl v2), some (.inl R), some (.inl v4)] [] (wr y 212 v4 v) Q := fun v v0 v1' hv => by
            have zI : INV (wr y 212 v4 v) := wA_moves yI (by omega) (by omega) (by omega)
            refine B_chase_157 (RF_of zI.1) (by omega) (by omega) (jh _ (v4 + 1) (by omega) (by omega) (by omega) zI (fun a i m1 m2 m3 m4 => ?_) (fun i => ?_) (fun k k0 k1 ka kb => ?_))
            · rw [rdw_ne (fun z => m4 z.symm)]
              exact yf a i m1 m2 m3 m4
            · rw [rdw_ne (by decide)]
              exact y3 i
            · by_cases t : k = v4
              · rw [t, rdw_eq]
                exact ⟨fun _ => hv, fun z => by omega⟩
              · rw [rdw_nei (by omega)]
                exact ⟨fun z => (ym k k0 k1 ka kb).1 (by omega), fun z => (ym k k0 k1 ka kb).2 (by omega)⟩
          refine ⟨fun z => keep (fun ka kb => ?_), fun z => ⟨fun t => keep (fun ka _ => by omega), fun t => ⟨by omega, fun s => keep (fun _ kb => by omega), fun s => ⟨1, by omega, ?_⟩⟩⟩⟩
          · rcases (ym v4 c0 (by omega) ka kb).2 (Int.le_refl _) with ⟨q1, _⟩ | ⟨q1, q2, q3, q4⟩
            · exact absurd q1 z
            · exact Or.inr ⟨q1, by omega, q3, q4⟩
          · have ka : v4 / 20 < n := by omega
            have kb : v4 / 2 % 10 < n := by omega
            have far : ∀ j : Nat, (j : Int) < R → ¬ chK E n v4 j := by
              rcases (ym v4 c0 (by omega) ka kb).2 (Int.le_refl _) with ⟨_, q2⟩ | ⟨q1, q2, _, _⟩
              · exact q2
              · omega
            refine G_afterMove (E := E) (n := n) (m := (R - 1).toNat) (Nat.le_refl 1) (RF_of yI.1) (by omega) ey ⟨c0, by omega⟩ ka kb (w203 y3) (fun k k0 k1 xa xb => MV_lt k0 xa xb (by omega) ?_) (fun z' => far 0 (by omega) (chK_0.mpr z')) (fun w2 w01 hw => ?_)
            · by_cases t' : k < v4
              · exact Or.inr ((ym k k0 k1 xa xb).1 t')
              · exact Or.inl ((ym k k0 k1 xa xb).2 (by omega))
            · have em : (R - 1).toNat + 1 = R.toNat := by omega
              rw [em] at hw
              refine B_chase_146 (RF_of yI.1) (by omega) (by omega) ⟨fun q => ⟨by omega, put 1000000 (by omega) (by omega) (Or.inl ⟨rfl, fun j hj => ?_⟩)⟩, fun q => ⟨by omega, put R (by omega) (by omega) (Or.inr ⟨by omega, by omega, hw.mp (by omega), fun j hj => far j hj⟩)⟩⟩
              by_cases t' : (j : Int) < R
              · exact far j t'
              · rw [show j = R.toNat by omega]
                exact fun y' => by
                  have := hw.mpr y'
                  omega
      exact inner 200 w 0 (by omega) (by omega) (by omega) wI wf w3 (fun k k0 k1 ka kb => ⟨fun z => by omega, fun _ => mv k k0 k1 ka kb⟩)
  -- the first numbers
  have init : ∀ (fuel : Nat) (w : LH) (v3 : Int) (o4 : Option LV), 200 - v3 ≤ fuel → 0 ≤ v3 → v3 ≤ 200 → INV w → frMv u w → (∀ i, rd w 203 i = rd u 203 i) → (∀ k, 0 ≤ k → k < v3 → (k / 20 = k / 2 % 10 ∧ rd w 212 k = 0) ∨ (k / 20 ≠ k / 2 % 10 ∧ rd w 212 k = 1000000)) → Rn xs xl e mm_chase 35 [some (.inr (.inr 182)), some (.inl v1), some (.inl v2), some (.inl v3), o4] [] w Q := by
    intro fuel
    have stop : ∀ (w : LH) (v3 : Int) (o4 : Option LV), 200 ≤ v3 → INV w → frMv u w → (∀ i, rd w 203 i = rd u 203 i) → (∀ k, 0 ≤ k → k < v3 → (k / 20 = k / 2 % 10 ∧ rd w 212 k = 0) ∨ (k / 20 ≠ k / 2 % 10 ∧ rd w 212 k = 1000000)) → Rn xs xl e mm_chase 76 [some (.inr (.inr 182)), some (.inl v1), some (.inl v2), some (.inl 1), o4] [] w Q := fun w v3 o4 c wI wf w3 hv =>
      rounds 199 w 1 o4 (by omega) (by omega) (by omega) wI wf w3 (fun k k0 k1 ka kb => by
        rcases hv k k0 (by omega) with ⟨z1, z2⟩ | ⟨z1, z2⟩
        · rw [z2]
          exact Or.inr ⟨by omega, by omega, chK_0.mpr z1, fun j hj => by omega⟩
        · rw [z2]
          refine Or.inl ⟨rfl, fun j hj => ?_⟩
          rw [show j = 0 by omega, chK_0]
          exact z1)
    induction fuel with
    | zero =>
      intro w v3 o4 hm c0 c1 wI wf w3 hv
      exact B_chase_35 (RF_of wI.1) (by omega) ⟨fun c => stop w v3 o4 c wI wf w3 hv, fun c => by omega⟩
    | succ fuel ih =>
      intro w v3 o4 hm c0 c1 wI wf w3 hv
      have put : ∀ v : Int, (v = 0 ∨ v = 1000000) → v3 < 200 → ((v3 / 20 = v3 / 2 % 10 ∧ v = 0) ∨ (v3 / 20 ≠ v3 / 2 % 10 ∧ v = 1000000)) → Rn xs xl e mm_chase 35 [some (.inr (.inr 182)), some (.inl v1), some (.inl v2), some (.inl (v3 + 1)), o4] [] (wr w 212 v3 v) Q := fun v v01 c2 hx => by
        have zI : INV (wr w 212 v3 v) := wA_moves wI (by omega) (by omega) (by omega)
        refine ih _ (v3 + 1) o4 (by omega) (by omega) (by omega) zI (fun a i m1 m2 m3 m4 => ?_) (fun i => ?_) (fun k k0 k1 => ?_)
        · rw [rdw_ne (fun z => m4 z.symm)]
          exact wf a i m1 m2 m3 m4
        · rw [rdw_ne (by decide)]
          exact w3 i
        · by_cases t : k = v3
          · rw [t, rdw_eq]
            exact hx
          · rw [rdw_nei (by omega)]
            exact hv k k0 (by omega)
      exact B_chase_35 (RF_of wI.1) (by omega) ⟨fun c => stop w v3 o4 c wI wf w3 hv, fun c => ⟨by omega, fun z => ⟨by omega, put 1000000 (Or.inr rfl) c (Or.inr ⟨z, rfl⟩)⟩, fun z => ⟨by omega, put 0 (Or.inl rfl) c (Or.inl ⟨z, rfl⟩)⟩⟩⟩
  exact B_chase_33 (RF_of uI.1) (init 200 u 0 none (by omega) (by omega) (by omega) uI (fun _ _ _ _ _ _ => rfl) (fun _ => rfl) (fun k k0 k1 => by omega))
end XC
