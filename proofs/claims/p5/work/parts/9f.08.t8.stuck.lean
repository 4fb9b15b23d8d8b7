/-! plans, part t8: stuck -/
/-- who can't be home any more -/
def stkB (K : KEY) (S : Int → Int) (b n r : Int) : Prop := i32 r ∧ ∀ k, 0 ≤ k → k < 32 → (bitZ r k ↔ k < n ∧ FHr K S b k (zshl 1 (K.1 (4 * k + 117) + 10)) (-1))
def stkJ (h g : LH) (r : Int) : Prop := samP h g ∧ stkB (key h) (rd h 198) 0 (rd h 188 2) r
section PL8
variable {xs : Nat → Int} {xl e : Nat} {h g : LH} {Q : Option LV → LH → Prop} {K : KEY} {S : Int → Int} {b p n r r' v1 v2 : Int}
theorem FHr_neg (sb : SB S b p) {m : Int} (a : FHr K S b p m r) : r < 0 ↔ r = -1 := by
  obtain ⟨s0, s1, s2, s3⟩ := sb
  rcases a with ⟨_, rfl⟩ | ⟨_, ⟨rfl, _⟩ | ⟨f, _⟩⟩
  · omega
  · omega
  · omega
theorem stkB_one (a : stkB K S b n r) (c : stkB K S b n r') : r = r' := bit_ext a.1 c.1 (fun k k0 k1 => by rw [a.2 k k0 k1, c.2 k k0 k1])
theorem stkB_0 : stkB K S b 0 0 := ⟨z32, fun k k0 k1 => ⟨fun y => absurd y bit_zero, fun y => by omega⟩⟩
theorem stkB_no (hn : 0 ≤ n ∧ n ≤ 5) (sb : SB S b n) (a : stkB K S b n r) (c : FHr K S b n (zshl 1 (K.1 (4 * n + 117) + 10)) v1) (h : v1 ≠ -1) (e : ∀ k, 0 ≤ k → k < 32 → (bitZ r' k ↔ bitZ r k)) (i : i32 r') : stkB K S b (n + 1) r' := by
  refine ⟨i, fun k k0 k1 => ?_⟩
  rw [e k k0 k1, a.2 k k0 k1]
  constructor
  · exact fun y => ⟨by omega, y.2⟩
  · rintro ⟨y, z⟩
    by_cases w : k = n
    · subst w
      exact absurd (FHr_one sb c z) h
    · exact ⟨by omega, z⟩
theorem stkB_yes (hn : 0 ≤ n ∧ n ≤ 5) (a : stkB K S b n r) (c : FHr K S b n (zshl 1 (K.1 (4 * n + 117) + 10)) (-1)) : stkB K S b (n + 1) (zor r (zshl 1 n)) := by
  refine ⟨zor_i _ _, fun k k0 k1 => ?_⟩
  rw [bit_or k0 k1, bit_shl hn.1 (by omega) k0 k1, a.2 k k0 k1]
  constructor
  · rintro (y | y)
    · exact ⟨by omega, y.2⟩
    · subst y
      exact ⟨by omega, c⟩
  · rintro ⟨y, z⟩
    by_cases w : k = n
    · exact Or.inr w
    · exact Or.inl ⟨by omega, z⟩
theorem E_stuckS (he : 8 ≤ e) (hI : INV h) (hE : EQL h) (k : ∀ r g, INV g → stkJ h g r → Q (some (.inl r)) g) : Rn xs xl e mm_OneSided_stuck 0 [some (.inr (.inr 1)), none, none] [] h Q := by
  obtain ⟨L, hc⟩ := CXq_of hI hE
  have hK := KR_of hI
  have hq : rd h 1 1 = 5 ∨ rd h 1 1 = 32 := rQf hI.1
  obtain ⟨-, -, -, -, ⟨c0, -, c4⟩, -⟩ := id hc
  have c4' : rd h (rd h 1 1) 4 = rd h 188 2 := c4
  have n2 := rq_people hI.1
  have k5 := hE.2.2.2.2.2.2.2.2.2.2.2.1
  have w : WC (key h) (rd h 198) h := ⟨hI, rfl, rfl⟩
  have loop : ∀ (n : Nat) (v1 v2 : Int), rd h 188 2 - v2 ≤ n → 0 ≤ v2 → v2 ≤ rd h 188 2 → stkB (key h) (rd h 198) 0 v2 v1 → Rn xs xl e mm_OneSided_stuck 4 [some (.inr (.inr 1)), some (.inl v1), some (.inl v2)] [] h Q := by
    intro n
    have stop : ∀ v1 v2, rd h 188 2 ≤ v2 → v2 ≤ rd h 188 2 → stkB (key h) (rd h 198) 0 v2 v1 → Q (some (.inl v1)) h := fun v1 v2 a c s => k v1 h hI ⟨fun _ _ => rfl, by rw [show rd h 188 2 = v2 by omega]; exact s⟩
    induction n with
    | zero =>
      intro v1 v2 hn a0 a1 hs
      exact B_OneSided_stuck_4 hq rfl (RF_of hI.1) (by omega) ⟨fun c => stop v1 v2 (by omega) a1 hs, fun c => by omega⟩
    | succ n ih =>
      intro v1 v2 hn a0 a1 hs
      refine B_OneSided_stuck_4 hq rfl (RF_of hI.1) (by omega) ⟨fun c => stop v1 v2 (by omega) a1 hs, fun c => ⟨3, by omega, ?_⟩⟩
      have p2 : v2 < rd h 188 2 := by omega
      have sb := SB_of w (b := 0) (p := v2) (by decide) (by decide) (by omega)
      refine F_homeHour (Nat.le_refl 3) hc hK (KB_of w (by omega)) sb scn_60 (by decide) ⟨a0, p2⟩ (SV_of k5 a0 p2) (fun r hr => B_OneSided_stuck_34 (RF_of hI.1) (by omega) ⟨fun y => ih v1 (v2 + 1) (by omega) (by omega) (by omega) (stkB_no ⟨a0, by omega⟩ sb hs hr y (fun _ _ _ => Iff.rfl) hs.1), fun y => ih _ (v2 + 1) (by omega) (by omega) (by omega) ?_⟩)
      rw [y] at hr
      exact stkB_yes ⟨a0, by omega⟩ hs hr
  exact B_OneSided_stuck_0 (RF_of hI.1) (loop 6 0 0 (by omega) (by omega) (by omega) stkB_0)
/-- the reference's errandHour -/
theorem G_errandHourX (he : 7 ≤ e) (w : WC K S h) (b0 : b % 70 = 0) (hb : 0 ≤ b ∧ b ≤ 1540) (hp : 0 ≤ p ∧ p ≤ 5) (k : ∀ r h', WC K S h' → frL h h' → FHr K S b p (zshl 1 (K.1 (4 * p + 117) + 10)) r → Q (some (.inl r)) h') : Rn xs xl e mm_errandHour 0 [some (.inr (.inr 182)), some (.inl b), some (.inl p)] [] h Q := by
  have kb := KB_of w hp
  have kh := kb.2.2.2.1
  have e1 : rd h 188 (4 * p + 117) = K.1 (4 * p + 117) := by rw [← w.2.1]; rfl
  refine B_errandHour_0 (RF_of w.1.1) hb hp (by omega) ⟨by omega, 6, by omega, ?_⟩
  rw [e1]
  exact G_firstHourX (Nat.le_refl 6) w b0 hb hp (fun r u uw uf hr => B_errandHour_17 (RF_of uw.1.1) hb hp (k r u uw uf hr))
theorem G_stuckS (he : 9 ≤ e) (hI : INV h) (hE : EQL h) (gI : INV g) (hj : stkJ h g r) (k : ∀ g', INV g' → EQL g' → Q (some (.inl r)) g') : Rn xs xl e mm_stuck 0 [some (.inr (.inr 182)), none, none] [] g Q := by
  obtain ⟨sm, hs⟩ := hj
  have EG := EQL_sam hI hE sm
  have ek := key_sam sm
  have e8 : rd g 198 = rd h 198 := funext (fun i => sm 198 i)
  rw [← ek, ← e8, ← sm 188 2] at hs
  have n2 := rq_people gI.1
  have w := WC_thr gI
  have loop : ∀ (n : Nat) (u : LH) (v1 v2 : Int), rd g 188 2 - v2 ≤ n → 0 ≤ v2 → v2 ≤ rd g 188 2 → WC (key g) (rd g 198) u → frL (wr g 182 0 0) u → stkB (key g) (rd g 198) 0 v2 v1 → Rn xs xl e mm_stuck 9 [some (.inr (.inr 182)), some (.inl v1), some (.inl v2)] [] u Q := by
    intro n
    have stop : ∀ (u : LH) (v1 v2 : Int), rd g 188 2 ≤ v2 → v2 ≤ rd g 188 2 → WC (key g) (rd g 198) u → frL (wr g 182 0 0) u → stkB (key g) (rd g 198) 0 v2 v1 → Q (some (.inl v1)) u := fun u v1 v2 a c uw uf s => by
      rw [show v2 = rd g 188 2 by omega] at s
      rw [stkB_one s hs]
      exact k u uw.1 (EQL_L gI EG (fun a i n1 n2 n3 => (uf a i n1 n2).trans (by rw [rd_wr, if_neg (by omega)])))
    induction n with
    | zero =>
      intro u v1 v2 hn a0 a1 uw uf s
      have e2 : rd u 188 2 = rd g 188 2 := by have := uw.2.1; rw [show rd u 188 2 = (key u).1 2 from rfl, this]; rfl
      exact B_stuck_9 (RF_of uw.1.1) (by omega) (by omega) ⟨fun _ => stop u v1 v2 (by omega) a1 uw uf s, fun c => by omega⟩
    | succ n ih =>
      intro u v1 v2 hn a0 a1 uw uf s
      have e2 : rd u 188 2 = rd g 188 2 := by have := uw.2.1; rw [show rd u 188 2 = (key u).1 2 from rfl, this]; rfl
      refine B_stuck_9 (RF_of uw.1.1) (by omega) (by omega) ⟨fun c => stop u v1 v2 (by omega) a1 uw uf s, fun c => ⟨7, by omega, ?_⟩⟩
      have sb := SB_of w (b := 0) (p := v2) (by decide) (by decide) (by omega)
      refine G_errandHourX (Nat.le_refl 7) uw (by decide) (by decide) (by omega) (fun r u' uw' uf' hr => ?_)
      have neg := FHr_neg sb hr
      refine B_stuck_24 (RF_of uw'.1.1) (by omega) ⟨fun y => ih u' _ (v2 + 1) (by omega) (by omega) (by omega) uw' (uf.trans uf') (stkB_no ⟨a0, by omega⟩ sb s hr (by omega) (fun k k0 k1 => by rw [bit_or k0 k1]; exact ⟨fun z => z.elim (fun z => z) (fun z => absurd z bit_zero), Or.inl⟩) (zor_i _ _)), fun y => ih u' _ (v2 + 1) (by omega) (by omega) (by omega) uw' (uf.trans uf') ?_⟩
      rw [neg.mp y] at hr
      exact stkB_yes ⟨a0, by omega⟩ s hr
  exact B_stuck_0 (RF_of gI.1) (loop 6 _ 0 0 (by omega) (by omega) (by omega) w (frL.refl _) stkB_0)
end PL8
