/-! rings, part u1: what can be come to; the class's roomsFrom -/
def RN (E : Int → Int → Prop) : Nat → Int → Int → Prop
  | 0, a, b => a = b
  | n + 1, a, b => ∃ c, RN E n a c ∧ E c b
def Rea (E : Int → Int → Prop) (a b : Int) : Prop := ∃ n, RN E n a b
section UA
variable {E F : Int → Int → Prop} {a b c : Int} {X : Int → Prop}
theorem Rea_refl : Rea E a a := ⟨0, rfl⟩
theorem Rea_step (h : Rea E a c) (e : E c b) : Rea E a b := by
  obtain ⟨n, q⟩ := h
  exact ⟨n + 1, c, q, e⟩
theorem RN_min (h0 : X a) (hs : ∀ x y, X x → E x y → X y) : ∀ {n : Nat} {b : Int}, RN E n a b → X b
  | 0, b, h => by
    have h : a = b := h
    rw [← h]; exact h0
  | n + 1, b, ⟨c, q, e⟩ => hs c b (RN_min h0 hs q) e
theorem Rea_min (h0 : X a) (hs : ∀ x y, X x → E x y → X y) (h : Rea E a b) : X b := by
  obtain ⟨n, q⟩ := h
  exact RN_min h0 hs q
theorem Rea_trans (h : Rea E a c) (g : Rea E c b) : Rea E a b := Rea_min (X := fun x => Rea E a x) h (fun _ _ x e => Rea_step x e) g
theorem Rea_one (e : E a b) : Rea E a b := Rea_step Rea_refl e
theorem Rea_mono (h : ∀ x y, E x y → F x y) (g : Rea E a b) : Rea F a b := Rea_min (X := fun x => Rea F a x) Rea_refl (fun x y p e => Rea_step p (h x y e)) g
theorem Rea_flip (h : Rea E a b) : Rea (fun x y => E y x) b a := Rea_min (X := fun x => Rea (fun x y => E y x) x a) Rea_refl (fun x y p e => Rea_trans (Rea_one (E := fun x y => E y x) (a := y) (b := x) e) p) h
theorem Rea_flip_iff : Rea (fun x y => E y x) b a ↔ Rea E a b := ⟨fun h => Rea_flip h, fun h => Rea_flip h⟩
theorem Rea_iff (h : ∀ x y, E x y ↔ F x y) : Rea E a b ↔ Rea F a b := ⟨Rea_mono (fun x y e => (h x y).mp e), Rea_mono (fun x y e => (h x y).mpr e)⟩
end UA
/-- the rooms among the first ten -/
def cntZ (r : Int) : Int := zand (zshr r 0) 1 + zand (zshr r 1) 1 + zand (zshr r 2) 1 + zand (zshr r 3) 1 + zand (zshr r 4) 1 + zand (zshr r 5) 1 + zand (zshr r 6) 1 + zand (zshr r 7) 1 + zand (zshr r 8) 1 + zand (zshr r 9) 1
theorem cntZ_le (r : Int) : 0 ≤ cntZ r ∧ cntZ r ≤ 10 := by
  have b0 := bitZ_01 r 0
  have b1 := bitZ_01 r 1
  have b2 := bitZ_01 r 2
  have b3 := bitZ_01 r 3
  have b4 := bitZ_01 r 4
  have b5 := bitZ_01 r 5
  have b6 := bitZ_01 r 6
  have b7 := bitZ_01 r 7
  have b8 := bitZ_01 r 8
  have b9 := bitZ_01 r 9
  unfold cntZ
  omega
theorem bit_le {r s k : Int} (h : bitZ r k → bitZ s k) : zand (zshr r k) 1 ≤ zand (zshr s k) 1 := by
  have a := bitZ_01 r k
  have c := bitZ_01 s k
  by_cases z : zand (zshr r k) 1 = 1
  · have : zand (zshr s k) 1 = 1 := h z
    omega
  · omega
theorem cntZ_lt {r s k : Int} (h : ∀ k, 0 ≤ k → k < 32 → bitZ r k → bitZ s k) (k0 : 0 ≤ k) (k1 : k ≤ 9) (hr : ¬ bitZ r k) (hs : bitZ s k) : cntZ r < cntZ s := by
  have b0 := bit_le (h 0 (by decide) (by decide))
  have b1 := bit_le (h 1 (by decide) (by decide))
  have b2 := bit_le (h 2 (by decide) (by decide))
  have b3 := bit_le (h 3 (by decide) (by decide))
  have b4 := bit_le (h 4 (by decide) (by decide))
  have b5 := bit_le (h 5 (by decide) (by decide))
  have b6 := bit_le (h 6 (by decide) (by decide))
  have b7 := bit_le (h 7 (by decide) (by decide))
  have b8 := bit_le (h 8 (by decide) (by decide))
  have b9 := bit_le (h 9 (by decide) (by decide))
  have z := bitZ_n.mp hr
  have y : zand (zshr s k) 1 = 1 := hs
  clear h hr hs
  unfold cntZ
  rcases (show k = 0 ∨ k = 1 ∨ k = 2 ∨ k = 3 ∨ k = 4 ∨ k = 5 ∨ k = 6 ∨ k = 7 ∨ k = 8 ∨ k = 9 by omega) with rfl | rfl | rfl | rfl | rfl | rfl | rfl | rfl | rfl | rfl <;> omega
/-- through some door, by the bits A ahead and B back, from room a into room b -/
def EE (K : KEY) (A B a b : Int) : Prop := ∃ d, 0 ≤ d ∧ d < K.1 1 ∧ ((bitZ A d ∧ a = K.1 (8 * d + 5) ∧ b = K.1 (8 * d + 6)) ∨ (bitZ B d ∧ a = K.1 (8 * d + 6) ∧ b = K.1 (8 * d + 5)))
section UB
variable {xs : Nat → Int} {xl e : Nat} {h g : LH} {Q : Option LV → LH → Prop} {K : KEY} {q s hr a b A B R v1 v2 v3 : Int} {L : List Int}
theorem EE_flip : EE K B A a b ↔ EE K A B b a := by
  unfold EE
  constructor
  · rintro ⟨d, d0, d1, ⟨x, y, z⟩ | ⟨x, y, z⟩⟩
    · exact ⟨d, d0, d1, Or.inr ⟨x, z, y⟩⟩
    · exact ⟨d, d0, d1, Or.inl ⟨x, z, y⟩⟩
  · rintro ⟨d, d0, d1, ⟨x, y, z⟩ | ⟨x, y, z⟩⟩
    · exact ⟨d, d0, d1, Or.inr ⟨x, z, y⟩⟩
    · exact ⟨d, d0, d1, Or.inl ⟨x, z, y⟩⟩
theorem EE_in (hK : KR K) (h : EE K A B a b) : (0 ≤ a ∧ a < K.1 0) ∧ 0 ≤ b ∧ b < K.1 0 := by
  obtain ⟨d, d0, d1, x⟩ := h
  obtain ⟨r2, r3, -⟩ := hK.2.2.2.1 d d0 d1
  rcases x with ⟨-, rfl, rfl⟩ | ⟨-, rfl, rfl⟩
  · exact ⟨r2, r3⟩
  · exact ⟨r3, r2⟩
theorem ent_EE : (∃ d, 0 ≤ d ∧ d < K.1 1 ∧ entD K A B R b d) ↔ ∃ a, bitZ R a ∧ EE K A B a b := by
  unfold entD EE
  constructor
  · rintro ⟨d, d0, d1, ⟨x, y, z⟩ | ⟨x, y, z⟩⟩
    · exact ⟨_, y, d, d0, d1, Or.inl ⟨x, rfl, z⟩⟩
    · exact ⟨_, y, d, d0, d1, Or.inr ⟨x, rfl, z⟩⟩
  · rintro ⟨a, ra, d, d0, d1, ⟨x, rfl, z⟩ | ⟨x, rfl, z⟩⟩
    · exact ⟨d, d0, d1, Or.inl ⟨x, ra, z⟩⟩
    · exact ⟨d, d0, d1, Or.inr ⟨x, ra, z⟩⟩
theorem F_roomsFrom (he : 1 ≤ e) (hc : CXq h K q L) (hK : KR K) (h3 : 0 ≤ v3 ∧ v3 ≤ 9) (k : ∀ r, i32 r → (∀ b, 0 ≤ b → b < 32 → (bitZ r b ↔ Rea (EE K v1 v2) v3 b)) → Q (some (.inl r)) h) : Rn xs xl e mm_Web_roomsFrom 0 [some (.inr (.inr q)), some (.inl v1), some (.inl v2), some (.inl v3), none, none, none] [] h Q := by
  obtain ⟨hF, hP, hq, -⟩ := id hc
  have k0 := hK.1
  have ten : ∀ b, Rea (EE K v1 v2) v3 b → 0 ≤ b ∧ b ≤ 9 := fun b hb => Rea_min (X := fun b => 0 ≤ b ∧ b ≤ 9) h3 (fun x y _ ee => by have := EE_in hK ee; omega) hb
  have loop : ∀ (n : Nat) (v4 v5 : Int) (o : Option LV), 10 - v5 ≤ n → 0 ≤ v5 → v5 ≤ 10 → i32 v4 → v5 + 1 ≤ cntZ v4 → bitZ v4 v3 → (∀ b, 0 ≤ b → b < 32 → bitZ v4 b → Rea (EE K v1 v2) v3 b) → Rn xs xl e mm_Web_roomsFrom 8 [some (.inr (.inr q)), some (.inl v1), some (.inl v2), some (.inl v3), some (.inl v4), some (.inl v5), o] [] h Q := by
    intro n
    induction n with
    | zero =>
      intro v4 v5 o hn a0 a1 vi vc v0 vr
      have := cntZ_le v4
      omega
    | succ n ih =>
      intro v4 v5 o hn a0 a1 vi vc v0 vr
      have c10 := cntZ_le v4
      refine B_Web_roomsFrom_8 hq hF ⟨a0, a1⟩ ⟨fun c => by omega, fun c => ⟨0, by omega, F_entered hc hK (fun r ri rb => ?_)⟩⟩
      have nb : ∀ b, 0 ≤ b → b < 32 → (bitZ (zor v4 r) b ↔ bitZ v4 b ∨ ∃ a, bitZ v4 a ∧ EE K v1 v2 a b) := fun b b0 b1 => by
        rw [bit_or b0 b1, rb b b0 b1, ent_EE]
      have nr : ∀ b, 0 ≤ b → b < 32 → bitZ (zor v4 r) b → Rea (EE K v1 v2) v3 b := fun b b0 b1 y => by
        rcases (nb b b0 b1).mp y with z | ⟨a, ra, ee⟩
        · exact vr b b0 b1 z
        · have i := EE_in hK ee
          exact Rea_step (vr a i.1.1 (by omega) ra) ee
      refine B_Web_roomsFrom_25 hq hF ⟨a0, by omega⟩ ⟨fun y => ?_, fun y => k v4 vi (fun b b0 b1 => ⟨vr b b0 b1, fun w => ?_⟩)⟩
      · have df : ∃ j, 0 ≤ j ∧ j < 32 ∧ ¬ bitZ v4 j ∧ bitZ (zor v4 r) j := by
          refine Classical.byContradiction (fun nn => y (bit_ext (zor_i _ _) vi (fun j j0 j1 => ⟨fun w => ?_, fun w => (nb j j0 j1).mpr (Or.inl w)⟩)))
          exact Classical.byContradiction (fun u => nn ⟨j, j0, j1, u, w⟩)
        obtain ⟨j, j0, j1, ja, jb⟩ := df
        have t := ten j (nr j j0 j1 jb)
        have lt := cntZ_lt (fun b b0 b1 w => (nb b b0 b1).mpr (Or.inl w)) j0 t.2 ja jb
        exact ih _ (v5 + 1) _ (by omega) (by omega) (by omega) (zor_i _ _) (by omega) ((nb v3 h3.1 (by omega)).mpr (Or.inl v0)) nr
      · have z := Rea_min (X := fun b => (0 ≤ b ∧ b ≤ 9) ∧ bitZ v4 b) ⟨h3, v0⟩ (fun x y' hx ee => by
          have i := EE_in hK ee
          refine ⟨by omega, ?_⟩
          have := (nb y' (by omega) (by omega)).mpr (Or.inr ⟨x, hx.2, ee⟩)
          rw [y] at this
          exact this) w
        exact z.2
  have c1 : 1 ≤ cntZ (zshl 1 v3) := by
    have c0 : cntZ 0 = 0 := by decide +kernel
    have := cntZ_lt (r := 0) (s := zshl 1 v3) (k := v3) (fun b _ _ w => absurd w bit_zero) h3.1 h3.2 bit_zero ((bit_shl h3.1 (by omega) h3.1 (by omega)).mpr rfl)
    omega
  refine B_Web_roomsFrom_0 hq hF (loop 10 _ 0 none (by omega) (by omega) (by omega) (zshl_i _ _) (by omega) ((bit_shl h3.1 (by omega) h3.1 (by omega)).mpr rfl) (fun b b0 b1 y => ?_))
  rw [bit_shl h3.1 (by omega) b0 b1] at y
  rw [y]
  exact Rea_refl
end UB
