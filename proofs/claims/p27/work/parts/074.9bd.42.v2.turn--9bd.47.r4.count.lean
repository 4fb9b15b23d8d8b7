section
/-! turn, part v2: which doors to turn -/
/-- one comes from room 0 into every room, and from every room into room 0 -/
def onE (E : Int → Int → Prop) (n : Int) : Prop := (∀ b, 0 ≤ b → b < 32 → (Rea E 0 b ↔ b < n)) ∧ ∀ b, 0 ≤ b → b < 32 → (Rea E b 0 ↔ b < n)
def turnP (K : KEY) (s hr sh x : Int) : Prop := onE (fun a b => 0 ≤ b ∧ eL K s hr sh x a b) (K.1 0)
/-- the bits of the doors that let by, those of x turned -/
def mixZ (A T x : Int) : Int := zor (zand A (zxor x (-1))) (zand T x)
theorem zw1 {r : Int} (h : r = 0 ∨ r = 1 ∨ r = 2 ∨ r = 3) : zand r 1 = 0 ↔ ¬ (r = 1 ∨ r = 3) := by
  rcases h with rfl | rfl | rfl | rfl <;> decide
theorem zw2 {r : Int} (h : r = 0 ∨ r = 1 ∨ r = 2 ∨ r = 3) : zand r 2 = 0 ↔ ¬ (r = 2 ∨ r = 3) := by
  rcases h with rfl | rfl | rfl | rfl <;> decide
theorem inK_9 {a i : Int} (h : inK a i) : a ≠ 9 ∧ a ≠ 36 := by
  obtain ⟨b, b0, b1, b2, -⟩ := h
  have x : kB.all (fun b => (decide (b.2.1 < 9) || decide (9 < b.1)) && (decide (b.2.1 < 36) || decide (36 < b.1))) = true := by decide +kernel
  have y := List.all_eq_true.mp x b b0
  simp only [Bool.and_eq_true, Bool.or_eq_true, decide_eq_true_eq] at y
  omega
section VB
variable {xs : Nat → Int} {xl e : Nat} {h g u : LH} {Q : Option LV → LH → Prop} {P : Int → Prop} {E F : Int → Int → Prop} {K : KEY} {L : List Int} {q s hr sh a b d n r v x v1 v2 A A' B B' T TA TB : Int} {W : Int → Prop}
theorem bit_xor {a b k : Int} (k0 : 0 ≤ k) (k1 : k < 32) : bitZ (zxor a b) k ↔ ¬ (bitZ a k ↔ bitZ b k) := by
  rw [bitZ_iff k0 k1, bitZ_iff k0 k1, bitZ_iff k0 k1]
  unfold zxor
  rw [x_to, Int32.toBitVec_xor, BitVec.getLsbD_xor]
  cases (Int32.ofInt a).toBitVec.getLsbD k.toNat <;> cases (Int32.ofInt b).toBitVec.getLsbD k.toNat <;> decide
theorem onE_iff (h : ∀ a b, E a b ↔ F a b) : onE E n ↔ onE F n := by
  unfold onE
  constructor
  · rintro ⟨p, q⟩
    exact ⟨fun b b0 b1 => (Rea_iff h).symm.trans (p b b0 b1), fun b b0 b1 => (Rea_iff h).symm.trans (q b b0 b1)⟩
  · rintro ⟨p, q⟩
    exact ⟨fun b b0 b1 => (Rea_iff h).trans (p b b0 b1), fun b b0 b1 => (Rea_iff h).trans (q b b0 b1)⟩
theorem onE_mono (hE : ∀ a b, E a b → F a b) (hF : ∀ a b, F a b → (0 ≤ a ∧ a < n) ∧ 0 ≤ b ∧ b < n) (h : onE E n) : onE F n := by
  have n0 : 0 < n := (h.1 0 (by decide) (by decide)).mp Rea_refl
  refine ⟨fun b b0 b1 => ⟨fun y => ?_, fun y => Rea_mono hE ((h.1 b b0 b1).mpr y)⟩, fun b b0 b1 => ⟨fun y => ?_, fun y => Rea_mono hE ((h.2 b b0 b1).mpr y)⟩⟩
  · exact Rea_min (E := F) (X := fun x => x < n) n0 (fun x y _ z => (hF x y z).2.2) y
  · exact Rea_min (E := fun x y => F y x) (X := fun x => x < n) n0 (fun x y _ z => (hF y x z).1.2) (Rea_flip y)
theorem F_isOneRing (he : 2 ≤ e) (hc : CXq h K q L) (hK : KR K) (k : ∀ r, (r = 0 ∨ r = 1) → (r = 1 ↔ onE (EE K v1 v2) (K.1 0)) → Q (some (.inl r)) h) : Rn xs xl e mm_Web_isOneRing 0 [some (.inr (.inr q)), some (.inl v1), some (.inl v2), none] [] h Q := by
  obtain ⟨hF, -, hq, -, ⟨c0, -, -⟩, -⟩ := id hc
  have k0 := hK.1
  have s10 := shl_10 (K.1 0).toNat (by omega)
  rw [Int.toNat_of_nonneg k0.1] at s10
  have ba : ∀ b, 0 ≤ b → b < 32 → (bitZ (zshl 1 (K.1 0) - 1) b ↔ b < K.1 0) := fun b b0 b1 => bit_all' k0 b0 b1
  have ai : i32 (zshl 1 (K.1 0) - 1) := by
    unfold i32
    omega
  refine B_Web_isOneRing_0 hq hF ⟨by rw [c0]; omega, 1, by omega, ?_⟩
  rw [c0]
  generalize zshl 1 (K.1 0) - 1 = al at *
  have fl : ∀ b, Rea (EE K v2 v1) 0 b ↔ Rea (EE K v1 v2) b 0 := fun b => (Rea_iff (F := fun x y => EE K v1 v2 y x) (fun x y => EE_flip)).trans Rea_flip_iff
  refine F_roomsFrom (Nat.le_refl 1) hc hK (by omega) (fun r1 i1 b1 => B_Web_isOneRing_16 hq hF ⟨fun z => k 0 (Or.inl rfl) ⟨fun y => by omega, fun y => absurd (bit_ext i1 ai (fun b b0 b1' => (b1 b b0 b1').trans ((y.1 b b0 b1').trans (ba b b0 b1').symm))) z⟩, fun z => ⟨1, by omega, F_roomsFrom (Nat.le_refl 1) hc hK (by omega) (fun r2 i2 b2 => B_Web_isOneRing_27 hq hF ⟨fun y => k 0 (Or.inl rfl) ⟨fun t => by omega, fun t => absurd (bit_ext i2 ai (fun b b0 b1' => (b2 b b0 b1').trans ((fl b).trans ((t.2 b b0 b1').trans (ba b b0 b1').symm)))) y⟩, fun y => k 1 (Or.inr rfl) ⟨fun _ => ⟨fun b b0 b1' => ?_, fun b b0 b1' => ?_⟩, fun _ => rfl⟩⟩)⟩⟩)
  · rw [← b1 b b0 b1', z]
    exact ba b b0 b1'
  · rw [← fl b, ← b2 b b0 b1', y]
    exact ba b b0 b1'
theorem mix_bit (d0 : 0 ≤ d) (d1 : d < 32) : bitZ (mixZ A T x) d ↔ (bitZ A d ∧ ¬ bitZ x d) ∨ (bitZ T d ∧ bitZ x d) := by
  unfold mixZ
  rw [bit_or d0 d1, bit_and d0 d1, bit_and d0 d1, bit_not d0 d1]
theorem mix_way (d0 : 0 ≤ d) (d1 : d < 32) (hA : bitZ A d ↔ W 0 ∧ ¬ bitZ sh d) (hT : bitZ T d ↔ W 1 ∧ ¬ bitZ sh d) : bitZ (mixZ A T x) d ↔ W (zand (zshr x d) 1) ∧ ¬ bitZ sh d := by
  rw [mix_bit d0 d1, hA, hT]
  by_cases z : bitZ x d
  · have z1 : zand (zshr x d) 1 = 1 := z
    rw [z1]
    exact ⟨fun y => y.elim (fun y => absurd z y.2) (fun y => y.1), fun y => Or.inr ⟨y, z⟩⟩
  · have z1 := bitZ_n.mp z
    rw [z1]
    exact ⟨fun y => y.elim (fun y => y.1) (fun y => absurd y.2 z), fun y => Or.inl ⟨y, z⟩⟩
/-- the class's bits of a quarter's doors, as they are and turned -/
def TWA (h : LH) (K : KEY) (q : Int) (L : List Int) (s hr sh A B TA TB : Int) : Prop := ∀ d, 0 ≤ d → d < K.1 1 → (bitZ A d ↔ wAh (rd h (q + 7 + d)) L s hr (rd h (q + 7 + d) 8) 0 ∧ ¬ bitZ sh d) ∧ (bitZ B d ↔ wBk (rd h (q + 7 + d)) L s hr (rd h (q + 7 + d) 8) 0 ∧ ¬ bitZ sh d) ∧ (bitZ TA d ↔ wAh (rd h (q + 7 + d)) L s hr (rd h (q + 7 + d) 8) 1 ∧ ¬ bitZ sh d) ∧ (bitZ TB d ↔ wBk (rd h (q + 7 + d)) L s hr (rd h (q + 7 + d) 8) 1 ∧ ¬ bitZ sh d)
theorem EE_turn (hc : CXq h K q L) (hK : KR K) (tl : TLF h K q L) (hs : 0 ≤ s ∧ s ≤ 3) (hh : 0 ≤ hr ∧ hr ≤ 23) (hw : TWA h K q L s hr sh A B TA TB) : EE K (mixZ A TA x) (mixZ B TB x) a b ↔ 0 ≤ b ∧ eL K s hr sh x a b := by
  have k0 := hK.1
  have k1 := hK.2.1
  constructor
  · intro ee
    have i := EE_in hK ee
    obtain ⟨d, d0, d1, y⟩ := ee
    obtain ⟨w1, w2, w3, w4⟩ := hw d d0 d1
    obtain ⟨e2, e3, -⟩ := CXq_d hc d0 d1
    refine ⟨i.2.1, i.1, d, d0, d1, ?_⟩
    rw [tl d s a hr sh x d0 d1 hs.1 hs.2 i.1.1 (by omega) hh.1 hh.2]
    rw [mix_way (W := fun t => wAh (rd h (q + 7 + d)) L s hr (rd h (q + 7 + d) 8) t) d0 (by omega) w1 w3, mix_way (W := fun t => wBk (rd h (q + 7 + d)) L s hr (rd h (q + 7 + d) 8) t) d0 (by omega) w2 w4, ← e2, ← e3] at y
    unfold inTu
    rcases y with ⟨y, ya, yb⟩ | ⟨y, ya, yb⟩
    · rw [if_pos ⟨ya.symm, y⟩, yb]
    · by_cases c : rd h (q + 7 + d) 2 = a ∧ wAh (rd h (q + 7 + d)) L s hr (rd h (q + 7 + d) 8) (zand (zshr x d) 1) ∧ ¬ bitZ sh d
      · rw [if_pos c, yb, c.1, ya]
      · rw [if_neg c, if_pos ⟨ya.symm, y⟩, yb]
  · rintro ⟨b0, a0, d, d0, d1, y⟩
    obtain ⟨w1, w2, w3, w4⟩ := hw d d0 d1
    obtain ⟨e2, e3, -⟩ := CXq_d hc d0 d1
    rw [tl d s a hr sh x d0 d1 hs.1 hs.2 a0.1 (by omega) hh.1 hh.2] at y
    refine ⟨d, d0, d1, ?_⟩
    rw [mix_way (W := fun t => wAh (rd h (q + 7 + d)) L s hr (rd h (q + 7 + d) 8) t) d0 (by omega) w1 w3, mix_way (W := fun t => wBk (rd h (q + 7 + d)) L s hr (rd h (q + 7 + d) 8) t) d0 (by omega) w2 w4, ← e2, ← e3]
    unfold inTu at y
    by_cases c : rd h (q + 7 + d) 2 = a ∧ wAh (rd h (q + 7 + d)) L s hr (rd h (q + 7 + d) 8) (zand (zshr x d) 1) ∧ ¬ bitZ sh d
    · rw [if_pos c] at y
      exact Or.inl ⟨c.2, c.1.symm, y.symm⟩
    · rw [if_neg c] at y
      by_cases c2 : rd h (q + 7 + d) 3 = a ∧ wBk (rd h (q + 7 + d)) L s hr (rd h (q + 7 + d) 8) (zand (zshr x d) 1) ∧ ¬ bitZ sh d
      · rw [if_pos c2] at y
        exact Or.inr ⟨c2.2, c2.1.symm, y.symm⟩
      · rw [if_neg c2] at y
        omega
theorem EE_sub (hK : KR K) (ha : ∀ d, 0 ≤ d → d < 32 → bitZ A d → bitZ A' d) (hb : ∀ d, 0 ≤ d → d < 32 → bitZ B d → bitZ B' d) (y : EE K A B a b) : EE K A' B' a b := by
  have k1 := hK.2.1
  obtain ⟨d, d0, d1, y⟩ := y
  exact ⟨d, d0, d1, y.elim (fun y => Or.inl ⟨ha d d0 (by omega) y.1, y.2⟩) (fun y => Or.inr ⟨hb d d0 (by omega) y.1, y.2⟩)⟩
theorem mix_sub (d0 : 0 ≤ d) (d1 : d < 32) (y : bitZ (mixZ A T x) d) : bitZ (zor A T) d := by
  rw [bit_or d0 d1]
  rw [mix_bit d0 d1] at y
  exact y.elim (fun y => Or.inl y.1) (fun y => Or.inr y.1)
/-- a door whose turning changes nothing may stay -/
theorem mix_drop (d0 : 0 ≤ d) (d1 : d < 32) (y : ¬ bitZ v d → (bitZ A d ↔ bitZ T d)) : bitZ (mixZ A T (zand x v)) d ↔ bitZ (mixZ A T x) d := by
  rw [mix_bit d0 d1, mix_bit d0 d1, bit_and d0 d1]
  by_cases z : bitZ v d
  · constructor
    · rintro (⟨p, q⟩ | ⟨p, q⟩)
      · exact Or.inl ⟨p, fun t => q ⟨t, z⟩⟩
      · exact Or.inr ⟨p, q.1⟩
    · rintro (⟨p, q⟩ | ⟨p, q⟩)
      · exact Or.inl ⟨p, fun t => q t.1⟩
      · exact Or.inr ⟨p, q, z⟩
  · have i := y z
    constructor
    · rintro (⟨p, q⟩ | ⟨p, q⟩)
      · by_cases t : bitZ x d
        · exact Or.inr ⟨i.mp p, t⟩
        · exact Or.inl ⟨p, t⟩
      · exact absurd q.2 z
    · rintro (⟨p, q⟩ | ⟨p, q⟩)
      · exact Or.inl ⟨p, fun t => q t.1⟩
      · exact Or.inl ⟨i.mpr p, fun t => z t.2⟩
theorem turn_on (hc : CXq h K q L) (hK : KR K) (tl : TLF h K q L) (hs : 0 ≤ s ∧ s ≤ 3) (hh : 0 ≤ hr ∧ hr ≤ 23) (hw : TWA h K q L s hr sh A B TA TB) : onE (EE K (mixZ A TA x) (mixZ B TB x)) (K.1 0) ↔ turnP K s hr sh x :=
  onE_iff (fun _ _ => EE_turn hc hK tl hs hh hw)
theorem turn_drop (hc : CXq h K q L) (hK : KR K) (tl : TLF h K q L) (hs : 0 ≤ s ∧ s ≤ 3) (hh : 0 ≤ hr ∧ hr ≤ 23) (hw : TWA h K q L s hr sh A B TA TB) : turnP K s hr sh (zand x (zor (zxor A TA) (zxor B TB))) ↔ turnP K s hr sh x := by
  rw [← turn_on hc hK tl hs hh hw, ← turn_on hc hK tl hs hh hw]
  refine onE_iff (fun _ _ => EE_bits hK (fun d d0 d1 => mix_drop d0 d1 (fun z => ?_)) (fun d d0 d1 => mix_drop d0 d1 (fun z => ?_)))
  · rw [bit_or d0 d1, bit_xor d0 d1] at z
    exact Classical.byContradiction (fun t => z (Or.inl t))
  · rw [bit_or d0 d1, bit_xor d0 d1, bit_xor d0 d1] at z
    exact Classical.byContradiction (fun t => z (Or.inr t))
theorem turn_none (hc : CXq h K q L) (hK : KR K) (tl : TLF h K q L) (hs : 0 ≤ s ∧ s ≤ 3) (hh : 0 ≤ hr ∧ hr ≤ 23) (hw : TWA h K q L s hr sh A B TA TB) (no : ¬ onE (EE K (zor A TA) (zor B TB)) (K.1 0)) : ¬ turnP K s hr sh x := fun y => by
  rw [← turn_on hc hK tl hs hh hw] at y
  exact no (onE_mono (fun _ _ z => EE_sub hK (fun _ d0 d1 t => mix_sub d0 d1 t) (fun _ d0 d1 t => mix_sub d0 d1 t) z) (fun _ _ z => EE_in hK z) y)
theorem bst_none (no : ∀ x, ¬ P x) : ∀ n : Nat, bst P n = -1
  | 0 => rfl
  | n + 1 => by
    rw [bst_no (fun z => no _ z.2)]
    exact bst_none no n
theorem stepB0 (hv : ∀ d, 0 ≤ d → d < 32 → (bitZ v d ↔ d < n ∧ W d)) (y : ¬ W n) (d : Int) (d0 : 0 ≤ d) (d1 : d < 32) : bitZ (zor v 0) d ↔ d < n + 1 ∧ W d := by
  rw [bit_or d0 d1, hv d d0 d1]
  constructor
  · rintro (z | z)
    · exact ⟨by omega, z.2⟩
    · exact absurd z bit_zero
  · rintro ⟨z1, z2⟩
    by_cases c : d = n
    · rw [c] at z2
      exact absurd z2 y
    · exact Or.inl ⟨by omega, z2⟩
theorem stepB1 (n0 : 0 ≤ n) (n1 : n < 32) (hv : ∀ d, 0 ≤ d → d < 32 → (bitZ v d ↔ d < n ∧ W d)) (y : W n) (d : Int) (d0 : 0 ≤ d) (d1 : d < 32) : bitZ (zor v (zshl 1 n)) d ↔ d < n + 1 ∧ W d := by
  rw [bit_or d0 d1, bit_shl n0 n1 d0 d1, hv d d0 d1]
  constructor
  · rintro (z | z)
    · exact ⟨by omega, z.2⟩
    · rw [z]
      exact ⟨by omega, y⟩
  · rintro ⟨z1, z2⟩
    by_cases c : d = n
    · exact Or.inr c
    · exact Or.inl ⟨by omega, z2⟩
theorem F_doorsToTurn (he : 4 ≤ e) (hc : CXq h K q L) (hK : KR K) (tl : TLF h K q L) (hl : LWQ h q L) (hs : 0 ≤ s ∧ s ≤ 3) (hh : 0 ≤ hr ∧ hr ≤ 23) (k : ∀ g, RF g → (∀ a i, a ≠ q + 4 → rd g a i = rd h a i) → Q (some (.inl (bst (turnP K s hr sh) (zshl 1 (K.1 1)).toNat))) g) : Rn xs xl e mm_Web_doorsToTurn 0 [some (.inr (.inr q)), some (.inl s), some (.inl hr), some (.inl sh), none, none, none, none, none, none, none, none, none, none] [] h Q := by
  obtain ⟨hF, hP, hq, -, ⟨-, c2, -⟩, -⟩ := id hc
  have k1 := hK.2.1
  have N := shl_14 (K.1 1).toNat (by omega)
  rw [Int.toNat_of_nonneg k1.1] at N
  have cx : ∀ g, RF g → (∀ a i, a ≠ q + 4 → rd g a i = rd h a i) → CXq g K q L := fun g gF gf => CXq_fr hc hK gF (fun a i ha => gf a i (by omega))
  have wA : ∀ d, 0 ≤ d → d < K.1 1 → _ := fun d d0 d1 => CXq_ah (v1 := sh) (s := s) (hr := hr) hc hK hs hh d0 d1
  -- the search
  have late : ∀ (g : LH) (A B TA TB : Int), RF g → (∀ a i, a ≠ q + 4 → rd g a i = rd h a i) → TWA g K q L s hr sh A B TA TB → ∀ (o12 o13 : Option LV), Rn xs xl e mm_Web_doorsToTurn 163 [some (.inr (.inr q)), some (.inl s), some (.inl hr), some (.inl sh), some (.inl A), some (.inl B), some (.inl TA), some (.inl TB), some (.inl (zxor (zor (zxor A TA) (zxor B TB)) (-1))), some (.inl (-1)), some (.inl 15), some (.inl 0), o12, o13] [] g Q := by
    intro g A B TA TB gF gf hw p12 p13
    have gc := cx g gF gf
    have gt : TLF g K q L := fun d s a hr sh tu d0 d1 s0 s1 a0 a1 h0 h1 => by
      rw [show rd g (q + 7 + d) = rd h (q + 7 + d) from funext (fun i => gf _ _ (by omega))]
      exact tl d s a hr sh tu d0 d1 s0 s1 a0 a1 h0 h1
    have kk := k g gF gf
    have gx2 : rd g q 2 = K.1 1 := gc.2.2.2.2.1.2.1
    have on : ∀ {x : Int}, onE (EE K (mixZ A TA x) (mixZ B TB x)) (K.1 0) ↔ turnP K s hr sh x := turn_on gc hK gt hs hh hw
    have dr : ∀ {x : Int}, turnP K s hr sh (zand x (zor (zxor A TA) (zxor B TB))) ↔ turnP K s hr sh x := turn_drop gc hK gt hs hh hw
    generalize eN : zshl 1 (K.1 1) = n at N kk
    have nx : zshl 1 (rd g q 2) = n := by rw [gx2, eN]
    have loop : ∀ (m : Nat) (v11 : Int) (o12 o13 : Option LV), n - v11 ≤ m → 0 ≤ v11 → v11 ≤ n → Rn xs xl e mm_Web_doorsToTurn 163 [some (.inr (.inr q)), some (.inl s), some (.inl hr), some (.inl sh), some (.inl A), some (.inl B), some (.inl TA), some (.inl TB), some (.inl (zxor (zor (zxor A TA) (zxor B TB)) (-1))), some (.inl (bst (turnP K s hr sh) v11.toNat)), some (.inl (fwB (bst (turnP K s hr sh) v11.toNat))), some (.inl v11), o12, o13] [] g Q := by
      intro m
      have stop : ∀ v11 : Int, n ≤ v11 → v11 ≤ n → Q (some (.inl (bst (turnP K s hr sh) v11.toNat))) g := fun v11 a c => by
        rw [show v11 = n by omega]
        exact kk
      induction m with
      | zero =>
        intro v11 o12 o13 hm a0 a1
        exact B_Web_doorsToTurn_163 hq gF (by omega) ⟨fun c => stop v11 (by omega) a1, fun c => by omega⟩
      | succ m ih =>
        intro v11 o12 o13 hm a0 a1
        refine B_Web_doorsToTurn_163 hq gF (by omega) ⟨fun c => stop v11 (by omega) a1, fun c => ?_⟩
        have lt : v11 < n := by omega
        have ex : ((v11.toNat : Nat) : Int) = v11 := Int.toNat_of_nonneg a0
        have en : (v11 + 1).toNat = v11.toNat + 1 := by omega
        have bi := bst_in (P := turnP K s hr sh) v11.toNat
        have s247 : ∀ (y : Int) (o o' : Option LV), bst (turnP K s hr sh) (v11 + 1).toNat = y → Rn xs xl e mm_Web_doorsToTurn 247 [some (.inr (.inr q)), some (.inl s), some (.inl hr), some (.inl sh), some (.inl A), some (.inl B), some (.inl TA), some (.inl TB), some (.inl (zxor (zor (zxor A TA) (zxor B TB)) (-1))), some (.inl y), some (.inl (fwB y)), some (.inl v11), o, o'] [] g Q := fun y o o' ey => by
          have := ih (v11 + 1) o o' (by omega) (by omega) (by omega)
          rw [ey] at this
          exact B_Web_doorsToTurn_247 hq gF (by omega) this
        refine ⟨fun z => s247 _ o12 o13 (bst_skip dr a0 (by omega) z), fun z => ⟨0, by omega, F_bitCount gF a0 (by omega) ?_⟩⟩
        have pi := pcP_in v11 14
        refine B_Web_doorsToTurn_187 hq gF (by omega) ⟨fun w => ⟨2, by omega, F_isOneRing (Nat.le_refl 2) gc hK (fun r r01 ri => ?_)⟩, fun w => s247 _ o12 o13 ?_⟩
        · have rv : r = 1 ↔ turnP K s hr sh v11 := ri.trans on
          refine B_Web_doorsToTurn_233 hq gF (by omega) ⟨fun y => s247 _ _ _ ?_, fun y => ⟨0, by omega, F_bitCount gF a0 (by omega) (B_Web_doorsToTurn_245 hq gF (by omega) ?_)⟩⟩
          · rw [en]
            refine bst_no ?_
            rw [ex]
            exact fun t => by
              have := rv.mpr t.2
              omega
          · have cp : turnP K s hr sh v11 := rv.mp (by omega)
            have ev : bst (turnP K s hr sh) (v11 + 1).toNat = v11 := by
              rw [en, bst_yes ?_ (by rw [ex]; exact cp)]
              · exact ex
              · rw [ex]
                unfold fwB at w
                split at w
                · rename_i t
                  exact Or.inl t
                · exact Or.inr w
            have := s247 v11 (some (.inl (mixZ A TA v11))) (some (.inl (mixZ B TB v11))) ev
            unfold fwB at this
            rw [if_neg (by omega)] at this
            exact this
        · rw [en]
          refine bst_no ?_
          rw [ex]
          rintro ⟨t, -⟩
          unfold fwB at w
          split at w <;> omega
    exact loop n.toNat 0 p12 p13 (by omega) (by omega) (by omega)
  -- the turned doors' bits
  have loop : ∀ (m : Nat) (g : LH) (v6 v7 v8 : Int) (o9 : Option LV), K.1 1 - v8 ≤ m → 0 ≤ v8 → v8 ≤ K.1 1 → RF g → (∀ a i, a ≠ q + 4 → rd g a i = rd h a i) → (∀ d, 0 ≤ d → d < 32 → (bitZ v6 d ↔ d < v8 ∧ wAh (rd h (q + 7 + d)) L s hr (rd h (q + 7 + d) 8) 1)) → (∀ d, 0 ≤ d → d < 32 → (bitZ v7 d ↔ d < v8 ∧ wBk (rd h (q + 7 + d)) L s hr (rd h (q + 7 + d) 8) 1)) → Rn xs xl e mm_Web_doorsToTurn 27 [some (.inr (.inr q)), some (.inl s), some (.inl hr), some (.inl sh), some (.inl (zand (rd h (q + 5) (24 * s + hr)) (zxor sh (-1)))), some (.inl (zand (rd h (q + 6) (24 * s + hr)) (zxor sh (-1)))), some (.inl v6), some (.inl v7), some (.inl v8), o9, none, none, none, none] [] g Q := by
    intro m
    have fin : ∀ (g : LH) (v6 v7 v8 : Int) (o9 : Option LV), K.1 1 ≤ v8 → v8 ≤ K.1 1 → RF g → (∀ a i, a ≠ q + 4 → rd g a i = rd h a i) → (∀ d, 0 ≤ d → d < 32 → (bitZ v6 d ↔ d < v8 ∧ wAh (rd h (q + 7 + d)) L s hr (rd h (q + 7 + d) 8) 1)) → (∀ d, 0 ≤ d → d < 32 → (bitZ v7 d ↔ d < v8 ∧ wBk (rd h (q + 7 + d)) L s hr (rd h (q + 7 + d) 8) 1)) → Rn xs xl e mm_Web_doorsToTurn 103 [some (.inr (.inr q)), some (.inl s), some (.inl hr), some (.inl sh), some (.inl (zand (rd h (q + 5) (24 * s + hr)) (zxor sh (-1)))), some (.inl (zand (rd h (q + 6) (24 * s + hr)) (zxor sh (-1)))), some (.inl v6), some (.inl v7), some (.inl v8), o9, none, none, none, none] [] g Q := fun g v6 v7 v8 o9 a0 a1 gF gf b6 b7 => by
      have hw : TWA g K q L s hr sh (zand (rd h (q + 5) (24 * s + hr)) (zxor sh (-1))) (zand (rd h (q + 6) (24 * s + hr)) (zxor sh (-1))) (zand v6 (zxor sh (-1))) (zand v7 (zxor sh (-1))) := fun d d0 d1 => by
        rw [show rd g (q + 7 + d) = rd h (q + 7 + d) from funext (fun i => gf _ _ (by omega))]
        refine ⟨(wA d d0 d1).1, (wA d d0 d1).2, ?_, ?_⟩
        · rw [bit_and d0 (by omega), bit_not d0 (by omega), b6 d d0 (by omega)]
          exact ⟨fun y => ⟨y.1.2, y.2⟩, fun y => ⟨⟨by omega, y.1⟩, y.2⟩⟩
        · rw [bit_and d0 (by omega), bit_not d0 (by omega), b7 d d0 (by omega)]
          exact ⟨fun y => ⟨y.1.2, y.2⟩, fun y => ⟨⟨by omega, y.1⟩, y.2⟩⟩
      have gc := cx g gF gf
      have gt : TLF g K q L := fun d s a hr sh tu d0 d1 s0 s1 a0 a1 h0 h1 => by
        rw [show rd g (q + 7 + d) = rd h (q + 7 + d) from funext (fun i => gf _ _ (by omega))]
        exact tl d s a hr sh tu d0 d1 s0 s1 a0 a1 h0 h1
      refine B_Web_doorsToTurn_103 hq gF ⟨2, by omega, F_isOneRing (Nat.le_refl 2) gc hK (fun r r01 ri => B_Web_doorsToTurn_133 hq gF ⟨fun _ => late g _ _ _ _ gF gf hw _ _, fun z => ?_⟩)⟩
      have no : ∀ x, ¬ turnP K s hr sh x := fun x => turn_none gc hK gt hs hh hw (fun y => by have := ri.mpr y; omega)
      have := k g gF gf
      rw [bst_none no] at this
      exact this
    induction m with
    | zero =>
      intro g v6 v7 v8 o9 hm a0 a1 gF gf b6 b7
      have gc := cx g gF gf
      have gx2 : rd g q 2 = K.1 1 := gc.2.2.2.2.1.2.1
      exact B_Web_doorsToTurn_27 hq gF gc.2.1 (by omega) ⟨fun _ => fin g v6 v7 v8 o9 (by omega) a1 gF gf b6 b7, fun c => by omega⟩
    | succ m ih =>
      intro g v6 v7 v8 o9 hm a0 a1 gF gf b6 b7
      have gc := cx g gF gf
      have gx2 : rd g q 2 = K.1 1 := gc.2.2.2.2.1.2.1
      refine B_Web_doorsToTurn_27 hq gF gc.2.1 (by omega) ⟨fun c => fin g v6 v7 v8 o9 (by omega) a1 gF gf b6 b7, fun c => ⟨by omega, 3, by omega, ?_⟩⟩
      have hlg : LWQ g q L := LWQ_fr hl (gf _ _ (by omega)) (fun i _ => gf _ _ (by omega))
      have ef : rd g (q + 7 + v8) = rd h (q + 7 + v8) := funext (fun i => gf _ _ (by omega))
      refine F_ways (Nat.le_refl 3) hq (by omega) (Or.inr rfl) gF gc.2.1 hlg (fun r u r03 rA rB uF uf => ?_)
      rw [ef] at rA rB
      have fu : ∀ a i, a ≠ q + 4 → rd u a i = rd h a i := fun a i n => (uf a i n).trans (gf a i n)
      have s77 : ∀ w : Int, (∀ d, 0 ≤ d → d < 32 → (bitZ w d ↔ d < v8 + 1 ∧ wAh (rd h (q + 7 + d)) L s hr (rd h (q + 7 + d) 8) 1)) → Rn xs xl e mm_Web_doorsToTurn 77 [some (.inr (.inr q)), some (.inl s), some (.inl hr), some (.inl sh), some (.inl (zand (rd h (q + 5) (24 * s + hr)) (zxor sh (-1)))), some (.inl (zand (rd h (q + 6) (24 * s + hr)) (zxor sh (-1)))), some (.inl w), some (.inl v7), some (.inl v8), some (.inl r), none, none, none, none] [] u Q := fun w bw =>
        B_Web_doorsToTurn_77 hq uF (by omega) ⟨fun z => ih u w _ (v8 + 1) _ (by omega) (by omega) (by omega) uF fu bw (stepB0 (W := fun d => wBk (rd h (q + 7 + d)) L s hr (rd h (q + 7 + d) 8) 1) b7 (fun y => (zw2 r03).mp z (rB.mpr y))), fun z => ih u w _ (v8 + 1) _ (by omega) (by omega) (by omega) uF fu bw (stepB1 (W := fun d => wBk (rd h (q + 7 + d)) L s hr (rd h (q + 7 + d) 8) 1) a0 (by omega) b7 (rB.mp (Classical.byContradiction (fun y => z ((zw2 r03).mpr y)))))⟩
      exact B_Web_doorsToTurn_55 hq uF (by omega) ⟨fun z => s77 _ (stepB0 (W := fun d => wAh (rd h (q + 7 + d)) L s hr (rd h (q + 7 + d) 8) 1) b6 (fun y => (zw1 r03).mp z (rA.mpr y))), fun z => s77 _ (stepB1 (W := fun d => wAh (rd h (q + 7 + d)) L s hr (rd h (q + 7 + d) 8) 1) a0 (by omega) b6 (rA.mp (Classical.byContradiction (fun y => z ((zw1 r03).mpr y)))))⟩
  exact B_Web_doorsToTurn_0 hq hF hs hh (by omega) ⟨fun c => by omega, fun _ => loop (K.1 1).toNat h 0 0 0 none (by omega) (by omega) (by omega) hF (fun _ _ _ => rfl) (fun d d0 d1 => ⟨fun y => absurd y bit_zero, fun y => by omega⟩) (fun d d0 d1 => ⟨fun y => absurd y bit_zero, fun y => by omega⟩)⟩
def turnC (s hr : Int) : Prop := (0 ≤ s ∧ s ≤ 3) ∧ 0 ≤ hr ∧ hr ≤ 23
def turnJ (v1 v2 : Int) (h g : LH) (r : Int) : Prop := (∀ a i, a ≠ 9 → a ≠ 36 → rd g a i = rd h a i) ∧ ((¬ turnC v1 v2 ∧ r = -1) ∨ (turnC v1 v2 ∧ r = bst (turnP (key h) v1 v2 (rd h 198 1)) (zshl 1 (rd h 188 1)).toNat))
theorem E_turnS (he : 8 ≤ e) (hI : INV h) (hE : EQL h) (h1 : i32 v1) (h2 : i32 v2) (k : ∀ r g, INV g → turnJ v1 v2 h g r → Q (some (.inl r)) g) : Rn xs xl e mm_OneSided_turn 0 [some (.inr (.inr 1)), some (.inl v1), some (.inl v2)] [] h Q := by
  obtain ⟨L, hc, hl, tl⟩ := CXq_ofT hI hE
  have hK := KR_of hI
  have hq : rd h 1 1 = 5 ∨ rd h 1 1 = 32 := rQf hI.1
  have k5 := hE.2.2.2.2.2.2.2.2.2.2.2.1
  have e1 : rd h 60 1 = rd h 198 1 := k5.2.1
  have A : Rn xs xl e mm_OneSided_turn 0 [some (.inr (.inr 1)), some (.inl v1), some (.inl v2)] [] h (fun r g => ∃ x, r = some (.inl x) ∧ turnJ v1 v2 h g x) := by
    have no : ¬ turnC v1 v2 → ∃ x, (some (.inl (-1)) : Option LV) = some (.inl x) ∧ turnJ v1 v2 h h x := fun z => ⟨-1, rfl, fun _ _ _ _ => rfl, Or.inl ⟨z, rfl⟩⟩
    refine B_OneSided_turn_0 hq rfl (RF_of hI.1) (by omega) ⟨fun c => no (fun z => by have := z.1; omega), fun a1 => ⟨fun c => no (fun z => by have := z.1; omega), fun a2 => ⟨fun c => no (fun z => by have := z.2; omega), fun a3 => ⟨fun c => no (fun z => by have := z.2; omega), fun a4 => ⟨4, by omega, ?_⟩⟩⟩⟩⟩
    rw [e1]
    exact F_doorsToTurn (Nat.le_refl 4) hc hK tl hl (by omega) (by omega) (fun g gF gf => B_OneSided_turn_30 gF ⟨_, rfl, fun a i n1 n2 => gf a i (by omega), Or.inr ⟨⟨⟨a1, by omega⟩, a3, by omega⟩, rfl⟩⟩)
  have B : Rn xs xl e mm_OneSided_turn 0 [some (.inr (.inr 1)), some (.inl v1), some (.inl v2)] [] h (fun r g => INV g) := use_sm TC_turn (as := [.inr (.inr 1), .inl v1, .inl v2]) rfl (Nat.le_trans (Nat.le_of_ble_eq_true rfl) he) hI (gAr_c (g_ref 1) (gAr_c (g_i h1) (gAr_c (g_i h2) gAr_n))) rfl (Nat.le_of_ble_eq_true rfl) rfl (fun r g gI gf gq => gI)
  refine (A.and B).mono (fun r g z => ?_)
  obtain ⟨⟨x, rfl, a⟩, b⟩ := z
  exact k x g b a
theorem every_eq {w n : Int} (n0 : 0 ≤ n ∧ n ≤ 10) (wi : i32 w) : w = zshl 1 n - 1 ↔ ∀ b, 0 ≤ b → b < 32 → (bitZ w b ↔ b < n) := by
  have s10 := shl_10 n.toNat (by omega)
  rw [Int.toNat_of_nonneg n0.1] at s10
  constructor
  · intro z b b0 b1
    rw [z]
    exact bit_all' n0 b0 b1
  · intro z
    exact bit_ext wi (by unfold i32; omega) (fun b b0 b1 => (z b b0 b1).trans (bit_all' n0 b0 b1).symm)
theorem Rea_src (hE : ∀ a b, E a b → a < n) (n0 : 0 < n) (y : Rea E b 0) : b < n :=
  Rea_min (E := fun x y => E y x) (X := fun x => x < n) n0 (fun x y _ z => hE y x z) (Rea_flip y)
theorem G_turnS (he : 8 ≤ e) (hI : INV h) (hE : EQL h) (gI : INV g) (hj : turnJ v1 v2 h g r) (k : ∀ g', INV g' → EQL g' → Q (some (.inl r)) g') : Rn xs xl e mm_turn 0 [some (.inr (.inr 182)), some (.inl v1), some (.inl v2), none, none] [] g Q := by
  obtain ⟨sm, hc⟩ := hj
  have EG : EQL g := EQL_fr hI hE (sm 2 0 (by decide) (by decide)) (sm 182 2 (by decide) (by decide)) (fun a i ha => sm a i (inK_9 ha).1 (inK_9 ha).2)
  have ek : key g = key h := key_frs (fun a i a0 a1 => sm a i (by omega) (by omega)) (fun i _ _ => sm 182 i (by decide) (by decide))
  have hK := KR_of gI
  have n0 := rq_rooms gI.1
  have n1 := rq_doors gI.1
  rw [← ek, ← sm 198 1 (by decide) (by decide), ← sm 188 1 (by decide) (by decide)] at hc
  have no : ¬ turnC v1 v2 → Q (some (.inl (-1))) (wr g 182 0 0) := fun z => by
    obtain ⟨i1, e1⟩ := thr gI EG
    rcases hc with ⟨_, rfl⟩ | ⟨c, _⟩
    · exact k _ i1 e1
    · exact absurd c z
  refine B_turn_0 (RF_of gI.1) (by omega) ⟨fun c => no (fun z => by have := z.1; omega), fun a1 => ⟨fun c => no (fun z => by have := z.1; omega), fun a2 => ⟨fun c => no (fun z => by have := z.2; omega), fun a3 => ⟨fun c => no (fun z => by have := z.2; omega), fun a4 => ?_⟩⟩⟩⟩
  obtain ⟨tI, tK, -⟩ := WC_thr gI
  have er : r = bst (turnP (key g) v1 v2 (rd g 198 1)) (zshl 1 (rd g 188 1)).toNat := by
    rcases hc with ⟨z, _⟩ | ⟨_, z⟩
    · exact absurd ⟨⟨a1, a2⟩, a3, a4⟩ z
    · exact z
  have N := shl_14 (rd g 188 1).toNat (by omega)
  rw [Int.toNat_of_nonneg n1.1] at N
  generalize eN : zshl 1 (rd g 188 1) = n at N er
  generalize eP : turnP (key g) v1 v2 (rd g 198 1) = P at er
  have loop : ∀ (m : Nat) (u : LH) (v4 : Int), n - v4 ≤ m → 0 ≤ v4 → v4 ≤ n → INV u → frI (wr g 182 0 0) u → Rn xs xl e mm_turn 21 [some (.inr (.inr 182)), some (.inl v1), some (.inl v2), some (.inl (bst P v4.toNat)), some (.inl v4)] [] u Q := by
    intro m
    have stop : ∀ (u : LH) (v4 : Int), n ≤ v4 → v4 ≤ n → INV u → frI (wr g 182 0 0) u → Q (some (.inl (bst P v4.toNat))) u := fun u v4 a c uI uf => by
      rw [show v4 = n by omega, ← er]
      exact k u uI (EQL_I gI EG (fun a i m1 m2 m3 m4 => (uf a i m1 m2 m3).trans (by rw [rd_wr, if_neg (by omega)])))
    have f1 : ∀ u, frI (wr g 182 0 0) u → zshl 1 (rd u 188 1) = n := fun u uf => by
      rw [uf 188 1 (by decide) (by decide) (by decide), rdw_ne (by decide)]
      exact eN
    induction m with
    | zero =>
      intro u v4 hm b0 b1 uI uf
      have f := f1 u uf
      exact B_turn_21 (RF_of uI.1) (by omega) (by omega) ⟨fun c => stop u v4 (by omega) b1 uI uf, fun c => by omega⟩
    | succ m ih =>
      intro u v4 hm b0 b1 uI uf
      have f := f1 u uf
      have bi := bst_in (P := P) v4.toNat
      have ex : ((v4.toNat : Nat) : Int) = v4 := Int.toNat_of_nonneg b0
      have en : (v4 + 1).toNat = v4.toNat + 1 := by omega
      have s89 : ∀ (w : LH) (y : Int), v4 < n → INV w → frI (wr g 182 0 0) w → bst P (v4 + 1).toNat = y → Rn xs xl e mm_turn 89 [some (.inr (.inr 182)), some (.inl v1), some (.inl v2), some (.inl y), some (.inl v4)] [] w Q := fun w y c wI wf ey => by
        have := ih w (v4 + 1) (by omega) (by omega) (by omega) wI wf
        rw [ey] at this
        exact B_turn_89 (RF_of wI.1) (by omega) this
      have s48 : v4 < n → (bst P v4.toNat < 0 ∨ pcP v4 14 < pcP (bst P v4.toNat) 14) → Rn xs xl e mm_turn 48 [some (.inr (.inr 182)), some (.inl v1), some (.inl v2), some (.inl (bst P v4.toNat)), some (.inl v4)] [] u Q := fun c t => by
        have uK : key u = key g := uf.key.trans tK
        refine B_turn_48 (RF_of uI.1) (by omega) ⟨4, by omega, ?_⟩
        have e8 : rd u 198 1 = rd g 198 1 := by
          rw [uf 198 1 (by decide) (by decide) (by decide), rdw_ne (by decide)]
        rw [e8]
        refine G_laysInto (Nat.le_refl 4) uI uK ⟨a1, a2⟩ ⟨a3, a4⟩ (fun w wI wf wl => ?_)
        have wK : key w = key g := wf.key.trans uK
        have wf' := uf.trans wf
        have w0 : rd w 188 0 = (key g).1 0 := by
          rw [show rd w 188 0 = (key w).1 0 from rfl, wK]
        have k0 := hK.1
        have s10 := shl_10 (rd w 188 0).toNat (by omega)
        rw [Int.toNat_of_nonneg (by omega)] at s10
        have er' : ∀ {x y}, Rea (eR (key g) w) x y ↔ Rea (fun a b => 0 ≤ b ∧ eL (key g) v1 v2 (rd g 198 1) v4 a b) x y := Rea_iff (fun _ _ => eR_eL wl hK ⟨a1, a2⟩ ⟨a3, a4⟩)
        have pv : P v4 ↔ onE (fun a b => 0 ≤ b ∧ eL (key g) v1 v2 (rd g 198 1) v4 a b) ((key g).1 0) := by
          rw [← eP]
          exact Iff.rfl
        have no' : ¬ P v4 → bst P (v4 + 1).toNat = bst P v4.toNat := fun z => by
          rw [en]
          refine bst_no ?_
          rw [ex]
          exact fun s => z s.2
        refine B_turn_62 (RF_of wI.1) (by omega) ⟨1, by omega, G_closure (Nat.le_refl 1) wI wK (by decide) (fun y y0 y1 yb => ?_)⟩
        have ev := every_eq (w := y) (n := rd w 188 0) (by omega) (by unfold i32; omega)
        refine B_turn_67 (RF_of wI.1) (by omega) (by omega) ⟨by omega, fun z => s89 w _ c wI wf' (no' (fun p => z (ev.mpr (fun b b0 b1 => ?_)))), fun z => ⟨2, by omega, G_homelessOf (Nat.le_refl 2) wI wK (by decide) (fun o oi ob => B_turn_79 (RF_of wI.1) (by omega) ⟨fun x => s89 w _ c wI wf' (no' (fun p => x ?_)), fun x => s89 w v4 c wI wf' ?_⟩)⟩⟩
        · rw [yb b b0 b1, er', w0]
          exact (pv.mp p).1 b b0 b1
        · refine bit_ext oi z32 (fun b b0 b1 => ?_)
          rw [ob b b0 b1, er']
          exact ⟨fun t => absurd (((pv.mp p).2 b b0 b1).mpr t.1) t.2, fun t => absurd t bit_zero⟩
        · have all := ev.mp z
          have first : ∀ b, 0 ≤ b → b < 32 → (Rea (fun a b => 0 ≤ b ∧ eL (key g) v1 v2 (rd g 198 1) v4 a b) 0 b ↔ b < (key g).1 0) := fun b b0 b1 => by
            rw [← er', ← yb b b0 b1, ← w0]
            exact all b b0 b1
          have n0' : 0 < (key g).1 0 := (first 0 (by decide) (by decide)).mp Rea_refl
          have p : P v4 := pv.mpr ⟨first, fun b b0 b1 => ⟨fun t => Rea_src (fun _ _ s => s.2.1.2) n0' t, fun t => Classical.byContradiction (fun s => ?_)⟩⟩
          · rw [en, bst_yes (by rw [ex]; exact t) (by rw [ex]; exact p)]
            exact ex
          · have := (ob b b0 b1).mpr ⟨t, fun s' => s (er'.mp s')⟩
            rw [x] at this
            exact absurd this bit_zero
      refine B_turn_21 (RF_of uI.1) (by omega) (by omega) ⟨fun c => stop u v4 (by omega) b1 uI uf, fun c => ⟨fun z => s48 (by omega) (Or.inl z), fun z => ⟨0, by omega, G_bits (RF_of uI.1) (B_turn_41 (RF_of uI.1) (by omega) ⟨0, by omega, G_bits (RF_of uI.1) (B_turn_45 (RF_of uI.1) (by omega) ⟨fun w => s89 u _ (by omega) uI uf ?_, fun w => s48 (by omega) (Or.inr w)⟩)⟩)⟩⟩⟩
      rw [en]
      refine bst_no ?_
      rw [ex]
      rintro ⟨t, -⟩
      omega
  exact loop n.toNat _ 0 (by omega) (by omega) (by omega) tI (frI.refl _)
end VB
end
section
/-! LM, by program (wip/p2/hand.py): rows of run -/
def mm_Scene_homeAndDone : LM_M := (⟨"OneSided$Scene", "homeAndDone", "(LOneSided$Quarter;)I"⟩, prog_11_method_7_code, 4, (some .int), 9, 2, 0, 1143, 1141, 1142)
def mm_Plans_peopleDueFrom : LM_M := (⟨"OneSided$Plans", "peopleDueFrom", "(LOneSided$Quarter;I)I"⟩, prog_7_method_14_code, 4, (some .int), 5, 2, 1, 1146, 1145, 0)
def mm_Plans_goOn : LM_M := (⟨"OneSided$Plans", "goOn", "(LOneSided$Quarter;LOneSided$Scene;I)V"⟩, prog_7_method_13_code, 4, none, 5, 4, 0, 1137, 1136, 1000058)
def mm_Plans_runDay : LM_M := (⟨"OneSided$Plans", "runDay", "(LOneSided$Quarter;LOneSided$Scene;)I"⟩, prog_7_method_12_code, 6, (some .int), 5, 3, 0, 1133, 1131, 1132)
theorem dd_Scene_homeAndDone_0 : decode mm_Scene_homeAndDone.2.1 0 = .ok (.iconst 0, 1) := by decide +kernel
theorem dd_Scene_homeAndDone_1 : decode mm_Scene_homeAndDone.2.1 1 = .ok (.istore_n 2, 1) := by decide +kernel
theorem dd_Scene_homeAndDone_2 : decode mm_Scene_homeAndDone.2.1 2 = .ok (.iconst 0, 1) := by decide +kernel
theorem dd_Scene_homeAndDone_3 : decode mm_Scene_homeAndDone.2.1 3 = .ok (.istore_n 3, 1) := by decide +kernel
theorem dd_Scene_homeAndDone_4 : decode mm_Scene_homeAndDone.2.1 4 = .ok (.iload_n 3, 1) := by decide +kernel
theorem dd_Scene_homeAndDone_5 : decode mm_Scene_homeAndDone.2.1 5 = .ok (.aload_n 1, 1) := by decide +kernel
theorem dd_Scene_homeAndDone_6 : decode mm_Scene_homeAndDone.2.1 6 = .ok (.getfield 37, 3) := by decide +kernel
theorem dd_Scene_homeAndDone_9 : decode mm_Scene_homeAndDone.2.1 9 = .ok (.if_icmp .ge (37), 3) := by decide +kernel
theorem dd_Scene_homeAndDone_46 : decode mm_Scene_homeAndDone.2.1 46 = .ok (.iload_n 2, 1) := by decide +kernel
theorem dd_Scene_homeAndDone_47 : decode mm_Scene_homeAndDone.2.1 47 = .ok (.aload_n 0, 1) := by decide +kernel
theorem dd_Scene_homeAndDone_48 : decode mm_Scene_homeAndDone.2.1 48 = .ok (.getfield 28, 3) := by decide +kernel
theorem dd_Scene_homeAndDone_51 : decode mm_Scene_homeAndDone.2.1 51 = .ok (.iand, 1) := by decide +kernel
theorem dd_Scene_homeAndDone_52 : decode mm_Scene_homeAndDone.2.1 52 = .ok (.ireturn, 1) := by decide +kernel
theorem dd_Scene_homeAndDone_12 : decode mm_Scene_homeAndDone.2.1 12 = .ok (.iload_n 2, 1) := by decide +kernel
theorem dd_Scene_homeAndDone_13 : decode mm_Scene_homeAndDone.2.1 13 = .ok (.aload_n 0, 1) := by decide +kernel
theorem dd_Scene_homeAndDone_14 : decode mm_Scene_homeAndDone.2.1 14 = .ok (.getfield 9, 3) := by decide +kernel
theorem dd_Scene_homeAndDone_17 : decode mm_Scene_homeAndDone.2.1 17 = .ok (.iload_n 3, 1) := by decide +kernel
theorem dd_Scene_homeAndDone_18 : decode mm_Scene_homeAndDone.2.1 18 = .ok (.iaload, 1) := by decide +kernel
theorem dd_Scene_homeAndDone_19 : decode mm_Scene_homeAndDone.2.1 19 = .ok (.aload_n 1, 1) := by decide +kernel
theorem dd_Scene_homeAndDone_20 : decode mm_Scene_homeAndDone.2.1 20 = .ok (.getfield 42, 3) := by decide +kernel
theorem dd_Scene_homeAndDone_23 : decode mm_Scene_homeAndDone.2.1 23 = .ok (.iload_n 3, 1) := by decide +kernel
theorem dd_Scene_homeAndDone_24 : decode mm_Scene_homeAndDone.2.1 24 = .ok (.aaload, 1) := by decide +kernel
theorem dd_Scene_homeAndDone_25 : decode mm_Scene_homeAndDone.2.1 25 = .ok (.getfield 46, 3) := by decide +kernel
theorem dd_Scene_homeAndDone_28 : decode mm_Scene_homeAndDone.2.1 28 = .ok (.if_icmp .ne (9), 3) := by decide +kernel
theorem dd_Scene_homeAndDone_37 : decode mm_Scene_homeAndDone.2.1 37 = .ok (.iconst 0, 1) := by decide +kernel
theorem dd_Scene_homeAndDone_38 : decode mm_Scene_homeAndDone.2.1 38 = .ok (.ior, 1) := by decide +kernel
theorem dd_Scene_homeAndDone_39 : decode mm_Scene_homeAndDone.2.1 39 = .ok (.istore_n 2, 1) := by decide +kernel
theorem dd_Scene_homeAndDone_40 : decode mm_Scene_homeAndDone.2.1 40 = .ok (.iinc 3 1, 3) := by decide +kernel
theorem dd_Scene_homeAndDone_43 : decode mm_Scene_homeAndDone.2.1 43 = .ok (.goto (-39), 3) := by decide +kernel
theorem dd_Scene_homeAndDone_31 : decode mm_Scene_homeAndDone.2.1 31 = .ok (.iconst 1, 1) := by decide +kernel
theorem dd_Scene_homeAndDone_32 : decode mm_Scene_homeAndDone.2.1 32 = .ok (.iload_n 3, 1) := by decide +kernel
theorem dd_Scene_homeAndDone_33 : decode mm_Scene_homeAndDone.2.1 33 = .ok (.ishl, 1) := by decide +kernel
theorem dd_Scene_homeAndDone_34 : decode mm_Scene_homeAndDone.2.1 34 = .ok (.goto 4, 3) := by decide +kernel
theorem dd_Plans_peopleDueFrom_0 : decode mm_Plans_peopleDueFrom.2.1 0 = .ok (.iconst 0, 1) := by decide +kernel
theorem dd_Plans_peopleDueFrom_1 : decode mm_Plans_peopleDueFrom.2.1 1 = .ok (.istore_n 2, 1) := by decide +kernel
theorem dd_Plans_peopleDueFrom_2 : decode mm_Plans_peopleDueFrom.2.1 2 = .ok (.iconst 0, 1) := by decide +kernel
theorem dd_Plans_peopleDueFrom_3 : decode mm_Plans_peopleDueFrom.2.1 3 = .ok (.istore_n 3, 1) := by decide +kernel
theorem dd_Plans_peopleDueFrom_4 : decode mm_Plans_peopleDueFrom.2.1 4 = .ok (.iload_n 3, 1) := by decide +kernel
theorem dd_Plans_peopleDueFrom_5 : decode mm_Plans_peopleDueFrom.2.1 5 = .ok (.aload_n 0, 1) := by decide +kernel
theorem dd_Plans_peopleDueFrom_6 : decode mm_Plans_peopleDueFrom.2.1 6 = .ok (.getfield 132, 3) := by decide +kernel
theorem dd_Plans_peopleDueFrom_9 : decode mm_Plans_peopleDueFrom.2.1 9 = .ok (.if_icmp .ge (32), 3) := by decide +kernel
theorem dd_Plans_peopleDueFrom_41 : decode mm_Plans_peopleDueFrom.2.1 41 = .ok (.iload_n 2, 1) := by decide +kernel
theorem dd_Plans_peopleDueFrom_42 : decode mm_Plans_peopleDueFrom.2.1 42 = .ok (.ireturn, 1) := by decide +kernel
theorem dd_Plans_peopleDueFrom_12 : decode mm_Plans_peopleDueFrom.2.1 12 = .ok (.iload_n 2, 1) := by decide +kernel
theorem dd_Plans_peopleDueFrom_13 : decode mm_Plans_peopleDueFrom.2.1 13 = .ok (.iload_n 1, 1) := by decide +kernel
theorem dd_Plans_peopleDueFrom_14 : decode mm_Plans_peopleDueFrom.2.1 14 = .ok (.aload_n 0, 1) := by decide +kernel
theorem dd_Plans_peopleDueFrom_15 : decode mm_Plans_peopleDueFrom.2.1 15 = .ok (.getfield 27, 3) := by decide +kernel
theorem dd_Plans_peopleDueFrom_18 : decode mm_Plans_peopleDueFrom.2.1 18 = .ok (.iload_n 3, 1) := by decide +kernel
theorem dd_Plans_peopleDueFrom_19 : decode mm_Plans_peopleDueFrom.2.1 19 = .ok (.aaload, 1) := by decide +kernel
theorem dd_Plans_peopleDueFrom_20 : decode mm_Plans_peopleDueFrom.2.1 20 = .ok (.getfield 165, 3) := by decide +kernel
theorem dd_Plans_peopleDueFrom_23 : decode mm_Plans_peopleDueFrom.2.1 23 = .ok (.if_icmp .gt (9), 3) := by decide +kernel
theorem dd_Plans_peopleDueFrom_32 : decode mm_Plans_peopleDueFrom.2.1 32 = .ok (.iconst 0, 1) := by decide +kernel
theorem dd_Plans_peopleDueFrom_33 : decode mm_Plans_peopleDueFrom.2.1 33 = .ok (.ior, 1) := by decide +kernel
theorem dd_Plans_peopleDueFrom_34 : decode mm_Plans_peopleDueFrom.2.1 34 = .ok (.istore_n 2, 1) := by decide +kernel
theorem dd_Plans_peopleDueFrom_35 : decode mm_Plans_peopleDueFrom.2.1 35 = .ok (.iinc 3 1, 3) := by decide +kernel
theorem dd_Plans_peopleDueFrom_38 : decode mm_Plans_peopleDueFrom.2.1 38 = .ok (.goto (-34), 3) := by decide +kernel
theorem dd_Plans_peopleDueFrom_26 : decode mm_Plans_peopleDueFrom.2.1 26 = .ok (.iconst 1, 1) := by decide +kernel
theorem dd_Plans_peopleDueFrom_27 : decode mm_Plans_peopleDueFrom.2.1 27 = .ok (.iload_n 3, 1) := by decide +kernel
theorem dd_Plans_peopleDueFrom_28 : decode mm_Plans_peopleDueFrom.2.1 28 = .ok (.ishl, 1) := by decide +kernel
theorem dd_Plans_peopleDueFrom_29 : decode mm_Plans_peopleDueFrom.2.1 29 = .ok (.goto 4, 3) := by decide +kernel
theorem dd_Plans_goOn_0 : decode mm_Plans_goOn.2.1 0 = .ok (.aload_n 2, 1) := by decide +kernel
theorem dd_Plans_goOn_1 : decode mm_Plans_goOn.2.1 1 = .ok (.getfield 156, 3) := by decide +kernel
theorem fd_5_156 : fld 5 156 = some (9, 2) := by decide +kernel
theorem dd_Plans_goOn_4 : decode mm_Plans_goOn.2.1 4 = .ok (.iload_n 3, 1) := by decide +kernel
theorem dd_Plans_goOn_5 : decode mm_Plans_goOn.2.1 5 = .ok (.ishr, 1) := by decide +kernel
theorem dd_Plans_goOn_6 : decode mm_Plans_goOn.2.1 6 = .ok (.iconst 1, 1) := by decide +kernel
theorem dd_Plans_goOn_7 : decode mm_Plans_goOn.2.1 7 = .ok (.iand, 1) := by decide +kernel
theorem dd_Plans_goOn_8 : decode mm_Plans_goOn.2.1 8 = .ok (.ifCond .eq (4), 3) := by decide +kernel
theorem dd_Plans_goOn_12 : decode mm_Plans_goOn.2.1 12 = .ok (.aload_n 0, 1) := by decide +kernel
theorem dd_Plans_goOn_13 : decode mm_Plans_goOn.2.1 13 = .ok (.aload_n 1, 1) := by decide +kernel
theorem dd_Plans_goOn_14 : decode mm_Plans_goOn.2.1 14 = .ok (.aload_n 2, 1) := by decide +kernel
theorem dd_Plans_goOn_15 : decode mm_Plans_goOn.2.1 15 = .ok (.iload_n 3, 1) := by decide +kernel
theorem dd_Plans_goOn_16 : decode mm_Plans_goOn.2.1 16 = .ok (.invokevirtual 159, 3) := by decide +kernel
theorem cw_5_159 : cwOk 5 159 0 87 4 9 5 = true := by decide +kernel
theorem dd_Plans_goOn_11 : decode mm_Plans_goOn.2.1 11 = .ok (.return_, 1) := by decide +kernel
theorem dd_Plans_goOn_19 : decode mm_Plans_goOn.2.1 19 = .ok (.aload_n 0, 1) := by decide +kernel
theorem dd_Plans_goOn_20 : decode mm_Plans_goOn.2.1 20 = .ok (.getfield 68, 3) := by decide +kernel
theorem dd_Plans_goOn_23 : decode mm_Plans_goOn.2.1 23 = .ok (.ifCond .le (16), 3) := by decide +kernel
theorem dd_Plans_goOn_39 : decode mm_Plans_goOn.2.1 39 = .ok (.return_, 1) := by decide +kernel
theorem dd_Plans_goOn_26 : decode mm_Plans_goOn.2.1 26 = .ok (.aload_n 2, 1) := by decide +kernel
theorem dd_Plans_goOn_27 : decode mm_Plans_goOn.2.1 27 = .ok (.aload_n 1, 1) := by decide +kernel
theorem dd_Plans_goOn_28 : decode mm_Plans_goOn.2.1 28 = .ok (.iload_n 3, 1) := by decide +kernel
theorem dd_Plans_goOn_29 : decode mm_Plans_goOn.2.1 29 = .ok (.aload_n 0, 1) := by decide +kernel
theorem dd_Plans_goOn_30 : decode mm_Plans_goOn.2.1 30 = .ok (.getfield 9, 3) := by decide +kernel
theorem dd_Plans_goOn_33 : decode mm_Plans_goOn.2.1 33 = .ok (.iconst 0, 1) := by decide +kernel
theorem dd_Plans_goOn_34 : decode mm_Plans_goOn.2.1 34 = .ok (.iaload, 1) := by decide +kernel
theorem dd_Plans_goOn_35 : decode mm_Plans_goOn.2.1 35 = .ok (.invokevirtual 162, 3) := by decide +kernel
theorem cw_5_162 : cwOk 5 162 0 72 4 6 9 = true := by decide +kernel
theorem dd_Plans_goOn_38 : decode mm_Plans_goOn.2.1 38 = .ok (.pop, 1) := by decide +kernel
theorem dd_Plans_runDay_0 : decode mm_Plans_runDay.2.1 0 = .ok (.iconst 0, 1) := by decide +kernel
theorem dd_Plans_runDay_1 : decode mm_Plans_runDay.2.1 1 = .ok (.istore_n 3, 1) := by decide +kernel
theorem dd_Plans_runDay_2 : decode mm_Plans_runDay.2.1 2 = .ok (.aload_n 2, 1) := by decide +kernel
theorem dd_Plans_runDay_3 : decode mm_Plans_runDay.2.1 3 = .ok (.getfield 23, 3) := by decide +kernel
theorem dd_Plans_runDay_6 : decode mm_Plans_runDay.2.1 6 = .ok (.istore 4, 2) := by decide +kernel
theorem dd_Plans_runDay_8 : decode mm_Plans_runDay.2.1 8 = .ok (.iload 4, 2) := by decide +kernel
theorem dd_Plans_runDay_10 : decode mm_Plans_runDay.2.1 10 = .ok (.bipush 24, 2) := by decide +kernel
theorem dd_Plans_runDay_12 : decode mm_Plans_runDay.2.1 12 = .ok (.if_icmp .gt (55), 3) := by decide +kernel
theorem dd_Plans_runDay_67 : decode mm_Plans_runDay.2.1 67 = .ok (.iload_n 3, 1) := by decide +kernel
theorem dd_Plans_runDay_68 : decode mm_Plans_runDay.2.1 68 = .ok (.invokestatic 151, 3) := by decide +kernel
theorem cw_5_151 : cwOk 5 151 1 107 1 1 14 = true := by decide +kernel
theorem dd_Plans_runDay_15 : decode mm_Plans_runDay.2.1 15 = .ok (.iconst 0, 1) := by decide +kernel
theorem dd_Plans_runDay_16 : decode mm_Plans_runDay.2.1 16 = .ok (.istore 5, 2) := by decide +kernel
theorem dd_Plans_runDay_18 : decode mm_Plans_runDay.2.1 18 = .ok (.iload 5, 2) := by decide +kernel
theorem dd_Plans_runDay_20 : decode mm_Plans_runDay.2.1 20 = .ok (.aload_n 1, 1) := by decide +kernel
theorem dd_Plans_runDay_21 : decode mm_Plans_runDay.2.1 21 = .ok (.getfield 132, 3) := by decide +kernel
theorem dd_Plans_runDay_24 : decode mm_Plans_runDay.2.1 24 = .ok (.if_icmp .ge (17), 3) := by decide +kernel
theorem dd_Plans_runDay_27 : decode mm_Plans_runDay.2.1 27 = .ok (.aload_n 0, 1) := by decide +kernel
theorem dd_Plans_runDay_28 : decode mm_Plans_runDay.2.1 28 = .ok (.aload_n 1, 1) := by decide +kernel
theorem dd_Plans_runDay_29 : decode mm_Plans_runDay.2.1 29 = .ok (.aload_n 2, 1) := by decide +kernel
theorem dd_Plans_runDay_30 : decode mm_Plans_runDay.2.1 30 = .ok (.iload 5, 2) := by decide +kernel
theorem dd_Plans_runDay_32 : decode mm_Plans_runDay.2.1 32 = .ok (.invokevirtual 135, 3) := by decide +kernel
theorem cw_5_135 : cwOk 5 135 0 144 4 4 5 = true := by decide +kernel
theorem mt_Plans_goOn : MTB 144 = some mm_Plans_goOn := rfl
theorem dd_Plans_runDay_35 : decode mm_Plans_runDay.2.1 35 = .ok (.iinc 5 1, 3) := by decide +kernel
theorem dd_Plans_runDay_38 : decode mm_Plans_runDay.2.1 38 = .ok (.goto (-20), 3) := by decide +kernel
theorem dd_Plans_runDay_41 : decode mm_Plans_runDay.2.1 41 = .ok (.iload_n 3, 1) := by decide +kernel
theorem dd_Plans_runDay_42 : decode mm_Plans_runDay.2.1 42 = .ok (.aload_n 2, 1) := by decide +kernel
theorem dd_Plans_runDay_43 : decode mm_Plans_runDay.2.1 43 = .ok (.aload_n 1, 1) := by decide +kernel
theorem dd_Plans_runDay_44 : decode mm_Plans_runDay.2.1 44 = .ok (.invokevirtual 139, 3) := by decide +kernel
theorem cw_5_139 : cwOk 5 139 0 145 2 4 9 = true := by decide +kernel
theorem mt_Scene_homeAndDone : MTB 145 = some mm_Scene_homeAndDone := rfl
theorem dd_Plans_runDay_47 : decode mm_Plans_runDay.2.1 47 = .ok (.aload_n 1, 1) := by decide +kernel
theorem dd_Plans_runDay_48 : decode mm_Plans_runDay.2.1 48 = .ok (.iload 4, 2) := by decide +kernel
theorem dd_Plans_runDay_50 : decode mm_Plans_runDay.2.1 50 = .ok (.invokestatic 143, 3) := by decide +kernel
theorem cw_5_143 : cwOk 5 143 1 146 2 4 5 = true := by decide +kernel
theorem mt_Plans_peopleDueFrom : MTB 146 = some mm_Plans_peopleDueFrom := rfl
theorem dd_Plans_runDay_53 : decode mm_Plans_runDay.2.1 53 = .ok (.iand, 1) := by decide +kernel
theorem dd_Plans_runDay_54 : decode mm_Plans_runDay.2.1 54 = .ok (.ior, 1) := by decide +kernel
theorem dd_Plans_runDay_55 : decode mm_Plans_runDay.2.1 55 = .ok (.istore_n 3, 1) := by decide +kernel
theorem dd_Plans_runDay_56 : decode mm_Plans_runDay.2.1 56 = .ok (.aload_n 2, 1) := by decide +kernel
theorem dd_Plans_runDay_57 : decode mm_Plans_runDay.2.1 57 = .ok (.iconst 1, 1) := by decide +kernel
theorem dd_Plans_runDay_58 : decode mm_Plans_runDay.2.1 58 = .ok (.invokevirtual 147, 3) := by decide +kernel
theorem cw_5_147 : cwOk 5 147 0 75 2 2 9 = true := by decide +kernel
theorem dd_Plans_runDay_61 : decode mm_Plans_runDay.2.1 61 = .ok (.iinc 4 1, 3) := by decide +kernel
theorem dd_Plans_runDay_64 : decode mm_Plans_runDay.2.1 64 = .ok (.goto (-56), 3) := by decide +kernel
theorem dd_Plans_runDay_71 : decode mm_Plans_runDay.2.1 71 = .ok (.ireturn, 1) := by decide +kernel
theorem dd_OneSided_run_0 : decode mm_OneSided_run.2.1 0 = .ok (.iload_n 1, 1) := by decide +kernel
theorem dd_OneSided_run_1 : decode mm_OneSided_run.2.1 1 = .ok (.ifCond .eq (10), 3) := by decide +kernel
theorem dd_OneSided_run_11 : decode mm_OneSided_run.2.1 11 = .ok (.aload_n 0, 1) := by decide +kernel
theorem dd_OneSided_run_12 : decode mm_OneSided_run.2.1 12 = .ok (.getfield 33, 3) := by decide +kernel
theorem dd_OneSided_run_15 : decode mm_OneSided_run.2.1 15 = .ok (.getfield 149, 3) := by decide +kernel
theorem dd_OneSided_run_18 : decode mm_OneSided_run.2.1 18 = .ok (.astore_n 2, 1) := by decide +kernel
theorem dd_OneSided_run_19 : decode mm_OneSided_run.2.1 19 = .ok (.aload_n 2, 1) := by decide +kernel
theorem dd_OneSided_run_20 : decode mm_OneSided_run.2.1 20 = .ok (.aload_n 0, 1) := by decide +kernel
theorem dd_OneSided_run_21 : decode mm_OneSided_run.2.1 21 = .ok (.getfield 29, 3) := by decide +kernel
theorem dd_OneSided_run_24 : decode mm_OneSided_run.2.1 24 = .ok (.getfield 149, 3) := by decide +kernel
theorem dd_OneSided_run_27 : decode mm_OneSided_run.2.1 27 = .ok (.invokevirtual 201, 3) := by decide +kernel
theorem dd_OneSided_run_4 : decode mm_OneSided_run.2.1 4 = .ok (.iload_n 1, 1) := by decide +kernel
theorem dd_OneSided_run_5 : decode mm_OneSided_run.2.1 5 = .ok (.iconst 1, 1) := by decide +kernel
theorem dd_OneSided_run_6 : decode mm_OneSided_run.2.1 6 = .ok (.if_icmp .eq (5), 3) := by decide +kernel
theorem dd_OneSided_run_9 : decode mm_OneSided_run.2.1 9 = .ok (.iconst (-1), 1) := by decide +kernel
theorem dd_OneSided_run_10 : decode mm_OneSided_run.2.1 10 = .ok (.ireturn, 1) := by decide +kernel
theorem dd_OneSided_run_30 : decode mm_OneSided_run.2.1 30 = .ok (.aload_n 0, 1) := by decide +kernel
theorem dd_OneSided_run_31 : decode mm_OneSided_run.2.1 31 = .ok (.getfield 49, 3) := by decide +kernel
theorem dd_OneSided_run_34 : decode mm_OneSided_run.2.1 34 = .ok (.aload_n 0, 1) := by decide +kernel
theorem dd_OneSided_run_35 : decode mm_OneSided_run.2.1 35 = .ok (.getfield 19, 3) := by decide +kernel
theorem dd_OneSided_run_38 : decode mm_OneSided_run.2.1 38 = .ok (.aload_n 2, 1) := by decide +kernel
theorem dd_OneSided_run_39 : decode mm_OneSided_run.2.1 39 = .ok (.invokevirtual 334, 3) := by decide +kernel
theorem cw_11_334 : cwOk 11 334 0 143 3 6 5 = true := by decide +kernel
theorem mt_Plans_runDay : MTB 143 = some mm_Plans_runDay := rfl
theorem dd_OneSided_run_42 : decode mm_OneSided_run.2.1 42 = .ok (.istore_n 3, 1) := by decide +kernel
theorem dd_OneSided_run_43 : decode mm_OneSided_run.2.1 43 = .ok (.iload_n 1, 1) := by decide +kernel
theorem dd_OneSided_run_44 : decode mm_OneSided_run.2.1 44 = .ok (.ifCond .ne (5), 3) := by decide +kernel
theorem dd_OneSided_run_49 : decode mm_OneSided_run.2.1 49 = .ok (.aload_n 0, 1) := by decide +kernel
theorem dd_OneSided_run_50 : decode mm_OneSided_run.2.1 50 = .ok (.getfield 19, 3) := by decide +kernel
theorem dd_OneSided_run_53 : decode mm_OneSided_run.2.1 53 = .ok (.getfield 254, 3) := by decide +kernel
theorem dd_OneSided_run_56 : decode mm_OneSided_run.2.1 56 = .ok (.aload_n 2, 1) := by decide +kernel
theorem dd_OneSided_run_57 : decode mm_OneSided_run.2.1 57 = .ok (.aload_n 0, 1) := by decide +kernel
theorem dd_OneSided_run_58 : decode mm_OneSided_run.2.1 58 = .ok (.getfield 19, 3) := by decide +kernel
theorem dd_OneSided_run_61 : decode mm_OneSided_run.2.1 61 = .ok (.invokevirtual 337, 3) := by decide +kernel
theorem cw_11_337 : cwOk 11 337 0 145 2 4 9 = true := by decide +kernel
theorem dd_OneSided_run_47 : decode mm_OneSided_run.2.1 47 = .ok (.iload_n 3, 1) := by decide +kernel
theorem dd_OneSided_run_48 : decode mm_OneSided_run.2.1 48 = .ok (.ireturn, 1) := by decide +kernel
theorem dd_OneSided_run_64 : decode mm_OneSided_run.2.1 64 = .ok (.invokestatic 340, 3) := by decide +kernel
theorem cw_11_340 : cwOk 11 340 1 107 1 1 14 = true := by decide +kernel
theorem dd_OneSided_run_67 : decode mm_OneSided_run.2.1 67 = .ok (.isub, 1) := by decide +kernel
theorem dd_OneSided_run_68 : decode mm_OneSided_run.2.1 68 = .ok (.ireturn, 1) := by decide +kernel
theorem B_Scene_homeAndDone_0 {xs : Nat → Int} {xl e : Nat} {h : LH} {Q : Option LV → LH → Prop} {sc : Int} (hsc : scn sc) (hc0 : 60 ≤ sc) {q : Int} (hq : q = 5 ∨ q = 32) (hF : RF h)
    (k : Rn xs xl e mm_Scene_homeAndDone 4 [some (.inr (.inr sc)), some (.inr (.inr q)), some (.inl 0), some (.inl 0)] [] h Q) :
    Rn xs xl e mm_Scene_homeAndDone 0 [some (.inr (.inr sc)), some (.inr (.inr q)), none, none] [] h Q := by
  refine R_ic dd_Scene_homeAndDone_0 (by decide) rfl ?_
  refine R_st (ls' := [some (.inr (.inr sc)), some (.inr (.inr q)), some (.inl 0), none]) dd_Scene_homeAndDone_1 rfl rfl rfl (Nat.le_of_ble_eq_true rfl) rfl rfl ?_
  refine R_ic dd_Scene_homeAndDone_2 (by decide) rfl ?_
  refine R_st (ls' := [some (.inr (.inr sc)), some (.inr (.inr q)), some (.inl 0), some (.inl 0)]) dd_Scene_homeAndDone_3 rfl rfl rfl (Nat.le_of_ble_eq_true rfl) rfl rfl ?_
  exact k
theorem B_Scene_homeAndDone_4 {xs : Nat → Int} {xl e : Nat} {h : LH} {Q : Option LV → LH → Prop} {v2 v3 : Int} {sc : Int} (hsc : scn sc) (hc0 : 60 ≤ sc) {q : Int} (hq : q = 5 ∨ q = 32) (hF : RF h) (hP : PT h) (r_v3 : 0 ≤ v3 ∧ v3 ≤ 6)
    (k : ((rd h q 4) ≤ v3 →
        Q (some (.inl (zand v2 (rd h sc 3)))) h) ∧
      (v3 < (rd h q 4) →
        (0 ≤ v3 ∧ v3 < 6) ∧
        (0 ≤ v3 ∧ v3 < 6) ∧
        ((rd h (sc + 1) v3) ≠ (rd h (q + 21 + v3) 2) →
          Rn xs xl e mm_Scene_homeAndDone 4 [some (.inr (.inr sc)), some (.inr (.inr q)), some (.inl (zor v2 0)), some (.inl (v3 + 1))] [] h Q) ∧
        ((rd h (sc + 1) v3) = (rd h (q + 21 + v3) 2) →
          Rn xs xl e mm_Scene_homeAndDone 4 [some (.inr (.inr sc)), some (.inr (.inr q)), some (.inl (zor v2 (zshl 1 v3))), some (.inl (v3 + 1))] [] h Q))) :
    Rn xs xl e mm_Scene_homeAndDone 4 [some (.inr (.inr sc)), some (.inr (.inr q)), some (.inl v2), some (.inl v3)] [] h Q := by
  refine R_ld (v := .inl v3) dd_Scene_homeAndDone_4 rfl rfl rfl rfl ?_
  refine R_ld (v := .inr (.inr q)) dd_Scene_homeAndDone_5 rfl rfl rfl rfl ?_
  refine R_gf (v := .inl (rd h q 4)) dd_Scene_homeAndDone_6 fd_9_37 (io_q hq) (congrArg (fun z : Int => (Sum.inl z : LV)) (rfl)) rfl ?_
  refine R_icmp dd_Scene_homeAndDone_9 rfl rfl (fun (c3 : (rd h q 4) ≤ v3) => ?_) (fun (c3 : v3 < (rd h q 4)) => ?_)
  · replace k := k.1 c3
    refine R_ld (v := .inl v2) dd_Scene_homeAndDone_46 rfl rfl rfl rfl ?_
    refine R_ld (v := .inr (.inr sc)) dd_Scene_homeAndDone_47 rfl rfl rfl rfl ?_
    refine R_gf (v := .inl (rd h sc 3)) dd_Scene_homeAndDone_48 fd_9_28 (io_c hsc) (congrArg (fun z : Int => (Sum.inl z : LV)) (rfl)) rfl ?_
    refine R_A dd_Scene_homeAndDone_51 rfl rfl rfl rfl ?_
    exact R_iret dd_Scene_homeAndDone_52 rfl k
  · replace k := k.2 c3
    refine R_ld (v := .inl v2) dd_Scene_homeAndDone_12 rfl rfl rfl rfl ?_
    refine R_ld (v := .inr (.inr sc)) dd_Scene_homeAndDone_13 rfl rfl rfl rfl ?_
    refine R_gf (v := .inr (.inr (sc + 1))) dd_Scene_homeAndDone_14 fd_9_9 (io_c hsc) (congrArg (fun z : Int => (Sum.inr (Sum.inr z) : LV)) (rs_wh hF hsc)) rfl ?_
    refine R_ld (v := .inl v3) dd_Scene_homeAndDone_17 rfl rfl rfl rfl ?_
    obtain ⟨s1, k⟩ := k
    refine R_iald (v := (rd h (sc + 1) v3)) (n := 6) dd_Scene_homeAndDone_18 (ia_wc hsc) (la_wc hsc) s1 (rfl) rfl ?_
    refine R_ld (v := .inr (.inr q)) dd_Scene_homeAndDone_19 rfl rfl rfl rfl ?_
    refine R_gf (v := .inr (.inr (q + 2))) dd_Scene_homeAndDone_20 fd_9_42 (io_q hq) (congrArg (fun z : Int => (Sum.inr (Sum.inr z) : LV)) (rq_ppl hF hq)) rfl ?_
    refine R_ld (v := .inl v3) dd_Scene_homeAndDone_23 rfl rfl rfl rfl ?_
    obtain ⟨s2, k⟩ := k
    refine R_aald (v := (q + 21 + v3)) (n := 6) dd_Scene_homeAndDone_24 (ia_pq hq) (la_pq hq) s2 (rq_p hP hq s2) rfl ?_
    refine R_gf (v := .inl (rd h (q + 21 + v3) 2)) dd_Scene_homeAndDone_25 fd_9_46 (io_p hq (by omega)) (congrArg (fun z : Int => (Sum.inl z : LV)) (rfl)) rfl ?_
    refine R_icmp dd_Scene_homeAndDone_28 rfl rfl (fun (c4 : (rd h (sc + 1) v3) ≠ (rd h (q + 21 + v3) 2)) => ?_) (fun (c4 : (rd h (sc + 1) v3) = (rd h (q + 21 + v3) 2)) => ?_)
    · replace k := k.1 c4
      refine R_ic dd_Scene_homeAndDone_37 (by decide) rfl ?_
      refine R_A dd_Scene_homeAndDone_38 rfl rfl rfl rfl ?_
      refine R_st (ls' := [some (.inr (.inr sc)), some (.inr (.inr q)), some (.inl (zor v2 0)), some (.inl v3)]) dd_Scene_homeAndDone_39 rfl rfl rfl (Nat.le_of_ble_eq_true rfl) rfl rfl ?_
      refine R_inc (y := v3 + 1) (ls' := [some (.inr (.inr sc)), some (.inr (.inr q)), some (.inl (zor v2 0)), some (.inl (v3 + 1))]) dd_Scene_homeAndDone_40 rfl (by decide) (by omega) (by omega) rfl rfl ?_
      refine R_goto dd_Scene_homeAndDone_43 rfl ?_
      exact k
    · replace k := k.2 c4
      refine R_ic dd_Scene_homeAndDone_31 (by decide) rfl ?_
      refine R_ld (v := .inl v3) dd_Scene_homeAndDone_32 rfl rfl rfl rfl ?_
      refine R_A dd_Scene_homeAndDone_33 rfl rfl rfl rfl ?_
      refine R_goto dd_Scene_homeAndDone_34 rfl ?_
      refine R_A dd_Scene_homeAndDone_38 rfl rfl rfl rfl ?_
      refine R_st (ls' := [some (.inr (.inr sc)), some (.inr (.inr q)), some (.inl (zor v2 (zshl 1 v3))), some (.inl v3)]) dd_Scene_homeAndDone_39 rfl rfl rfl (Nat.le_of_ble_eq_true rfl) rfl rfl ?_
      refine R_inc (y := v3 + 1) (ls' := [some (.inr (.inr sc)), some (.inr (.inr q)), some (.inl (zor v2 (zshl 1 v3))), some (.inl (v3 + 1))]) dd_Scene_homeAndDone_40 rfl (by decide) (by omega) (by omega) rfl rfl ?_
      refine R_goto dd_Scene_homeAndDone_43 rfl ?_
      exact k
theorem B_Plans_peopleDueFrom_0 {xs : Nat → Int} {xl e : Nat} {h : LH} {Q : Option LV → LH → Prop} {v1 : Int} {q : Int} (hq : q = 5 ∨ q = 32) (hF : RF h)
    (k : Rn xs xl e mm_Plans_peopleDueFrom 4 [some (.inr (.inr q)), some (.inl v1), some (.inl 0), some (.inl 0)] [] h Q) :
    Rn xs xl e mm_Plans_peopleDueFrom 0 [some (.inr (.inr q)), some (.inl v1), none, none] [] h Q := by
  refine R_ic dd_Plans_peopleDueFrom_0 (by decide) rfl ?_
  refine R_st (ls' := [some (.inr (.inr q)), some (.inl v1), some (.inl 0), none]) dd_Plans_peopleDueFrom_1 rfl rfl rfl (Nat.le_of_ble_eq_true rfl) rfl rfl ?_
  refine R_ic dd_Plans_peopleDueFrom_2 (by decide) rfl ?_
  refine R_st (ls' := [some (.inr (.inr q)), some (.inl v1), some (.inl 0), some (.inl 0)]) dd_Plans_peopleDueFrom_3 rfl rfl rfl (Nat.le_of_ble_eq_true rfl) rfl rfl ?_
  exact k
theorem B_Plans_peopleDueFrom_4 {xs : Nat → Int} {xl e : Nat} {h : LH} {Q : Option LV → LH → Prop} {v1 v2 v3 : Int} {q : Int} (hq : q = 5 ∨ q = 32) (hF : RF h) (hP : PT h) (r_v3 : 0 ≤ v3 ∧ v3 ≤ 6)
    (k : ((rd h q 4) ≤ v3 →
        Q (some (.inl v2)) h) ∧
      (v3 < (rd h q 4) →
        (0 ≤ v3 ∧ v3 < 6) ∧
        ((rd h (q + 21 + v3) 4) < v1 →
          Rn xs xl e mm_Plans_peopleDueFrom 4 [some (.inr (.inr q)), some (.inl v1), some (.inl (zor v2 0)), some (.inl (v3 + 1))] [] h Q) ∧
        (v1 ≤ (rd h (q + 21 + v3) 4) →
          Rn xs xl e mm_Plans_peopleDueFrom 4 [some (.inr (.inr q)), some (.inl v1), some (.inl (zor v2 (zshl 1 v3))), some (.inl (v3 + 1))] [] h Q))) :
    Rn xs xl e mm_Plans_peopleDueFrom 4 [some (.inr (.inr q)), some (.inl v1), some (.inl v2), some (.inl v3)] [] h Q := by
  refine R_ld (v := .inl v3) dd_Plans_peopleDueFrom_4 rfl rfl rfl rfl ?_
  refine R_ld (v := .inr (.inr q)) dd_Plans_peopleDueFrom_5 rfl rfl rfl rfl ?_
  refine R_gf (v := .inl (rd h q 4)) dd_Plans_peopleDueFrom_6 fd_5_132 (io_q hq) (congrArg (fun z : Int => (Sum.inl z : LV)) (rfl)) rfl ?_
  refine R_icmp dd_Plans_peopleDueFrom_9 rfl rfl (fun (c2 : (rd h q 4) ≤ v3) => ?_) (fun (c2 : v3 < (rd h q 4)) => ?_)
  · replace k := k.1 c2
    refine R_ld (v := .inl v2) dd_Plans_peopleDueFrom_41 rfl rfl rfl rfl ?_
    exact R_iret dd_Plans_peopleDueFrom_42 rfl k
  · replace k := k.2 c2
    refine R_ld (v := .inl v2) dd_Plans_peopleDueFrom_12 rfl rfl rfl rfl ?_
    refine R_ld (v := .inl v1) dd_Plans_peopleDueFrom_13 rfl rfl rfl rfl ?_
    refine R_ld (v := .inr (.inr q)) dd_Plans_peopleDueFrom_14 rfl rfl rfl rfl ?_
    refine R_gf (v := .inr (.inr (q + 2))) dd_Plans_peopleDueFrom_15 fd_5_27 (io_q hq) (congrArg (fun z : Int => (Sum.inr (Sum.inr z) : LV)) (rq_ppl hF hq)) rfl ?_
    refine R_ld (v := .inl v3) dd_Plans_peopleDueFrom_18 rfl rfl rfl rfl ?_
    obtain ⟨s1, k⟩ := k
    refine R_aald (v := (q + 21 + v3)) (n := 6) dd_Plans_peopleDueFrom_19 (ia_pq hq) (la_pq hq) s1 (rq_p hP hq s1) rfl ?_
    refine R_gf (v := .inl (rd h (q + 21 + v3) 4)) dd_Plans_peopleDueFrom_20 fd_5_165 (io_p hq (by omega)) (congrArg (fun z : Int => (Sum.inl z : LV)) (rfl)) rfl ?_
    refine R_icmp dd_Plans_peopleDueFrom_23 rfl rfl (fun (c3 : (rd h (q + 21 + v3) 4) < v1) => ?_) (fun (c3 : v1 ≤ (rd h (q + 21 + v3) 4)) => ?_)
    · replace k := k.1 c3
      refine R_ic dd_Plans_peopleDueFrom_32 (by decide) rfl ?_
      refine R_A dd_Plans_peopleDueFrom_33 rfl rfl rfl rfl ?_
      refine R_st (ls' := [some (.inr (.inr q)), some (.inl v1), some (.inl (zor v2 0)), some (.inl v3)]) dd_Plans_peopleDueFrom_34 rfl rfl rfl (Nat.le_of_ble_eq_true rfl) rfl rfl ?_
      refine R_inc (y := v3 + 1) (ls' := [some (.inr (.inr q)), some (.inl v1), some (.inl (zor v2 0)), some (.inl (v3 + 1))]) dd_Plans_peopleDueFrom_35 rfl (by decide) (by omega) (by omega) rfl rfl ?_
      refine R_goto dd_Plans_peopleDueFrom_38 rfl ?_
      exact k
    · replace k := k.2 c3
      refine R_ic dd_Plans_peopleDueFrom_26 (by decide) rfl ?_
      refine R_ld (v := .inl v3) dd_Plans_peopleDueFrom_27 rfl rfl rfl rfl ?_
      refine R_A dd_Plans_peopleDueFrom_28 rfl rfl rfl rfl ?_
      refine R_goto dd_Plans_peopleDueFrom_29 rfl ?_
      refine R_A dd_Plans_peopleDueFrom_33 rfl rfl rfl rfl ?_
      refine R_st (ls' := [some (.inr (.inr q)), some (.inl v1), some (.inl (zor v2 (zshl 1 v3))), some (.inl v3)]) dd_Plans_peopleDueFrom_34 rfl rfl rfl (Nat.le_of_ble_eq_true rfl) rfl rfl ?_
      refine R_inc (y := v3 + 1) (ls' := [some (.inr (.inr q)), some (.inl v1), some (.inl (zor v2 (zshl 1 v3))), some (.inl (v3 + 1))]) dd_Plans_peopleDueFrom_35 rfl (by decide) (by omega) (by omega) rfl rfl ?_
      refine R_goto dd_Plans_peopleDueFrom_38 rfl ?_
      exact k
theorem B_Plans_goOn_0 {xs : Nat → Int} {xl e : Nat} {h : LH} {Q : Option LV → LH → Prop} {v3 : Int} {q : Int} (hq : q = 5 ∨ q = 32) {sc : Int} (hsc : scn sc) (hc0 : 60 ≤ sc) (hF : RF h) (r_v3 : 0 ≤ v3 ∧ v3 ≤ 5)
    (k : ((zand (zshr (rd h sc 2) v3) 1) = 0 →
        (∃ c, c < e ∧ Rn xs xl c mm_Plans_findWay 0 [some (.inr (.inr 77)), some (.inr (.inr q)), some (.inr (.inr sc)), some (.inl v3), none, none, none, none, none] [] h (fun r h' => Rn xs xl e mm_Plans_goOn 19 [some (.inr (.inr 77)), some (.inr (.inr q)), some (.inr (.inr sc)), some (.inl v3)] (r.toList ++ []) h' Q))) ∧
      ((zand (zshr (rd h sc 2) v3) 1) ≠ 0 →
        Q none h)) :
    Rn xs xl e mm_Plans_goOn 0 [some (.inr (.inr 77)), some (.inr (.inr q)), some (.inr (.inr sc)), some (.inl v3)] [] h Q := by
  refine R_ld (v := .inr (.inr sc)) dd_Plans_goOn_0 rfl rfl rfl rfl ?_
  refine R_gf (v := .inl (rd h sc 2)) dd_Plans_goOn_1 fd_5_156 (io_c hsc) (congrArg (fun z : Int => (Sum.inl z : LV)) (rfl)) rfl ?_
  refine R_ld (v := .inl v3) dd_Plans_goOn_4 rfl rfl rfl rfl ?_
  refine R_A dd_Plans_goOn_5 rfl rfl rfl rfl ?_
  refine R_ic dd_Plans_goOn_6 (by decide) rfl ?_
  refine R_A dd_Plans_goOn_7 rfl rfl rfl rfl ?_
  refine R_if dd_Plans_goOn_8 rfl rfl (fun (c2 : (zand (zshr (rd h sc 2) v3) 1) = 0) => ?_) (fun (c2 : (zand (zshr (rd h sc 2) v3) 1) ≠ 0) => ?_)
  · replace k := k.1 c2
    refine R_ld (v := .inr (.inr 77)) dd_Plans_goOn_12 rfl rfl rfl rfl ?_
    refine R_ld (v := .inr (.inr q)) dd_Plans_goOn_13 rfl rfl rfl rfl ?_
    refine R_ld (v := .inr (.inr sc)) dd_Plans_goOn_14 rfl rfl rfl rfl ?_
    refine R_ld (v := .inl v3) dd_Plans_goOn_15 rfl rfl rfl rfl ?_
    obtain ⟨c, hc, k⟩ := k
    exact R_call (as := [.inr (.inr 77), .inr (.inr q), .inr (.inr sc), .inl v3]) (rest := []) (M' := mm_Plans_findWay) (ls0 := [some (.inr (.inr 77)), some (.inr (.inr q)), some (.inr (.inr sc)), some (.inl v3), none, none, none, none, none]) dd_Plans_goOn_16 rfl rfl (cw_v cw_5_159 io_77 rfl rfl (Nat.le_of_ble_eq_true rfl) (Nat.le_of_ble_eq_true rfl)) mt_Plans_findWay rfl hc rfl k
  · replace k := k.2 c2
    exact R_vret dd_Plans_goOn_11 rfl k
theorem B_Plans_goOn_19 {xs : Nat → Int} {xl e : Nat} {h : LH} {Q : Option LV → LH → Prop} {v3 : Int} {q : Int} (hq : q = 5 ∨ q = 32) {sc : Int} (hsc : scn sc) (hc0 : 60 ≤ sc) (hF : RF h) (r_v3 : 0 ≤ v3 ∧ v3 ≤ 5)
    (k : ((rd h 77 0) ≤ 0 →
        Q none h) ∧
      (0 < (rd h 77 0) →
        (∃ c, c < e ∧ Rn xs xl c mm_Scene_tryDoor 0 [some (.inr (.inr sc)), some (.inr (.inr q)), some (.inl v3), some (.inl (rd h 78 0)), none, none] [] h (fun r h' => Rn xs xl e mm_Plans_goOn 38 [some (.inr (.inr 77)), some (.inr (.inr q)), some (.inr (.inr sc)), some (.inl v3)] (r.toList ++ []) h' Q)))) :
    Rn xs xl e mm_Plans_goOn 19 [some (.inr (.inr 77)), some (.inr (.inr q)), some (.inr (.inr sc)), some (.inl v3)] [] h Q := by
  refine R_ld (v := .inr (.inr 77)) dd_Plans_goOn_19 rfl rfl rfl rfl ?_
  refine R_gf (v := .inl (rd h 77 0)) dd_Plans_goOn_20 fd_5_68 io_77 (congrArg (fun z : Int => (Sum.inl z : LV)) (rfl)) rfl ?_
  refine R_if dd_Plans_goOn_23 rfl rfl (fun (c2 : (rd h 77 0) ≤ 0) => ?_) (fun (c2 : 0 < (rd h 77 0)) => ?_)
  · replace k := k.1 c2
    exact R_vret dd_Plans_goOn_39 rfl k
  · replace k := k.2 c2
    refine R_ld (v := .inr (.inr sc)) dd_Plans_goOn_26 rfl rfl rfl rfl ?_
    refine R_ld (v := .inr (.inr q)) dd_Plans_goOn_27 rfl rfl rfl rfl ?_
    refine R_ld (v := .inl v3) dd_Plans_goOn_28 rfl rfl rfl rfl ?_
    refine R_ld (v := .inr (.inr 77)) dd_Plans_goOn_29 rfl rfl rfl rfl ?_
    refine R_gf (v := .inr (.inr 78)) dd_Plans_goOn_30 fd_5_9 io_77 (congrArg (fun z : Int => (Sum.inr (Sum.inr z) : LV)) (rf_77_1 hF)) rfl ?_
    refine R_ic dd_Plans_goOn_33 (by decide) rfl ?_
    refine R_iald (v := (rd h 78 0)) (n := 24) dd_Plans_goOn_34 ia_78 la_78 (by decide) (rfl) rfl ?_
    obtain ⟨c, hc, k⟩ := k
    exact R_call (as := [.inr (.inr sc), .inr (.inr q), .inl v3, .inl (rd h 78 0)]) (rest := []) (M' := mm_Scene_tryDoor) (ls0 := [some (.inr (.inr sc)), some (.inr (.inr q)), some (.inl v3), some (.inl (rd h 78 0)), none, none]) dd_Plans_goOn_35 rfl rfl (cw_v cw_5_162 (io_c hsc) rfl rfl (Nat.le_of_ble_eq_true rfl) (Nat.le_of_ble_eq_true rfl)) mt_Scene_tryDoor rfl hc rfl k
theorem B_Plans_goOn_38 {xs : Nat → Int} {xl e : Nat} {h : LH} {Q : Option LV → LH → Prop} {v3 w0 : Int} {q : Int} (hq : q = 5 ∨ q = 32) {sc : Int} (hsc : scn sc) (hc0 : 60 ≤ sc) (hF : RF h)
    (k : Q none h) :
    Rn xs xl e mm_Plans_goOn 38 [some (.inr (.inr 77)), some (.inr (.inr q)), some (.inr (.inr sc)), some (.inl v3)] [.inl w0] h Q := by
  refine R_A dd_Plans_goOn_38 rfl rfl rfl rfl ?_
  exact R_vret dd_Plans_goOn_39 rfl k
theorem B_Plans_runDay_0 {xs : Nat → Int} {xl e : Nat} {h : LH} {Q : Option LV → LH → Prop} {q : Int} (hq : q = 5 ∨ q = 32) {sc : Int} (hsc : scn sc) (hc0 : 60 ≤ sc) (hF : RF h)
    (k : Rn xs xl e mm_Plans_runDay 8 [some (.inr (.inr 77)), some (.inr (.inr q)), some (.inr (.inr sc)), some (.inl 0), some (.inl (rd h sc 0)), none] [] h Q) :
    Rn xs xl e mm_Plans_runDay 0 [some (.inr (.inr 77)), some (.inr (.inr q)), some (.inr (.inr sc)), none, none, none] [] h Q := by
  refine R_ic dd_Plans_runDay_0 (by decide) rfl ?_
  refine R_st (ls' := [some (.inr (.inr 77)), some (.inr (.inr q)), some (.inr (.inr sc)), some (.inl 0), none, none]) dd_Plans_runDay_1 rfl rfl rfl (Nat.le_of_ble_eq_true rfl) rfl rfl ?_
  refine R_ld (v := .inr (.inr sc)) dd_Plans_runDay_2 rfl rfl rfl rfl ?_
  refine R_gf (v := .inl (rd h sc 0)) dd_Plans_runDay_3 fd_5_23 (io_c hsc) (congrArg (fun z : Int => (Sum.inl z : LV)) (rfl)) rfl ?_
  refine R_st (ls' := [some (.inr (.inr 77)), some (.inr (.inr q)), some (.inr (.inr sc)), some (.inl 0), some (.inl (rd h sc 0)), none]) dd_Plans_runDay_6 rfl rfl rfl (Nat.le_of_ble_eq_true rfl) rfl rfl ?_
  exact k
theorem B_Plans_runDay_8 {xs : Nat → Int} {xl e : Nat} {h : LH} {Q : Option LV → LH → Prop} {v3 v4 : Int} {q : Int} (hq : q = 5 ∨ q = 32) {sc : Int} (hsc : scn sc) (hc0 : 60 ≤ sc) {o5 : Option LV} (hF : RF h) (r_v4 : 0 ≤ v4 ∧ v4 ≤ 25)
    (k : (24 < v4 →
        (∃ c, c < e ∧ Rn xs xl c mm_java_lang_Integer_bitCount 0 [some (.inl v3)] [] h (fun r h' => Rn xs xl e mm_Plans_runDay 71 [some (.inr (.inr 77)), some (.inr (.inr q)), some (.inr (.inr sc)), some (.inl v3), some (.inl v4), o5] (r.toList ++ []) h' Q))) ∧
      (v4 ≤ 24 →
        Rn xs xl e mm_Plans_runDay 18 [some (.inr (.inr 77)), some (.inr (.inr q)), some (.inr (.inr sc)), some (.inl v3), some (.inl v4), some (.inl 0)] [] h Q)) :
    Rn xs xl e mm_Plans_runDay 8 [some (.inr (.inr 77)), some (.inr (.inr q)), some (.inr (.inr sc)), some (.inl v3), some (.inl v4), o5] [] h Q := by
  refine R_ld (v := .inl v4) dd_Plans_runDay_8 rfl rfl rfl rfl ?_
  refine R_bi dd_Plans_runDay_10 (by decide) rfl ?_
  refine R_icmp dd_Plans_runDay_12 rfl rfl (fun (c2 : 24 < v4) => ?_) (fun (c2 : v4 ≤ 24) => ?_)
  · replace k := k.1 c2
    refine R_ld (v := .inl v3) dd_Plans_runDay_67 rfl rfl rfl rfl ?_
    obtain ⟨c, hc, k⟩ := k
    exact R_call (as := [.inl v3]) (rest := []) (M' := mm_java_lang_Integer_bitCount) (ls0 := [some (.inl v3)]) dd_Plans_runDay_68 rfl rfl (cw_s cw_5_151 rfl rfl (Nat.le_of_ble_eq_true rfl) (Nat.le_of_ble_eq_true rfl)) mt_java_lang_Integer_bitCount rfl hc rfl k
  · replace k := k.2 c2
    refine R_ic dd_Plans_runDay_15 (by decide) rfl ?_
    refine R_st (ls' := [some (.inr (.inr 77)), some (.inr (.inr q)), some (.inr (.inr sc)), some (.inl v3), some (.inl v4), some (.inl 0)]) dd_Plans_runDay_16 rfl rfl rfl (Nat.le_of_ble_eq_true rfl) rfl rfl ?_
    exact k
theorem B_Plans_runDay_18 {xs : Nat → Int} {xl e : Nat} {h : LH} {Q : Option LV → LH → Prop} {v3 v4 v5 : Int} {q : Int} (hq : q = 5 ∨ q = 32) {sc : Int} (hsc : scn sc) (hc0 : 60 ≤ sc) (hF : RF h) (r_v4 : 0 ≤ v4 ∧ v4 ≤ 24) (r_v5 : 0 ≤ v5 ∧ v5 ≤ 6)
    (k : ((rd h q 4) ≤ v5 →
        Rn xs xl e mm_Plans_runDay 41 [some (.inr (.inr 77)), some (.inr (.inr q)), some (.inr (.inr sc)), some (.inl v3), some (.inl v4), some (.inl v5)] [] h Q) ∧
      (v5 < (rd h q 4) →
        (∃ c, c < e ∧ Rn xs xl c mm_Plans_goOn 0 [some (.inr (.inr 77)), some (.inr (.inr q)), some (.inr (.inr sc)), some (.inl v5)] [] h (fun r h' => Rn xs xl e mm_Plans_runDay 35 [some (.inr (.inr 77)), some (.inr (.inr q)), some (.inr (.inr sc)), some (.inl v3), some (.inl v4), some (.inl v5)] (r.toList ++ []) h' Q)))) :
    Rn xs xl e mm_Plans_runDay 18 [some (.inr (.inr 77)), some (.inr (.inr q)), some (.inr (.inr sc)), some (.inl v3), some (.inl v4), some (.inl v5)] [] h Q := by
  refine R_ld (v := .inl v5) dd_Plans_runDay_18 rfl rfl rfl rfl ?_
  refine R_ld (v := .inr (.inr q)) dd_Plans_runDay_20 rfl rfl rfl rfl ?_
  refine R_gf (v := .inl (rd h q 4)) dd_Plans_runDay_21 fd_5_132 (io_q hq) (congrArg (fun z : Int => (Sum.inl z : LV)) (rfl)) rfl ?_
  refine R_icmp dd_Plans_runDay_24 rfl rfl (fun (c2 : (rd h q 4) ≤ v5) => ?_) (fun (c2 : v5 < (rd h q 4)) => ?_)
  · replace k := k.1 c2
    exact k
  · replace k := k.2 c2
    refine R_ld (v := .inr (.inr 77)) dd_Plans_runDay_27 rfl rfl rfl rfl ?_
    refine R_ld (v := .inr (.inr q)) dd_Plans_runDay_28 rfl rfl rfl rfl ?_
    refine R_ld (v := .inr (.inr sc)) dd_Plans_runDay_29 rfl rfl rfl rfl ?_
    refine R_ld (v := .inl v5) dd_Plans_runDay_30 rfl rfl rfl rfl ?_
    obtain ⟨c, hc, k⟩ := k
    exact R_call (as := [.inr (.inr 77), .inr (.inr q), .inr (.inr sc), .inl v5]) (rest := []) (M' := mm_Plans_goOn) (ls0 := [some (.inr (.inr 77)), some (.inr (.inr q)), some (.inr (.inr sc)), some (.inl v5)]) dd_Plans_runDay_32 rfl rfl (cw_v cw_5_135 io_77 rfl rfl (Nat.le_of_ble_eq_true rfl) (Nat.le_of_ble_eq_true rfl)) mt_Plans_goOn rfl hc rfl k
theorem B_Plans_runDay_35 {xs : Nat → Int} {xl e : Nat} {h : LH} {Q : Option LV → LH → Prop} {v3 v4 v5 : Int} {q : Int} (hq : q = 5 ∨ q = 32) {sc : Int} (hsc : scn sc) (hc0 : 60 ≤ sc) (hF : RF h) (r_v5 : 0 ≤ v5 ∧ v5 ≤ 5)
    (k : Rn xs xl e mm_Plans_runDay 18 [some (.inr (.inr 77)), some (.inr (.inr q)), some (.inr (.inr sc)), some (.inl v3), some (.inl v4), some (.inl (v5 + 1))] [] h Q) :
    Rn xs xl e mm_Plans_runDay 35 [some (.inr (.inr 77)), some (.inr (.inr q)), some (.inr (.inr sc)), some (.inl v3), some (.inl v4), some (.inl v5)] [] h Q := by
  refine R_inc (y := v5 + 1) (ls' := [some (.inr (.inr 77)), some (.inr (.inr q)), some (.inr (.inr sc)), some (.inl v3), some (.inl v4), some (.inl (v5 + 1))]) dd_Plans_runDay_35 rfl (by decide) (by omega) (by omega) rfl rfl ?_
  refine R_goto dd_Plans_runDay_38 rfl ?_
  exact k
theorem B_Plans_runDay_41 {xs : Nat → Int} {xl e : Nat} {h : LH} {Q : Option LV → LH → Prop} {v3 v4 v5 : Int} {q : Int} (hq : q = 5 ∨ q = 32) {sc : Int} (hsc : scn sc) (hc0 : 60 ≤ sc) (hF : RF h)
    (k : (∃ c, c < e ∧ Rn xs xl c mm_Scene_homeAndDone 0 [some (.inr (.inr sc)), some (.inr (.inr q)), none, none] [] h (fun r h' => Rn xs xl e mm_Plans_runDay 47 [some (.inr (.inr 77)), some (.inr (.inr q)), some (.inr (.inr sc)), some (.inl v3), some (.inl v4), some (.inl v5)] (r.toList ++ [.inl v3]) h' Q))) :
    Rn xs xl e mm_Plans_runDay 41 [some (.inr (.inr 77)), some (.inr (.inr q)), some (.inr (.inr sc)), some (.inl v3), some (.inl v4), some (.inl v5)] [] h Q := by
  refine R_ld (v := .inl v3) dd_Plans_runDay_41 rfl rfl rfl rfl ?_
  refine R_ld (v := .inr (.inr sc)) dd_Plans_runDay_42 rfl rfl rfl rfl ?_
  refine R_ld (v := .inr (.inr q)) dd_Plans_runDay_43 rfl rfl rfl rfl ?_
  obtain ⟨c, hc, k⟩ := k
  exact R_call (as := [.inr (.inr sc), .inr (.inr q)]) (rest := [.inl v3]) (M' := mm_Scene_homeAndDone) (ls0 := [some (.inr (.inr sc)), some (.inr (.inr q)), none, none]) dd_Plans_runDay_44 rfl rfl (cw_v cw_5_139 (io_c hsc) rfl rfl (Nat.le_of_ble_eq_true rfl) (Nat.le_of_ble_eq_true rfl)) mt_Scene_homeAndDone rfl hc rfl k
theorem B_Plans_runDay_47 {xs : Nat → Int} {xl e : Nat} {h : LH} {Q : Option LV → LH → Prop} {v3 v4 v5 w0 w1 : Int} {q : Int} (hq : q = 5 ∨ q = 32) {sc : Int} (hsc : scn sc) (hc0 : 60 ≤ sc) (hF : RF h)
    (k : (∃ c, c < e ∧ Rn xs xl c mm_Plans_peopleDueFrom 0 [some (.inr (.inr q)), some (.inl v4), none, none] [] h (fun r h' => Rn xs xl e mm_Plans_runDay 53 [some (.inr (.inr 77)), some (.inr (.inr q)), some (.inr (.inr sc)), some (.inl v3), some (.inl v4), some (.inl v5)] (r.toList ++ [.inl w1, .inl w0]) h' Q))) :
    Rn xs xl e mm_Plans_runDay 47 [some (.inr (.inr 77)), some (.inr (.inr q)), some (.inr (.inr sc)), some (.inl v3), some (.inl v4), some (.inl v5)] [.inl w1, .inl w0] h Q := by
  refine R_ld (v := .inr (.inr q)) dd_Plans_runDay_47 rfl rfl rfl rfl ?_
  refine R_ld (v := .inl v4) dd_Plans_runDay_48 rfl rfl rfl rfl ?_
  obtain ⟨c, hc, k⟩ := k
  exact R_call (as := [.inr (.inr q), .inl v4]) (rest := [.inl w1, .inl w0]) (M' := mm_Plans_peopleDueFrom) (ls0 := [some (.inr (.inr q)), some (.inl v4), none, none]) dd_Plans_runDay_50 rfl rfl (cw_s cw_5_143 rfl rfl (Nat.le_of_ble_eq_true rfl) (Nat.le_of_ble_eq_true rfl)) mt_Plans_peopleDueFrom rfl hc rfl k
theorem B_Plans_runDay_53 {xs : Nat → Int} {xl e : Nat} {h : LH} {Q : Option LV → LH → Prop} {v3 v4 v5 w0 w1 w2 : Int} {q : Int} (hq : q = 5 ∨ q = 32) {sc : Int} (hsc : scn sc) (hc0 : 60 ≤ sc) (hF : RF h)
    (k : Rn xs xl e mm_Plans_runDay 56 [some (.inr (.inr 77)), some (.inr (.inr q)), some (.inr (.inr sc)), some (.inl (zor w0 (zand w1 w2))), some (.inl v4), some (.inl v5)] [] h Q) :
    Rn xs xl e mm_Plans_runDay 53 [some (.inr (.inr 77)), some (.inr (.inr q)), some (.inr (.inr sc)), some (.inl v3), some (.inl v4), some (.inl v5)] [.inl w2, .inl w1, .inl w0] h Q := by
  refine R_A dd_Plans_runDay_53 rfl rfl rfl rfl ?_
  refine R_A dd_Plans_runDay_54 rfl rfl rfl rfl ?_
  refine R_st (ls' := [some (.inr (.inr 77)), some (.inr (.inr q)), some (.inr (.inr sc)), some (.inl (zor w0 (zand w1 w2))), some (.inl v4), some (.inl v5)]) dd_Plans_runDay_55 rfl rfl rfl (Nat.le_of_ble_eq_true rfl) rfl rfl ?_
  exact k
theorem B_Plans_runDay_56 {xs : Nat → Int} {xl e : Nat} {h : LH} {Q : Option LV → LH → Prop} {v3 v4 v5 : Int} {q : Int} (hq : q = 5 ∨ q = 32) {sc : Int} (hsc : scn sc) (hc0 : 60 ≤ sc) (hF : RF h)
    (k : (∃ c, c < e ∧ Rn xs xl c mm_Scene_pass 0 [some (.inr (.inr sc)), some (.inl 1)] [] h (fun r h' => Rn xs xl e mm_Plans_runDay 61 [some (.inr (.inr 77)), some (.inr (.inr q)), some (.inr (.inr sc)), some (.inl v3), some (.inl v4), some (.inl v5)] (r.toList ++ []) h' Q))) :
    Rn xs xl e mm_Plans_runDay 56 [some (.inr (.inr 77)), some (.inr (.inr q)), some (.inr (.inr sc)), some (.inl v3), some (.inl v4), some (.inl v5)] [] h Q := by
  refine R_ld (v := .inr (.inr sc)) dd_Plans_runDay_56 rfl rfl rfl rfl ?_
  refine R_ic dd_Plans_runDay_57 (by decide) rfl ?_
  obtain ⟨c, hc, k⟩ := k
  exact R_call (as := [.inr (.inr sc), .inl 1]) (rest := []) (M' := mm_Scene_pass) (ls0 := [some (.inr (.inr sc)), some (.inl 1)]) dd_Plans_runDay_58 rfl rfl (cw_v cw_5_147 (io_c hsc) rfl rfl (Nat.le_of_ble_eq_true rfl) (Nat.le_of_ble_eq_true rfl)) mt_Scene_pass rfl hc rfl k
theorem B_Plans_runDay_61 {xs : Nat → Int} {xl e : Nat} {h : LH} {Q : Option LV → LH → Prop} {v3 v4 v5 : Int} {q : Int} (hq : q = 5 ∨ q = 32) {sc : Int} (hsc : scn sc) (hc0 : 60 ≤ sc) (hF : RF h) (r_v4 : 0 ≤ v4 ∧ v4 ≤ 24)
    (k : Rn xs xl e mm_Plans_runDay 8 [some (.inr (.inr 77)), some (.inr (.inr q)), some (.inr (.inr sc)), some (.inl v3), some (.inl (v4 + 1)), some (.inl v5)] [] h Q) :
    Rn xs xl e mm_Plans_runDay 61 [some (.inr (.inr 77)), some (.inr (.inr q)), some (.inr (.inr sc)), some (.inl v3), some (.inl v4), some (.inl v5)] [] h Q := by
  refine R_inc (y := v4 + 1) (ls' := [some (.inr (.inr 77)), some (.inr (.inr q)), some (.inr (.inr sc)), some (.inl v3), some (.inl (v4 + 1)), some (.inl v5)]) dd_Plans_runDay_61 rfl (by decide) (by omega) (by omega) rfl rfl ?_
  refine R_goto dd_Plans_runDay_64 rfl ?_
  exact k
theorem B_Plans_runDay_71 {xs : Nat → Int} {xl e : Nat} {h : LH} {Q : Option LV → LH → Prop} {v3 v4 w0 : Int} {q : Int} (hq : q = 5 ∨ q = 32) {sc : Int} (hsc : scn sc) (hc0 : 60 ≤ sc) {o5 : Option LV} (hF : RF h)
    (k : Q (some (.inl w0)) h) :
    Rn xs xl e mm_Plans_runDay 71 [some (.inr (.inr 77)), some (.inr (.inr q)), some (.inr (.inr sc)), some (.inl v3), some (.inl v4), o5] [.inl w0] h Q := by
  exact R_iret dd_Plans_runDay_71 rfl k
theorem B_OneSided_run_0 {xs : Nat → Int} {xl e : Nat} {h : LH} {Q : Option LV → LH → Prop} {v1 : Int} (hF : RF h)
    (k : (v1 = 0 →
        (∃ c, c < e ∧ Rn xs xl c mm_Scene_copy 0 [some (.inr (.inr 68)), some (.inr (.inr 60))] [] h (fun r h' => Rn xs xl e mm_OneSided_run 30 [some (.inr (.inr 1)), some (.inl v1), some (.inr (.inr 68)), none] (r.toList ++ []) h' Q))) ∧
      (v1 ≠ 0 →
        (v1 = 1 →
          (∃ c, c < e ∧ Rn xs xl c mm_Scene_copy 0 [some (.inr (.inr 68)), some (.inr (.inr 60))] [] h (fun r h' => Rn xs xl e mm_OneSided_run 30 [some (.inr (.inr 1)), some (.inl v1), some (.inr (.inr 68)), none] (r.toList ++ []) h' Q))) ∧
        (v1 ≠ 1 →
          Q (some (.inl (-1))) h))) :
    Rn xs xl e mm_OneSided_run 0 [some (.inr (.inr 1)), some (.inl v1), none, none] [] h Q := by
  refine R_ld (v := .inl v1) dd_OneSided_run_0 rfl rfl rfl rfl ?_
  refine R_if dd_OneSided_run_1 rfl rfl (fun (c3 : v1 = 0) => ?_) (fun (c3 : v1 ≠ 0) => ?_)
  · replace k := k.1 c3
    refine R_ld (v := .inr (.inr 1)) dd_OneSided_run_11 rfl rfl rfl rfl ?_
    refine R_gf (v := .inr (.inr 67)) dd_OneSided_run_12 fd_11_33 io_1 (congrArg (fun z : Int => (Sum.inr (Sum.inr z) : LV)) (rf_1_4 hF)) rfl ?_
    refine R_gf (v := .inr (.inr 68)) dd_OneSided_run_15 fd_11_149 io_67 (congrArg (fun z : Int => (Sum.inr (Sum.inr z) : LV)) (rf_67_0 hF)) rfl ?_
    refine R_st (ls' := [some (.inr (.inr 1)), some (.inl v1), some (.inr (.inr 68)), none]) dd_OneSided_run_18 rfl rfl rfl (Nat.le_of_ble_eq_true rfl) rfl rfl ?_
    refine R_ld (v := .inr (.inr 68)) dd_OneSided_run_19 rfl rfl rfl rfl ?_
    refine R_ld (v := .inr (.inr 1)) dd_OneSided_run_20 rfl rfl rfl rfl ?_
    refine R_gf (v := .inr (.inr 59)) dd_OneSided_run_21 fd_11_29 io_1 (congrArg (fun z : Int => (Sum.inr (Sum.inr z) : LV)) (rf_1_3 hF)) rfl ?_
    refine R_gf (v := .inr (.inr 60)) dd_OneSided_run_24 fd_11_149 io_59 (congrArg (fun z : Int => (Sum.inr (Sum.inr z) : LV)) (rf_59_0 hF)) rfl ?_
    obtain ⟨c, hc, k⟩ := k
    exact R_call (as := [.inr (.inr 68), .inr (.inr 60)]) (rest := []) (M' := mm_Scene_copy) (ls0 := [some (.inr (.inr 68)), some (.inr (.inr 60))]) dd_OneSided_run_27 rfl rfl (cw_v cw_11_201 io_68 rfl rfl (Nat.le_of_ble_eq_true rfl) (Nat.le_of_ble_eq_true rfl)) mt_Scene_copy rfl hc rfl k
  · replace k := k.2 c3
    refine R_ld (v := .inl v1) dd_OneSided_run_4 rfl rfl rfl rfl ?_
    refine R_ic dd_OneSided_run_5 (by decide) rfl ?_
    refine R_icmp dd_OneSided_run_6 rfl rfl (fun (c4 : v1 = 1) => ?_) (fun (c4 : v1 ≠ 1) => ?_)
    · replace k := k.1 c4
      refine R_ld (v := .inr (.inr 1)) dd_OneSided_run_11 rfl rfl rfl rfl ?_
      refine R_gf (v := .inr (.inr 67)) dd_OneSided_run_12 fd_11_33 io_1 (congrArg (fun z : Int => (Sum.inr (Sum.inr z) : LV)) (rf_1_4 hF)) rfl ?_
      refine R_gf (v := .inr (.inr 68)) dd_OneSided_run_15 fd_11_149 io_67 (congrArg (fun z : Int => (Sum.inr (Sum.inr z) : LV)) (rf_67_0 hF)) rfl ?_
      refine R_st (ls' := [some (.inr (.inr 1)), some (.inl v1), some (.inr (.inr 68)), none]) dd_OneSided_run_18 rfl rfl rfl (Nat.le_of_ble_eq_true rfl) rfl rfl ?_
      refine R_ld (v := .inr (.inr 68)) dd_OneSided_run_19 rfl rfl rfl rfl ?_
      refine R_ld (v := .inr (.inr 1)) dd_OneSided_run_20 rfl rfl rfl rfl ?_
      refine R_gf (v := .inr (.inr 59)) dd_OneSided_run_21 fd_11_29 io_1 (congrArg (fun z : Int => (Sum.inr (Sum.inr z) : LV)) (rf_1_3 hF)) rfl ?_
      refine R_gf (v := .inr (.inr 60)) dd_OneSided_run_24 fd_11_149 io_59 (congrArg (fun z : Int => (Sum.inr (Sum.inr z) : LV)) (rf_59_0 hF)) rfl ?_
      obtain ⟨c, hc, k⟩ := k
      exact R_call (as := [.inr (.inr 68), .inr (.inr 60)]) (rest := []) (M' := mm_Scene_copy) (ls0 := [some (.inr (.inr 68)), some (.inr (.inr 60))]) dd_OneSided_run_27 rfl rfl (cw_v cw_11_201 io_68 rfl rfl (Nat.le_of_ble_eq_true rfl) (Nat.le_of_ble_eq_true rfl)) mt_Scene_copy rfl hc rfl k
    · replace k := k.2 c4
      refine R_ic dd_OneSided_run_9 (by decide) rfl ?_
      exact R_iret dd_OneSided_run_10 rfl k
theorem B_OneSided_run_30 {xs : Nat → Int} {xl e : Nat} {h : LH} {Q : Option LV → LH → Prop} {v1 : Int} {q : Int} (hq : q = 5 ∨ q = 32) (hQ : rd h 1 ((1 : Nat) : Int) = q) (hF : RF h)
    (k : (∃ c, c < e ∧ Rn xs xl c mm_Plans_runDay 0 [some (.inr (.inr 77)), some (.inr (.inr q)), some (.inr (.inr 68)), none, none, none] [] h (fun r h' => Rn xs xl e mm_OneSided_run 42 [some (.inr (.inr 1)), some (.inl v1), some (.inr (.inr 68)), none] (r.toList ++ []) h' Q))) :
    Rn xs xl e mm_OneSided_run 30 [some (.inr (.inr 1)), some (.inl v1), some (.inr (.inr 68)), none] [] h Q := by
  refine R_ld (v := .inr (.inr 1)) dd_OneSided_run_30 rfl rfl rfl rfl ?_
  refine R_gf (v := .inr (.inr 77)) dd_OneSided_run_31 fd_11_49 io_1 (congrArg (fun z : Int => (Sum.inr (Sum.inr z) : LV)) (rf_1_10 hF)) rfl ?_
  refine R_ld (v := .inr (.inr 1)) dd_OneSided_run_34 rfl rfl rfl rfl ?_
  refine R_gf (v := .inr (.inr q)) dd_OneSided_run_35 fd_11_19 io_1 (congrArg (fun z : Int => (Sum.inr (Sum.inr z) : LV)) hQ) rfl ?_
  refine R_ld (v := .inr (.inr 68)) dd_OneSided_run_38 rfl rfl rfl rfl ?_
  obtain ⟨c, hc, k⟩ := k
  exact R_call (as := [.inr (.inr 77), .inr (.inr q), .inr (.inr 68)]) (rest := []) (M' := mm_Plans_runDay) (ls0 := [some (.inr (.inr 77)), some (.inr (.inr q)), some (.inr (.inr 68)), none, none, none]) dd_OneSided_run_39 rfl rfl (cw_v cw_11_334 io_77 rfl rfl (Nat.le_of_ble_eq_true rfl) (Nat.le_of_ble_eq_true rfl)) mt_Plans_runDay rfl hc rfl k
theorem B_OneSided_run_42 {xs : Nat → Int} {xl e : Nat} {h : LH} {Q : Option LV → LH → Prop} {v1 w0 : Int} {q : Int} (hq : q = 5 ∨ q = 32) (hQ : rd h 1 ((1 : Nat) : Int) = q) (hF : RF h)
    (k : (v1 ≠ 0 →
        (∃ c, c < e ∧ Rn xs xl c mm_Scene_homeAndDone 0 [some (.inr (.inr 68)), some (.inr (.inr q)), none, none] [] h (fun r h' => Rn xs xl e mm_OneSided_run 64 [some (.inr (.inr 1)), some (.inl v1), some (.inr (.inr 68)), some (.inl w0)] (r.toList ++ [.inl (rd h q 4)]) h' Q))) ∧
      (v1 = 0 →
        Q (some (.inl w0)) h)) :
    Rn xs xl e mm_OneSided_run 42 [some (.inr (.inr 1)), some (.inl v1), some (.inr (.inr 68)), none] [.inl w0] h Q := by
  refine R_st (ls' := [some (.inr (.inr 1)), some (.inl v1), some (.inr (.inr 68)), some (.inl w0)]) dd_OneSided_run_42 rfl rfl rfl (Nat.le_of_ble_eq_true rfl) rfl rfl ?_
  refine R_ld (v := .inl v1) dd_OneSided_run_43 rfl rfl rfl rfl ?_
  refine R_if dd_OneSided_run_44 rfl rfl (fun (c2 : v1 ≠ 0) => ?_) (fun (c2 : v1 = 0) => ?_)
  · replace k := k.1 c2
    refine R_ld (v := .inr (.inr 1)) dd_OneSided_run_49 rfl rfl rfl rfl ?_
    refine R_gf (v := .inr (.inr q)) dd_OneSided_run_50 fd_11_19 io_1 (congrArg (fun z : Int => (Sum.inr (Sum.inr z) : LV)) hQ) rfl ?_
    refine R_gf (v := .inl (rd h q 4)) dd_OneSided_run_53 fd_11_254 (io_q hq) (congrArg (fun z : Int => (Sum.inl z : LV)) (rfl)) rfl ?_
    refine R_ld (v := .inr (.inr 68)) dd_OneSided_run_56 rfl rfl rfl rfl ?_
    refine R_ld (v := .inr (.inr 1)) dd_OneSided_run_57 rfl rfl rfl rfl ?_
    refine R_gf (v := .inr (.inr q)) dd_OneSided_run_58 fd_11_19 io_1 (congrArg (fun z : Int => (Sum.inr (Sum.inr z) : LV)) hQ) rfl ?_
    obtain ⟨c, hc, k⟩ := k
    exact R_call (as := [.inr (.inr 68), .inr (.inr q)]) (rest := [.inl (rd h q 4)]) (M' := mm_Scene_homeAndDone) (ls0 := [some (.inr (.inr 68)), some (.inr (.inr q)), none, none]) dd_OneSided_run_61 rfl rfl (cw_v cw_11_337 io_68 rfl rfl (Nat.le_of_ble_eq_true rfl) (Nat.le_of_ble_eq_true rfl)) mt_Scene_homeAndDone rfl hc rfl k
  · replace k := k.2 c2
    refine R_ld (v := .inl w0) dd_OneSided_run_47 rfl rfl rfl rfl ?_
    exact R_iret dd_OneSided_run_48 rfl k
theorem B_OneSided_run_64 {xs : Nat → Int} {xl e : Nat} {h : LH} {Q : Option LV → LH → Prop} {v1 v3 w0 w1 : Int} (hF : RF h)
    (k : (∃ c, c < e ∧ Rn xs xl c mm_java_lang_Integer_bitCount 0 [some (.inl w1)] [] h (fun r h' => Rn xs xl e mm_OneSided_run 67 [some (.inr (.inr 1)), some (.inl v1), some (.inr (.inr 68)), some (.inl v3)] (r.toList ++ [.inl w0]) h' Q))) :
    Rn xs xl e mm_OneSided_run 64 [some (.inr (.inr 1)), some (.inl v1), some (.inr (.inr 68)), some (.inl v3)] [.inl w1, .inl w0] h Q := by
  obtain ⟨c, hc, k⟩ := k
  exact R_call (as := [.inl w1]) (rest := [.inl w0]) (M' := mm_java_lang_Integer_bitCount) (ls0 := [some (.inl w1)]) dd_OneSided_run_64 rfl rfl (cw_s cw_11_340 rfl rfl (Nat.le_of_ble_eq_true rfl) (Nat.le_of_ble_eq_true rfl)) mt_java_lang_Integer_bitCount rfl hc rfl k
theorem B_OneSided_run_67 {xs : Nat → Int} {xl e : Nat} {h : LH} {Q : Option LV → LH → Prop} {v1 v3 w0 w1 : Int} (hF : RF h)
    (k : (-2147483648 ≤ w0 - w1 ∧ w0 - w1 ≤ 2147483647) ∧
      Q (some (.inl (w0 - w1))) h) :
    Rn xs xl e mm_OneSided_run 67 [some (.inr (.inr 1)), some (.inl v1), some (.inr (.inr 68)), some (.inl v3)] [.inl w1, .inl w0] h Q := by
  obtain ⟨s1, k⟩ := k
  refine R_isub (c := w0 - w1) dd_OneSided_run_67 (by omega) s1 rfl ?_
  exact R_iret dd_OneSided_run_68 rfl k
end
section
/-! run, part r1: a scene told apart from both heaps -/
def SCT (h : LH) (sc n : Int) (T : Int → Int) : Prop := rd h sc 0 = T 0 ∧ rd h sc 1 = T 1 ∧ (∀ p, 0 ≤ p → p < n → rd h (sc + 1) p = T (p + 2) ∧ bt (rd h sc 3) p (T (p + 8)) ∧ bt (rd h sc 2) p (T (p + 14))) ∧ (∀ d, 0 ≤ d → d < 14 → rd h (sc + 2) d = T (d + 20) ∧ 0 ≤ T (d + 20) ∧ T (d + 20) ≤ 9) ∧ ∀ p, n ≤ p → p < 32 → ¬ bitZ (rd h sc 3) p
def RBT (g : LH) (b : Int) (T : Int → Int) : Prop := ∀ i, 0 ≤ i → i < 34 → rd g 198 (b + i) = T i
/-- a scene's places in their bounds -/
def VT (K : KEY) (T : Int → Int) : Prop := (0 ≤ T 0 ∧ T 0 ≤ 24) ∧ (∀ p, 0 ≤ p → p < K.1 2 → (0 ≤ T (p + 2) ∧ T (p + 2) < K.1 0) ∧ (T (p + 8) = 0 ∨ T (p + 8) = 1) ∧ (T (p + 14) = 0 ∨ T (p + 14) = 1)) ∧ ∀ d, 0 ≤ d → d < 14 → 0 ≤ T (d + 20) ∧ T (d + 20) ≤ 9
/-- into which room one goes; -1 if he can't -/
noncomputable def goV (K : KEY) (T : Int → Int) (p d : Int) : Int := if T (p + 14) ≠ 1 ∧ T (d + 20) < K.1 (8 * d + 10) then NW K (T 1) (K.1 (4 * p + 116)) d (T (p + 2)) (T 0) else -1
def wT (K : KEY) (T : Int → Int) (p d r : Int) : Int → Int := fun i => if i = p + 2 then r else if i = p + 14 then 1 else if i = d + 20 then T (d + 20) + 1 else if i = p + 8 then (if r = K.1 (4 * p + 118) then 1 else T (p + 8)) else T i
/-- one goes by the first door of his way -/
noncomputable def aft (K : KEY) (T : Int → Int) (p : Int) : List Int → Int → Int
  | [] => T
  | d :: _ => if goV K T p d < 0 then T else wT K T p d (goV K T p d)
def rgo (K : KEY) (T : Int → Int) (p : Int) (T' : Int → Int) : Prop := (T (p + 14) = 1 ∧ T' = T) ∨ (T (p + 14) ≠ 1 ∧ ∃ till l, FHr K T 0 p (zshl 1 (K.1 (4 * p + 117) + 10)) till ∧ errW K T 0 p till l ∧ T' = aft K T p l)
def rps (K : KEY) (T : Int → Int) : Nat → (Int → Int) → Prop
  | 0, T' => T' = T
  | n + 1, T' => ∃ T1, rps K T n T1 ∧ rgo K T1 (n : Int) T'
def psT (T : Int → Int) : Int → Int := fun i => if i = 0 then T 0 + 1 else if 14 ≤ i then 0 else T i
def hdT (K : KEY) (T : Int → Int) (p : Int) : Prop := T (p + 8) = 1 ∧ T (p + 2) = K.1 (4 * p + 117)
section RA
variable {xs : Nat → Int} {xl e : Nat} {h g : LH} {Q : Option LV → LH → Prop} {K : KEY} {S T T' T1 T2 : Int → Int} {L : List Int} {q sc n b p d r c till : Int} {l : List Int}
theorem wT_w : wT K T p d r (p + 2) = r := by unfold wT; rw [if_pos rfl]
theorem wT_g : wT K T p d r (p + 14) = 1 := by unfold wT; rw [if_neg (by omega), if_pos rfl]
theorem wT_t (hp : 0 ≤ p ∧ p ≤ 5) (hd : 0 ≤ d ∧ d ≤ 13) : wT K T p d r (d + 20) = T (d + 20) + 1 := by unfold wT; rw [if_neg (by omega), if_neg (by omega), if_pos rfl]
theorem wT_d (hp : 0 ≤ p ∧ p ≤ 5) (hd : 0 ≤ d ∧ d ≤ 13) : wT K T p d r (p + 8) = if r = K.1 (4 * p + 118) then 1 else T (p + 8) := by unfold wT; rw [if_neg (by omega), if_neg (by omega), if_neg (by omega), if_pos rfl]
theorem wT_o {i : Int} (h : ¬ (i = p + 2 ∨ i = p + 14 ∨ i = d + 20 ∨ i = p + 8)) : wT K T p d r i = T i := by unfold wT; rw [if_neg (by omega), if_neg (by omega), if_neg (by omega), if_neg (by omega)]
theorem SCT_went (hs : SCT h sc n T) (hp : 0 ≤ p ∧ p < n) (hpp : n ≤ 6) (hd : 0 ≤ d ∧ d < 14) (hct : T (d + 20) < 9) (ec : c = K.1 (4 * p + 118)) (hc : wntC sc p d r c h g) : SCT g sc n (wT K T p d r) := by
  obtain ⟨s1, s2, s3, s4, s5⟩ := hs
  obtain ⟨c0, c1, c2, c3, cw, ct⟩ := hc
  have g4 := wT_d (K := K) (T := T) (p := p) (d := d) (r := r) (by omega) (by omega)
  rw [← ec] at g4
  have bd : ∀ x, 0 ≤ x → x < 32 → (bitZ (rd g sc 3) x ↔ bitZ (rd h sc 3) x ∨ r = c ∧ x = p) := fun x x0 x1 => by
    rw [c3, bit_or x0 x1]
    by_cases z : r = c
    · rw [if_pos z, bit_shl hp.1 (by omega) x0 x1]
      exact ⟨fun y => y.elim Or.inl (fun y => Or.inr ⟨z, y⟩), fun y => y.elim Or.inl (fun y => Or.inr y.2)⟩
    · rw [if_neg z]
      exact ⟨fun y => y.elim Or.inl (fun y => absurd y bit_zero), fun y => y.elim Or.inl (fun y => absurd y.1 z)⟩
  have bg : ∀ x, 0 ≤ x → x < 32 → (bitZ (rd g sc 2) x ↔ bitZ (rd h sc 2) x ∨ x = p) := fun x x0 x1 => by
    rw [c2, bit_or x0 x1, bit_shl hp.1 (by omega) x0 x1]
  refine ⟨?_, ?_, fun x x0 x1 => ?_, fun x x0 x1 => ?_, fun x x0 x1 => ?_⟩
  · rw [c0, wT_o (by omega)]; exact s1
  · rw [c1, wT_o (by omega)]; exact s2
  · obtain ⟨a1, a2, a3⟩ := s3 x x0 x1
    by_cases z : x = p
    · subst z
      refine ⟨by rw [cw x x0 (by omega), if_pos rfl, wT_w], ?_, Or.inr ⟨wT_g, (bg x x0 (by omega)).mpr (Or.inr rfl)⟩⟩
      rw [g4]
      unfold bt
      rw [bd x x0 (by omega)]
      by_cases y : r = c
      · rw [if_pos y]
        exact Or.inr ⟨rfl, Or.inr ⟨y, rfl⟩⟩
      · rw [if_neg y]
        unfold bt at a2
        exact a2.elim (fun w => Or.inl ⟨w.1, fun v => v.elim w.2 (fun v => y v.1)⟩) (fun w => Or.inr ⟨w.1, Or.inl w.2⟩)
    · rw [cw x x0 (by omega), if_neg z, wT_o (i := x + 2) (by omega), wT_o (i := x + 8) (by omega), wT_o (i := x + 14) (by omega)]
      refine ⟨a1, ?_, ?_⟩
      · unfold bt at a2 ⊢
        rw [bd x x0 (by omega)]
        exact a2.elim (fun w => Or.inl ⟨w.1, fun v => v.elim w.2 (fun v => z v.2)⟩) (fun w => Or.inr ⟨w.1, Or.inl w.2⟩)
      · unfold bt at a3 ⊢
        rw [bg x x0 (by omega)]
        exact a3.elim (fun w => Or.inl ⟨w.1, fun v => v.elim w.2 (fun v => z v)⟩) (fun w => Or.inr ⟨w.1, Or.inl w.2⟩)
  · rw [ct x x0 x1]
    have e := s4 d hd.1 hd.2
    by_cases z : x = d
    · rw [if_pos z, z, wT_t (by omega) (by omega), e.1]
      exact ⟨w32_id (by unfold i32; omega), by omega, by omega⟩
    · rw [if_neg z, wT_o (by omega)]
      exact s4 x x0 x1
  · rw [bd x (by omega) x1]
    exact fun v => v.elim (s5 x x0 x1) (fun v => by omega)
theorem SCT_fr (hs : SCT h sc n T) (f : ∀ a i, (a = sc ∨ a = sc + 1 ∨ a = sc + 2) → rd g a i = rd h a i) : SCT g sc n T := by
  obtain ⟨s1, s2, s3, s4, s5⟩ := hs
  refine ⟨?_, ?_, fun p p0 p1 => ?_, fun d d0 d1 => ?_, fun p p0 p1 => ?_⟩
  · rw [f _ _ (Or.inl rfl)]; exact s1
  · rw [f _ _ (Or.inl rfl)]; exact s2
  · rw [f _ _ (Or.inr (Or.inl rfl)), f sc _ (Or.inl rfl), f sc _ (Or.inl rfl)]
    exact s3 p p0 p1
  · rw [f _ _ (Or.inr (Or.inr rfl))]
    exact s4 d d0 d1
  · rw [f sc _ (Or.inl rfl)]
    exact s5 p p0 p1
/-- tryDoor in such a scene -/
theorem tryF_T (hs : SCT h sc (K.1 2) T) (hc : CXq h K q L) (hK : KR K) (hp : 0 ≤ p ∧ p < K.1 2) (d0 : 0 ≤ d) (d1 : d < K.1 1) (vt : VT K T) : tryF h q sc L p d = goV K T p d := by
  obtain ⟨s1, s2, s3, s4, s5⟩ := hs
  obtain ⟨v0, v1, v2⟩ := vt
  obtain ⟨w1, -, -⟩ := v1 p hp.1 hp.2
  have k1 := hK.2.1
  have k0 := hK.1
  obtain ⟨a1, -, a3⟩ := s3 p hp.1 hp.2
  obtain ⟨-, -, -, e7, -⟩ := CXq_d hc d0 d1
  obtain ⟨g1, -, -, -⟩ := CXq_p hc hp.1 hp.2
  obtain ⟨t0, -, -, -⟩ := hK.2.2.2.2 p hp.1 hp.2
  unfold tryF goV NW
  rw [s1, s2, (s4 d d0 (by omega)).1, a1, g1, e7]
  have b3 := bt_1 a3
  by_cases c : T (p + 14) ≠ 1 ∧ T (d + 20) < K.1 (8 * d + 10)
  · rw [if_pos c]
    by_cases c2 : T 0 < 24
    · rw [if_pos c2, if_pos ⟨c2, b3.mp c.1, c.2⟩]
      exact (hc.2.2.2.2.2.2.2.2 d (K.1 (4 * p + 116)) (T (p + 2)) (T 0) (T 1) d0 d1 t0.1 t0.2 w1.1 (by omega) v0.1 (by omega)).symm
    · rw [if_neg c2, if_neg (fun z => c2 z.1)]
  · rw [if_neg c, if_neg (fun z => c ⟨b3.mpr z.2.1, z.2.2⟩)]
theorem SV_T (hs : SCT h sc (K.1 2) T) (hp : 0 ≤ p ∧ p < K.1 2) : SV h sc T 0 p := by
  obtain ⟨s1, s2, s3, -, -⟩ := hs
  obtain ⟨a1, a2, a3⟩ := s3 p hp.1 hp.2
  unfold SV
  rw [show (0 : Int) + 1 = 1 by decide, show 0 + p + 2 = p + 2 by omega, show 0 + p + 14 = p + 14 by omega, show 0 + p + 8 = p + 8 by omega]
  refine ⟨s1, s2, a1, ?_, ?_⟩
  · unfold bt at a3
    have := bitZ_01 (rd h sc 2) p
    rcases a3 with ⟨z1, z2⟩ | ⟨z1, z2⟩
    · rw [z1]
      exact bitZ_n.mp z2
    · rw [z1]
      exact z2
  · unfold bt at a2
    rcases a2 with ⟨z1, z2⟩ | ⟨z1, z2⟩
    · rw [z1]
      exact bitZ_n.mp z2
    · rw [z1]
      exact z2
theorem SB_T (vt : VT K T) (hK : KR K) (hp : 0 ≤ p ∧ p < K.1 2) : SB T 0 p := by
  obtain ⟨v0, v1, -⟩ := vt
  obtain ⟨w1, w2, w3⟩ := v1 p hp.1 hp.2
  have k0 := hK.1
  unfold SB
  rw [show 0 + p + 2 = p + 2 by omega, show 0 + p + 14 = p + 14 by omega, show 0 + p + 8 = p + 8 by omega]
  omega
end RA
end
section
/-! run, part r2: one goes on -/
section RB
variable {xs : Nat → Int} {xl e : Nat} {h g : LH} {Q : Option LV → LH → Prop} {K : KEY} {S T T' T1 T2 : Int → Int} {L : List Int} {q sc n b p d r c till z x : Int} {l l' : List Int}
theorem goV_in (hc : CXq h K q L) (hK : KR K) (hp : 0 ≤ p ∧ p < K.1 2) (d0 : 0 ≤ d) (d1 : d < K.1 1) (vt : VT K T) : goV K T p d = -1 ∨ ((0 ≤ goV K T p d ∧ goV K T p d < K.1 0) ∧ T (d + 20) < 9) := by
  obtain ⟨v0, v1, v2⟩ := vt
  obtain ⟨w1, -, -⟩ := v1 p hp.1 hp.2
  have k0 := hK.1
  obtain ⟨s0, -, -, -⟩ := hK.2.2.2.2 p hp.1 hp.2
  obtain ⟨t2, t3, -, t7, -⟩ := hK.2.2.2.1 d d0 d1
  unfold goV NW
  by_cases c : T (p + 14) ≠ 1 ∧ T (d + 20) < K.1 (8 * d + 10)
  · rw [if_pos c]
    by_cases c2 : T 0 < 24
    · rw [if_pos c2]
      rcases LF_v (s := K.1 (4 * p + 116)) (sh := T 1) (a := T (p + 2)) (hr := T 0) hc hK s0 ⟨v0.1, by omega⟩ d0 d1 w1.1 (by omega) with y | ⟨y0, y | y⟩
      · exact Or.inl y
      · exact Or.inr ⟨⟨y0, by omega⟩, by omega⟩
      · exact Or.inr ⟨⟨y0, by omega⟩, by omega⟩
    · rw [if_neg c2]
      exact Or.inl rfl
  · rw [if_neg c]
    exact Or.inl rfl
theorem VT_wT (hK : KR K) (hp : 0 ≤ p ∧ p < K.1 2) (d0 : 0 ≤ d) (d1 : d < 14) (vt : VT K T) (r0 : 0 ≤ r) (r1 : r < K.1 0) (ht : T (d + 20) < 9) : VT K (wT K T p d r) := by
  obtain ⟨v0, v1, v2⟩ := vt
  have k2 := hK.2.2.1
  have td := v2 d d0 d1
  refine ⟨by rw [wT_o (by omega)]; exact v0, fun x x0 x1 => ?_, fun x x0 x1 => ?_⟩
  · obtain ⟨w1, w2, w3⟩ := v1 x x0 x1
    by_cases c : x = p
    · rw [c, wT_w, wT_g, wT_d (by omega) (by omega)]
      refine ⟨⟨r0, r1⟩, ?_, Or.inr rfl⟩
      rw [c] at w2
      split
      · exact Or.inr rfl
      · exact w2
    · rw [wT_o (i := x + 2) (by omega), wT_o (i := x + 8) (by omega), wT_o (i := x + 14) (by omega)]
      exact ⟨w1, w2, w3⟩
  · by_cases c : x = d
    · rw [c, wT_t (by omega) (by omega)]
      omega
    · rw [wT_o (by omega)]
      exact v2 x x0 x1
theorem aft_c : aft K T p (d :: l) = if goV K T p d < 0 then T else wT K T p d (goV K T p d) := rfl
/-- the way of a scene is one -/
theorem rgo_one (hK : KR K) (kb : KB K p) (hp : 0 ≤ p ∧ p < K.1 2) (vt : VT K T) (h1 : rgo K T p T1) (h2 : rgo K T p T2) : T1 = T2 := by
  have sb := SB_T vt hK hp
  have hro : T (0 + p + 2) < K.1 0 := by
    rw [show 0 + p + 2 = p + 2 by omega]
    exact ((vt.2.1 p hp.1 hp.2).1).2
  rcases h1 with ⟨a, b⟩ | ⟨a, t, l, b1, b2, b3⟩
  · rcases h2 with ⟨c, d⟩ | ⟨c, _⟩
    · rw [b, d]
    · exact absurd a c
  · rcases h2 with ⟨c, _⟩ | ⟨c, t', l', d1, d2, d3⟩
    · exact absurd c a
    · rw [FHr_one sb d1 b1] at d2
      rw [b3, d3, errW_one kb sb hro b2 d2]
theorem errW_hd (h : errW K S b p till (d :: l)) : 0 ≤ d ∧ d < K.1 1 := by
  rcases h with ⟨_, y⟩ | ⟨_, _, F, _, w⟩
  · cases y
  · generalize (F (20 * (S b + S (b + p + 14)) + k0F S b p)).toNat = n at w
    cases n with
    | zero => cases (show d :: l = [] from w)
    | succ n =>
      obtain ⟨d', x, l', e, d0, _⟩ := w
      injection e with e1 e2
      rw [e1]
      exact d0
theorem rgo_VT (hc : CXq h K q L) (hK : KR K) (hp : 0 ≤ p ∧ p < K.1 2) (vt : VT K T) (hg : rgo K T p T') : VT K T' := by
  rcases hg with ⟨_, b⟩ | ⟨_, t, l, b1, b2, b3⟩
  · rw [b]
    exact vt
  · rw [b3]
    cases l with
    | nil => exact vt
    | cons d l =>
      have dd := errW_hd b2
      have k1 := hK.2.1
      rw [aft_c]
      rcases goV_in (h := h) (L := L) hc hK hp dd.1 dd.2 vt with y | ⟨y1, y2⟩
      · rw [if_pos (by omega)]
        exact vt
      · rw [if_neg (by omega)]
        exact VT_wT hK hp dd.1 (by omega) vt y1.1 y1.2 y2
theorem F_goOn (he : 6 ≤ e) (hc : CXq h K q L) (hK : KR K) (kb : KB K p) (vt : VT K T) (hs : SCT h sc (K.1 2) T) (hsc : scn sc) (hc0 : 60 ≤ sc) (hp : 0 ≤ p ∧ p < K.1 2) (k : ∀ g T', RF g → (∀ a i, a ≠ 78 → a ≠ 79 → ¬ (a = 77 ∧ (i = 0 ∨ i = 3 ∨ i = 4)) → ¬ scp sc a i → rd g a i = rd h a i) → rgo K T p T' → SCT g sc (K.1 2) T' → Q none g) : Rn xs xl e mm_Plans_goOn 0 [some (.inr (.inr 77)), some (.inr (.inr q)), some (.inr (.inr sc)), some (.inl p)] [] h Q := by
  obtain ⟨hF, -, hq, -⟩ := id hc
  have k1 := hK.2.1
  have k2 := hK.2.2.1
  have k0 := hK.1
  have sb := SB_T vt hK hp
  have v1 := vt.2.1 p hp.1 hp.2
  have hro : T (0 + p + 2) < K.1 0 := by
    rw [show 0 + p + 2 = p + 2 by omega]
    exact v1.1.2
  have scN : sc ≠ 77 ∧ sc ≠ 78 ∧ sc ≠ 79 ∧ sc + 1 ≠ 77 ∧ sc + 1 ≠ 78 ∧ sc + 1 ≠ 79 ∧ sc + 2 ≠ 77 ∧ sc + 2 ≠ 78 ∧ sc + 2 ≠ 79 ∧ (sc ≤ 59 ∨ 60 ≤ sc) := by
    unfold scn at hsc
    omega
  have gb := (hs.2.2.1 p hp.1 hp.2).2.2
  have g1 := bt_1 gb
  refine B_Plans_goOn_0 hq hsc hc0 hF (by omega) ⟨fun c => ?_, fun c => ?_⟩
  · have nt : T (p + 14) ≠ 1 := g1.mpr (bitZ_n.mpr c)
    refine ⟨5, by omega, F_findWay (Nat.le_refl 5) hc hK kb sb hro hsc hc0 hp (SV_T hs hp) (fun g l till gF gf ht ew el le li => ?_)⟩
    have gs : SCT g sc (K.1 2) T := SCT_fr hs (fun a i ha => gf a i (by omega) (by omega) (by omega))
    have gc := CXq_fr hc hK gF (fun a i ha => gf a i (by omega) (by omega) (by omega))
    obtain ⟨-, gP, -, -, ⟨-, n2, -⟩, -, -, st, -⟩ := id gc
    refine B_Plans_goOn_19 hq hsc hc0 gF (by omega) ⟨fun c2 => ?_, fun c2 => ?_⟩
    · cases l with
      | nil => exact k g T gF (fun a i m1 m2 m3 _ => gf a i m1 m2 m3) (Or.inr ⟨nt, till, [], ht, ew, rfl⟩) gs
      | cons d l =>
        have : ((d :: l).length : Int) = (l.length : Int) + 1 := rfl
        omega
    · cases l with
      | nil =>
        have : (([] : List Int).length : Int) = 0 := rfl
        omega
      | cons d l =>
        have dd := errW_hd ew
        have ed : rd g 78 0 = d := li 0 (by show 0 < l.length + 1; omega)
        rw [ed]
        obtain ⟨s0, -, -, -⟩ := hK.2.2.2.2 p hp.1 hp.2
        obtain ⟨f1, -, f3, -⟩ := CXq_p gc hp.1 hp.2
        obtain ⟨-, -, e5, -⟩ := CXq_d gc dd.1 dd.2
        obtain ⟨-, -, t5, -⟩ := hK.2.2.2.1 d dd.1 dd.2
        have tf := tryF_T (d := d) gs gc hK hp dd.1 dd.2 vt
        refine ⟨2, by omega, F_tryDoor (L := L) (Nat.le_refl 2) hsc hc0 hq (by omega) (by omega) (by omega) (by omega) (by rw [gs.1]; exact vt.1.1) gF gP (by omega) st (fun y => ?_) (fun y => ?_)⟩
        · rw [tf] at y
          exact B_Plans_goOn_38 hq hsc hc0 gF (k g T gF (fun a i m1 m2 m3 _ => gf a i m1 m2 m3) (Or.inr ⟨nt, till, d :: l, ht, ew, by rw [aft_c, if_pos (by omega)]⟩) gs)
        · obtain ⟨w1, w2⟩ := try_wnt (sc := sc) (p := p) (d := d) (t := tryF g q sc L p d) (c := rd g (q + 21 + p) 3) (h := g) (by omega) (by omega)
          generalize wr (wr (wr (wr g (sc + 1) p (tryF g q sc L p d)) (sc + 2) d (w32 (rd g (sc + 2) d + 1))) sc 2 (zor (rd g sc 2) (zshl 1 p))) sc 3 (zor (rd g sc 3) (if tryF g q sc L p d = rd g (q + 21 + p) 3 then zshl 1 p else 0)) = u at *
          rw [tf] at w1 y ⊢
          rcases goV_in (d := d) hc hK hp dd.1 dd.2 vt with z | ⟨z1, z2⟩
          · exact absurd z y
          · have uF := RF_sc hsc gF w2
            exact B_Plans_goOn_38 hq hsc hc0 uF (k u (wT K T p d (goV K T p d)) uF (fun a i m1 m2 m3 m4 => (w2 a i m4).trans (gf a i m1 m2 m3)) (Or.inr ⟨nt, till, d :: l, ht, ew, by rw [aft_c, if_neg (by omega)]⟩) (SCT_went gs hp (by omega) ⟨dd.1, by omega⟩ z2 f3 w1))
  · have bz : bitZ (rd h sc 2) p := Classical.byContradiction (fun y => c (bitZ_n.mp y))
    have t1 : T (p + 14) = 1 := Classical.byContradiction (fun y => (g1.mp y) bz)
    exact k h T hF (fun _ _ _ _ _ _ => rfl) (Or.inl ⟨t1, rfl⟩) hs
end RB
end
section
/-! run, part r3: the day told apart from both heaps; the class's day -/
/-- the scene when the n-th hour begins; when all have gone on in it -/
def rdy (K : KEY) (T0 : Int → Int) : Nat → (Int → Int) → Prop
  | 0, T => T = T0
  | n + 1, T => ∃ T1 T2, rdy K T0 n T1 ∧ rps K T1 (K.1 2).toNat T2 ∧ T = psT T2
def raf (K : KEY) (T0 : Int → Int) (n : Nat) (T : Int → Int) : Prop := ∃ T1, rdy K T0 n T1 ∧ rps K T1 (K.1 2).toNat T
/-- at home in time with his errand done, within the first n hours -/
def itD (K : KEY) (T0 : Int → Int) (n : Nat) (p : Int) : Prop := ∃ (j : Nat) (T : Int → Int), j < n ∧ raf K T0 j T ∧ T0 0 + j ≤ K.1 (4 * p + 119) ∧ hdT K T p
section RC
variable {xs : Nat → Int} {xl e : Nat} {h g : LH} {Q : Option LV → LH → Prop} {K : KEY} {T T' T0 T1 T2 : Int → Int} {L : List Int} {q sc p b v1 : Int}
theorem rgo_0 (hp : 0 ≤ p) (hg : rgo K T p T') (hd : ∀ till d l, errW K T 0 p till (d :: l) → 0 ≤ d) : T' 0 = T 0 ∧ T' 1 = T 1 := by
  rcases hg with ⟨_, b⟩ | ⟨_, t, l, _, b2, b3⟩
  · rw [b]
    exact ⟨rfl, rfl⟩
  · rw [b3]
    cases l with
    | nil => exact ⟨rfl, rfl⟩
    | cons d l =>
      have d0 := hd _ _ _ b2
      rw [aft_c]
      by_cases c : goV K T p d < 0
      · rw [if_pos c]
        exact ⟨rfl, rfl⟩
      · rw [if_neg c, wT_o (by omega), wT_o (by omega)]
        exact ⟨rfl, rfl⟩
theorem rps_VT (hc : CXq h K q L) (hK : KR K) (vt : VT K T) : ∀ (n : Nat) (T' : Int → Int), (n : Int) ≤ K.1 2 → rps K T n T' → VT K T' ∧ T' 0 = T 0
  | 0, T', _, hr => by
    have hr : T' = T := hr
    rw [hr]
    exact ⟨vt, rfl⟩
  | n + 1, T', hn, hr => by
    obtain ⟨T1, r1, r2⟩ := hr
    obtain ⟨v1, e1⟩ := rps_VT hc hK vt n T1 (by omega) r1
    exact ⟨rgo_VT hc hK (by omega) v1 r2, (rgo_0 (by omega) r2 (fun _ _ _ z => (errW_hd z).1)).1.trans e1⟩
theorem rps_one (hc : CXq h K q L) (hK : KR K) (kb : ∀ p, 0 ≤ p → p < K.1 2 → KB K p) (vt : VT K T) : ∀ (n : Nat) (T1 T2 : Int → Int), (n : Int) ≤ K.1 2 → rps K T n T1 → rps K T n T2 → T1 = T2
  | 0, T1, T2, _, h1, h2 => by
    have h1 : T1 = T := h1
    have h2 : T2 = T := h2
    rw [h1, h2]
  | n + 1, T1, T2, hn, h1, h2 => by
    obtain ⟨A, a1, a2⟩ := h1
    obtain ⟨B, b1, b2⟩ := h2
    have e := rps_one hc hK kb vt n A B (by omega) a1 b1
    rw [← e] at b2
    exact rgo_one hK (kb _ (by omega) (by omega)) (by omega) (rps_VT hc hK vt n A (by omega) a1).1 a2 b2
theorem VT_ps (hK : KR K) (vt : VT K T) (h0 : T 0 < 24) : VT K (psT T) := by
  obtain ⟨v0, v1, v2⟩ := vt
  refine ⟨?_, fun p p0 p1 => ?_, fun d d0 d1 => ?_⟩
  · unfold psT
    rw [if_pos rfl]
    omega
  · obtain ⟨w1, w2, w3⟩ := v1 p p0 p1
    have k2 := hK.2.2.1
    unfold psT
    rw [if_neg (show ¬ p + 2 = 0 by omega), if_neg (show ¬ 14 ≤ p + 2 by omega), if_neg (show ¬ p + 8 = 0 by omega), if_neg (show ¬ 14 ≤ p + 8 by omega), if_neg (show ¬ p + 14 = 0 by omega), if_pos (show 14 ≤ p + 14 by omega)]
    exact ⟨w1, w2, Or.inl rfl⟩
  · unfold psT
    rw [if_neg (by omega), if_pos (by omega)]
    omega
theorem rdy_VT (hc : CXq h K q L) (hK : KR K) (vt : VT K T0) : ∀ (n : Nat) (T : Int → Int), T0 0 + n ≤ 24 → rdy K T0 n T → VT K T ∧ T 0 = T0 0 + n
  | 0, T, _, hr => by
    have hr : T = T0 := hr
    rw [hr]
    exact ⟨vt, by omega⟩
  | n + 1, T, hn, hr => by
    obtain ⟨A, B, a1, a2, a3⟩ := hr
    obtain ⟨v1, e1⟩ := rdy_VT hc hK vt n A (by omega) a1
    have k2 := hK.2.2.1
    obtain ⟨w1, f1⟩ := rps_VT hc hK v1 _ B (by omega) a2
    rw [a3]
    refine ⟨VT_ps hK w1 (by omega), ?_⟩
    unfold psT
    rw [if_pos rfl]
    omega
theorem rdy_one (hc : CXq h K q L) (hK : KR K) (kb : ∀ p, 0 ≤ p → p < K.1 2 → KB K p) (vt : VT K T0) : ∀ (n : Nat) (T1 T2 : Int → Int), T0 0 + n ≤ 24 → rdy K T0 n T1 → rdy K T0 n T2 → T1 = T2
  | 0, T1, T2, _, h1, h2 => by
    have h1 : T1 = T0 := h1
    have h2 : T2 = T0 := h2
    rw [h1, h2]
  | n + 1, T1, T2, hn, h1, h2 => by
    obtain ⟨A, A', a1, a2, a3⟩ := h1
    obtain ⟨B, B', b1, b2, b3⟩ := h2
    have k2 := hK.2.2.1
    have e := rdy_one hc hK kb vt n A B (by omega) a1 b1
    rw [← e] at b2
    rw [a3, b3, rps_one hc hK kb (rdy_VT hc hK vt n A (by omega) a1).1 _ A' B' (by omega) a2 b2]
theorem raf_one (hc : CXq h K q L) (hK : KR K) (kb : ∀ p, 0 ≤ p → p < K.1 2 → KB K p) (vt : VT K T0) {n : Nat} (hn : T0 0 + n ≤ 24) (h1 : raf K T0 n T1) (h2 : raf K T0 n T2) : T1 = T2 := by
  obtain ⟨A, a1, a2⟩ := h1
  obtain ⟨B, b1, b2⟩ := h2
  have k2 := hK.2.2.1
  have e := rdy_one hc hK kb vt n A B hn a1 b1
  rw [← e] at b2
  exact rps_one hc hK kb (rdy_VT hc hK vt n A hn a1).1 _ T1 T2 (by omega) a2 b2
theorem itD_st (hc : CXq h K q L) (hK : KR K) (kb : ∀ p, 0 ≤ p → p < K.1 2 → KB K p) (vt : VT K T0) {n : Nat} (hn : T0 0 + n ≤ 24) (h1 : raf K T0 n T) : itD K T0 (n + 1) p ↔ itD K T0 n p ∨ (T0 0 + n ≤ K.1 (4 * p + 119) ∧ hdT K T p) := by
  constructor
  · rintro ⟨j, X, a, b, c, d⟩
    by_cases z : j = n
    · rw [z] at b c
      rw [raf_one hc hK kb vt hn b h1] at d
      exact Or.inr ⟨c, d⟩
    · exact Or.inl ⟨j, X, by omega, b, c, d⟩
  · rintro (⟨j, X, a, b, c, d⟩ | ⟨c, d⟩)
    · exact ⟨j, X, by omega, b, c, d⟩
    · exact ⟨n, T, by omega, h1, c, d⟩
theorem F_homeAndDone (hc : CXq h K q L) (hK : KR K) (hs : SCT h sc (K.1 2) T) (hsc : scn sc) (hc0 : 60 ≤ sc) (k : ∀ r, i32 r → (∀ b, 0 ≤ b → b < 32 → (bitZ r b ↔ b < K.1 2 ∧ hdT K T b)) → Q (some (.inl r)) h) : Rn xs xl e mm_Scene_homeAndDone 0 [some (.inr (.inr sc)), some (.inr (.inr q)), none, none] [] h Q := by
  obtain ⟨hF, hP, hq, -, ⟨-, -, c4⟩, -⟩ := id hc
  have k2 := hK.2.2.1
  have loop : ∀ (n : Nat) (v2 v3 : Int), K.1 2 - v3 ≤ n → 0 ≤ v3 → v3 ≤ K.1 2 → (∀ d, 0 ≤ d → d < 32 → (bitZ v2 d ↔ d < v3 ∧ T (d + 2) = K.1 (4 * d + 117))) → Rn xs xl e mm_Scene_homeAndDone 4 [some (.inr (.inr sc)), some (.inr (.inr q)), some (.inl v2), some (.inl v3)] [] h Q := by
    intro n
    have stop : ∀ v2 v3 : Int, K.1 2 ≤ v3 → v3 ≤ K.1 2 → (∀ d, 0 ≤ d → d < 32 → (bitZ v2 d ↔ d < v3 ∧ T (d + 2) = K.1 (4 * d + 117))) → Q (some (.inl (zand v2 (rd h sc 3)))) h := fun v2 v3 a c hv => k _ (zand_i _ _) (fun b b0 b1 => by
      rw [bit_and b0 b1, hv b b0 b1, show v3 = K.1 2 by omega]
      constructor
      · rintro ⟨⟨z1, z2⟩, z3⟩
        have := (hs.2.2.1 b b0 z1).2.1
        unfold bt at this
        rcases this with y | y
        · exact absurd z3 y.2
        · exact ⟨z1, y.1, z2⟩
      · rintro ⟨z1, z2, z3⟩
        have := (hs.2.2.1 b b0 z1).2.1
        unfold bt at this
        rcases this with y | y
        · omega
        · exact ⟨⟨z1, z3⟩, y.2⟩)
    induction n with
    | zero =>
      intro v2 v3 hn a0 a1 hv
      exact B_Scene_homeAndDone_4 hsc hc0 hq hF hP (by omega) ⟨fun _ => stop v2 v3 (by omega) a1 hv, fun c => by omega⟩
    | succ n ih =>
      intro v2 v3 hn a0 a1 hv
      refine B_Scene_homeAndDone_4 hsc hc0 hq hF hP (by omega) ⟨fun _ => stop v2 v3 (by omega) a1 hv, fun c => ⟨by omega, by omega, ?_⟩⟩
      have p1 : v3 < K.1 2 := by omega
      have ew := (hs.2.2.1 v3 a0 p1).1
      obtain ⟨-, f2, -, -⟩ := CXq_p hc a0 p1
      rw [ew, f2]
      exact ⟨fun z => ih _ (v3 + 1) (by omega) (by omega) (by omega) (stepB0 (W := fun d => T (d + 2) = K.1 (4 * d + 117)) hv z), fun z => ih _ (v3 + 1) (by omega) (by omega) (by omega) (stepB1 (W := fun d => T (d + 2) = K.1 (4 * d + 117)) a0 (by omega) hv z)⟩
  exact B_Scene_homeAndDone_0 hsc hc0 hq hF (loop 6 0 0 (by omega) (by omega) (by omega) (fun d d0 d1 => ⟨fun y => absurd y bit_zero, fun y => by omega⟩))
theorem F_due (hc : CXq h K q L) (hK : KR K) (k : ∀ r, (∀ b, 0 ≤ b → b < 32 → (bitZ r b ↔ b < K.1 2 ∧ v1 ≤ K.1 (4 * b + 119))) → Q (some (.inl r)) h) : Rn xs xl e mm_Plans_peopleDueFrom 0 [some (.inr (.inr q)), some (.inl v1), none, none] [] h Q := by
  obtain ⟨hF, hP, hq, -, ⟨-, -, c4⟩, -⟩ := id hc
  have k2 := hK.2.2.1
  have loop : ∀ (n : Nat) (v2 v3 : Int), K.1 2 - v3 ≤ n → 0 ≤ v3 → v3 ≤ K.1 2 → (∀ d, 0 ≤ d → d < 32 → (bitZ v2 d ↔ d < v3 ∧ v1 ≤ K.1 (4 * d + 119))) → Rn xs xl e mm_Plans_peopleDueFrom 4 [some (.inr (.inr q)), some (.inl v1), some (.inl v2), some (.inl v3)] [] h Q := by
    intro n
    have stop : ∀ v2 v3 : Int, K.1 2 ≤ v3 → v3 ≤ K.1 2 → (∀ d, 0 ≤ d → d < 32 → (bitZ v2 d ↔ d < v3 ∧ v1 ≤ K.1 (4 * d + 119))) → Q (some (.inl v2)) h := fun v2 v3 a c hv => k _ (fun b b0 b1 => by
      rw [hv b b0 b1, show v3 = K.1 2 by omega])
    induction n with
    | zero =>
      intro v2 v3 hn a0 a1 hv
      exact B_Plans_peopleDueFrom_4 hq hF hP (by omega) ⟨fun _ => stop v2 v3 (by omega) a1 hv, fun c => by omega⟩
    | succ n ih =>
      intro v2 v3 hn a0 a1 hv
      refine B_Plans_peopleDueFrom_4 hq hF hP (by omega) ⟨fun _ => stop v2 v3 (by omega) a1 hv, fun c => ⟨by omega, ?_⟩⟩
      have p1 : v3 < K.1 2 := by omega
      obtain ⟨-, -, -, f4⟩ := CXq_p hc a0 p1
      rw [f4]
      exact ⟨fun z => ih _ (v3 + 1) (by omega) (by omega) (by omega) (stepB0 (W := fun d => v1 ≤ K.1 (4 * d + 119)) hv (by omega)), fun z => ih _ (v3 + 1) (by omega) (by omega) (by omega) (stepB1 (W := fun d => v1 ≤ K.1 (4 * d + 119)) a0 (by omega) hv z)⟩
  exact B_Plans_peopleDueFrom_0 hq hF (loop 6 0 0 (by omega) (by omega) (by omega) (fun d d0 d1 => ⟨fun y => absurd y bit_zero, fun y => by omega⟩))
end RC
end
section
/-! run, part r4: counting; the class's day -/
/-- how many below n -/
noncomputable def cnP (P : Int → Prop) : Nat → Int
  | 0 => 0
  | n + 1 => cnP P n + @ite Int (P (n : Int)) (Classical.propDecidable _) 1 0
/-- the scene behind the last hour -/
def enT (T : Int → Int) : Int → Int := fun i => if i = 0 then 24 else if 14 ≤ i then 0 else T i
/-- the bits of the class's places that a day leaves alone -/
def frDay (h g : LH) : Prop := ∀ a i, a ≠ 78 → a ≠ 79 → ¬ (a = 77 ∧ (i = 0 ∨ i = 3 ∨ i = 4)) → ¬ scp 68 a i → rd g a i = rd h a i
section RD
variable {xs : Nat → Int} {xl e : Nat} {h g : LH} {Q : Option LV → LH → Prop} {K : KEY} {T T' T0 T1 T2 : Int → Int} {L : List Int} {q sc p b m n x z v1 : Int} {P P' : Int → Prop}
theorem cnP_in (P : Int → Prop) (n : Nat) : 0 ≤ cnP P n ∧ cnP P n ≤ n := by
  induction n with
  | zero => exact ⟨Int.le_refl _, Int.le_refl _⟩
  | succ n ih =>
    show 0 ≤ cnP P n + @ite Int _ (Classical.propDecidable _) 1 0 ∧ cnP P n + @ite Int _ (Classical.propDecidable _) 1 0 ≤ ((n + 1 : Nat) : Int)
    by_cases c : P (n : Int)
    · rw [if_pos c]; omega
    · rw [if_neg c]; omega
theorem cnP_ext : ∀ n : Nat, (∀ b, 0 ≤ b → b < (n : Int) → (P b ↔ P' b)) → cnP P n = cnP P' n
  | 0, _ => rfl
  | n + 1, hb => by
    have ih := cnP_ext n (fun b b0 b1 => hb b b0 (by omega))
    have e := hb (n : Int) (by omega) (by omega)
    show cnP P n + @ite Int _ (Classical.propDecidable _) 1 0 = cnP P' n + @ite Int _ (Classical.propDecidable _) 1 0
    by_cases c : P (n : Int)
    · rw [if_pos c, if_pos (e.mp c), ih]
    · rw [if_neg c, if_neg (fun y => c (e.mpr y)), ih]
theorem cnP_up (hp : ∀ b, b ≠ p → (P' b ↔ P b)) (y : P' p) (ny : ¬ P p) : ∀ n : Nat, cnP P' n = cnP P n + (if 0 ≤ p ∧ p < (n : Int) then 1 else 0)
  | 0 => by
    rw [if_neg (show ¬ (0 ≤ p ∧ p < ((0 : Nat) : Int)) by omega)]
    rfl
  | n + 1 => by
    have ih := cnP_up hp y ny n
    show cnP P' n + @ite Int (P' (n : Int)) (Classical.propDecidable _) 1 0 = cnP P n + @ite Int (P (n : Int)) (Classical.propDecidable _) 1 0 + _
    by_cases c : (n : Int) = p
    · have y' : P' (n : Int) := by rw [c]; exact y
      have n' : ¬ P (n : Int) := by rw [c]; exact ny
      rw [if_neg (show ¬ (0 ≤ p ∧ p < (n : Int)) by omega)] at ih
      rw [if_pos y', if_neg n', if_pos (show 0 ≤ p ∧ p < ((n + 1 : Nat) : Int) by omega)]
      omega
    · have e := hp (n : Int) c
      have f : (if 0 ≤ p ∧ p < ((n + 1 : Nat) : Int) then (1 : Int) else 0) = if 0 ≤ p ∧ p < (n : Int) then 1 else 0 := by
        by_cases t : 0 ≤ p ∧ p < (n : Int)
        · rw [if_pos t, if_pos (by omega)]
        · rw [if_neg t, if_neg (by omega)]
      rw [f]
      by_cases t : P (n : Int)
      · rw [if_pos t, if_pos (e.mpr t)]
        omega
      · rw [if_neg t, if_neg (fun w => t (e.mp w))]
        omega
theorem pcP_cn (hv : ∀ b, 0 ≤ b → b < 32 → (bitZ z b ↔ b < m ∧ P b)) : ∀ n : Nat, n ≤ 32 → pcP z n = cnP P (min n m.toNat)
  | 0, _ => by
    rw [Nat.zero_min]
    rfl
  | n + 1, hn => by
    have ih := pcP_cn hv n (by omega)
    have b := hv (n : Int) (by omega) (by omega)
    show pcP z n + zand (zshr z (n : Int)) 1 = _
    by_cases c : (n : Int) < m
    · rw [show min n m.toNat = n by omega] at ih
      rw [show min (n + 1) m.toNat = n + 1 by omega]
      show _ = cnP P n + @ite Int (P (n : Int)) (Classical.propDecidable _) 1 0
      by_cases y : P (n : Int)
      · have t : zand (zshr z (n : Int)) 1 = 1 := b.mpr ⟨c, y⟩
        rw [if_pos y, ih, t]
      · rw [if_neg y, ih, bitZ_n.mp (fun t => y (b.mp t).2)]
    · rw [show min (n + 1) m.toNat = min n m.toNat by omega, ih, bitZ_n.mp (fun t => c (b.mp t).1), Int.add_zero]
theorem b16383 : ∀ k : Nat, k < 32 → (zand (zshr 16383 (k : Int)) 1 = 1 ↔ k < 14) := by decide +kernel
theorem small_bits (hx : i32 x) (hv : ∀ b, 0 ≤ b → b < 32 → bitZ x b → b < 14) : 0 ≤ x ∧ x < 16384 := by
  have e : zand x 16383 = x := bit_ext (zand_i _ _) hx (fun k k0 k1 => by
    rw [bit_and k0 k1]
    refine ⟨fun y => y.1, fun y => ⟨y, ?_⟩⟩
    have := (b16383 k.toNat (by omega)).mpr (by have := hv k k0 k1 y; omega)
    rw [Int.toNat_of_nonneg k0] at this
    exact this)
  have := zand_r (a := x) (b := 16383) (by decide) (by unfold i32; omega)
  omega
theorem F_bits (hF : RF h) (hx : i32 x) (m0 : 0 ≤ m ∧ m ≤ 14) (hv : ∀ b, 0 ≤ b → b < 32 → (bitZ x b ↔ b < m ∧ P b)) (k : Q (some (.inl (cnP P m.toNat))) h) : Rn xs xl e mm_java_lang_Integer_bitCount 0 [some (.inl x)] [] h Q := by
  obtain ⟨a, c⟩ := small_bits hx (fun b b0 b1 y => by have := ((hv b b0 b1).mp y).1; omega)
  refine F_bitCount hF a c ?_
  rw [pcP_cn hv 14 (by decide), show min 14 m.toNat = m.toNat by omega]
  exact k
theorem SCT_ps (hs : SCT h sc n T) (hn : n ≤ 6) (hp : spd sc 1 h g) (t0 : T2 0 = if T 0 + 1 ≤ 24 then T 0 + 1 else 24) (ti : ∀ i, 1 ≤ i → i < 14 → T2 i = T i) (tz : ∀ i, 14 ≤ i → T2 i = 0) : SCT g sc n T2 := by
  obtain ⟨s1, s2, s3, s4, s5⟩ := hs
  obtain ⟨p1, p2, p3, p4, p5, p6⟩ := hp
  refine ⟨?_, ?_, fun p q0 q1 => ?_, fun d d0 d1 => ?_, fun p q0 q1 => ?_⟩
  · rw [p1, s1, t0]
  · rw [p2, s2, ti 1 (by decide) (by decide)]
  · obtain ⟨a1, a2, -⟩ := s3 p q0 q1
    rw [p5, p4, p3, ti (p + 2) (by omega) (by omega), ti (p + 8) (by omega) (by omega), tz (p + 14) (by omega)]
    exact ⟨a1, a2, Or.inl ⟨rfl, bit_zero⟩⟩
  · rw [p6 d d0 d1, tz (d + 20) (by omega)]
    exact ⟨rfl, by decide, by decide⟩
  · rw [p4]
    exact s5 p q0 q1
theorem SCT_psT (hs : SCT h sc n T) (hn : n ≤ 6) (hp : spd sc 1 h g) (h0 : T 0 < 24) : SCT g sc n (psT T) := by
  refine SCT_ps hs hn hp ?_ (fun i i0 i1 => ?_) (fun i i0 => ?_)
  · unfold psT
    rw [if_pos rfl, if_pos (by omega)]
  · unfold psT
    rw [if_neg (by omega), if_neg (by omega)]
  · unfold psT
    rw [if_neg (by omega), if_pos i0]
theorem SCT_enT (hs : SCT h sc n T) (hn : n ≤ 6) (hp : spd sc 1 h g) (h0 : T 0 = 24) : SCT g sc n (enT T) := by
  refine SCT_ps hs hn hp ?_ (fun i i0 i1 => ?_) (fun i i0 => ?_)
  · unfold enT
    rw [if_pos rfl, if_neg (by omega)]
  · unfold enT
    rw [if_neg (by omega), if_neg (by omega)]
  · unfold enT
    rw [if_neg (by omega), if_pos i0]
theorem hdT_enT (hp : 0 ≤ p ∧ p ≤ 5) : hdT K (enT T) p ↔ hdT K T p := by
  unfold hdT enT
  rw [if_neg (show ¬ p + 8 = 0 by omega), if_neg (show ¬ 14 ≤ p + 8 by omega), if_neg (show ¬ p + 2 = 0 by omega), if_neg (show ¬ 14 ≤ p + 2 by omega)]
theorem frDay_t {u : LH} (a : frDay h g) (c : frDay g u) : frDay h u := fun x i n1 n2 n3 n4 => (c x i n1 n2 n3 n4).trans (a x i n1 n2 n3 n4)
theorem F_runDay (he : 7 ≤ e) (hc : CXq h K q L) (hK : KR K) (kb : ∀ p, 0 ≤ p → p < K.1 2 → KB K p) (vt : VT K T0) (hs : SCT h 68 (K.1 2) T0) (k : ∀ g T, RF g → frDay h g → raf K T0 (24 - T0 0).toNat T → SCT g 68 (K.1 2) (enT T) → Q (some (.inl (cnP (itD K T0 (25 - T0 0).toNat) (K.1 2).toNat))) g) : Rn xs xl e mm_Plans_runDay 0 [some (.inr (.inr 77)), some (.inr (.inr q)), some (.inr (.inr 68)), none, none, none] [] h Q := by
  have n2 := hK.2.2.1
  have hF0 := hc.1
  have hq := hc.2.2.1
  have t0 := vt.1
  have cx : ∀ g, RF g → frDay h g → CXq g K q L := fun g gF gf => CXq_fr hc hK gF (fun a i ha => gf a i (by omega) (by omega) (by omega) (by unfold scp; omega))
  -- one hour
  have body : ∀ (g : LH) (v3 v4 : Int) (o : Option LV) (T : Int → Int), T0 0 ≤ v4 → v4 ≤ 24 → RF g → frDay h g → rdy K T0 (v4 - T0 0).toNat T → SCT g 68 (K.1 2) T → i32 v3 → (∀ b, 0 ≤ b → b < 32 → (bitZ v3 b ↔ b < K.1 2 ∧ itD K T0 (v4 - T0 0).toNat b)) → (∀ (g : LH) (v3 : Int) (o : Option LV) (T : Int → Int), v4 < 24 → RF g → frDay h g → rdy K T0 (v4 + 1 - T0 0).toNat T → SCT g 68 (K.1 2) T → i32 v3 → (∀ b, 0 ≤ b → b < 32 → (bitZ v3 b ↔ b < K.1 2 ∧ itD K T0 (v4 + 1 - T0 0).toNat b)) → Rn xs xl e mm_Plans_runDay 8 [some (.inr (.inr 77)), some (.inr (.inr q)), some (.inr (.inr 68)), some (.inl v3), some (.inl (v4 + 1)), o] [] g Q) → Rn xs xl e mm_Plans_runDay 8 [some (.inr (.inr 77)), some (.inr (.inr q)), some (.inr (.inr 68)), some (.inl v3), some (.inl v4), o] [] g Q := by
    intro g v3 v4 o T a0 a1 gF gf rd0 gs vi vb next
    have rv := rdy_VT hc hK vt (v4 - T0 0).toNat T (by omega) rd0
    have T0v : T 0 = v4 := by have := rv.2; omega
    have inner : ∀ (m : Nat) (g : LH) (v5 : Int) (T' : Int → Int), K.1 2 - v5 ≤ m → 0 ≤ v5 → v5 ≤ K.1 2 → RF g → frDay h g → rps K T v5.toNat T' → SCT g 68 (K.1 2) T' → Rn xs xl e mm_Plans_runDay 18 [some (.inr (.inr 77)), some (.inr (.inr q)), some (.inr (.inr 68)), some (.inl v3), some (.inl v4), some (.inl v5)] [] g Q := by
      intro m
      have fin : ∀ (g : LH) (v5 : Int) (T' : Int → Int), K.1 2 ≤ v5 → v5 ≤ K.1 2 → RF g → frDay h g → rps K T v5.toNat T' → SCT g 68 (K.1 2) T' → Rn xs xl e mm_Plans_runDay 41 [some (.inr (.inr 77)), some (.inr (.inr q)), some (.inr (.inr 68)), some (.inl v3), some (.inl v4), some (.inl v5)] [] g Q := by
        intro g v5 T' c0 c1 gF gf rp gs
        have ev : v5 = K.1 2 := by omega
        rw [ev] at rp
        have rw' := rps_VT hc hK rv.1 _ T' (by omega) rp
        have ra : raf K T0 (v4 - T0 0).toNat T' := ⟨T, rd0, rp⟩
        have gc := cx g gF gf
        refine B_Plans_runDay_41 hq scn_68 (by decide) gF ⟨0, by omega, F_homeAndDone gc hK gs scn_68 (by decide) (fun r1 i1 b1 => ?_)⟩
        refine B_Plans_runDay_47 hq scn_68 (by decide) gF ⟨0, by omega, F_due gc hK (fun r2 b2 => ?_)⟩
        have e1 : (v4 + 1 - T0 0).toNat = (v4 - T0 0).toNat + 1 := by omega
        have nb : ∀ b, 0 ≤ b → b < 32 → (bitZ (zor v3 (zand r1 r2)) b ↔ b < K.1 2 ∧ itD K T0 (v4 + 1 - T0 0).toNat b) := fun b b0 b1' => by
          rw [bit_or b0 b1', bit_and b0 b1', vb b b0 b1', b1 b b0 b1', b2 b b0 b1', e1, itD_st hc hK kb vt (by omega) ra, show T0 0 + (((v4 - T0 0).toNat : Nat) : Int) = v4 by omega]
          exact ⟨fun y => y.elim (fun y => ⟨y.1, Or.inl y.2⟩) (fun y => ⟨y.1.1, Or.inr ⟨y.2.2, y.1.2⟩⟩), fun y => y.2.elim (fun w => Or.inl ⟨y.1, w⟩) (fun w => Or.inr ⟨⟨y.1, w.2⟩, y.1, w.1⟩)⟩
        have ni : i32 (zor v3 (zand r1 r2)) := zor_i _ _
        refine B_Plans_runDay_53 hq scn_68 (by decide) gF (B_Plans_runDay_56 hq scn_68 (by decide) gF ⟨1, by omega, F_spass (Nat.le_refl 1) scn_68 (by decide) gF (by omega) (by rw [gs.1]; exact rw'.1.1) (fun u up uf uF => B_Plans_runDay_61 hq scn_68 (by decide) uF (by omega) ?_)⟩)
        generalize zor v3 (zand r1 r2) = w3 at nb ni ⊢
        have ufD : frDay h u := fun a i m1 m2 m3 m4 => (uf a i m4).trans (gf a i m1 m2 m3 m4)
        by_cases c : v4 < 24
        · refine next u w3 _ (psT T') c uF ufD ?_ (SCT_psT gs (by omega) up (by omega)) ni nb
          rw [e1]
          exact ⟨T, T', rd0, rp, rfl⟩
        · have e24 : v4 = 24 := by omega
          refine B_Plans_runDay_8 hq scn_68 (by decide) uF (by omega) ⟨fun _ => ⟨0, by omega, F_bits uF ni (by omega) nb (B_Plans_runDay_71 hq scn_68 (by decide) uF ?_)⟩, fun z => by omega⟩
          rw [e24]
          rw [e24] at ra
          exact k u T' uF ufD ra (SCT_enT gs (by omega) up (by omega))
      induction m with
      | zero =>
        intro g v5 T' hm c0 c1 gF gf rp gs
        have gc := cx g gF gf
        have c4 := gc.2.2.2.2.1.2.2
        exact B_Plans_runDay_18 hq scn_68 (by decide) gF (by omega) (by omega) ⟨fun _ => fin g v5 T' (by omega) c1 gF gf rp gs, fun z => by omega⟩
      | succ m im =>
        intro g v5 T' hm c0 c1 gF gf rp gs
        have gc := cx g gF gf
        have c4 := gc.2.2.2.2.1.2.2
        refine B_Plans_runDay_18 hq scn_68 (by decide) gF (by omega) (by omega) ⟨fun z => fin g v5 T' (by omega) c1 gF gf rp gs, fun z => ⟨6, by omega, ?_⟩⟩
        have p1 : v5 < K.1 2 := by omega
        have rw' := rps_VT hc hK rv.1 _ T' (by omega) rp
        refine F_goOn (Nat.le_refl 6) gc hK (kb v5 c0 p1) rw'.1 gs scn_68 (by decide) ⟨c0, p1⟩ (fun u T2 uF uf rg us => B_Plans_runDay_35 hq scn_68 (by decide) uF (by omega) (im u (v5 + 1) T2 (by omega) (by omega) (by omega) uF (frDay_t gf uf) ?_ us))
        rw [show (v5 + 1).toNat = v5.toNat + 1 by omega]
        refine ⟨T', rp, ?_⟩
        rw [Int.toNat_of_nonneg c0]
        exact rg
    have gc := cx g gF gf
    refine B_Plans_runDay_8 hq scn_68 (by decide) gF (by omega) ⟨fun z => by omega, fun _ => inner (K.1 2).toNat g 0 T (by omega) (by omega) (by omega) gF gf rfl gs⟩
  have outer : ∀ (m : Nat) (g : LH) (v3 v4 : Int) (o : Option LV) (T : Int → Int), 24 - v4 ≤ m → T0 0 ≤ v4 → v4 ≤ 24 → RF g → frDay h g → rdy K T0 (v4 - T0 0).toNat T → SCT g 68 (K.1 2) T → i32 v3 → (∀ b, 0 ≤ b → b < 32 → (bitZ v3 b ↔ b < K.1 2 ∧ itD K T0 (v4 - T0 0).toNat b)) → Rn xs xl e mm_Plans_runDay 8 [some (.inr (.inr 77)), some (.inr (.inr q)), some (.inr (.inr 68)), some (.inl v3), some (.inl v4), o] [] g Q := by
    intro m
    induction m with
    | zero =>
      intro g v3 v4 o T hm a0 a1 gF gf r0 gs vi vb
      exact body g v3 v4 o T a0 a1 gF gf r0 gs vi vb (fun _ _ _ _ c => by omega)
    | succ m im =>
      intro g v3 v4 o T hm a0 a1 gF gf r0 gs vi vb
      exact body g v3 v4 o T a0 a1 gF gf r0 gs vi vb (fun g v3 o T c gF gf r0 gs vi vb => im g v3 (v4 + 1) o T (by omega) (by omega) (by omega) gF gf r0 gs vi vb)
  refine B_Plans_runDay_0 hq scn_68 (by decide) hF0 ?_
  rw [hs.1]
  refine outer 24 h 0 (T0 0) none T0 (by omega) (by omega) t0.2 hF0 (fun _ _ _ _ _ _ => rfl) ?_ hs z32 (fun b b0 b1 => ⟨fun y => absurd y bit_zero, fun y => ?_⟩)
  · rw [show (T0 0 - T0 0).toNat = 0 by omega]
    rfl
  · obtain ⟨j, _, hj, _⟩ := y.2
    omega
end RD
end
