/-! doors by sort and hour, part qa: into which room the class's door leads -/
theorem b01 (Y : Int32) : (Y &&& Int32.ofInt 1).toInt = 0 ∨ (Y &&& Int32.ofInt 1).toInt = 1 := by
  have e : (Y &&& Int32.ofInt 1).toBitVec = BitVec.setWidth 32 (BitVec.ofBool (Y.toBitVec.getLsbD 0)) := by
    rw [Int32.toBitVec_and, show (Int32.ofInt 1).toBitVec = 1#32 from rfl, BitVec.and_one_eq_setWidth_ofBool_getLsbD]
  have e2 : (Y &&& Int32.ofInt 1) = Int32.ofBitVec (BitVec.setWidth 32 (BitVec.ofBool (Y.toBitVec.getLsbD 0))) := by
    rw [← Int32.toBitVec_inj, e]
    rfl
  rw [e2]
  cases Y.toBitVec.getLsbD 0 <;> decide
theorem bitZ_01 (s k : Int) : zand (zshr s k) 1 = 0 ∨ zand (zshr s k) 1 = 1 := b01 _
theorem bit_and {a b k : Int} (k0 : 0 ≤ k) (k1 : k < 32) : bitZ (zand a b) k ↔ bitZ a k ∧ bitZ b k := by
  rw [bitZ_iff k0 k1, bitZ_iff k0 k1, bitZ_iff k0 k1]
  unfold zand
  rw [x_to, Int32.toBitVec_and, BitVec.getLsbD_and, Bool.and_eq_true]
theorem bit_not {a k : Int} (k0 : 0 ≤ k) (k1 : k < 32) : bitZ (zxor a (-1)) k ↔ ¬ bitZ a k := by
  rw [bitZ_iff k0 k1, bitZ_iff k0 k1]
  unfold zxor
  rw [x_to, Int32.toBitVec_xor, BitVec.getLsbD_xor, show (Int32.ofInt (-1)).toBitVec = BitVec.allOnes 32 from by decide, BitVec.getLsbD_allOnes]
  have : k.toNat < 32 := by omega
  simp [this]
/-- into which room door d with the fields f leads sort s from a room in hour hr -/
noncomputable def inF (f : Int → Int) (L : List Int) (s room hr sh d : Int) : Int :=
  @ite Int (f 2 = room ∧ wAh f L s hr (f 8) 0 ∧ ¬ bitZ sh d) (Classical.propDecidable _) (f 3) (@ite Int (f 3 = room ∧ wBk f L s hr (f 8) 0 ∧ ¬ bitZ sh d) (Classical.propDecidable _) (f 2) (-1))
section QMa
variable {xs : Nat → Int} {xl e : Nat} {h : LH} {Q : Option LV → LH → Prop} {v1 v2 v3 v4 v5 q d : Int} {L : List Int}
theorem F_into (he : 1 ≤ e) (hq : q = 5 ∨ q = 32) (h1 : 0 ≤ v1 ∧ v1 ≤ 13) (hn : v1 < rd h q 2) (h2 : 0 ≤ v2 ∧ v2 ≤ 3) (h4 : 0 ≤ v4 ∧ v4 ≤ 25) (hF : RF h) (hP : PT h) (hc : rd h (q + 7 + v1) 5 ≤ 24) (hs : ∀ s hr, 0 ≤ s → s ≤ 3 → 0 ≤ hr → hr ≤ 23 → stl h q L h s hr)
    (k : Q (some (.inl (inF (rd h (q + 7 + v1)) L v2 v3 v4 v5 v1))) h) : Rn xs xl e mm_Quarter_into 0 [some (.inr (.inr q)), some (.inl v1), some (.inl v2), some (.inl v3), some (.inl v4), some (.inl v5), none] [] h Q := by
  unfold inF at k
  have late : ∀ s cost room, ¬ lets (rd h (q + 7 + v1)) L s v4 cost room ∨ v4 < 24 := fun s cost room => by
    by_cases z : v4 < 24
    · exact Or.inr z
    · exact Or.inl (fun y => by have := y.2.2.1; omega)
  have a26 : ∀ x, (bitZ x v1 ↔ wAh (rd h (q + 7 + v1)) L v2 v4 (rd h (q + 7 + v1) 8) 0 ∧ ¬ bitZ v5 v1) ∨ ¬ v4 < 24 ∧ x = 0 → (zand (zshr x v1) 1 ≠ 0 ↔ wAh (rd h (q + 7 + v1)) L v2 v4 (rd h (q + 7 + v1) 8) 0 ∧ ¬ bitZ v5 v1) := by
    intro x hx
    rcases hx with hx | ⟨hx, rfl⟩
    · rw [← hx]
      have := bitZ_01 x v1
      unfold bitZ
      omega
    · refine ⟨fun z => absurd (bit0 v1) z, fun z => ?_⟩
      exact (late _ _ _).elim (fun y => absurd z.1.2 y) (fun y => absurd y hx)
  have b57 : ∀ x, (bitZ x v1 ↔ wBk (rd h (q + 7 + v1)) L v2 v4 (rd h (q + 7 + v1) 8) 0 ∧ ¬ bitZ v5 v1) ∨ ¬ v4 < 24 ∧ x = 0 → (zand (zshr x v1) 1 ≠ 0 ↔ wBk (rd h (q + 7 + v1)) L v2 v4 (rd h (q + 7 + v1) 8) 0 ∧ ¬ bitZ v5 v1) := by
    intro x hx
    rcases hx with hx | ⟨hx, rfl⟩
    · rw [← hx]
      have := bitZ_01 x v1
      unfold bitZ
      omega
    · refine ⟨fun z => absurd (bit0 v1) z, fun z => ?_⟩
      exact (late _ _ _).elim (fun y => absurd z.1.2 y) (fun y => absurd y hx)
  have t39 : ¬ (rd h (q + 7 + v1) 2 = v3 ∧ wAh (rd h (q + 7 + v1)) L v2 v4 (rd h (q + 7 + v1) 8) 0 ∧ ¬ bitZ v5 v1) → Rn xs xl e mm_Quarter_into 39 [some (.inr (.inr q)), some (.inl v1), some (.inl v2), some (.inl v3), some (.inl v4), some (.inl v5), some (.inr (.inr (q + 7 + v1)))] [] h Q := by
    intro no
    rw [if_neg no] at k
    refine B_Quarter_into_39 hq hF h1 ⟨fun c => ?_, fun c => ⟨0, by omega, ?_⟩⟩
    · rw [if_neg (fun z => c z.1)] at k
      exact k
    · have go : ∀ x, (zand (zshr x v1) 1 ≠ 0 ↔ wBk (rd h (q + 7 + v1)) L v2 v4 (rd h (q + 7 + v1) 8) 0 ∧ ¬ bitZ v5 v1) → Rn xs xl e mm_Quarter_into 57 [some (.inr (.inr q)), some (.inl v1), some (.inl v2), some (.inl v3), some (.inl v4), some (.inl v5), some (.inr (.inr (q + 7 + v1)))] [.inl x] h Q := by
        intro x hx
        refine B_Quarter_into_57 hq hF h1 ⟨fun z => ?_, fun z => ?_⟩
        · rw [if_neg (fun y => absurd z (hx.mpr y.2))] at k
          exact k
        · rw [if_pos ⟨c, hx.mp z⟩] at k
          exact k
      refine B_Quarter_backIn_0 hq hF h2 h4 ⟨fun z => go 0 (b57 0 (Or.inr ⟨by omega, rfl⟩)), fun z => ⟨by omega, go _ (b57 _ (Or.inl ?_))⟩⟩
      rw [bit_and h1.1 (by omega), bit_not h1.1 (by omega), (hs v2 v4 h2.1 h2.2 h4.1 (by omega)).2 v1 h1.1 (by omega)]
      exact ⟨fun y => ⟨y.1.2, y.2⟩, fun y => ⟨⟨hn, y.1⟩, y.2⟩⟩
  refine B_Quarter_into_0 hq hF hP h1 ⟨fun c => t39 (fun z => c z.1), fun c => ⟨0, by omega, ?_⟩⟩
  have go : ∀ x, (zand (zshr x v1) 1 ≠ 0 ↔ wAh (rd h (q + 7 + v1)) L v2 v4 (rd h (q + 7 + v1) 8) 0 ∧ ¬ bitZ v5 v1) → Rn xs xl e mm_Quarter_into 26 [some (.inr (.inr q)), some (.inl v1), some (.inl v2), some (.inl v3), some (.inl v4), some (.inl v5), some (.inr (.inr (q + 7 + v1)))] [.inl x] h Q := by
    intro x hx
    refine B_Quarter_into_26 hq hF h1 ⟨fun z => t39 (fun y => absurd z (hx.mpr y.2)), fun z => ?_⟩
    rw [if_pos ⟨c, hx.mp z⟩] at k
    exact k
  refine B_Quarter_aheadIn_0 hq hF h2 h4 ⟨fun z => go 0 (a26 0 (Or.inr ⟨by omega, rfl⟩)), fun z => ⟨by omega, go _ (a26 _ (Or.inl ?_))⟩⟩
  rw [bit_and h1.1 (by omega), bit_not h1.1 (by omega), (hs v2 v4 h2.1 h2.2 h4.1 (by omega)).1 v1 h1.1 (by omega)]
  exact ⟨fun y => ⟨y.1.2, y.2⟩, fun y => ⟨⟨hn, y.1⟩, y.2⟩⟩
end QMa
