/-! LM, part 65: the reference's closure and copies -/
theorem zor_ge10 {a b : Int} (a0 : 0 ≤ a) (a1 : a ≤ 1023) (b0 : 0 ≤ b) (b1 : b ≤ 1023) : a ≤ zor a b ∧ zor a b ≤ 1023 := by
  unfold zor
  obtain ⟨m, rfl⟩ : ∃ m : Nat, a = m := ⟨a.toNat, by omega⟩
  obtain ⟨n, rfl⟩ : ∃ n : Nat, b = n := ⟨b.toNat, by omega⟩
  have l1 : m ≤ m ||| n := Nat.left_le_or
  have l2 : m ||| n < 2 ^ 10 := Nat.or_lt_two_pow (by omega) (by omega)
  have e : (Int32.ofInt (m : Int) ||| Int32.ofInt (n : Int)) = Int32.ofInt ((m ||| n : Nat) : Int) := by
    rw [← Int32.toBitVec_inj, Int32.toBitVec_or, Int32.toBitVec_ofInt, Int32.toBitVec_ofInt, Int32.toBitVec_ofInt]
    rw [BitVec.ofInt_natCast, BitVec.ofInt_natCast, BitVec.ofInt_natCast]
    apply BitVec.eq_of_toNat_eq
    rw [BitVec.toNat_or, BitVec.toNat_ofNat, BitVec.toNat_ofNat, BitVec.toNat_ofNat, Nat.mod_eq_of_lt (by omega), Nat.mod_eq_of_lt (by omega), Nat.mod_eq_of_lt (by omega)]
  rw [e, x_of (by unfold i32; omega)]
  omega
theorem zshl_b : ∀ n : Nat, n < 10 → 1 ≤ zshl 1 (n : Int) ∧ zshl 1 (n : Int) ≤ 1023 := by decide +kernel
section CS
variable {xs : Nat → Int} {xl e : Nat} {h : LH} {Q : Option LV → LH → Prop}
/-- closure -/
theorem D_closure {v1 : Int} (he : 1 ≤ e) (hI : INV h) (hv : 0 ≤ v1 ∧ v1 ≤ 9) (k : ∀ r, 1 ≤ r → r ≤ 1023 → Q (some (.inl r)) h) : Rn xs xl e mm_closure 0 [some (.inr (.inr 182)), some (.inl v1), none, none, none] [] h Q := by
  have r0 := rq_rooms hI.1
  have l6 : ∀ (n : Nat) (v2 v3 : Int) (o4 : Option LV), nL o4 → 1023 - v3 < n → 0 ≤ v3 → v3 ≤ v2 → 1 ≤ v2 → v2 ≤ 1023 → Rn xs xl e mm_closure 6 [some (.inr (.inr 182)), some (.inl v1), some (.inl v2), some (.inl v3), o4] [] h Q := by
    intro n
    induction n with
    | zero =>
      intro v2 v3 o4 _ hn
      omega
    | succ n ih =>
      intro v2 v3 o4 no hn a0 a1 a2 a3
      refine B_closure_6 no (RF_of hI.1) ⟨fun _ => k v2 a2 a3, fun c => ?_⟩
      have l16 : ∀ (m : Nat) (w v4 : Int), rd h 188 0 - v4 < m → 0 ≤ v4 → v4 ≤ rd h 188 0 → v2 ≤ w → w ≤ 1023 → Rn xs xl e mm_closure 16 [some (.inr (.inr 182)), some (.inl v1), some (.inl w), some (.inl v2), some (.inl v4)] [] h Q := by
        intro m
        induction m with
        | zero =>
          intro w v4 hm
          omega
        | succ m im =>
          intro w v4 hm b0 b1 b2 b3
          have z0 := zor_ge10 (a := w) (b := 0) (by omega) b3 (by omega) (by omega)
          refine B_closure_16 (RF_of hI.1) he ⟨fun _ => ih w v2 _ (fun u hu => by cases hu; rfl) (by omega) (by omega) b2 (by omega) b3, fun c2 => ⟨fun _ => ⟨by omega, im _ _ (by omega) (by omega) (by omega) (by omega) (by omega)⟩, fun _ => ⟨by omega, by omega, ?_⟩⟩⟩
          have q := rA_into hI.1 (i := v4) (by omega)
          have z1 := zor_ge10 (a := w) (b := rd h 203 v4) (by omega) b3 q.1 q.2
          exact im _ _ (by omega) (by omega) (by omega) (by omega) (by omega)
      exact l16 11 v2 0 (by omega) (by omega) (by omega) (by omega) a3
  have z := zshl_b v1.toNat (by omega)
  rw [Int.toNat_of_nonneg hv.1] at z
  exact B_closure_0 (RF_of hI.1) (l6 1024 _ 0 none (fun _ hu => by cases hu) (by omega) (by omega) (by omega) z.1 z.2)
theorem hav_198 {i j : Int} (h : i.toNat % 70 = j.toNat % 70) : hav 198 i = hav 198 j := by
  rw [havM (a := 198) (i := i) (L := RGr63) (n := 70) (r := i.toNat % 70) (by decide +kernel) (by decide +kernel) rfl, havM (a := 198) (i := j) (L := RGr63) (n := 70) (r := i.toNat % 70) (by decide +kernel) (by decide +kernel) h.symm]
/-- copies: a block for a block -/
theorem D_copies {v1 v2 v3 : Int} (hr : RNG h) (h1 : v1 % 70 = 0 ∧ 0 ≤ v1 ∧ v1 ≤ 1540) (h2 : v2 % 70 = 0 ∧ 0 ≤ v2 ∧ v2 ≤ 1540) (h3 : 0 ≤ v3 ∧ v3 ≤ 70) (k : ∀ g, RNG g → (∀ a i, ¬ (a = 198 ∧ v2 ≤ i ∧ i < v2 + v3) → rd g a i = rd h a i) → (∀ i, 0 ≤ i → i < v3 → rd g 198 (v2 + i) = rd h 198 (v1 + i)) → Q none g) : Rn xs xl e mm_copies 0 [some (.inr (.inr 182)), some (.inl v1), some (.inl v2), some (.inl v3), none] [] h Q := by
  have l3 : ∀ (n : Nat) (g : LH) (v4 : Int), v3 - v4 < n → 0 ≤ v4 → v4 ≤ v3 → RNG g → (∀ a i, ¬ (a = 198 ∧ v2 ≤ i ∧ i < v2 + v4) → rd g a i = rd h a i) → (∀ i, 0 ≤ i → i < v4 → rd g 198 (v2 + i) = rd h 198 (v1 + i)) → Rn xs xl e mm_copies 3 [some (.inr (.inr 182)), some (.inl v1), some (.inl v2), some (.inl v3), some (.inl v4)] [] g Q := by
    intro n
    induction n with
    | zero =>
      intro g v4 hn
      omega
    | succ n ih =>
      intro g v4 hn a0 a1 gr gf gc
      refine B_copies_3 (RF_of gr) ⟨fun c => ?_, fun c => ⟨by omega, by omega, by omega, by omega, by omega, ?_⟩⟩
      · have : v4 = v3 := by omega
        subst this
        exact k g gr gf gc
      · have hv := gr 198 (v1 + v4) (vldA (n := 1610) (k := 1) (by decide +kernel) (by decide +kernel) (by omega))
        have kk : ∀ i : Int, lkd 198 i = lkd 198 0 := fun i => by
          rw [lkd_1 (by decide +kernel), lkd_1 (by decide +kernel)]
        have r1 : RNG (wr g 198 (v2 + v4) (rd g 198 (v1 + v4))) := by
          refine RNG_wr gr ?_
          unfold hval at hv
          rw [hav_198 (i := v2 + v4) (j := v1 + v4) (by omega), kk, ← kk (v1 + v4)]
          exact hv
        have same : rd g 198 (v1 + v4) = rd h 198 (v1 + v4) := gf _ _ (by omega)
        refine ih _ (v4 + 1) (by omega) (by omega) (by omega) r1 (fun a i n => ?_) (fun i i0 i1 => ?_)
        · rw [rd_wr, if_neg (by omega)]
          exact gf a i (by omega)
        · by_cases z : v4 = i
          · rw [← z, rdw_eq, same]
          · rw [rdw_nei (by omega)]
            exact gc i i0 (by omega)
  exact B_copies_0 (RF_of hr) (l3 71 h 0 (by omega) (by omega) (by omega) hr (fun _ _ _ => rfl) (fun i i0 i1 => by omega))
end CS
