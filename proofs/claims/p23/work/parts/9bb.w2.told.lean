/-! walks, part w2: both told -/
/-- whether told answers yes -/
def tdA (R w v1 v2 : Int) : Prop := (0 ≤ v1 ∧ v1 < R) ∧ (0 ≤ v2 ∧ v2 < R) ∧ v1 ≠ v2 ∧ w < 10
section WC2
variable {xs : Nat → Int} {xl e : Nat} {h g : LH} {Q : Option LV → LH → Prop} {v1 v2 v3 : Int}
theorem E_toldX (he : 2 ≤ e) (hI : INV h) (k1 : ∀ g, tdA (rd h (rd h 1 1) 0) (rd h 59 4) v1 v2 → rd g 59 4 = rd h 59 4 + 1 → Q (some (.inl 1)) g) (k0 : ¬ tdA (rd h (rd h 1 1) 0) (rd h 59 4) v1 v2 → Q (some (.inl 0)) h) : Rn xs xl e mm_OneSided_told 0 [some (.inr (.inr 1)), some (.inl v1), some (.inl v2), some (.inl v3)] [] h Q := by
  have w := rG_59_4 hI.1
  have hq := rQf hI.1
  have no : ¬ ((0 ≤ v1 ∧ v1 < rd h (rd h 1 1) 0) ∧ (0 ≤ v2 ∧ v2 < rd h (rd h 1 1) 0) ∧ v1 ≠ v2) → Q (some (.inl 0)) h := fun q => k0 (fun z => q ⟨z.1, z.2.1, z.2.2.1⟩)
  refine B_OneSided_told_0 (t := rd h 1 1) (rSf hI.1) hq rfl rfl (RF_of hI.1) (by omega) ⟨fun c => no (by omega), fun c1 => ⟨fun c => no (by omega), fun c2 => ⟨fun c => no (by omega), fun c3 => ⟨fun c => no (by omega), fun c4 => ⟨fun c5 => ⟨0, by omega, ?_⟩, fun c => no (by omega)⟩⟩⟩⟩⟩
  refine B_Memory_noteWalk_0 (RF_of hI.1) ⟨fun c6 => ⟨by omega, by omega, fun _ => ⟨by omega, ?_⟩, fun _ => ⟨by omega, ?_⟩⟩, fun c6 => ?_⟩
  · have F : RF (wr (wr (wr (wr h 65 (rd h 59 4) v1) 66 (rd h 59 4) v2) 59 7 (zand (rd h 59 7) (zxor (zshl 1 (rd h 59 4)) (-1)))) 59 4 ((rd h 59 4) + 1)) := RF_wn (by decide +kernel) (RF_wn (by decide +kernel) (RF_wn (hav_nr (by decide +kernel) _) (RF_wn (hav_nr (by decide +kernel) _) (RF_of hI.1))))
    have s2 : ∀ j : Nat, rd (wr (wr (wr (wr h 65 (rd h 59 4) v1) 66 (rd h 59 4) v2) 59 7 (zand (rd h 59 7) (zxor (zshl 1 (rd h 59 4)) (-1)))) 59 4 ((rd h 59 4) + 1)) 1 (j : Int) = rd h 1 j := fun j => by rw [rdw_ne (by decide), rdw_ne (by decide), rdw_ne (by decide), rdw_ne (by decide)]
    exact B_OneSided_told_33 (rSf hI.1) hq (s2 2) (s2 1) F ⟨Or.inr rfl, k1 _ ⟨⟨c1, c2⟩, ⟨c3, c4⟩, c5, c6⟩ rdw_eq⟩
  · have F : RF (wr (wr (wr (wr h 65 (rd h 59 4) v1) 66 (rd h 59 4) v2) 59 7 (zor (rd h 59 7) (zshl 1 (rd h 59 4)))) 59 4 ((rd h 59 4) + 1)) := RF_wn (by decide +kernel) (RF_wn (by decide +kernel) (RF_wn (hav_nr (by decide +kernel) _) (RF_wn (hav_nr (by decide +kernel) _) (RF_of hI.1))))
    have s2 : ∀ j : Nat, rd (wr (wr (wr (wr h 65 (rd h 59 4) v1) 66 (rd h 59 4) v2) 59 7 (zor (rd h 59 7) (zshl 1 (rd h 59 4)))) 59 4 ((rd h 59 4) + 1)) 1 (j : Int) = rd h 1 j := fun j => by rw [rdw_ne (by decide), rdw_ne (by decide), rdw_ne (by decide), rdw_ne (by decide)]
    exact B_OneSided_told_33 (rSf hI.1) hq (s2 2) (s2 1) F ⟨Or.inr rfl, k1 _ ⟨⟨c1, c2⟩, ⟨c3, c4⟩, c5, c6⟩ rdw_eq⟩
  · exact B_OneSided_told_33 (rSf hI.1) hq rfl rfl (RF_of hI.1) ⟨Or.inl rfl, k0 (fun z => by have := z.2.2.2; omega)⟩
theorem G_toldX (he : 2 ≤ e) (hI : INV h) (hw : 0 ≤ rd h 198 34 ∧ rd h 198 34 ≤ 10) (k1 : ∀ g, tdA (rd h 188 0) (rd h 198 34) v1 v2 → rd g 198 34 = rd h 198 34 + 1 → Q (some (.inl 1)) g) (k0 : ∀ g, ¬ tdA (rd h 188 0) (rd h 198 34) v1 v2 → rd g 198 34 = rd h 198 34 → Q (some (.inl 0)) g) : Rn xs xl e mm_told 0 [some (.inr (.inr 182)), some (.inl v1), some (.inl v2), some (.inl v3), none] [] h Q := by
  have s0 : rd (wr h 182 0 0) 198 34 = rd h 198 34 := rdw_ne (by decide)
  have no : ¬ ((0 ≤ v1 ∧ v1 < rd h 188 0) ∧ (0 ≤ v2 ∧ v2 < rd h 188 0) ∧ v1 ≠ v2) → Q (some (.inl 0)) (wr h 182 0 0) := fun q => k0 _ (fun z => q ⟨z.1, z.2.1, z.2.2.1⟩) s0
  have e34 : ∀ x, rd (wr (wr (wr (wr h 182 0 0) 198 (3 * (rd h 198 34) + 35) v1) 198 (3 * (rd h 198 34) + 36) v2) 198 (3 * (rd h 198 34) + 37) x) 198 34 = rd h 198 34 := fun x => by
    rw [rdw_nei (by omega), rdw_nei (by omega), rdw_nei (by omega), rdw_ne (by decide)]
  refine B_told_0 (RF_of hI.1) he ⟨fun c => no (by omega), fun c1 => ⟨fun c => no (by omega), fun c2 => ⟨fun c => no (by omega), fun c3 => ⟨fun c => no (by omega), fun c4 => ⟨fun c => no (by omega), fun c5 => ⟨fun c6 => ⟨by omega, by omega, by omega, by omega, by omega, by omega, fun _ => ⟨by omega, by rw [e34]; omega, ?_⟩, fun _ => ⟨by omega, by rw [e34]; omega, ?_⟩⟩, fun c6 => k0 _ (fun z => by have := z.2.2.2; omega) s0⟩⟩⟩⟩⟩⟩
  · exact k1 _ ⟨⟨c1, c2⟩, ⟨c3, c4⟩, c5, by omega⟩ (by rw [rdw_eq, e34])
  · exact k1 _ ⟨⟨c1, c2⟩, ⟨c3, c4⟩, c5, by omega⟩ (by rw [rdw_eq, e34])
end WC2
