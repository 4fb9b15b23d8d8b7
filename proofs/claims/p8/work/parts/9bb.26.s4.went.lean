/-! the scene, part s4: alike after both have gone -/
section SC4
variable {h g : LH} {sc b p d r c : Int}
/-- in scene sc one has gone: r the room, c where his errand is -/
def wntC (sc p d r c : Int) (h g : LH) : Prop := rd g sc 0 = rd h sc 0 ∧ rd g sc 1 = rd h sc 1 ∧ rd g sc 2 = zor (rd h sc 2) (zshl 1 p) ∧ rd g sc 3 = zor (rd h sc 3) (if r = c then zshl 1 p else 0) ∧ (∀ i, 0 ≤ i → i < 6 → rd g (sc + 1) i = if i = p then r else rd h (sc + 1) i) ∧ ∀ i, 0 ≤ i → i < 14 → rd g (sc + 2) i = if i = d then w32 (rd h (sc + 2) d + 1) else rd h (sc + 2) i
def wntR (b p d r : Int) (h g : LH) : Prop := rd g 198 (b + p + 2) = r ∧ rd g 198 (b + p + 14) = 1 ∧ rd g 198 (b + d + 20) = rd h 198 (b + d + 20) + 1 ∧ rd g 198 (b + p + 8) = (if r = rd h 188 (4 * p + 118) then 1 else rd h 198 (b + p + 8)) ∧ ∀ i, b ≤ i → i < b + 34 → ¬ (i = b + p + 2 ∨ i = b + p + 14 ∨ i = b + d + 20 ∨ i = b + p + 8) → rd g 198 i = rd h 198 i
theorem SR_went (hs : SR h sc b) (hp : 0 ≤ p ∧ p < rd h 188 2) (hpp : rd h 188 2 ≤ 6) (hd : 0 ≤ d ∧ d < 14) (hct : rd h 198 (b + d + 20) < 9) (ec : c = rd h 188 (4 * p + 118)) (k188 : rd g 188 2 = rd h 188 2) (hc : wntC sc p d r c h g) (hr : wntR b p d r h g) : SR g sc b := by
  obtain ⟨s1, s2, s3, s4, s5⟩ := hs
  obtain ⟨c0, c1, c2, c3, cw, ct⟩ := hc
  obtain ⟨g1, g2, g3, g4, k198⟩ := hr
  rw [← ec] at g4
  have bd : ∀ x, 0 ≤ x → x < 32 → (bitZ (rd g sc 3) x ↔ bitZ (rd h sc 3) x ∨ r = c ∧ x = p) := fun x x0 x1 => by
    rw [c3, bit_or x0 x1]
    by_cases z : r = c
    · rw [if_pos z, bit_shl hp.1 (by omega) x0 x1]
      exact ⟨fun y => y.elim Or.inl (fun y => Or.inr ⟨z, y⟩), fun y => y.elim Or.inl (fun y => Or.inr y.2)⟩
    · rw [if_neg z]
      exact ⟨fun y => y.elim Or.inl (fun y => absurd y bit_zero), fun y => y.elim Or.inl (fun y => absurd y.1 z)⟩
  have bg : ∀ x, 0 ≤ x → x < 32 → (bitZ (rd g sc 2) x ↔ bitZ (rd h sc 2) x ∨ x = p) := fun x x0 x1 => by
    rw [c2, bit_or x0 x1, bit_shl hp.1 (by omega) x0 x1]
  refine ⟨?_, ?_, fun x x0 x1 => ?_, fun x x0 x1 => ?_, fun x x0 x1 => ?_⟩
  · rw [c0, k198 b (by omega) (by omega) (by omega)]; exact s1
  · rw [c1, k198 (b + 1) (by omega) (by omega) (by omega)]; exact s2
  · rw [k188] at x1
    obtain ⟨a1, a2, a3⟩ := s3 x x0 x1
    by_cases z : x = p
    · subst z
      refine ⟨by rw [cw x x0 (by omega), if_pos rfl, g1], ?_, Or.inr ⟨g2, (bg x x0 (by omega)).mpr (Or.inr rfl)⟩⟩
      rw [g4]
      unfold bt
      rw [bd x x0 (by omega)]
      by_cases y : r = c
      · rw [if_pos y]
        exact Or.inr ⟨rfl, Or.inr ⟨y, rfl⟩⟩
      · rw [if_neg y]
        unfold bt at a2
        exact a2.elim (fun w => Or.inl ⟨w.1, fun v => v.elim w.2 (fun v => y v.1)⟩) (fun w => Or.inr ⟨w.1, Or.inl w.2⟩)
    · rw [cw x x0 (by omega), if_neg z, k198 (b + x + 2) (by omega) (by omega) (by omega), k198 (b + x + 8) (by omega) (by omega) (by omega), k198 (b + x + 14) (by omega) (by omega) (by omega)]
      refine ⟨a1, ?_, ?_⟩
      · unfold bt at a2 ⊢
        rw [bd x x0 (by omega)]
        exact a2.elim (fun w => Or.inl ⟨w.1, fun v => v.elim w.2 (fun v => z v.2)⟩) (fun w => Or.inr ⟨w.1, Or.inl w.2⟩)
      · unfold bt at a3 ⊢
        rw [bg x x0 (by omega)]
        exact a3.elim (fun w => Or.inl ⟨w.1, fun v => v.elim w.2 (fun v => z v)⟩) (fun w => Or.inr ⟨w.1, Or.inl w.2⟩)
  · rw [ct x x0 x1]
    have e := s4 d hd.1 hd.2
    by_cases z : x = d
    · rw [if_pos z, z, g3, e.1]
      exact ⟨w32_id (by unfold i32; omega), by omega, by omega⟩
    · rw [if_neg z, k198 (b + x + 20) (by omega) (by omega) (by omega)]
      exact s4 x x0 x1
  · rw [k188] at x0
    rw [bd x (by omega) x1]
    exact fun v => v.elim (s5 x x0 x1) (fun v => by omega)
end SC4
