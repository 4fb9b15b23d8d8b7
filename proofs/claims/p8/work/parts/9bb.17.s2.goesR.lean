/-! the scene, part s2: the reference's goes -/
noncomputable def goF (h : LH) (b p d : Int) : Int := if rd h 198 (b + p + 14) ≠ 1 ∧ rd h 198 (b + d + 20) < rd h 188 (8 * d + 10) then NW (key h) (rd h 198 (b + 1)) (rd h 188 (4 * p + 116)) d (rd h 198 (b + p + 2)) (rd h 198 b) else -1
/-- one has gone: r the room -/
def gone (b p d r : Int) (h g : LH) : Prop := rd g 198 (b + p + 2) = r ∧ rd g 198 (b + p + 14) = 1 ∧ rd g 198 (b + d + 20) = rd h 198 (b + d + 20) + 1 ∧ rd g 198 (b + p + 8) = (if r = rd h 188 (4 * p + 118) then 1 else rd h 198 (b + p + 8)) ∧ ∀ a i, a ≠ 196 → a ≠ 197 → ¬ (a = 198 ∧ (i = b + p + 2 ∨ i = b + p + 14 ∨ i = b + d + 20 ∨ i = b + p + 8)) → rd g a i = rd h a i
section SC2
variable {xs : Nat → Int} {xl e : Nat} {h : LH} {Q : Option LV → LH → Prop} {b p d : Int}
theorem G_goes (he : 5 ≤ e) (hI : INV h) (hb : 0 ≤ b ∧ b ≤ 1540) (hp : 0 ≤ p ∧ p ≤ 5) (hd : 0 ≤ d ∧ d ≤ 13) (hs : 0 ≤ rd h 188 (4 * p + 116) ∧ rd h 188 (4 * p + 116) ≤ 3) (hro : 0 ≤ rd h 198 (b + p + 2) ∧ rd h 198 (b + p + 2) ≤ 9) (hhr : 0 ≤ rd h 198 b ∧ rd h 198 b ≤ 24) (hct : 0 ≤ rd h 198 (b + d + 20) ∧ rd h 198 (b + d + 20) ≤ 100000) (hr9 : -1 ≤ goF h b p d ∧ goF h b p d ≤ 9)
    (k0 : goF h b p d = -1 → ∀ g, frL h g → Q (some (.inl (-1))) g) (k1 : 0 ≤ goF h b p d → ∀ g, gone b p d (goF h b p d) h g → Q (some (.inl (goF h b p d))) g) : Rn xs xl e mm_goes 0 [some (.inr (.inr 182)), some (.inl b), some (.inl p), some (.inl d), none] [] h Q := by
  have t70 : ∀ g, RF g → frL h g → Rn xs xl e mm_goes 70 [some (.inr (.inr 182)), some (.inl b), some (.inl p), some (.inl d), none] [.inl (goF h b p d)] g Q := by
    intro g gF gf
    have f188 : ∀ i, rd g 188 i = rd h 188 i := fun i => gf _ _ (by decide) (by decide)
    have f198 : ∀ i, rd g 198 i = rd h 198 i := fun i => gf _ _ (by decide) (by decide)
    have e20 : rd (wr (wr g 198 (b + p + 2) (goF h b p d)) 198 (b + p + 14) 1) 198 (b + d + 20) = rd h 198 (b + d + 20) := by
      rw [rdw_nei (by omega), rdw_nei (by omega)]
      exact f198 _
    have fin : ∀ w, w = (if goF h b p d = rd h 188 (4 * p + 118) then 1 else rd h 198 (b + p + 8)) → gone b p d (goF h b p d) h (wr (wr (wr (wr g 198 (b + p + 2) (goF h b p d)) 198 (b + p + 14) 1) 198 (b + d + 20) (rd h 198 (b + d + 20) + 1)) 198 (b + p + 8) w) := by
      intro w hw
      refine ⟨?_, ?_, ?_, ?_, fun a i n1 n2 n3 => ?_⟩
      · rw [rdw_nei (by omega), rdw_nei (by omega), rdw_nei (by omega), rdw_eq]
      · rw [rdw_nei (by omega), rdw_nei (by omega), rdw_eq]
      · rw [rdw_nei (by omega), rdw_eq]
      · rw [rdw_eq, hw]
      · by_cases c : a = 198
        · subst c
          rw [rdw_nei (fun z => n3 ⟨rfl, by omega⟩), rdw_nei (fun z => n3 ⟨rfl, by omega⟩), rdw_nei (fun z => n3 ⟨rfl, by omega⟩), rdw_nei (fun z => n3 ⟨rfl, by omega⟩)]
          exact f198 i
        · rw [rdw_ne (fun z => c z.symm), rdw_ne (fun z => c z.symm), rdw_ne (fun z => c z.symm), rdw_ne (fun z => c z.symm)]
          exact gf a i n1 n2
    refine B_goes_70 gF hb hp hd hr9 (by omega) ⟨fun c => ?_, fun c => ?_⟩
    · have e1 : goF h b p d = -1 := by omega
      rw [e1]
      exact k0 e1 g gf
    · rw [e20]
      have e8 : rd (wr (wr (wr g 198 (b + p + 2) (goF h b p d)) 198 (b + p + 14) 1) 198 (b + d + 20) (rd h 198 (b + d + 20) + 1)) 198 (b + p + 8) = rd h 198 (b + p + 8) := by
        rw [rdw_nei (by omega), rdw_nei (by omega), rdw_nei (by omega)]
        exact f198 _
      rw [e8, f188]
      exact ⟨by omega, fun c2 => k1 c _ (fin _ (by rw [if_neg c2])), fun c2 => k1 c _ (fin _ (by rw [if_pos c2]))⟩
  refine B_goes_0 (RF_of hI.1) hb hp hd (by omega) ⟨fun c => ?_, fun c => ⟨fun c2 => ⟨4, by omega, ?_⟩, fun c2 => ?_⟩⟩
  · have := t70 h (RF_of hI.1) (fun _ _ _ _ => rfl)
    unfold goF at this
    rw [if_neg (fun z => z.1 c)] at this
    exact this
  · refine D_leadsNow (K := key h) (S := rd h 198) (by omega) ⟨hI, rfl, rfl⟩ hb hd hs hro (by omega) (fun g w gf => ?_)
    have := t70 g (RF_of w.1.1) gf
    unfold goF at this
    rw [if_pos ⟨c, c2⟩] at this
    exact this
  · have := t70 h (RF_of hI.1) (fun _ _ _ _ => rfl)
    unfold goF at this
    rw [if_neg (fun z => absurd z.2 (by omega))] at this
    exact this
end SC2
