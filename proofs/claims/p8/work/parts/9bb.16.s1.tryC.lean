/-! the scene, part s1: the class's tryDoor -/
/-- into which room one goes through door d in scene sc; -1 if he can't -/
noncomputable def tryF (h : LH) (q sc : Int) (L : List Int) (p d : Int) : Int :=
  if rd h sc 0 < 24 ∧ ¬ bitZ (rd h sc 2) p ∧ rd h (sc + 2) d < rd h (q + 7 + d) 7 then inF (rd h (q + 7 + d)) L (rd h (q + 21 + p) 1) (rd h (sc + 1) p) (rd h sc 0) (rd h sc 1) d else -1
section SC1
variable {xs : Nat → Int} {xl e : Nat} {h : LH} {Q : Option LV → LH → Prop} {p d q sc : Int} {L : List Int}
theorem F_tryDoor (he : 2 ≤ e) (hsc : scn sc) (hc0 : 60 ≤ sc) (hq : q = 5 ∨ q = 32) (hp : 0 ≤ p ∧ p ≤ 5) (hd : 0 ≤ d ∧ d ≤ 13) (hn : d < rd h q 2) (hs : 0 ≤ rd h (q + 21 + p) 1 ∧ rd h (q + 21 + p) 1 ≤ 3) (hh : 0 ≤ rd h sc 0) (hF : RF h) (hP : PT h) (hc : rd h (q + 7 + d) 5 ≤ 24) (hst : ∀ s hr, 0 ≤ s → s ≤ 3 → 0 ≤ hr → hr ≤ 23 → stl h q L h s hr)
    (k0 : tryF h q sc L p d = -1 → Q (some (.inl (-1))) h) (k1 : tryF h q sc L p d ≠ -1 → Q (some (.inl (tryF h q sc L p d))) (wr (wr (wr (wr h (sc + 1) p (tryF h q sc L p d)) (sc + 2) d (w32 (rd h (sc + 2) d + 1))) sc 2 (zor (rd h sc 2) (zshl 1 p))) sc 3 (zor (rd h sc 3) (if tryF h q sc L p d = rd h (q + 21 + p) 3 then zshl 1 p else 0)))) : Rn xs xl e mm_Scene_tryDoor 0 [some (.inr (.inr sc)), some (.inr (.inr q)), some (.inl p), some (.inl d), none, none] [] h Q := by
  unfold tryF at k0 k1
  refine B_Scene_tryDoor_0 hsc hc0 hq hF hP hp hd ⟨fun c => ?_, fun c => ⟨fun c2 => ⟨1, by omega, ?_⟩, fun c2 => ?_⟩⟩
  · rw [if_neg (fun z => absurd z.1 (by omega))] at k0
    exact k0 rfl
  · have nb : ¬ bitZ (rd h sc 2) p := by unfold bitZ; omega
    refine F_into (L := L) (by omega) hq hd hn hs (by omega) hF hP hc hst ?_
    refine B_Scene_tryDoor_54 hsc hc0 hq hF hP hp hd ⟨fun z => ?_, fun z => ⟨fun c3 => ⟨fun c4 => ?_, fun c4 => ?_⟩, fun c3 => ?_⟩⟩
    · by_cases c3 : rd h (sc + 2) d < rd h (q + 7 + d) 7
      · rw [if_pos ⟨c, nb, c3⟩] at k0
        exact k0 z
      · rw [if_neg (fun y => c3 y.2.2)] at k0
        exact k0 rfl
    · rw [if_pos ⟨c, nb, c3⟩] at k1
      have := k1 z
      rw [if_neg c4] at this
      exact this
    · rw [if_pos ⟨c, nb, c3⟩] at k1
      have := k1 z
      rw [if_pos c4] at this
      exact this
    · rw [if_neg (fun y => absurd y.2.2 (by omega))] at k0
      exact k0 rfl
  · have nb : bitZ (rd h sc 2) p := by have := bitZ_01 (rd h sc 2) p; unfold bitZ; omega
    rw [if_neg (fun z => z.2.1 nb)] at k0
    exact k0 rfl
end SC1
