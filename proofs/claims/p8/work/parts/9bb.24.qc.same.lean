/-! doors by sort and hour, part qc: what leadsTo is determined to answer is inF -/
/-- the reference's quarter with this law, no price put in -/
def LRQ (h : LH) (L : List Int) : Prop := (L.length = 0 → rd h 188 3 < 0) ∧ (0 < L.length → rd h 188 3 = 0 ∧ rd h 189 (L.length : Int) = 0 ∧ ∀ i : Nat, i < L.length → rd h 189 i = cdO (L.getD i 0) ∧ rd h 190 i = cdA (L.getD i 0)) ∧ L.length ≤ 1000 ∧ hOk 32 L 0 ∧ (0 < L.length → hEnd L 0 = 1) ∧ ∀ c ∈ L, cdR c
section QMc
variable {h : LH} {d s room hr sh : Int} {L : List Int} {f : Int → Int}
theorem LF_in (hI : INV h) (hd : 0 ≤ d ∧ d ≤ 13) (hs : 0 ≤ s ∧ s ≤ 3) (hro : 0 ≤ room ∧ room ≤ 9) (hhr : 0 ≤ hr ∧ hr ≤ 25) (hf : ∀ j : Nat, j < 8 → f ((j : Int) + 1) = rd h 188 (8 * d + 4 + (j : Int))) (h2 : 0 ≤ f 2 ∧ f 2 ≤ 9) (h3 : 0 ≤ f 3 ∧ f 3 ≤ 9) (h6 : -1 ≤ f 6) (p1 : rd h 182 28 = -1) (p2 : rd h 182 29 = -1) (hl : LRQ h L) : LF (key h) d s room hr sh 0 = inF f L s room hr sh d := by
  obtain ⟨l0, l1, l3, hO, hE, hr'⟩ := hl
  have a := (LF_ok (key h) sh 0 hd hs hro hhr).2.2.2 (fun _ => 0) 0 3 h (fun r _ => r = some (.inl (LF (key h) d s room hr sh 0))) (by decide) hI rfl (fun _ _ _ => rfl)
  have b := G_leadsTo0 (xs := fun _ => 0) (xl := 0) (e := 3) (s := s) (room := room) (hr := hr) (sh := sh) (Q := fun r _ => r = some (.inl (inF f L s room hr sh d))) (by decide) hd (RF_of hI.1) hf h2 h3 h6 (by omega) (by omega) l0 l1 l3 hO hE hr' (fun _ => rfl)
  obtain ⟨_, r, _, _, e1, e2⟩ := a.and b
  rw [e1] at e2
  injection e2 with e3
  injection e3 with e4
end QMc
