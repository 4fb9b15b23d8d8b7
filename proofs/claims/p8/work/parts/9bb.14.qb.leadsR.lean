/-! doors by sort and hour, part qb: into which room the reference's door leads -/
section QMb
variable {xs : Nat → Int} {xl e : Nat} {h : LH} {Q : Option LV → LH → Prop} {d s room hr sh : Int} {L : List Int} {f : Int → Int}
theorem lbk_0 : lbk f hr 0 ↔ f 1 = 1 ∧ 12 ≤ hr := by
  unfold lbk
  refine ⟨fun z => z.elim (fun y => y.1) (fun y => absurd y.2 (by decide)), fun z => Or.inl ⟨z, rfl⟩⟩
theorem inF_1 (n : ¬ lbk f hr 0) (r : room = f 2) : (lets f L s hr (f 8) (f 3) → ¬ bitZ sh d → inF f L s room hr sh d = f 3) ∧ (¬ (lets f L s hr (f 8) (f 3) ∧ ¬ bitZ sh d) → inF f L s room hr sh d = -1) := by
  unfold inF wAh wBk
  refine ⟨fun a b => by rw [if_pos ⟨r.symm, ⟨Or.inr n, a⟩, b⟩], fun a => ?_⟩
  rw [if_neg (fun z => a ⟨z.2.1.2, z.2.2⟩), if_neg (fun z => a ⟨?_, z.2.2⟩)]
  have e : f 3 = f 2 := z.1.trans r
  rw [e]
  exact z.2.1.2
theorem inF_2 (n : ¬ lbk f hr 0) (r : room ≠ f 2) (t : s = 3 ∧ room = f 3) : (lets f L s hr (f 8) (f 2) → ¬ bitZ sh d → inF f L s room hr sh d = f 2) ∧ (¬ (lets f L s hr (f 8) (f 2) ∧ ¬ bitZ sh d) → inF f L s room hr sh d = -1) := by
  unfold inF wAh wBk
  refine ⟨fun a b => by rw [if_neg (fun z => r z.1.symm), if_pos ⟨t.2.symm, ⟨Or.inl t.1, a⟩, b⟩], fun a => ?_⟩
  rw [if_neg (fun z => r z.1.symm), if_neg (fun z => a ⟨z.2.1.2, z.2.2⟩)]
theorem inF_3 (n : ¬ lbk f hr 0) (r : room ≠ f 2) (t : ¬ (s = 3 ∧ room = f 3)) : inF f L s room hr sh d = -1 := by
  unfold inF wAh wBk
  rw [if_neg (fun z => r z.1.symm), if_neg (fun z => ?_)]
  rcases z.2.1.1 with y | y
  · exact t ⟨y, z.1.symm⟩
  · exact n y
theorem inF_4 (n : lbk f hr 0) (r : room = f 3) : (lets f L s hr (f 8) (f 2) → ¬ bitZ sh d → inF f L s room hr sh d = f 2) ∧ (¬ (lets f L s hr (f 8) (f 2) ∧ ¬ bitZ sh d) → inF f L s room hr sh d = -1) := by
  unfold inF wAh wBk
  refine ⟨fun a b => ?_, fun a => ?_⟩
  · by_cases z : f 2 = room ∧ ((s = 3 ∨ ¬ lbk f hr 0) ∧ lets f L s hr (f 8) (f 3)) ∧ ¬ bitZ sh d
    · rw [if_pos z, z.1, r]
    · rw [if_neg z, if_pos ⟨r.symm, ⟨Or.inr n, a⟩, b⟩]
  · rw [if_neg (fun z => a ⟨?_, z.2.2⟩), if_neg (fun z => a ⟨z.2.1.2, z.2.2⟩)]
    have e : f 2 = f 3 := z.1.trans r
    rw [e]
    exact z.2.1.2
theorem inF_5 (n : lbk f hr 0) (r : room ≠ f 3) (t : s = 3 ∧ room = f 2) : (lets f L s hr (f 8) (f 3) → ¬ bitZ sh d → inF f L s room hr sh d = f 3) ∧ (¬ (lets f L s hr (f 8) (f 3) ∧ ¬ bitZ sh d) → inF f L s room hr sh d = -1) := by
  unfold inF wAh wBk
  refine ⟨fun a b => by rw [if_pos ⟨t.2.symm, ⟨Or.inl t.1, a⟩, b⟩], fun a => ?_⟩
  rw [if_neg (fun z => a ⟨z.2.1.2, z.2.2⟩), if_neg (fun z => r z.1.symm)]
theorem inF_6 (n : lbk f hr 0) (r : room ≠ f 3) (t : ¬ (s = 3 ∧ room = f 2)) : inF f L s room hr sh d = -1 := by
  unfold inF wAh wBk
  rw [if_neg (fun z => ?_), if_neg (fun z => r z.1.symm)]
  rcases z.2.1.1 with y | y
  · exact t ⟨y, z.1.symm⟩
  · exact y n
theorem G_leadsTo0 (he : 3 ≤ e) (hd : 0 ≤ d ∧ d ≤ 13) (hF : RF h) (hf : ∀ j : Nat, j < 8 → f ((j : Int) + 1) = rd h 188 (8 * d + 4 + (j : Int))) (h2 : 0 ≤ f 2 ∧ f 2 ≤ 9) (h3 : 0 ≤ f 3 ∧ f 3 ≤ 9) (h6 : -1 ≤ f 6) (p1 : d ≠ rd h 182 28) (p2 : d ≠ rd h 182 29)
    (l0 : L.length = 0 → rd h 188 3 < 0) (l1 : 0 < L.length → rd h 188 3 = 0 ∧ rd h 189 (L.length : Int) = 0 ∧ ∀ i : Nat, i < L.length → rd h 189 i = cdO (L.getD i 0) ∧ rd h 190 i = cdA (L.getD i 0)) (l3 : L.length ≤ 1000) (hO : hOk 32 L 0) (hE : 0 < L.length → hEnd L 0 = 1) (hr' : ∀ c ∈ L, cdR c)
    (k : ∀ h', Q (some (.inl (inF f L s room hr sh d))) h') : Rn xs xl e mm_leadsTo 0 [some (.inr (.inr 182)), some (.inl d), some (.inl s), some (.inl room), some (.inl hr), some (.inl sh), some (.inl 0), none, none, none, none, none] [] h Q := by
  have F1 : f 1 = rd h 188 (8 * d + 4) := (hf 0 (by decide)).trans (by rw [show 8 * d + 4 + ((0 : Nat) : Int) = 8 * d + 4 by omega])
  have F2 : f 2 = rd h 188 (8 * d + 5) := (hf 1 (by decide)).trans (by rw [show 8 * d + 4 + ((1 : Nat) : Int) = 8 * d + 5 by omega])
  have F3 : f 3 = rd h 188 (8 * d + 6) := (hf 2 (by decide)).trans (by rw [show 8 * d + 4 + ((2 : Nat) : Int) = 8 * d + 6 by omega])
  have F4 : f 4 = rd h 188 (8 * d + 7) := (hf 3 (by decide)).trans (by rw [show 8 * d + 4 + ((3 : Nat) : Int) = 8 * d + 7 by omega])
  have F5 : f 5 = rd h 188 (8 * d + 8) := (hf 4 (by decide)).trans (by rw [show 8 * d + 4 + ((4 : Nat) : Int) = 8 * d + 8 by omega])
  have F6 : f 6 = rd h 188 (8 * d + 9) := (hf 5 (by decide)).trans (by rw [show 8 * d + 4 + ((5 : Nat) : Int) = 8 * d + 9 by omega])
  have F8 : f 8 = rd h 188 (8 * d + 11) := (hf 7 (by decide)).trans (by rw [show 8 * d + 4 + ((7 : Nat) : Int) = 8 * d + 11 by omega])
  clear hf
  have tail : ∀ (w v8 v9 it : Int), it ≤ 9 → (0 ≤ it → lets f L s hr (f 8) it → ¬ bitZ sh d → inF f L s room hr sh d = it) → (¬ (0 ≤ it ∧ lets f L s hr (f 8) it ∧ ¬ bitZ sh d) → inF f L s room hr sh d = -1) → Rn xs xl e mm_leadsTo 119 [some (.inr (.inr 182)), some (.inl d), some (.inl s), some (.inl room), some (.inl hr), some (.inl sh), some (.inl 0), some (.inl w), some (.inl v8), some (.inl v9), none, none] [.inl it] h Q := by
    intro w v8 v9 it i9 Hy Hn
    by_cases c : 0 ≤ it ∧ rd h 188 (8 * d + 7) ≤ hr ∧ hr < rd h 188 (8 * d + 8) ∧ rd h 188 (8 * d + 4) ≠ 3 ∧ zand (zshr sh d) 1 ≠ 1 ∧ (rd h 188 (8 * d + 9) < 0 ∨ rd h 188 (8 * d + 9) = s ∨ s = 3)
    · have law : ∀ v, v = lawW (fcs hr s (f 8) it) L → (v = 0 → inF f L s room hr sh d = -1) ∧ (v ≠ 0 → inF f L s room hr sh d = it) := fun v hv => ⟨fun z => Hn (fun y => y.2.1.2.2.2.2 (hv.symm.trans z)), fun z => Hy c.1 ⟨by omega, by omega, by omega, by omega, fun y => z (hv.trans y)⟩ c.2.2.2.2.1⟩
      have next : Rn xs xl e mm_leadsTo 196 [some (.inr (.inr 182)), some (.inl d), some (.inl s), some (.inl room), some (.inl hr), some (.inl sh), some (.inl 0), some (.inl w), some (.inl v8), some (.inl v9), some (.inl it), none] [.inl 1] h Q := by
        refine B_leadsTo_196_1 hF (by omega) ⟨fun _ => ⟨fun _ => ⟨by omega, by omega, by omega, by omega, fun q => ?_, fun q => ?_⟩, fun q => absurd q p2⟩, fun q => absurd q p1⟩
        · have z : L.length = 0 := by
            rcases Nat.eq_zero_or_pos L.length with z | z
            · exact z
            · have := (l1 z).1; omega
          have := (law (lawW (fcs hr s (f 8) it) L) rfl).2 (by unfold lawW; rw [if_pos z]; decide)
          rw [← this]
          exact k _
        · have z : 0 < L.length := by
            rcases Nat.eq_zero_or_pos L.length with z | z
            · have := l0 z; omega
            · exact z
          obtain ⟨z3, za, zb⟩ := l1 z
          rw [z3]
          have fr : ∀ a i, a ≠ 196 → rd (wr (wr (wr (wr h 196 0 hr) 196 1 s) 196 2 (rd h 188 (8 * d + 11))) 196 3 it) a i = rd h a i := fun a i n => by rw [rdw_ne (fun q => n q.symm), rdw_ne (fun q => n q.symm), rdw_ne (fun q => n q.symm), rdw_ne (fun q => n q.symm)]
          have h196 : ∀ i, (hav 196 i).1 ≠ 2 := fun i => hav_nr (by decide +kernel) i
          refine ⟨1, by omega, G_worthAt (L := L) (f := fcs hr s (f 8) it) (by omega) (RF_wn (h196 _) (RF_wn (h196 _) (RF_wn (h196 _) (RF_wn (h196 _) hF)))) ((fr _ _ (by decide)).trans za) (fun i hi => ?_) (fun j j0 j1 => ?_) l3 z hO (hE z) hr' (fun h' hF' ff => B_leadsTo_258 hF' ⟨fun y => ?_, fun y => ?_⟩)⟩
          · rw [fr _ _ (by decide), fr _ _ (by decide)]
            exact zb i hi
          · rcases (show j = 0 ∨ j = 1 ∨ j = 2 ∨ j = 3 by omega) with rfl | rfl | rfl | rfl
            · rw [rdw_nei (by decide), rdw_nei (by decide), rdw_nei (by decide), rdw_eq]
              rfl
            · rw [rdw_nei (by decide), rdw_nei (by decide), rdw_eq]
              rfl
            · rw [rdw_nei (by decide), rdw_eq, F8]
              rfl
            · rw [rdw_eq]
              rfl
          · rw [← (law _ rfl).1 y]
            exact k _
          · have := (law _ rfl).2 y
            rw [← this]
            exact k _
      clear law Hy Hn k l0 l1
      refine B_leadsTo_119 hF (by omega) ?_
      (repeat' (first | apply And.intro | intro _)) <;> (first | exact next | omega | (exfalso; omega))
    · have K := Hn (fun y => c ⟨y.1, by have := y.2.1.2.1; omega, by have := y.2.1.2.2.1; omega, by have := y.2.1.1; omega, y.2.2, by have := y.2.1.2.2.2.1; omega⟩)
      have next : Rn xs xl e mm_leadsTo 196 [some (.inr (.inr 182)), some (.inl d), some (.inl s), some (.inl room), some (.inl hr), some (.inl sh), some (.inl 0), some (.inl w), some (.inl v8), some (.inl v9), some (.inl it), none] [.inl 0] h Q := B_leadsTo_196_0 hF (by rw [← K]; exact k _)
      clear Hy Hn k l0 l1
      refine B_leadsTo_119 hF (by omega) ?_
      (repeat' (first | apply And.intro | intro _)) <;> (first | exact next | omega | (exfalso; omega))
  clear k l0 l1
  have b0 := bit0 d
  have t55 : ∀ w : Int, (w = 0 ∨ w = 1) → (w = 1 ↔ lbk f hr 0) → Rn xs xl e mm_leadsTo 55 [some (.inr (.inr 182)), some (.inl d), some (.inl s), some (.inl room), some (.inl hr), some (.inl sh), some (.inl 0), none, none, none, none, none] [.inl w] h Q := by
    intro w w01 hw
    rcases w01 with rfl | rfl
    · have n : ¬ lbk f hr 0 := fun z => absurd (hw.mpr z) (by decide)
      by_cases c1 : room = f 2
      · have T := tail 0 (f 2) (f 3) (f 3) h3.2 (fun _ a b => (inF_1 n c1).1 a b) (fun a => (inF_1 n c1).2 (fun z => a ⟨h3.1, z⟩))
        clear tail
        rw [F2, F3] at T
        refine B_leadsTo_55 hF (by omega) ?_
        (repeat' (first | apply And.intro | intro _)) <;> (first | exact T | omega | (exfalso; omega))
      · by_cases c2 : s = 3 ∧ room = f 3
        · have T := tail 0 (f 2) (f 3) (f 2) h2.2 (fun _ a b => (inF_2 n c1 c2).1 a b) (fun a => (inF_2 n c1 c2).2 (fun z => a ⟨h2.1, z⟩))
          clear tail
          rw [F2, F3] at T
          refine B_leadsTo_55 hF (by omega) ?_
          (repeat' (first | apply And.intro | intro _)) <;> (first | exact T | omega | (exfalso; omega))
        · have T := tail 0 (f 2) (f 3) (-1) (by decide) (fun a => absurd a (by decide)) (fun _ => inF_3 n c1 c2)
          clear tail
          rw [F2, F3] at T
          refine B_leadsTo_55 hF (by omega) ?_
          (repeat' (first | apply And.intro | intro _)) <;> (first | exact T | omega | (exfalso; omega))
    · have n : lbk f hr 0 := hw.mp rfl
      by_cases c1 : room = f 3
      · have T := tail 1 (f 3) (f 2) (f 2) h2.2 (fun _ a b => (inF_4 n c1).1 a b) (fun a => (inF_4 n c1).2 (fun z => a ⟨h2.1, z⟩))
        clear tail
        rw [F2, F3] at T
        refine B_leadsTo_55 hF (by omega) ?_
        (repeat' (first | apply And.intro | intro _)) <;> (first | exact T | omega | (exfalso; omega))
      · by_cases c2 : s = 3 ∧ room = f 2
        · have T := tail 1 (f 3) (f 2) (f 3) h3.2 (fun _ a b => (inF_5 n c1 c2).1 a b) (fun a => (inF_5 n c1 c2).2 (fun z => a ⟨h3.1, z⟩))
          clear tail
          rw [F2, F3] at T
          refine B_leadsTo_55 hF (by omega) ?_
          (repeat' (first | apply And.intro | intro _)) <;> (first | exact T | omega | (exfalso; omega))
        · have T := tail 1 (f 3) (f 2) (-1) (by decide) (fun a => absurd a (by decide)) (fun _ => inF_6 n c1 c2)
          clear tail
          rw [F2, F3] at T
          refine B_leadsTo_55 hF (by omega) ?_
          (repeat' (first | apply And.intro | intro _)) <;> (first | exact T | omega | (exfalso; omega))
  clear tail
  rw [lbk_0, F1] at t55
  by_cases c : rd h 188 (8 * d + 4) = 1 ∧ 12 ≤ hr
  · have T := t55 1 (Or.inr rfl) ⟨fun _ => c, fun _ => rfl⟩
    clear t55
    refine B_leadsTo_0 hF (by omega) ?_
    (repeat' (first | apply And.intro | intro _)) <;> (first | exact T | omega | (exfalso; omega))
  · have T := t55 0 (Or.inl rfl) ⟨fun z => absurd z (by decide), fun z => absurd z c⟩
    clear t55
    refine B_leadsTo_0 hF (by omega) ?_
    (repeat' (first | apply And.intro | intro _)) <;> (first | exact T | omega | (exfalso; omega))
end QMb
