/-! the law's worth, part q7: the reference's worthAt answers it -/
theorem jn_both {c a b : Int} (h : 10004 < c ∧ c ≤ 10011) : bothF (cdO c) a b = jn c a b := by
  unfold bothF jn cdO
  have e : c = 10005 ∨ c = 10006 ∨ c = 10007 ∨ c = 10008 ∨ c = 10009 ∨ c = 10010 ∨ c = 10011 := by omega
  rcases e with rfl | rfl | rfl | rfl | rfl | rfl | rfl <;> rfl
theorem cdO_2 {c : Int} (h : 10004 < c ∧ c ≤ 10011) : cdO c ≠ 0 ∧ cdO c ≠ 1 ∧ cdO c ≠ 2 ∧ cdO c ≠ 3 := by
  have e : c = 10005 ∨ c = 10006 ∨ c = 10007 ∨ c = 10008 ∨ c = 10009 ∨ c = 10010 ∨ c = 10011 := by omega
  unfold cdO
  rcases e with rfl | rfl | rfl | rfl | rfl | rfl | rfl <;> decide
theorem hav_197 (i : Int) : (hav 197 i).1 ≠ 2 := hav_nr (by decide +kernel) i
section QM7
variable {xs : Nat → Int} {xl e : Nat} {h : LH} {Q : Option LV → LH → Prop} {L : List Int} {f : Int → Int}
theorem G_worthAt (he : 1 ≤ e) (hF : RF h) (hz : rd h 189 (L.length : Int) = 0) (hc : ∀ i : Nat, i < L.length → rd h 189 i = cdO (L.getD i 0) ∧ rd h 190 i = cdA (L.getD i 0)) (hf : ∀ j, 0 ≤ j → j ≤ 3 → rd h 196 j = f j) (h3 : L.length ≤ 1000) (h0 : 0 < L.length) (hO : hOk 32 L 0) (hE : hEnd L 0 = 1) (hr : ∀ c ∈ L, cdR c)
    (k : ∀ h', RF h' → (∀ a i, a ≠ 197 → rd h' a i = rd h a i) → Q (some (.inl (lawW f L))) h') : Rn xs xl e mm_worthAt 0 [some (.inr (.inr 182)), some (.inl 0), none, none, none] [] h Q := by
  have cin : ∀ i : Nat, i < L.length → cdR (L.getD i 0) := fun i hi => hr _ (by
    rw [List.getD_eq_getElem?_getD, List.getElem?_eq_getElem hi]
    exact List.getElem_mem hi)
  have loop : ∀ (d m : Nat) (g : LH) (o4 : Option LV), L.length - m ≤ d → m ≤ L.length → RF g → (∀ a i, a ≠ 197 → rd g a i = rd h a i) → (∀ i, 0 ≤ i → i < (evN f L m).1 → rd g 197 i = (evN f L m).2 i) → Rn xs xl e mm_worthAt 4 [some (.inr (.inr 182)), some (.inl 0), some (.inl (evN f L m).1), some (.inl (m : Int)), o4] [] g Q := by
    intro d
    induction d with
    | zero =>
      intro m g o4 hd hm gF gf gs
      have em : m = L.length := by omega
      subst em
      have eh := evN_h (f := f) (L := L) L.length (Nat.le_refl _)
      rw [List.take_length, hE] at eh
      have el : rd g 189 (L.length : Int) = 0 := (gf _ _ (by decide)).trans hz
      have K := k g gF gf
      unfold lawW at K
      rw [if_neg (by omega)] at K
      refine B_worthAt_4 gF ⟨by omega, fun _ => ?_, fun c => absurd el c⟩
      rw [gs 0 (by decide) (by omega)]
      exact K
    | succ d ih =>
      intro m g o4 hd hm gF gf gs
      rcases Nat.lt_or_ge m L.length with lt | ge
      · have hb := hEnd_in L 0 hO (by decide) (by decide) m (by omega)
        have ha := hOk_at L 0 hO m lt
        have eh := evN_h (f := f) (L := L) m (by omega)
        rw [← eh] at hb ha
        have eo : rd g 189 (m : Int) = cdO (L.getD m 0) := (gf _ _ (by decide)).trans (hc m lt).1
        have ea : rd g 190 (m : Int) = cdA (L.getD m 0) := (gf _ _ (by decide)).trans (hc m lt).2
        have cr := cin m lt
        have nxt : ∀ (g1 : LH) (o : Option LV), RF g1 → (∀ a i, a ≠ 197 → rd g1 a i = rd h a i) → (∀ i, 0 ≤ i → i < (evC f (L.getD m 0) (evN f L m)).1 → rd g1 197 i = (evC f (L.getD m 0) (evN f L m)).2 i) → ∀ v2, v2 = (evC f (L.getD m 0) (evN f L m)).1 → Rn xs xl e mm_worthAt 4 [some (.inr (.inr 182)), some (.inl 0), some (.inl v2), some (.inl ((m : Int) + 1)), o] [] g1 Q := by
          intro g1 o g1F g1f g1s v2 e2
          subst e2
          have := ih (m + 1) g1 o (by omega) (by omega) g1F g1f g1s
          rw [show ((m + 1 : Nat) : Int) = (m : Int) + 1 by omega] at this
          exact this
        have fw : ∀ j x, ∀ a i, a ≠ 197 → rd (wr g 197 j x) a i = rd h a i := fun j x a i hn => (rdw_ne (fun z => hn z.symm)).trans (gf a i hn)
        have ff : ∀ j, 0 ≤ j → j ≤ 3 → rd g 196 j = f j := fun j j0 j1 => (gf _ _ (by decide)).trans (hf j j0 j1)
        have mb : (m : Int) < 1000 := by omega
        have mb0 : (0 : Int) ≤ (m : Int) := by omega
        generalize evN f L m = S at hb ha gs nxt
        generalize L.getD m 0 = c at ha cr nxt eo ea
        generalize (m : Int) = mi at *
        clear ih hc cin
        obtain ⟨kk, X⟩ := S
        have hb1 : 0 ≤ kk := hb.1
        have hb2 : kk ≤ 32 := hb.2
        unfold cdR at cr
        have push : ∀ w, c < 10004 → w = (if c < 10000 then c else f (c - 10000)) → ∀ o, Rn xs xl e mm_worthAt 4 [some (.inr (.inr 182)), some (.inl 0), some (.inl (kk + 1)), some (.inl (mi + 1)), o] [] (wr g 197 kk w) Q := by
          intro w c4 hw o
          refine nxt _ _ (RF_wn (hav_197 _) gF) (fw _ _) ?_ _ ?_
          · unfold evC
            rw [if_neg (by omega), if_neg (by omega)]
            intro i i0 i1
            have i1' : i < kk + 1 := i1
            show rd (wr g 197 kk w) 197 i = if i = kk then (if c < 10000 then c else f (c - 10000)) else X i
            by_cases z : i = kk
            · rw [if_pos z, z, rdw_eq, hw]
            · rw [if_neg z, rdw_nei (fun y => z y.symm)]
              exact gs i i0 (by show i < kk; omega)
          · rw [evC_1, if_neg (by omega), if_neg (by omega)]
        rcases (by omega : c < 10000 ∨ (10000 ≤ c ∧ c < 10004) ∨ c = 10004 ∨ 10004 < c) with z | z | z | z
        · have o1 : rd g 189 mi = 1 := by rw [eo]; unfold cdO; rw [if_pos z]
          have a1 : rd g 190 mi = c := by rw [ea]; unfold cdA; rw [if_pos z]
          have t : kk < 32 := ha.2.2 (by omega)
          have P := push c (by omega) (by rw [if_pos z]) (some (.inl (rd g 189 mi)))
          rw [← a1] at P
          exact B_worthAt_4 gF ⟨by omega, fun q => by omega, fun _ => ⟨by omega, fun _ => ⟨fun q => absurd o1 q, fun _ => ⟨by omega, by omega, by omega, by omega, P⟩⟩, fun q => absurd o1 q⟩⟩
        · have o1 : rd g 189 mi = 2 := by rw [eo]; unfold cdO; rw [if_neg (by omega), if_pos z.2]
          have a1 : rd g 190 mi = c - 10000 := by rw [ea]; unfold cdA; rw [if_neg (by omega), if_pos z.2]
          have t : kk < 32 := ha.2.2 z.2
          have P := push (f (c - 10000)) (by omega) (by rw [if_neg (by omega)]) (some (.inl (rd g 189 mi)))
          rw [← ff (c - 10000) (by omega) (by omega), ← a1] at P
          exact B_worthAt_4 gF ⟨by omega, fun q => by omega, fun _ => ⟨by omega, fun q => by omega, fun _ => ⟨fun q => absurd o1 q, fun _ => ⟨fun _ => ⟨by omega, by omega, by omega, by omega, by omega, P⟩, fun q => by omega⟩⟩⟩⟩
        · have o1 : rd g 189 mi = 3 := by rw [eo, z]; decide
          have t : 1 ≤ kk := ha.2.1 z
          have gk := gs (kk - 1) (by omega) (by show kk - 1 < kk; omega)
          have P : ∀ w, w = (if X (kk - 1) = 0 then 1 else 0) → ∀ o, Rn xs xl e mm_worthAt 4 [some (.inr (.inr 182)), some (.inl 0), some (.inl kk), some (.inl (mi + 1)), o] [] (wr g 197 (kk - 1) w) Q := by
            intro w hw o
            refine nxt _ _ (RF_wn (hav_197 _) gF) (fw _ _) ?_ _ ?_
            · unfold evC
              rw [if_neg (by omega), if_pos z]
              intro i i0 i1
              have i1' : i < kk := i1
              show rd (wr g 197 (kk - 1) w) 197 i = if i = kk - 1 then (if X (kk - 1) = 0 then 1 else 0) else X i
              by_cases y : i = kk - 1
              · rw [if_pos y, y, rdw_eq, hw]
              · rw [if_neg y, rdw_nei (fun q => y q.symm)]
                exact gs i i0 i1
            · rw [evC_1, if_neg (by omega), if_pos z]
          exact B_worthAt_4 gF ⟨by omega, fun q => by omega, fun _ => ⟨by omega, fun q => by omega, fun _ => ⟨fun _ => ⟨fun q => absurd o1 q, fun _ => ⟨by omega, by omega, by omega, fun q => ⟨by omega, by omega, P 0 (by rw [if_neg (fun y => q (gk.trans y))]) _⟩, fun q => ⟨by omega, by omega, P 1 (by rw [if_pos (gk.symm.trans q)]) _⟩⟩⟩, fun q => by omega⟩⟩⟩
        · have c2 : 10004 < c ∧ c ≤ 10011 := by omega
          have o1 := cdO_2 c2
          rw [← eo] at o1
          have t : 2 ≤ kk := ha.1 z
          have g1 := gs (kk - 1) (by omega) (by show kk - 1 < kk; omega)
          have g2 := gs (kk - 2) (by omega) (by show kk - 2 < kk; omega)
          refine B_worthAt_4 gF ⟨by omega, fun q => absurd q o1.1, fun _ => ⟨by omega, fun q => absurd q o1.2.1, fun _ => ⟨fun _ => ⟨fun _ => ⟨by omega, by omega, by omega, by omega, by omega, 0, by omega, D_both gF ?_⟩, fun q => absurd q o1.2.2.2⟩, fun q => absurd q o1.2.2.1⟩⟩⟩
          refine B_worthAt_133 gF ⟨by omega, by omega, ?_⟩
          rw [eo, jn_both c2]
          refine nxt _ _ (RF_wn (hav_197 _) gF) (fw _ _) ?_ _ ?_
          · unfold evC
            rw [if_pos z]
            intro i i0 i1
            have i1' : i < kk - 1 := i1
            show rd (wr g 197 (kk - 2) (jn c (rd g 197 (kk - 2)) (rd g 197 (kk - 1)))) 197 i = if i = kk - 2 then jn c (X (kk - 2)) (X (kk - 1)) else X i
            by_cases y : i = kk - 2
            · rw [if_pos y, y, rdw_eq, g1, g2]
            · rw [if_neg y, rdw_nei (fun q => y q.symm)]
              exact gs i i0 (by show i < kk; omega)
          · rw [evC_1, if_pos z]
      · exact ih m g o4 (by omega) hm gF gf gs
  exact B_worthAt_0 hF (loop L.length 0 h none (by omega) (by omega) hF (fun _ _ _ => rfl) (fun i i0 i1 => absurd i1 (by show ¬ i < 0; omega)))
end QM7
