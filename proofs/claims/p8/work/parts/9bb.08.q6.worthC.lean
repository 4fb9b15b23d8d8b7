/-! the law's worth, part q6: what the codes are worth; the class's lawFor answers it -/
def jn (c a b : Int) : Int := if c = 10005 then (if a ≠ 0 ∧ b ≠ 0 then 1 else 0) else if c = 10006 then (if a ≠ 0 ∨ b ≠ 0 then 1 else 0) else if c = 10007 then (if a < b then 1 else 0) else if c = 10008 then (if a = b then 1 else 0) else if c = 10009 then w32 (a + b) else if c = 10010 then w32 (a - b) else w32 (a * b)
/-- one code: height, values -/
def evC (f : Int → Int) (c : Int) (s : Int × (Int → Int)) : Int × (Int → Int) :=
  if 10004 < c then (s.1 - 1, fun i => if i = s.1 - 2 then jn c (s.2 (s.1 - 2)) (s.2 (s.1 - 1)) else s.2 i)
  else if c = 10004 then (s.1, fun i => if i = s.1 - 1 then (if s.2 (s.1 - 1) = 0 then 1 else 0) else s.2 i)
  else (s.1 + 1, fun i => if i = s.1 then (if c < 10000 then c else f (c - 10000)) else s.2 i)
def evN (f : Int → Int) (L : List Int) : Nat → Int × (Int → Int)
  | 0 => (0, fun _ => 0)
  | m + 1 => evC f (L.getD m 0) (evN f L m)
/-- what the law is worth -/
def lawW (f : Int → Int) (L : List Int) : Int := if L.length = 0 then 1 else (evN f L L.length).2 0
/-- the four facts -/
def fcs (hour sort cost room : Int) (i : Int) : Int := if i = 0 then hour else if i = 1 then sort else if i = 2 then cost else room
theorem evC_1 {f : Int → Int} {c : Int} {s : Int × (Int → Int)} : (evC f c s).1 = if 10004 < c then s.1 - 1 else if c = 10004 then s.1 else s.1 + 1 := by
  unfold evC
  split
  · rfl
  · split <;> rfl
theorem hEnd_step {c k : Int} : hEnd [c] k = if 10004 < c then k - 1 else if c = 10004 then k else k + 1 := rfl
theorem evN_h {f : Int → Int} {L : List Int} : ∀ m : Nat, m ≤ L.length → (evN f L m).1 = hEnd (L.take m) 0
  | 0, _ => by rw [List.take_zero]; rfl
  | m + 1, h => by
    have ih := evN_h (f := f) (L := L) m (by omega)
    have et : L.take (m + 1) = L.take m ++ [L.getD m 0] := by
      rw [List.take_succ, List.getD_eq_getElem?_getD, List.getElem?_eq_getElem (by omega)]
      rfl
    rw [et, hEnd_app, hEnd_step, ← ih]
    exact evC_1
/-- what the heights say of each code -/
theorem hOk_at {B : Int} : ∀ (L : List Int) (k : Int), hOk B L k → ∀ m : Nat, m < L.length → (10004 < L.getD m 0 → 2 ≤ hEnd (L.take m) k) ∧ (L.getD m 0 = 10004 → 1 ≤ hEnd (L.take m) k) ∧ (L.getD m 0 < 10004 → hEnd (L.take m) k < B)
  | [], _, _, m, hm => absurd hm (Nat.not_lt_zero m)
  | c :: L, k, h, m, hm => by
    have h' : if 10004 < c then 2 ≤ k ∧ hOk B L (k - 1) else if c = 10004 then 1 ≤ k ∧ hOk B L k else k < B ∧ hOk B L (k + 1) := h
    cases m with
    | zero =>
      have e : (c :: L).getD 0 0 = c := rfl
      have e2 : hEnd ((c :: L).take 0) k = k := rfl
      rw [e, e2]
      refine ⟨fun z => ?_, fun z => ?_, fun z => ?_⟩
      · rw [if_pos z] at h'; exact h'.1
      · rw [if_neg (by omega), if_pos z] at h'; exact h'.1
      · rw [if_neg (by omega), if_neg (by omega)] at h'; exact h'.1
    | succ m =>
      have e : (c :: L).getD (m + 1) 0 = L.getD m 0 := rfl
      have hm' : m < L.length := by
        have : (c :: L).length = L.length + 1 := rfl
        omega
      have e2 : hEnd ((c :: L).take (m + 1)) k = if 10004 < c then hEnd (L.take m) (k - 1) else if c = 10004 then hEnd (L.take m) k else hEnd (L.take m) (k + 1) := rfl
      rw [e, e2]
      by_cases c1 : 10004 < c
      · rw [if_pos c1] at h' ⊢
        exact hOk_at L _ h'.2 m hm'
      · rw [if_neg c1] at h' ⊢
        by_cases c2 : c = 10004
        · rw [if_pos c2] at h' ⊢
          exact hOk_at L _ h'.2 m hm'
        · rw [if_neg c2] at h' ⊢
          exact hOk_at L _ h'.2 m hm'
theorem hEnd_in {B : Int} : ∀ (L : List Int) (k : Int), hOk B L k → 0 ≤ k → k ≤ B → ∀ m : Nat, m ≤ L.length → 0 ≤ hEnd (L.take m) k ∧ hEnd (L.take m) k ≤ B
  | [], k, _, h0, h1, m, _ => by rw [List.take_nil]; exact ⟨h0, h1⟩
  | c :: L, k, h, h0, h1, m, hm => by
    have h' : if 10004 < c then 2 ≤ k ∧ hOk B L (k - 1) else if c = 10004 then 1 ≤ k ∧ hOk B L k else k < B ∧ hOk B L (k + 1) := h
    cases m with
    | zero => exact ⟨h0, h1⟩
    | succ m =>
      have hm' : m ≤ L.length := by
        have : (c :: L).length = L.length + 1 := rfl
        omega
      have e2 : hEnd ((c :: L).take (m + 1)) k = if 10004 < c then hEnd (L.take m) (k - 1) else if c = 10004 then hEnd (L.take m) k else hEnd (L.take m) (k + 1) := rfl
      rw [e2]
      by_cases c1 : 10004 < c
      · rw [if_pos c1] at h' ⊢
        exact hEnd_in L _ h'.2 (by omega) (by omega) m hm'
      · rw [if_neg c1] at h' ⊢
        by_cases c2 : c = 10004
        · rw [if_pos c2] at h' ⊢
          exact hEnd_in L _ h'.2 h0 h1 m hm'
        · rw [if_neg c2] at h' ⊢
          exact hEnd_in L _ h'.2 (by omega) (by omega) m hm'
section QM6
variable {xs : Nat → Int} {xl e : Nat} {h : LH} {Q : Option LV → LH → Prop} {v0 v1 v2 v3 v4 q : Int} {L : List Int}
theorem F_join (hF : RF h) (hc : 10004 < v0 ∧ v0 ≤ 10011) (k : Q (some (.inl (jn v0 v1 v2))) h) : Rn xs xl e mm_Quarter_join 0 [some (.inl v0), some (.inl v1), some (.inl v2)] [] h Q := by
  unfold jn at k
  refine B_Quarter_join_0 hF ⟨fun c => ?_, fun c => ?_, fun c => ?_, fun c => ?_, fun c => ?_, fun c => ?_, fun c => ?_⟩
  · rw [if_pos c] at k
    exact ⟨fun a => by rw [if_neg (fun z => z.1 a)] at k; exact k, fun a => ⟨fun b => by rw [if_neg (fun z => z.2 b)] at k; exact k, fun b => by rw [if_pos ⟨a, b⟩] at k; exact k⟩⟩
  · rw [if_neg (by omega), if_pos c] at k
    exact ⟨fun a => by rw [if_pos (Or.inl a)] at k; exact k, fun a => ⟨fun b => by rw [if_neg (fun z => z.elim (fun z => z a) (fun z => z b))] at k; exact k, fun b => by rw [if_pos (Or.inr b)] at k; exact k⟩⟩
  · rw [if_neg (by omega), if_neg (by omega), if_pos c] at k
    exact ⟨fun a => by rw [if_neg (by omega)] at k; exact k, fun a => by rw [if_pos a] at k; exact k⟩
  · rw [if_neg (by omega), if_neg (by omega), if_neg (by omega), if_pos c] at k
    exact ⟨fun a => by rw [if_neg a] at k; exact k, fun a => by rw [if_pos a] at k; exact k⟩
  · rw [if_neg (by omega), if_neg (by omega), if_neg (by omega), if_neg (by omega), if_pos c] at k
    exact k
  · rw [if_neg (by omega), if_neg (by omega), if_neg (by omega), if_neg (by omega), if_neg (by omega), if_pos c] at k
    exact k
  · rw [if_neg (by omega), if_neg (by omega), if_neg (by omega), if_neg (by omega), if_neg (by omega), if_neg (by omega)] at k
    exact k
theorem F_fact (hF : RF h) (k : Q (some (.inl (fcs v1 v2 v3 v4 v0))) h) : Rn xs xl e mm_Quarter_fact 0 [some (.inl v0), some (.inl v1), some (.inl v2), some (.inl v3), some (.inl v4)] [] h Q := by
  unfold fcs at k
  refine B_Quarter_fact_0 hF ⟨fun c => ?_, fun c => ?_, fun c => ?_, fun c => ?_⟩
  · rw [if_pos c] at k; exact k
  · rw [if_neg (by omega), if_pos c] at k; exact k
  · rw [if_neg (by omega), if_neg (by omega), if_pos c] at k; exact k
  · rw [if_neg (by omega), if_neg (by omega), if_neg (by omega)] at k; exact k
theorem hav_stk (hq : q = 5 ∨ q = 32) (i : Int) : (hav (q + 4) i).1 ≠ 2 := by
  rcases hq with rfl | rfl
  · exact hav_nr (by decide +kernel) i
  · exact hav_nr (by decide +kernel) i
theorem F_lawFor (he : 1 ≤ e) (hq : q = 5 ∨ q = 32) (hF : RF h) (hl : rd h q 6 = (L.length : Int)) (hc : ∀ i : Nat, i < L.length → rd h (q + 3) i = L.getD i 0) (h3 : L.length ≤ 1000) (hO : hOk 32 L 0) (hE : 0 < L.length → hEnd L 0 = 1) (hr : ∀ c ∈ L, cdR c)
    (k : ∀ h', RF h' → (∀ a i, a ≠ q + 4 → rd h' a i = rd h a i) → Q (some (.inl (lawW (fcs v1 v2 v3 v4) L))) h') : Rn xs xl e mm_Quarter_lawFor 0 [some (.inr (.inr q)), some (.inl v1), some (.inl v2), some (.inl v3), some (.inl v4), none, none, none] [] h Q := by
  have cin : ∀ i : Nat, i < L.length → cdR (L.getD i 0) := fun i hi => hr _ (by
    rw [List.getD_eq_getElem?_getD, List.getElem?_eq_getElem hi]
    exact List.getElem_mem hi)
  have loop : ∀ (d m : Nat) (g : LH) (o7 : Option LV), L.length - m ≤ d → m ≤ L.length → RF g → (∀ a i, a ≠ q + 4 → rd g a i = rd h a i) → (∀ i, 0 ≤ i → i < (evN (fcs v1 v2 v3 v4) L m).1 → rd g (q + 4) i = (evN (fcs v1 v2 v3 v4) L m).2 i) → Rn xs xl e mm_Quarter_lawFor 6 [some (.inr (.inr q)), some (.inl v1), some (.inl v2), some (.inl v3), some (.inl v4), some (.inl (evN (fcs v1 v2 v3 v4) L m).1), some (.inl (m : Int)), o7] [] g Q := by
    intro d
    induction d with
    | zero =>
      intro m g o7 hd hm gF gf gs
      have em : m = L.length := by omega
      subst em
      have hb := hEnd_in L 0 hO (by decide) (by decide) L.length (Nat.le_refl _)
      have eh := evN_h (f := fcs v1 v2 v3 v4) (L := L) L.length (Nat.le_refl _)
      rw [← eh] at hb
      have el : rd g q 6 = (L.length : Int) := (gf _ _ (by omega)).trans hl
      refine B_Quarter_lawFor_6 hq gF hb (by omega) ⟨fun _ => ?_, fun c => by omega⟩
      have K := k g gF gf
      unfold lawW at K
      refine B_Quarter_lawFor_166 hq gF ⟨fun c => ?_, fun c => ?_⟩
      · by_cases z : L.length = 0
        · rw [if_pos z] at K; exact K
        · have := hE (by omega)
          rw [List.take_length] at eh
          omega
      · by_cases z : L.length = 0
        · rw [z] at c
          exact absurd c (by show ¬ (0:Int) < 0; decide)
        · rw [if_neg z] at K
          rw [gs 0 (by decide) c]
          exact K
    | succ d ih =>
      intro m g o7 hd hm gF gf gs
      rcases Nat.lt_or_ge m L.length with lt | ge
      · have hb := hEnd_in L 0 hO (by decide) (by decide) m (by omega)
        have ha := hOk_at L 0 hO m lt
        have eh := evN_h (f := fcs v1 v2 v3 v4) (L := L) m (by omega)
        rw [← eh] at hb ha
        have el : rd g q 6 = (L.length : Int) := (gf _ _ (by omega)).trans hl
        have ec : rd g (q + 3) (m : Int) = L.getD m 0 := (gf _ _ (by omega)).trans (hc m lt)
        have cr := cin m lt
        have nxt : ∀ (g1 : LH), RF g1 → (∀ a i, a ≠ q + 4 → rd g1 a i = rd h a i) → (∀ i, 0 ≤ i → i < (evC (fcs v1 v2 v3 v4) (L.getD m 0) (evN (fcs v1 v2 v3 v4) L m)).1 → rd g1 (q + 4) i = (evC (fcs v1 v2 v3 v4) (L.getD m 0) (evN (fcs v1 v2 v3 v4) L m)).2 i) → ∀ v5, v5 = (evC (fcs v1 v2 v3 v4) (L.getD m 0) (evN (fcs v1 v2 v3 v4) L m)).1 → Rn xs xl e mm_Quarter_lawFor 160 [some (.inr (.inr q)), some (.inl v1), some (.inl v2), some (.inl v3), some (.inl v4), some (.inl v5), some (.inl (m : Int)), some (.inl (L.getD m 0))] [] g1 Q := by
          intro g1 g1F g1f g1s v5 e5
          subst e5
          have := ih (m + 1) g1 (some (.inl (L.getD m 0))) (by omega) (by omega) g1F g1f g1s
          rw [show ((m + 1 : Nat) : Int) = (m : Int) + 1 by omega] at this
          exact B_Quarter_lawFor_160 hq g1F (by omega) this
        have fw : ∀ j x, ∀ a i, a ≠ q + 4 → rd (wr g (q + 4) j x) a i = rd h a i := fun j x a i hn => (rdw_ne (fun z => hn z.symm)).trans (gf a i hn)
        refine B_Quarter_lawFor_6 hq gF hb (by omega) ⟨fun c => by omega, fun _ => ⟨by omega, ?_⟩⟩
        rw [ec]
        generalize evN (fcs v1 v2 v3 v4) L m = S at hb ha gs nxt
        generalize L.getD m 0 = c at ha cr nxt
        obtain ⟨kk, X⟩ := S
        unfold cdR at cr
        refine ⟨fun c1 => ⟨fun c2 => ⟨fun c3 => ?_, fun c3 => ⟨fun c4 => ⟨by omega, 0, by omega, F_fact gF (B_Quarter_lawFor_156 hq gF (by omega) ⟨by omega, ?_⟩)⟩, fun c4 => ⟨by omega, ?_⟩⟩⟩, fun c2 => ⟨fun c3 => ?_, fun c3 => ⟨by omega, fun c4 => ⟨by omega, ?_⟩, fun c4 => ⟨by omega, ?_⟩⟩⟩⟩, fun c1 => ⟨fun c2 => ?_, fun c2 => ⟨by omega, by omega, 0, by omega, F_join gF (by omega) (B_Quarter_lawFor_70 hq gF ⟨by omega, ?_⟩)⟩⟩⟩
        · have := ha.2.2 (by omega)
          have t : kk < 32 := this
          have t2 : 32 ≤ kk := c3
          omega
        · refine nxt _ (RF_wn (hav_stk hq _) gF) (fw _ _) ?_ _ ?_
          · unfold evC
            rw [if_neg (by omega), if_neg (by omega)]
            intro i i0 i1
            have i1' : i < kk + 1 := i1
            show rd (wr g (q + 4) kk _) (q + 4) i = if i = kk then (if c < 10000 then c else _) else X i
            by_cases z : i = kk
            · rw [if_pos z, z, rdw_eq, if_neg (by omega)]
            · rw [if_neg z, rdw_nei (fun y => z y.symm)]
              exact gs i i0 (by show i < kk; omega)
          · rw [evC_1, if_neg (by omega), if_neg (by omega)]
        · refine nxt _ (RF_wn (hav_stk hq _) gF) (fw _ _) ?_ _ ?_
          · unfold evC
            rw [if_neg (by omega), if_neg (by omega)]
            intro i i0 i1
            have i1' : i < kk + 1 := i1
            show rd (wr g (q + 4) kk _) (q + 4) i = if i = kk then (if c < 10000 then c else _) else X i
            by_cases z : i = kk
            · rw [if_pos z, z, rdw_eq, if_pos (by omega)]
            · rw [if_neg z, rdw_nei (fun y => z y.symm)]
              exact gs i i0 (by show i < kk; omega)
          · rw [evC_1, if_neg (by omega), if_neg (by omega)]
        · have t : 1 ≤ kk := ha.2.1 c2
          have t2 : kk ≤ 0 := c3
          omega
        · have t : 1 ≤ kk := ha.2.1 c2
          have gk := gs (kk - 1) (by omega) (by show kk - 1 < kk; omega)
          refine nxt _ (RF_wn (hav_stk hq _) gF) (fw _ _) ?_ _ ?_
          · unfold evC
            rw [if_neg (by omega), if_pos c2]
            intro i i0 i1
            have i1' : i < kk := i1
            show rd (wr g (q + 4) (kk - 1) 0) (q + 4) i = if i = kk - 1 then (if X (kk - 1) = 0 then 1 else 0) else X i
            by_cases z : i = kk - 1
            · rw [if_pos z, z, rdw_eq, if_neg (fun y => c4 (gk.trans y))]
            · rw [if_neg z, rdw_nei (fun y => z y.symm)]
              exact gs i i0 i1
          · rw [evC_1, if_neg (by omega), if_pos c2]
        · have t : 1 ≤ kk := ha.2.1 c2
          have gk := gs (kk - 1) (by omega) (by show kk - 1 < kk; omega)
          refine nxt _ (RF_wn (hav_stk hq _) gF) (fw _ _) ?_ _ ?_
          · unfold evC
            rw [if_neg (by omega), if_pos c2]
            intro i i0 i1
            have i1' : i < kk := i1
            show rd (wr g (q + 4) (kk - 1) 1) (q + 4) i = if i = kk - 1 then (if X (kk - 1) = 0 then 1 else 0) else X i
            by_cases z : i = kk - 1
            · rw [if_pos z, z, rdw_eq, if_pos (gk.symm.trans c4)]
            · rw [if_neg z, rdw_nei (fun y => z y.symm)]
              exact gs i i0 i1
          · rw [evC_1, if_neg (by omega), if_pos c2]
        · have t : 2 ≤ kk := ha.1 c1
          have t2 : kk ≤ 1 := c2
          omega
        · have t : 2 ≤ kk := ha.1 c1
          have g1 := gs (kk - 1) (by omega) (by show kk - 1 < kk; omega)
          have g2 := gs (kk - 2) (by omega) (by show kk - 2 < kk; omega)
          refine nxt _ (RF_wn (hav_stk hq _) gF) (fw _ _) ?_ _ ?_
          · unfold evC
            rw [if_pos c1]
            intro i i0 i1
            have i1' : i < kk - 1 := i1
            show rd (wr g (q + 4) (kk - 2) (jn c (rd g (q + 4) (kk - 2)) (rd g (q + 4) (kk - 1)))) (q + 4) i = if i = kk - 2 then jn c (X (kk - 2)) (X (kk - 1)) else X i
            by_cases z : i = kk - 2
            · rw [if_pos z, z, rdw_eq, g1, g2]
            · rw [if_neg z, rdw_nei (fun y => z y.symm)]
              exact gs i i0 (by show i < kk; omega)
          · rw [evC_1, if_pos c1]
      · exact ih m g o7 (by omega) hm gF gf gs
  exact B_Quarter_lawFor_0 hq hF (loop L.length 0 h none (by omega) (by omega) hF (fun _ _ _ => rfl) (fun i i0 i1 => absurd i1 (by show ¬ i < 0; omega)))
end QM6
