/-! p3, part b1: the law's text, token by token; the class reads it so -/
section EXS
variable (o v w p : Nat → Int)
def exO (lv : Nat) (k : Nat) : Int := if lv = 0 then (if w k = 23 then 10005 else if w k = 24 then 10006 else -1) else if lv = 1 then (if o k = 3 ∧ v k = 60 then 10007 else if o k = 3 ∧ v k = 61 then 10008 else -1) else if lv = 2 then (if o k = 3 ∧ v k = 43 then 10009 else if o k = 3 ∧ v k = 45 then 10010 else -1) else (if o k = 3 ∧ v k = 42 then 10011 else -1)
def exA (c : Int) (x : (Int × Nat) × List Int) : (Int × Nat) × List Int := (x.1, x.2 ++ [c])
def exL (f : (Int × Nat) × List Int → (Int × Nat) × List Int) (lv : Nat) : Nat → (Int × Nat) × List Int → (Int × Nat) × List Int
  | 0, x => x
  | m + 1, x => if x.1.1 = 0 ∧ exO o v w lv x.1.2 ≠ -1 then exL f lv m (exA (exO o v w lv x.1.2) (f (tkA x.1, x.2))) else x
def exX (P : (Int × Nat) × List Int → (Int × Nat) × List Int) : Nat → (Int × Nat) × List Int → (Int × Nat) × List Int
  | 0 => P
  | j + 1 => fun x => exL o v w (exX P j) (3 - j) (if j = 2 then 1 else 1000) (exX P j x)
def exK (k : Nat) : Bool := decide (o k = 2 ∨ 25 ≤ w k ∨ (o k = 3 ∧ v k = 40) ∨ w k = 22)
def exP : Nat → (Int × Nat) × List Int → (Int × Nat) × List Int
  | 0, x => (if exK o v w x.1.2 = true then tkE p 5 x.1 else tkE p 1 x.1, x.2)
  | r + 1, x => if o x.1.2 = 2 then (tkA x.1, x.2 ++ [v x.1.2]) else if 25 ≤ w x.1.2 then (tkA x.1, x.2 ++ [w x.1.2 + 9975]) else if o x.1.2 = 3 ∧ v x.1.2 = 40 then (tkS o v p 41 (exX o v w (exP r) 4 (tkA x.1, x.2)).1, (exX o v w (exP r) 4 (tkA x.1, x.2)).2) else if w x.1.2 = 22 then exA 10004 (exP r (tkA x.1, x.2)) else (tkE p 1 x.1, x.2)
end EXS
/-- the class's law so far -/
def LWK (h : LH) (q : Int) (L : List Int) : Prop := rd h q 6 = L.length ∧ ∀ i : Nat, i < L.length → rd h (q + 3) i = L.getD i 0
def muE (q a i : Int) : Prop := muR a i ∨ (a = q ∧ i = 6) ∨ a = q + 3
def frE (q : Int) (h h' : LH) : Prop := ∀ a i, ¬ muE q a i → rd h' a i = rd h a i
theorem frE.refl {q : Int} {h : LH} : frE q h h := fun _ _ _ => rfl
theorem frE.trans {q : Int} {h h1 h2 : LH} (a : frE q h h1) (b : frE q h1 h2) : frE q h h2 := fun x i hn => (b x i hn).trans (a x i hn)
theorem frK.E {q : Int} {h h' : LH} (f : frK h h') : frE q h h' := fun a i hn => f a i (fun z => hn (Or.inl z))
theorem hav_law {q : Int} (hq : q = 5 ∨ q = 32) (i : Int) : (hav (q + 3) i).1 ≠ 2 := by
  rcases hq with rfl | rfl
  · unfold hav
    rw [show RGL[((5 : Int) + 3).toNat]? = some [(0, -2147483648, 2147483647, 1)] by decide +kernel]
    simp only [List.length_singleton, Nat.mod_one]
    decide
  · unfold hav
    rw [show RGL[((32 : Int) + 3).toNat]? = some [(0, -2147483648, 2147483647, 1)] by decide +kernel]
    simp only [List.length_singleton, Nat.mod_one]
    decide
theorem hav_q6 {q : Int} (hq : q = 5 ∨ q = 32) : (hav q 6).1 ≠ 2 := by
  rcases hq with rfl | rfl <;> decide +kernel
theorem RF_fe {q : Int} {h h' : LH} (hq : q = 5 ∨ q = 32) (hF : RF h) (hf : frE q h h') : RF h' := by
  intro a j c hv he
  by_cases z : muE q a j
  · exfalso
    rcases z with z | z | z
    · obtain ⟨rfl, q1, q2⟩ := z
      have := hav_R (j := j) (by omega) (by omega)
      rw [he] at this
      exact absurd rfl this
    · obtain ⟨rfl, q1⟩ := z
      have := hav_q6 hq
      rw [← q1, he] at this
      exact absurd rfl this
    · subst z
      have := hav_law hq (j : Int)
      rw [he] at this
      exact absurd rfl this
  · rw [hf a j z]
    exact hF a j c hv he
section CC
variable {xs : Nat → Int} {xl e : Nat} {h : LH} {Q : Option LV → LH → Prop} {v1 v2 v3 : Int} {T : Int → Int} {n : Int} {W : Int → Int} {s : Int × Nat} {q : Int} {x : (Int × Nat) × List Int} {g : Int}
theorem CSK_fr {h' : LH} (hF : RF h') (hf : ∀ a i, a ≤ 4 → rd h' a i = rd h a i) (hs : CSK T n W h s) : CSK T n W h' s := by
  obtain ⟨⟨c1, ⟨t1, t2, t3⟩, c3⟩, h2, h3, h4⟩ := hs
  refine ⟨⟨hF, ⟨(hf _ _ (by decide)).trans t1, fun i i0 i1 => (hf _ _ (by decide)).trans (t2 i i0 i1), t3⟩, ?_⟩, (hf _ _ (by decide)).trans h2, ?_, fun hz => ?_⟩
  · rw [← c3]; funext i; exact hf _ _ (by decide)
  · rw [hf _ _ (by decide)]; exact h3
  · obtain ⟨d1, d2, d3, d4, d5⟩ := h4 hz
    exact ⟨(hf _ _ (by decide)).trans d1, (hf _ _ (by decide)).trans d2, fun z => (hf _ _ (by decide)).trans (d3 z), fun z1 z2 => (hf _ _ (by decide)).trans (d4 z1 z2), (hf _ _ (by decide)).trans d5⟩
/-- the class is at x in the law's text; g: tokens that no code came of -/
def CEK (T : Int → Int) (n : Int) (W : Int → Int) (q : Int) (g : Int) (h : LH) (x : (Int × Nat) × List Int) : Prop := CSK T n W h x.1 ∧ (0 ≤ rd h q 6 ∧ rd h q 6 ≤ 1000) ∧ (x.1.1 = 0 → LWK h q x.2 ∧ (x.2.length : Int) + g ≤ x.1.2 ∧ x.1.2 ≤ 1000)
theorem CEK_fr (hq : q = 5 ∨ q = 32) {h' : LH} {s' : Int × Nat} {g' : Int} (hx : CEK T n W q g h x) (hs : CSK T n W h' s') (hf : frK h h') (h0 : s'.1 = 0 → x.1.1 = 0 ∧ (x.2.length : Int) + g' ≤ s'.2 ∧ s'.2 ≤ 1000) : CEK T n W q g' h' (s', x.2) := by
  have e6 : rd h' q 6 = rd h q 6 := hf _ _ (by unfold muR; omega)
  refine ⟨hs, by rw [e6]; exact hx.2.1, fun hz => ?_⟩
  obtain ⟨z0, z1⟩ := h0 hz
  obtain ⟨⟨l1, l2⟩, l3⟩ := hx.2.2 z0
  exact ⟨⟨e6.trans l1, fun i hi => (hf _ _ (by unfold muR; omega)).trans (l2 i hi)⟩, z1⟩
theorem getD_app {L : List Int} {c : Int} {i : Nat} (hi : i < (L ++ [c]).length) : (L ++ [c]).getD i 0 = if i < L.length then L.getD i 0 else c := by
  rw [List.length_append, List.length_singleton] at hi
  by_cases z : i < L.length
  · rw [if_pos z, List.getD_eq_getElem?_getD, List.getElem?_append_left z, List.getD_eq_getElem?_getD]
  · rw [if_neg z, List.getD_eq_getElem?_getD, List.getElem?_append_right (by omega), show i - L.length = 0 by omega]
    rfl
theorem F_addLaw (hq : q = 5 ∨ q = 32) (hx : CEK T n W q g h x) (hl : x.1.1 = 0 → x.2.length < 1000) (k : ∀ h', CEK T n W q (g - 1) h' (exA v1 x) → frE q h h' → (∀ a i, a ≤ 4 → rd h' a i = rd h a i) → Q none h') : Rn xs xl e mm_Quarter_addLaw 0 [some (.inr (.inr q)), some (.inl v1)] [] h Q := by
  obtain ⟨c1, c2, c3⟩ := hx
  refine B_Quarter_addLaw_0 hq c1.1.1 ⟨fun z => ?_, fun z => ⟨by omega, by omega, ?_⟩⟩
  · refine k h ⟨c1, c2, fun hz => ?_⟩ frE.refl (fun _ _ _ => rfl)
    have l := hl hz
    have := (c3 hz).1.1
    omega
  · have f1 : frE q h (wr (wr h (q + 3) (rd h q 6) v1) q 6 (rd h q 6 + 1)) := by
      intro a i hn
      unfold muE at hn
      rw [rd_wr, if_neg (fun z => hn (by omega)), rd_wr, if_neg (fun z => hn (by omega))]
    have f2 : ∀ a i, a ≤ 4 → rd (wr (wr h (q + 3) (rd h q 6) v1) q 6 (rd h q 6 + 1)) a i = rd h a i := by
      intro a i ha
      rw [rd_wr, if_neg (fun z => by omega), rd_wr, if_neg (fun z => by omega)]
    refine k _ ⟨CSK_fr (RF_fe hq c1.1.1 f1) f2 c1, by rw [rdw_eq]; omega, fun hz => ?_⟩ f1 f2
    obtain ⟨⟨l1, l2⟩, l3⟩ := c3 hz
    refine ⟨⟨?_, fun i hi => ?_⟩, ?_⟩
    · rw [rdw_eq, l1]
      show _ = (((x.2 ++ [v1]).length : Nat) : Int)
      rw [List.length_append, List.length_singleton]
      omega
    · have hi' := hi
      change i < (x.2 ++ [v1]).length at hi'
      show _ = (x.2 ++ [v1]).getD i 0
      rw [getD_app hi', rdw_ne (by omega)]
      rw [List.length_append, List.length_singleton] at hi'
      by_cases z2 : i < x.2.length
      · rw [if_pos z2, rdw_nei (by omega)]; exact l2 i z2
      · rw [if_neg z2, show (i : Int) = rd h q 6 by omega]; exact rdw_eq
    · show (((x.2 ++ [v1]).length : Nat) : Int) + (g - 1) ≤ x.1.2 ∧ x.1.2 ≤ 1000
      rw [List.length_append, List.length_singleton]
      omega
theorem F_operatorOf (he : 1 ≤ e) (hs : CSK T n W h s) (hz : s.1 = 0) {lv : Nat} (hl : lv ≤ 3) (k : Q (some (.inl (exO (tO T n) (tV T n 32) (tW T n 32 W) lv s.2))) h) : Rn xs xl e mm_Reader_operatorOf 0 [some (.inr (.inr 2)), some (.inl (lv : Int))] [] h Q := by
  have hF := hs.1.1
  have ew := CS_w hs hz
  refine B_Reader_operatorOf_0 hF ⟨fun c => ?_, fun c => ?_, fun c => ?_, fun c => ?_⟩
  · have e0 : lv = 0 := by omega
    subst e0
    unfold exO at k
    rw [if_pos rfl, ← ew] at k
    refine B_Reader_operatorOf_28 hF ⟨fun c1 => ⟨fun c2 => ?_, fun c2 => ?_⟩, fun c1 => ?_⟩
    · rw [if_neg c1, if_neg c2] at k; exact k
    · rw [if_neg c1, if_pos c2] at k; exact k
    · rw [if_pos c1] at k; exact k
  · have e0 : lv = 1 := by omega
    subst e0
    unfold exO at k
    rw [if_neg (by decide), if_pos rfl] at k
    refine B_Reader_operatorOf_60 hF ⟨0, by omega, F_isSign hs (fun r r01 hr => B_Reader_operatorOf_66 hF ⟨fun z => ⟨0, by omega, F_isSign hs (fun r2 r201 hr2 => B_Reader_operatorOf_81 hF ⟨fun z2 => ?_, fun z2 => ?_⟩)⟩, fun z => ?_⟩)⟩
    · rw [if_neg (fun y => by have := (hr hz).mpr y; omega), if_neg (fun y => by have := (hr2 hz).mpr y; omega)] at k; exact k
    · rw [if_neg (fun y => by have := (hr hz).mpr y; omega), if_pos ((hr2 hz).mp (by omega))] at k; exact k
    · rw [if_pos ((hr hz).mp (by omega))] at k; exact k
  · have e0 : lv = 2 := by omega
    subst e0
    unfold exO at k
    rw [if_neg (by decide), if_neg (by decide), if_pos rfl] at k
    refine B_Reader_operatorOf_92 hF ⟨0, by omega, F_isSign hs (fun r r01 hr => B_Reader_operatorOf_98 hF ⟨fun z => ⟨0, by omega, F_isSign hs (fun r2 r201 hr2 => B_Reader_operatorOf_113 hF ⟨fun z2 => ?_, fun z2 => ?_⟩)⟩, fun z => ?_⟩)⟩
    · rw [if_neg (fun y => by have := (hr hz).mpr y; omega), if_neg (fun y => by have := (hr2 hz).mpr y; omega)] at k; exact k
    · rw [if_neg (fun y => by have := (hr hz).mpr y; omega), if_pos ((hr2 hz).mp (by omega))] at k; exact k
    · rw [if_pos ((hr hz).mp (by omega))] at k; exact k
  · have e0 : lv = 3 := by omega
    subst e0
    unfold exO at k
    rw [if_neg (by decide), if_neg (by decide), if_neg (by decide)] at k
    refine B_Reader_operatorOf_124 hF ⟨0, by omega, F_isSign hs (fun r r01 hr => B_Reader_operatorOf_130 hF ⟨fun z => ?_, fun z => ?_⟩)⟩
    · rw [if_neg (fun y => by have := (hr hz).mpr y; omega)] at k; exact k
    · rw [if_pos ((hr hz).mp (by omega))] at k; exact k
theorem exO_o {lv k : Nat} (hn : exO (tO T n) (tV T n 32) (tW T n 32 W) lv k ≠ -1) : tO T n k ≠ 0 := by
  intro z
  have w0 : tW T n 32 W k = -1 := by unfold tW; rw [if_neg (by omega)]
  apply hn
  unfold exO
  rw [w0, z]
  split
  · rfl
  · split
    · rfl
    · split <;> rfl
end CC
