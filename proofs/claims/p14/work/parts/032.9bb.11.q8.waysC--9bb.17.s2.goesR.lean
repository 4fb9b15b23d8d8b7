section
/-! doors by sort and hour, part q8: by which ways the class's doors let a sort by; what settle keeps -/
/-- a quarter with this law -/
def LWQ (h : LH) (q : Int) (L : List Int) : Prop := rd h q 6 = (L.length : Int) ∧ (∀ i : Nat, i < L.length → rd h (q + 3) i = L.getD i 0) ∧ L.length ≤ 1000 ∧ hOk 32 L 0 ∧ (0 < L.length → hEnd L 0 = 1) ∧ ∀ c ∈ L, cdR c
theorem LWQ_fr {h h' : LH} {q : Int} {L : List Int} (hl : LWQ h q L) (f1 : rd h' q 6 = rd h q 6) (f2 : ∀ i : Nat, i < L.length → rd h' (q + 3) i = rd h (q + 3) i) : LWQ h' q L :=
  ⟨f1.trans hl.1, fun i hi => (f2 i hi).trans (hl.2.1 i hi), hl.2.2⟩
/-- a door with the fields f lets sort s by in hour hr into a room -/
def lets (f : Int → Int) (L : List Int) (s hr cost room : Int) : Prop := f 1 ≠ 3 ∧ f 4 ≤ hr ∧ hr < f 5 ∧ (f 6 = -1 ∨ f 6 = s ∨ s = 3) ∧ lawW (fcs hr s cost room) L ≠ 0
/-- it leads back -/
def lbk (f : Int → Int) (hr t : Int) : Prop := ((f 1 = 1 ∧ 12 ≤ hr) ∧ t = 0) ∨ (¬ (f 1 = 1 ∧ 12 ≤ hr) ∧ t = 1)
def wAh (f : Int → Int) (L : List Int) (s hr cost t : Int) : Prop := (s = 3 ∨ ¬ lbk f hr t) ∧ lets f L s hr cost (f 3)
def wBk (f : Int → Int) (L : List Int) (s hr cost t : Int) : Prop := (s = 3 ∨ lbk f hr t) ∧ lets f L s hr cost (f 2)
section QM8
variable {xs : Nat → Int} {xl e : Nat} {h : LH} {Q : Option LV → LH → Prop} {v1 v2 v3 v4 v5 q d : Int} {L : List Int}
theorem F_letsInto (he : 2 ≤ e) (hq : q = 5 ∨ q = 32) (hd : q + 7 ≤ d ∧ d ≤ q + 20) (hF : RF h) (hl : LWQ h q L)
    (k : ∀ r h', (r = 0 ∨ r = 1) → (r = 1 ↔ lets (rd h d) L v2 v3 v4 v5) → RF h' → (∀ a i, a ≠ q + 4 → rd h' a i = rd h a i) → Q (some (.inl r)) h') : Rn xs xl e mm_Quarter_letsInto 0 [some (.inr (.inr q)), some (.inr (.inr d)), some (.inl v2), some (.inl v3), some (.inl v4), some (.inl v5)] [] h Q := by
  have no : (lets (rd h d) L v2 v3 v4 v5 → False) → Q (some (.inl 0)) h := fun z => k 0 h (Or.inl rfl) ⟨fun y => by omega, fun y => (z y).elim⟩ hF (fun _ _ _ => rfl)
  have yes : rd h d 1 ≠ 3 → rd h d 4 ≤ v3 → v3 < rd h d 5 → (rd h d 6 = -1 ∨ rd h d 6 = v2 ∨ v2 = 3) → ∃ c, c < e ∧ Rn xs xl c mm_Quarter_lawFor 0 [some (.inr (.inr q)), some (.inl v3), some (.inl v2), some (.inl v4), some (.inl v5), none, none, none] [] h (fun r h' => Rn xs xl e mm_Quarter_letsInto 59 [some (.inr (.inr q)), some (.inr (.inr d)), some (.inl v2), some (.inl v3), some (.inl v4), some (.inl v5)] (r.toList ++ []) h' Q) := by
    intro a1 a2 a3 a4
    obtain ⟨l1, l2, l3, l4, l5, l6⟩ := hl
    refine ⟨1, by omega, F_lawFor (by omega) hq hF l1 l2 l3 l4 l5 l6 (fun h' hF' f => B_Quarter_letsInto_59 hq hd hF' ⟨fun z => ?_, fun z => ?_⟩)⟩
    · exact k 0 h' (Or.inl rfl) ⟨fun y => by omega, fun y => absurd z y.2.2.2.2⟩ hF' f
    · exact k 1 h' (Or.inr rfl) ⟨fun _ => ⟨a1, a2, a3, a4, z⟩, fun _ => rfl⟩ hF' f
  refine B_Quarter_letsInto_0 hq hd hF ⟨fun c => no (fun z => z.1 c), fun c => ⟨fun c2 => no (fun z => ?_), fun c2 => ⟨fun c3 => ⟨fun c4 => yes c c2 c3 (Or.inl c4), fun c4 => ⟨fun c5 => yes c c2 c3 (Or.inr (Or.inl c5)), fun c5 => ⟨fun c6 => yes c c2 c3 (Or.inr (Or.inr c6)), fun c6 => no (fun z => ?_)⟩⟩⟩, fun c3 => no (fun z => ?_)⟩⟩⟩
  · have := z.2.1; omega
  · rcases z.2.2.2.1 with y | y | y
    · exact c4 y
    · exact c5 y
    · exact c6 y
  · have := z.2.2.1; omega
theorem F_ways (he : 3 ≤ e) (hq : q = 5 ∨ q = 32) (h1 : 0 ≤ v1 ∧ v1 ≤ 13) (h5 : v5 = 0 ∨ v5 = 1) (hF : RF h) (hP : PT h) (hl : LWQ h q L)
    (k : ∀ r h', (r = 0 ∨ r = 1 ∨ r = 2 ∨ r = 3) → ((r = 1 ∨ r = 3) ↔ wAh (rd h (q + 7 + v1)) L v2 v3 v4 v5) → ((r = 2 ∨ r = 3) ↔ wBk (rd h (q + 7 + v1)) L v2 v3 v4 v5) → RF h' → (∀ a i, a ≠ q + 4 → rd h' a i = rd h a i) → Q (some (.inl r)) h') : Rn xs xl e mm_Quarter_ways 0 [some (.inr (.inr q)), some (.inl v1), some (.inl v2), some (.inl v3), some (.inl v4), some (.inl v5), none, none, none] [] h Q := by
  have hd : q + 7 ≤ q + 7 + v1 ∧ q + 7 + v1 ≤ q + 20 := by omega
  -- the second way
  have t77 : ∀ (w r : Int) (g : LH), (w = 0 ∨ w = 1) → (w = 1 ↔ lbk (rd h (q + 7 + v1)) v3 v5) → (r = 0 ∨ r = 1) → (r = 1 ↔ wAh (rd h (q + 7 + v1)) L v2 v3 v4 v5) → RF g → (∀ a i, a ≠ q + 4 → rd g a i = rd h a i) → Rn xs xl e mm_Quarter_ways 77 [some (.inr (.inr q)), some (.inl v1), some (.inl v2), some (.inl v3), some (.inl v4), some (.inl v5), some (.inr (.inr (q + 7 + v1))), some (.inl w), some (.inl r)] [] g Q := by
    intro w r g w01 hw r01 hr gF gf
    have ef : rd g (q + 7 + v1) = rd h (q + 7 + v1) := funext (fun i => gf _ _ (by omega))
    have hlg : LWQ g q L := LWQ_fr hl (gf _ _ (by omega)) (fun i _ => gf _ _ (by omega))
    have call : (v2 = 3 ∨ w = 1) → ∃ c, c < e ∧ Rn xs xl c mm_Quarter_letsInto 0 [some (.inr (.inr q)), some (.inr (.inr (q + 7 + v1))), some (.inl v2), some (.inl v3), some (.inl v4), some (.inl (rd g (q + 7 + v1) 2))] [] g (fun r' h' => Rn xs xl e mm_Quarter_ways 102 [some (.inr (.inr q)), some (.inl v1), some (.inl v2), some (.inl v3), some (.inl v4), some (.inl v5), some (.inr (.inr (q + 7 + v1))), some (.inl w), some (.inl r)] (r'.toList ++ []) h' Q) := by
      intro hv
      refine ⟨2, by omega, F_letsInto (by omega) hq hd gF hlg (fun r' h' q01 qi hF' f => ?_)⟩
      rw [ef] at qi
      have ff : ∀ a i, a ≠ q + 4 → rd h' a i = rd h a i := fun a i n => (f a i n).trans (gf a i n)
      have wb : wBk (rd h (q + 7 + v1)) L v2 v3 v4 v5 ↔ r' = 1 := by
        unfold wBk
        rw [qi, ← hw]
        exact ⟨fun z => z.2, fun z => ⟨hv, z⟩⟩
      refine B_Quarter_ways_102 hq hF' h1 ⟨fun z => B_Quarter_ways_111 hq hF' h1 ?_, fun z => B_Quarter_ways_111 hq hF' h1 ?_⟩
      · exact k r h' (by omega) (by rw [← hr]; omega) (by rw [wb]; omega) hF' ff
      · have e2 : zor r 2 = r + 2 := by rcases r01 with rfl | rfl <;> decide
        rw [e2]
        exact k (r + 2) h' (by omega) (by rw [← hr]; omega) (by rw [wb]; omega) hF' ff
    refine B_Quarter_ways_77 hq gF h1 ⟨fun c => call (Or.inl c), fun c => ⟨fun c2 => B_Quarter_ways_111 hq gF h1 ?_, fun c2 => call (Or.inr (w01.resolve_left c2))⟩⟩
    clear call
    refine k r g (by omega) (by rw [← hr]; omega) ⟨fun z => by omega, fun z => ?_⟩ gF gf
    rcases z.1 with y | y
    · exact absurd y c
    · have := hw.mpr y; omega
  have t38 : ∀ (w : Int), (w = 0 ∨ w = 1) → (w = 1 ↔ lbk (rd h (q + 7 + v1)) v3 v5) → Rn xs xl e mm_Quarter_ways 38 [some (.inr (.inr q)), some (.inl v1), some (.inl v2), some (.inl v3), some (.inl v4), some (.inl v5), some (.inr (.inr (q + 7 + v1))), none, none] [.inl w] h Q := by
    intro w w01 hw
    have call : (v2 = 3 ∨ w = 0) → ∃ c, c < e ∧ Rn xs xl c mm_Quarter_letsInto 0 [some (.inr (.inr q)), some (.inr (.inr (q + 7 + v1))), some (.inl v2), some (.inl v3), some (.inl v4), some (.inl (rd h (q + 7 + v1) 3))] [] h (fun r' h' => Rn xs xl e mm_Quarter_ways 68 [some (.inr (.inr q)), some (.inl v1), some (.inl v2), some (.inl v3), some (.inl v4), some (.inl v5), some (.inr (.inr (q + 7 + v1))), some (.inl w), some (.inl 0)] (r'.toList ++ []) h' Q) := by
      intro hv
      refine ⟨2, by omega, F_letsInto (by omega) hq hd hF hl (fun r' h' q01 qi hF' f => ?_)⟩
      have wa : wAh (rd h (q + 7 + v1)) L v2 v3 v4 v5 ↔ r' = 1 := by
        unfold wAh
        rw [qi, ← hw]
        exact ⟨fun z => z.2, fun z => ⟨hv.elim Or.inl (fun y => Or.inr (by omega)), z⟩⟩
      refine B_Quarter_ways_68 hq hF' h1 ⟨fun z => ?_, fun z => ?_⟩
      · exact t77 w 0 h' w01 hw (Or.inl rfl) (by rw [wa]; omega) hF' f
      · exact t77 w 1 h' w01 hw (Or.inr rfl) (by rw [wa]; omega) hF' f
    refine B_Quarter_ways_38 hq hF h1 ⟨fun c => call (Or.inl c), fun c => ⟨fun c2 => ?_, fun c2 => call (Or.inr c2)⟩⟩
    clear call
    refine t77 w 0 h w01 hw (Or.inl rfl) ⟨fun z => by omega, fun z => ?_⟩ hF (fun _ _ _ => rfl)
    rcases z.1 with y | y
    · exact absurd y c
    · exact absurd (hw.mp (by omega)) y
  refine B_Quarter_ways_0 hq hF hP h1 ⟨fun c => ⟨fun c2 => t38 0 (Or.inl rfl) ?_, fun c2 => t38 1 (Or.inr rfl) ?_⟩, fun c => ⟨fun c1 => ⟨fun c2 => t38 0 (Or.inl rfl) ?_, fun c2 => t38 1 (Or.inr rfl) ?_⟩, fun c1 => ⟨fun c2 => t38 0 (Or.inl rfl) ?_, fun c2 => t38 1 (Or.inr rfl) ?_⟩⟩⟩
  all_goals (unfold lbk; omega)
end QM8
end
section
/-! doors by sort and hour, part q9: what the class's settle keeps -/
/-- row of bits: door j has its bit where P j -/
def bts (x : Int) (P : Int → Prop) : Prop := ∀ j, 0 ≤ j → j < 14 → (bitZ x j ↔ P j)
/-- the doors as settled in sort s and hour hr -/
def stl (h0 : LH) (q : Int) (L : List Int) (h : LH) (s hr : Int) : Prop := bts (rd h (q + 5) (24 * s + hr)) (fun j => j < rd h0 q 2 ∧ wAh (rd h0 (q + 7 + j)) L s hr (rd h0 (q + 7 + j) 8) 0) ∧ bts (rd h (q + 6) (24 * s + hr)) (fun j => j < rd h0 q 2 ∧ wBk (rd h0 (q + 7 + j)) L s hr (rd h0 (q + 7 + j) 8) 0)
theorem hav_ahd {q : Int} (hq : q = 5 ∨ q = 32) (i : Int) : (hav (q + 5) i).1 ≠ 2 := by
  rcases hq with rfl | rfl
  · exact hav_nr (by decide +kernel) i
  · exact hav_nr (by decide +kernel) i
theorem hav_bck {q : Int} (hq : q = 5 ∨ q = 32) (i : Int) : (hav (q + 6) i).1 ≠ 2 := by
  rcases hq with rfl | rfl
  · exact hav_nr (by decide +kernel) i
  · exact hav_nr (by decide +kernel) i
section QM9
variable {xs : Nat → Int} {xl e : Nat} {h : LH} {Q : Option LV → LH → Prop} {v1 v2 v3 v4 v5 q d : Int} {L : List Int}
theorem bts_step {x m : Int} {P : Int → Prop} (hm : 0 ≤ m ∧ m ≤ 13) {w : Int} (hx : bts x (fun j => j < m ∧ P j)) (hw : w = 0 ∧ ¬ P m ∨ w = zshl 1 m ∧ P m) : bts (zor x w) (fun j => j < m + 1 ∧ P j) := by
  intro j j0 j1
  rw [bit_or j0 (by omega), hx j j0 j1]
  rcases hw with ⟨e, n⟩ | ⟨e, n⟩
  · rw [e]
    refine ⟨fun z => z.elim (fun y => ⟨by have := y.1; omega, y.2⟩) (fun y => absurd y bit_zero), fun z => Or.inl ⟨?_, z.2⟩⟩
    have : j ≠ m := fun y => n (by rw [← y]; exact z.2)
    have := z.1
    omega
  · rw [e, bit_shl hm.1 (by omega) j0 (by omega)]
    refine ⟨fun z => z.elim (fun y => ⟨by have := y.1; omega, y.2⟩) (fun y => ⟨by omega, by rw [y]; exact n⟩), fun z => ?_⟩
    by_cases y : j = m
    · exact Or.inr y
    · exact Or.inl ⟨by have := z.1; omega, z.2⟩
theorem F_settleHour (he : 4 ≤ e) (hq : q = 5 ∨ q = 32) (h1 : 0 ≤ v1 ∧ v1 ≤ 3) (h2 : 0 ≤ v2 ∧ v2 ≤ 23) (hF : RF h) (hP : PT h) (hl : LWQ h q L) (hn : 0 ≤ rd h q 2 ∧ rd h q 2 ≤ 14)
    (k : ∀ h', RF h' → (∀ a i, a ≠ q + 4 → a ≠ q + 5 → a ≠ q + 6 → rd h' a i = rd h a i) → (∀ i, i ≠ 24 * v1 + v2 → rd h' (q + 5) i = rd h (q + 5) i ∧ rd h' (q + 6) i = rd h (q + 6) i) → stl h q L h' v1 v2 → Q none h') : Rn xs xl e mm_Quarter_settleHour 0 [some (.inr (.inr q)), some (.inl v1), some (.inl v2), none, none, none, none] [] h Q := by
  have loop : ∀ (n : Nat) (m a b : Int) (g : LH) (o6 : Option LV), rd h q 2 - m ≤ n → 0 ≤ m → m ≤ rd h q 2 → RF g → (∀ a i, a ≠ q + 4 → rd g a i = rd h a i) → bts a (fun j => j < m ∧ wAh (rd h (q + 7 + j)) L v1 v2 (rd h (q + 7 + j) 8) 0) → bts b (fun j => j < m ∧ wBk (rd h (q + 7 + j)) L v1 v2 (rd h (q + 7 + j) 8) 0) → Rn xs xl e mm_Quarter_settleHour 8 [some (.inr (.inr q)), some (.inl v1), some (.inl v2), some (.inl a), some (.inl b), some (.inl m), o6] [] g Q := by
    intro n
    induction n with
    | zero =>
      intro m a b g o6 hd m0 m1 gF gf ha hb
      have em : m = rd h q 2 := by omega
      have gP : PT g := PT_fr hP (fun a i n => gf a i (by omega))
      have e2 : rd g q 2 = rd h q 2 := gf _ _ (by omega)
      subst em
      refine B_Quarter_settleHour_8 hq gF gP (by omega) ⟨fun _ => B_Quarter_settleHour_82 hq gF h1 h2 ?_, fun c => by omega⟩
      refine k _ (RF_wn (hav_bck hq _) (RF_wn (hav_ahd hq _) gF)) (fun a i n1 n2 n3 => ?_) (fun i n1 => ⟨?_, ?_⟩) ⟨?_, ?_⟩
      · rw [rdw_ne (fun z => n3 z.symm), rdw_ne (fun z => n2 z.symm)]
        exact gf a i n1
      · rw [rdw_ne (by omega), rdw_nei (fun z => n1 z.symm)]
        exact gf _ _ (by omega)
      · rw [rdw_nei (fun z => n1 z.symm), rdw_ne (by omega)]
        exact gf _ _ (by omega)
      · rw [rdw_ne (by omega), rdw_eq]
        exact ha
      · rw [rdw_eq]
        exact hb
    | succ n ih =>
      intro m a b g o6 hd m0 m1 gF gf ha hb
      rcases Int.lt_or_le m (rd h q 2) with lt | ge
      · have gP : PT g := PT_fr hP (fun a i n => gf a i (by omega))
        have e2 : rd g q 2 = rd h q 2 := gf _ _ (by omega)
        have hlg : LWQ g q L := LWQ_fr hl (gf _ _ (by omega)) (fun i _ => gf _ _ (by omega))
        have ef : rd g (q + 7 + m) = rd h (q + 7 + m) := funext (fun i => gf _ _ (by omega))
        refine B_Quarter_settleHour_8 hq gF gP (by omega) ⟨fun c => by omega, fun c => ⟨by omega, 3, by omega, F_ways (by omega) hq (by omega) (Or.inl rfl) gF gP hlg (fun r h' r4 ra rb hF' f => ?_)⟩⟩
        rw [ef] at ra rb
        have ff : ∀ a i, a ≠ q + 4 → rd h' a i = rd h a i := fun a i n => (f a i n).trans (gf a i n)
        have st : ∀ (wa wb : Int), (wa = 0 ∧ ¬ (r = 1 ∨ r = 3) ∨ wa = zshl 1 m ∧ (r = 1 ∨ r = 3)) → (wb = 0 ∧ ¬ (r = 2 ∨ r = 3) ∨ wb = zshl 1 m ∧ (r = 2 ∨ r = 3)) → Rn xs xl e mm_Quarter_settleHour 8 [some (.inr (.inr q)), some (.inl v1), some (.inl v2), some (.inl (zor a wa)), some (.inl (zor b wb)), some (.inl (m + 1)), some (.inl r)] [] h' Q := by
          intro wa wb ea eb
          rw [ra] at ea
          rw [rb] at eb
          exact ih (m + 1) _ _ h' _ (by omega) (by omega) (by omega) hF' ff (bts_step (P := fun j => wAh (rd h (q + 7 + j)) L v1 v2 (rd h (q + 7 + j) 8) 0) (by omega) ha ea) (bts_step (P := fun j => wBk (rd h (q + 7 + j)) L v1 v2 (rd h (q + 7 + j) 8) 0) (by omega) hb eb)
        refine B_Quarter_settleHour_36 hq hF' (by omega) ?_
        rcases r4 with rfl | rfl | rfl | rfl
        · exact ⟨fun _ => ⟨fun _ => st 0 0 (by omega) (by omega), fun z => absurd rfl z⟩, fun z => absurd rfl z⟩
        · exact ⟨fun z => absurd z (by decide), fun _ => ⟨fun _ => st _ 0 (Or.inr ⟨rfl, Or.inl rfl⟩) (by omega), fun z => absurd rfl z⟩⟩
        · exact ⟨fun _ => ⟨fun z => absurd z (by decide), fun _ => st 0 _ (by omega) (Or.inr ⟨rfl, Or.inl rfl⟩)⟩, fun z => absurd rfl z⟩
        · exact ⟨fun z => absurd z (by decide), fun _ => ⟨fun z => absurd z (by decide), fun _ => st _ _ (Or.inr ⟨rfl, Or.inr rfl⟩) (Or.inr ⟨rfl, Or.inr rfl⟩)⟩⟩
      · exact ih m a b g o6 (by omega) m0 m1 gF gf ha hb
  have z : ∀ P : Int → Prop, bts 0 (fun j => j < 0 ∧ P j) := fun P j j0 j1 => ⟨fun y => absurd y bit_zero, fun y => by have := y.1; omega⟩
  exact B_Quarter_settleHour_0 hq hF (loop (rd h q 2).toNat 0 0 0 h none (by omega) (by omega) hn.1 hF (fun _ _ _ => rfl) (z _) (z _))
theorem stl_fr {h0 h h' : LH} {s hr : Int} (hs : stl h0 q L h s hr) (f1 : rd h' (q + 5) (24 * s + hr) = rd h (q + 5) (24 * s + hr)) (f2 : rd h' (q + 6) (24 * s + hr) = rd h (q + 6) (24 * s + hr)) : stl h0 q L h' s hr := by
  unfold stl
  rw [f1, f2]
  exact hs
theorem stl_0 {h0 h1 h : LH} {s hr : Int} (f : ∀ a i, a ≠ q + 4 → a ≠ q + 5 → a ≠ q + 6 → rd h1 a i = rd h0 a i) (hs : stl h1 q L h s hr) : stl h0 q L h s hr := by
  have e : ∀ j, 0 ≤ j → rd h1 (q + 7 + j) = rd h0 (q + 7 + j) := fun j j0 => funext (fun i => f _ _ (by omega) (by omega) (by omega))
  have e2 : rd h1 q 2 = rd h0 q 2 := f _ _ (by omega) (by omega) (by omega)
  refine ⟨fun j j0 j1 => ?_, fun j j0 j1 => ?_⟩
  · have := hs.1 j j0 j1
    show _ ↔ j < rd h0 q 2 ∧ wAh (rd h0 (q + 7 + j)) L s hr (rd h0 (q + 7 + j) 8) 0
    rw [← e j j0, ← e2]
    exact this
  · have := hs.2 j j0 j1
    show _ ↔ j < rd h0 q 2 ∧ wBk (rd h0 (q + 7 + j)) L s hr (rd h0 (q + 7 + j) 8) 0
    rw [← e j j0, ← e2]
    exact this
theorem F_settle (he : 5 ≤ e) (hq : q = 5 ∨ q = 32) (hF : RF h) (hP : PT h) (hl : LWQ h q L) (hn : 0 ≤ rd h q 2 ∧ rd h q 2 ≤ 14)
    (k : ∀ h', RF h' → (∀ a i, a ≠ q + 4 → a ≠ q + 5 → a ≠ q + 6 → rd h' a i = rd h a i) → (∀ s hr, 0 ≤ s → s ≤ 3 → 0 ≤ hr → hr ≤ 23 → stl h q L h' s hr) → Q none h') : Rn xs xl e mm_Quarter_settle 0 [some (.inr (.inr q)), none, none] [] h Q := by
  have inner : ∀ (n : Nat) (s : Int) (g : LH) (m : Int), 24 - m ≤ n → 0 ≤ m → m ≤ 24 → 0 ≤ s → s ≤ 3 → RF g → (∀ a i, a ≠ q + 4 → a ≠ q + 5 → a ≠ q + 6 → rd g a i = rd h a i) → (∀ t hr, 0 ≤ t → t ≤ 3 → 0 ≤ hr → hr ≤ 23 → (t < s ∨ t = s ∧ hr < m) → stl h q L g t hr) → (∀ g', RF g' → (∀ a i, a ≠ q + 4 → a ≠ q + 5 → a ≠ q + 6 → rd g' a i = rd h a i) → (∀ t hr, 0 ≤ t → t ≤ 3 → 0 ≤ hr → hr ≤ 23 → t < s + 1 → stl h q L g' t hr) → Rn xs xl e mm_Quarter_settle 2 [some (.inr (.inr q)), some (.inl (s + 1)), some (.inl 24)] [] g' Q) → Rn xs xl e mm_Quarter_settle 9 [some (.inr (.inr q)), some (.inl s), some (.inl m)] [] g Q := by
    intro n
    induction n with
    | zero =>
      intro s g m hd m0 m1 s0 s1 gF gf gs kk
      have em : m = 24 := by omega
      subst em
      refine B_Quarter_settle_9 hq gF ⟨fun _ => B_Quarter_settle_27 hq gF (by omega) (kk g gF gf (fun t hr t0 t1 r0 r1 lt => gs t hr t0 t1 r0 r1 (by omega))), fun c => by omega⟩
    | succ n ih =>
      intro s g m hd m0 m1 s0 s1 gF gf gs kk
      rcases Int.lt_or_le m 24 with lt | ge
      · have gP : PT g := PT_fr hP (fun a i n => gf a i (by omega) (by omega) (by omega))
        have hlg : LWQ g q L := LWQ_fr hl (gf _ _ (by omega) (by omega) (by omega)) (fun i _ => gf _ _ (by omega) (by omega) (by omega))
        have e2 : rd g q 2 = rd h q 2 := gf _ _ (by omega) (by omega) (by omega)
        refine B_Quarter_settle_9 hq gF ⟨fun c => by omega, fun _ => ⟨4, by omega, F_settleHour (by omega) hq (by omega) (by omega) gF gP hlg (by omega) (fun h' hF' f f2 hs => ?_)⟩⟩
        refine B_Quarter_settle_21 hq hF' (by omega) (ih s h' (m + 1) (by omega) (by omega) (by omega) s0 s1 hF' (fun a i n1 n2 n3 => (f a i n1 n2 n3).trans (gf a i n1 n2 n3)) (fun t hr t0 t1 r0 r1 tt => ?_) kk)
        by_cases c : t = s ∧ hr = m
        · obtain ⟨rfl, rfl⟩ := c
          exact stl_0 gf hs
        · have ne : 24 * t + hr ≠ 24 * s + m := by omega
          exact stl_fr (gs t hr t0 t1 r0 r1 (by omega)) (f2 _ ne).1 (f2 _ ne).2
      · exact ih s g m (by omega) m0 m1 s0 s1 gF gf gs kk
  have outer : ∀ (n : Nat) (s : Int) (g : LH) (o2 : Option LV), 4 - s ≤ n → 0 ≤ s → s ≤ 4 → RF g → (∀ a i, a ≠ q + 4 → a ≠ q + 5 → a ≠ q + 6 → rd g a i = rd h a i) → (∀ t hr, 0 ≤ t → t ≤ 3 → 0 ≤ hr → hr ≤ 23 → t < s → stl h q L g t hr) → Rn xs xl e mm_Quarter_settle 2 [some (.inr (.inr q)), some (.inl s), o2] [] g Q := by
    intro n
    induction n with
    | zero =>
      intro s g o2 hd s0 s1 gF gf gs
      exact B_Quarter_settle_2 hq gF ⟨fun _ => k g gF gf (fun t hr t0 t1 r0 r1 => gs t hr t0 t1 r0 r1 (by omega)), fun c => by omega⟩
    | succ n ih =>
      intro s g o2 hd s0 s1 gF gf gs
      rcases Int.lt_or_le s 4 with lt | ge
      · refine B_Quarter_settle_2 hq gF ⟨fun c => by omega, fun _ => inner 24 s g 0 (by omega) (by omega) (by omega) s0 (by omega) gF gf (fun t hr t0 t1 r0 r1 tt => gs t hr t0 t1 r0 r1 (by omega)) (fun g' gF' gf' gs' => ih (s + 1) g' _ (by omega) (by omega) (by omega) gF' gf' gs')⟩
      · exact ih s g o2 (by omega) s0 s1 gF gf gs
  exact B_Quarter_settle_0 hq hF (outer 4 0 h none (by omega) (by omega) (by omega) hF (fun _ _ _ _ _ => rfl) (fun t hr t0 t1 r0 r1 lt => by omega))
end QM9
end
section
/-! doors by sort and hour, part qa: into which room the class's door leads -/
theorem b01 (Y : Int32) : (Y &&& Int32.ofInt 1).toInt = 0 ∨ (Y &&& Int32.ofInt 1).toInt = 1 := by
  have e : (Y &&& Int32.ofInt 1).toBitVec = BitVec.setWidth 32 (BitVec.ofBool (Y.toBitVec.getLsbD 0)) := by
    rw [Int32.toBitVec_and, show (Int32.ofInt 1).toBitVec = 1#32 from rfl, BitVec.and_one_eq_setWidth_ofBool_getLsbD]
  have e2 : (Y &&& Int32.ofInt 1) = Int32.ofBitVec (BitVec.setWidth 32 (BitVec.ofBool (Y.toBitVec.getLsbD 0))) := by
    rw [← Int32.toBitVec_inj, e]
    rfl
  rw [e2]
  cases Y.toBitVec.getLsbD 0 <;> decide
theorem bitZ_01 (s k : Int) : zand (zshr s k) 1 = 0 ∨ zand (zshr s k) 1 = 1 := b01 _
theorem bit_and {a b k : Int} (k0 : 0 ≤ k) (k1 : k < 32) : bitZ (zand a b) k ↔ bitZ a k ∧ bitZ b k := by
  rw [bitZ_iff k0 k1, bitZ_iff k0 k1, bitZ_iff k0 k1]
  unfold zand
  rw [x_to, Int32.toBitVec_and, BitVec.getLsbD_and, Bool.and_eq_true]
theorem bit_not {a k : Int} (k0 : 0 ≤ k) (k1 : k < 32) : bitZ (zxor a (-1)) k ↔ ¬ bitZ a k := by
  rw [bitZ_iff k0 k1, bitZ_iff k0 k1]
  unfold zxor
  rw [x_to, Int32.toBitVec_xor, BitVec.getLsbD_xor, show (Int32.ofInt (-1)).toBitVec = BitVec.allOnes 32 from by decide, BitVec.getLsbD_allOnes]
  have : k.toNat < 32 := by omega
  simp [this]
/-- into which room door d with the fields f leads sort s from a room in hour hr -/
noncomputable def inF (f : Int → Int) (L : List Int) (s room hr sh d : Int) : Int :=
  @ite Int (f 2 = room ∧ wAh f L s hr (f 8) 0 ∧ ¬ bitZ sh d) (Classical.propDecidable _) (f 3) (@ite Int (f 3 = room ∧ wBk f L s hr (f 8) 0 ∧ ¬ bitZ sh d) (Classical.propDecidable _) (f 2) (-1))
section QMa
variable {xs : Nat → Int} {xl e : Nat} {h : LH} {Q : Option LV → LH → Prop} {v1 v2 v3 v4 v5 q d : Int} {L : List Int}
theorem F_into (he : 1 ≤ e) (hq : q = 5 ∨ q = 32) (h1 : 0 ≤ v1 ∧ v1 ≤ 13) (hn : v1 < rd h q 2) (h2 : 0 ≤ v2 ∧ v2 ≤ 3) (h4 : 0 ≤ v4 ∧ v4 ≤ 25) (hF : RF h) (hP : PT h) (hc : rd h (q + 7 + v1) 5 ≤ 24) (hs : ∀ s hr, 0 ≤ s → s ≤ 3 → 0 ≤ hr → hr ≤ 23 → stl h q L h s hr)
    (k : Q (some (.inl (inF (rd h (q + 7 + v1)) L v2 v3 v4 v5 v1))) h) : Rn xs xl e mm_Quarter_into 0 [some (.inr (.inr q)), some (.inl v1), some (.inl v2), some (.inl v3), some (.inl v4), some (.inl v5), none] [] h Q := by
  unfold inF at k
  have late : ∀ s cost room, ¬ lets (rd h (q + 7 + v1)) L s v4 cost room ∨ v4 < 24 := fun s cost room => by
    by_cases z : v4 < 24
    · exact Or.inr z
    · exact Or.inl (fun y => by have := y.2.2.1; omega)
  have a26 : ∀ x, (bitZ x v1 ↔ wAh (rd h (q + 7 + v1)) L v2 v4 (rd h (q + 7 + v1) 8) 0 ∧ ¬ bitZ v5 v1) ∨ ¬ v4 < 24 ∧ x = 0 → (zand (zshr x v1) 1 ≠ 0 ↔ wAh (rd h (q + 7 + v1)) L v2 v4 (rd h (q + 7 + v1) 8) 0 ∧ ¬ bitZ v5 v1) := by
    intro x hx
    rcases hx with hx | ⟨hx, rfl⟩
    · rw [← hx]
      have := bitZ_01 x v1
      unfold bitZ
      omega
    · refine ⟨fun z => absurd (bit0 v1) z, fun z => ?_⟩
      exact (late _ _ _).elim (fun y => absurd z.1.2 y) (fun y => absurd y hx)
  have b57 : ∀ x, (bitZ x v1 ↔ wBk (rd h (q + 7 + v1)) L v2 v4 (rd h (q + 7 + v1) 8) 0 ∧ ¬ bitZ v5 v1) ∨ ¬ v4 < 24 ∧ x = 0 → (zand (zshr x v1) 1 ≠ 0 ↔ wBk (rd h (q + 7 + v1)) L v2 v4 (rd h (q + 7 + v1) 8) 0 ∧ ¬ bitZ v5 v1) := by
    intro x hx
    rcases hx with hx | ⟨hx, rfl⟩
    · rw [← hx]
      have := bitZ_01 x v1
      unfold bitZ
      omega
    · refine ⟨fun z => absurd (bit0 v1) z, fun z => ?_⟩
      exact (late _ _ _).elim (fun y => absurd z.1.2 y) (fun y => absurd y hx)
  have t39 : ¬ (rd h (q + 7 + v1) 2 = v3 ∧ wAh (rd h (q + 7 + v1)) L v2 v4 (rd h (q + 7 + v1) 8) 0 ∧ ¬ bitZ v5 v1) → Rn xs xl e mm_Quarter_into 39 [some (.inr (.inr q)), some (.inl v1), some (.inl v2), some (.inl v3), some (.inl v4), some (.inl v5), some (.inr (.inr (q + 7 + v1)))] [] h Q := by
    intro no
    rw [if_neg no] at k
    refine B_Quarter_into_39 hq hF h1 ⟨fun c => ?_, fun c => ⟨0, by omega, ?_⟩⟩
    · rw [if_neg (fun z => c z.1)] at k
      exact k
    · have go : ∀ x, (zand (zshr x v1) 1 ≠ 0 ↔ wBk (rd h (q + 7 + v1)) L v2 v4 (rd h (q + 7 + v1) 8) 0 ∧ ¬ bitZ v5 v1) → Rn xs xl e mm_Quarter_into 57 [some (.inr (.inr q)), some (.inl v1), some (.inl v2), some (.inl v3), some (.inl v4), some (.inl v5), some (.inr (.inr (q + 7 + v1)))] [.inl x] h Q := by
        intro x hx
        refine B_Quarter_into_57 hq hF h1 ⟨fun z => ?_, fun z => ?_⟩
        · rw [if_neg (fun y => absurd z (hx.mpr y.2))] at k
          exact k
        · rw [if_pos ⟨c, hx.mp z⟩] at k
          exact k
      refine B_Quarter_backIn_0 hq hF h2 h4 ⟨fun z => go 0 (b57 0 (Or.inr ⟨by omega, rfl⟩)), fun z => ⟨by omega, go _ (b57 _ (Or.inl ?_))⟩⟩
      rw [bit_and h1.1 (by omega), bit_not h1.1 (by omega), (hs v2 v4 h2.1 h2.2 h4.1 (by omega)).2 v1 h1.1 (by omega)]
      exact ⟨fun y => ⟨y.1.2, y.2⟩, fun y => ⟨⟨hn, y.1⟩, y.2⟩⟩
  refine B_Quarter_into_0 hq hF hP h1 ⟨fun c => t39 (fun z => c z.1), fun c => ⟨0, by omega, ?_⟩⟩
  have go : ∀ x, (zand (zshr x v1) 1 ≠ 0 ↔ wAh (rd h (q + 7 + v1)) L v2 v4 (rd h (q + 7 + v1) 8) 0 ∧ ¬ bitZ v5 v1) → Rn xs xl e mm_Quarter_into 26 [some (.inr (.inr q)), some (.inl v1), some (.inl v2), some (.inl v3), some (.inl v4), some (.inl v5), some (.inr (.inr (q + 7 + v1)))] [.inl x] h Q := by
    intro x hx
    refine B_Quarter_into_26 hq hF h1 ⟨fun z => t39 (fun y => absurd z (hx.mpr y.2)), fun z => ?_⟩
    rw [if_pos ⟨c, hx.mp z⟩] at k
    exact k
  refine B_Quarter_aheadIn_0 hq hF h2 h4 ⟨fun z => go 0 (a26 0 (Or.inr ⟨by omega, rfl⟩)), fun z => ⟨by omega, go _ (a26 _ (Or.inl ?_))⟩⟩
  rw [bit_and h1.1 (by omega), bit_not h1.1 (by omega), (hs v2 v4 h2.1 h2.2 h4.1 (by omega)).1 v1 h1.1 (by omega)]
  exact ⟨fun y => ⟨y.1.2, y.2⟩, fun y => ⟨⟨hn, y.1⟩, y.2⟩⟩
end QMa
end
section
/-! doors by sort and hour, part qb: into which room the reference's door leads -/
section QMb
variable {xs : Nat → Int} {xl e : Nat} {h : LH} {Q : Option LV → LH → Prop} {d s room hr sh : Int} {L : List Int} {f : Int → Int}
theorem lbk_0 : lbk f hr 0 ↔ f 1 = 1 ∧ 12 ≤ hr := by
  unfold lbk
  refine ⟨fun z => z.elim (fun y => y.1) (fun y => absurd y.2 (by decide)), fun z => Or.inl ⟨z, rfl⟩⟩
theorem inF_1 (n : ¬ lbk f hr 0) (r : room = f 2) : (lets f L s hr (f 8) (f 3) → ¬ bitZ sh d → inF f L s room hr sh d = f 3) ∧ (¬ (lets f L s hr (f 8) (f 3) ∧ ¬ bitZ sh d) → inF f L s room hr sh d = -1) := by
  unfold inF wAh wBk
  refine ⟨fun a b => by rw [if_pos ⟨r.symm, ⟨Or.inr n, a⟩, b⟩], fun a => ?_⟩
  rw [if_neg (fun z => a ⟨z.2.1.2, z.2.2⟩), if_neg (fun z => a ⟨?_, z.2.2⟩)]
  have e : f 3 = f 2 := z.1.trans r
  rw [e]
  exact z.2.1.2
theorem inF_2 (n : ¬ lbk f hr 0) (r : room ≠ f 2) (t : s = 3 ∧ room = f 3) : (lets f L s hr (f 8) (f 2) → ¬ bitZ sh d → inF f L s room hr sh d = f 2) ∧ (¬ (lets f L s hr (f 8) (f 2) ∧ ¬ bitZ sh d) → inF f L s room hr sh d = -1) := by
  unfold inF wAh wBk
  refine ⟨fun a b => by rw [if_neg (fun z => r z.1.symm), if_pos ⟨t.2.symm, ⟨Or.inl t.1, a⟩, b⟩], fun a => ?_⟩
  rw [if_neg (fun z => r z.1.symm), if_neg (fun z => a ⟨z.2.1.2, z.2.2⟩)]
theorem inF_3 (n : ¬ lbk f hr 0) (r : room ≠ f 2) (t : ¬ (s = 3 ∧ room = f 3)) : inF f L s room hr sh d = -1 := by
  unfold inF wAh wBk
  rw [if_neg (fun z => r z.1.symm), if_neg (fun z => ?_)]
  rcases z.2.1.1 with y | y
  · exact t ⟨y, z.1.symm⟩
  · exact n y
theorem inF_4 (n : lbk f hr 0) (r : room = f 3) : (lets f L s hr (f 8) (f 2) → ¬ bitZ sh d → inF f L s room hr sh d = f 2) ∧ (¬ (lets f L s hr (f 8) (f 2) ∧ ¬ bitZ sh d) → inF f L s room hr sh d = -1) := by
  unfold inF wAh wBk
  refine ⟨fun a b => ?_, fun a => ?_⟩
  · by_cases z : f 2 = room ∧ ((s = 3 ∨ ¬ lbk f hr 0) ∧ lets f L s hr (f 8) (f 3)) ∧ ¬ bitZ sh d
    · rw [if_pos z, z.1, r]
    · rw [if_neg z, if_pos ⟨r.symm, ⟨Or.inr n, a⟩, b⟩]
  · rw [if_neg (fun z => a ⟨?_, z.2.2⟩), if_neg (fun z => a ⟨z.2.1.2, z.2.2⟩)]
    have e : f 2 = f 3 := z.1.trans r
    rw [e]
    exact z.2.1.2
theorem inF_5 (n : lbk f hr 0) (r : room ≠ f 3) (t : s = 3 ∧ room = f 2) : (lets f L s hr (f 8) (f 3) → ¬ bitZ sh d → inF f L s room hr sh d = f 3) ∧ (¬ (lets f L s hr (f 8) (f 3) ∧ ¬ bitZ sh d) → inF f L s room hr sh d = -1) := by
  unfold inF wAh wBk
  refine ⟨fun a b => by rw [if_pos ⟨t.2.symm, ⟨Or.inl t.1, a⟩, b⟩], fun a => ?_⟩
  rw [if_neg (fun z => a ⟨z.2.1.2, z.2.2⟩), if_neg (fun z => r z.1.symm)]
theorem inF_6 (n : lbk f hr 0) (r : room ≠ f 3) (t : ¬ (s = 3 ∧ room = f 2)) : inF f L s room hr sh d = -1 := by
  unfold inF wAh wBk
  rw [if_neg (fun z => ?_), if_neg (fun z => r z.1.symm)]
  rcases z.2.1.1 with y | y
  · exact t ⟨y, z.1.symm⟩
  · exact y n
theorem G_leadsTo0 (he : 3 ≤ e) (hd : 0 ≤ d ∧ d ≤ 13) (hF : RF h) (hf : ∀ j : Nat, j < 8 → f ((j : Int) + 1) = rd h 188 (8 * d + 4 + (j : Int))) (h2 : 0 ≤ f 2 ∧ f 2 ≤ 9) (h3 : 0 ≤ f 3 ∧ f 3 ≤ 9) (h6 : -1 ≤ f 6) (p1 : d ≠ rd h 182 28) (p2 : d ≠ rd h 182 29)
    (l0 : L.length = 0 → rd h 188 3 < 0) (l1 : 0 < L.length → rd h 188 3 = 0 ∧ rd h 189 (L.length : Int) = 0 ∧ ∀ i : Nat, i < L.length → rd h 189 i = cdO (L.getD i 0) ∧ rd h 190 i = cdA (L.getD i 0)) (l3 : L.length ≤ 1000) (hO : hOk 32 L 0) (hE : 0 < L.length → hEnd L 0 = 1) (hr' : ∀ c ∈ L, cdR c)
    (k : ∀ h', Q (some (.inl (inF f L s room hr sh d))) h') : Rn xs xl e mm_leadsTo 0 [some (.inr (.inr 182)), some (.inl d), some (.inl s), some (.inl room), some (.inl hr), some (.inl sh), some (.inl 0), none, none, none, none, none] [] h Q := by
  have F1 : f 1 = rd h 188 (8 * d + 4) := (hf 0 (by decide)).trans (by rw [show 8 * d + 4 + ((0 : Nat) : Int) = 8 * d + 4 by omega])
  have F2 : f 2 = rd h 188 (8 * d + 5) := (hf 1 (by decide)).trans (by rw [show 8 * d + 4 + ((1 : Nat) : Int) = 8 * d + 5 by omega])
  have F3 : f 3 = rd h 188 (8 * d + 6) := (hf 2 (by decide)).trans (by rw [show 8 * d + 4 + ((2 : Nat) : Int) = 8 * d + 6 by omega])
  have F4 : f 4 = rd h 188 (8 * d + 7) := (hf 3 (by decide)).trans (by rw [show 8 * d + 4 + ((3 : Nat) : Int) = 8 * d + 7 by omega])
  have F5 : f 5 = rd h 188 (8 * d + 8) := (hf 4 (by decide)).trans (by rw [show 8 * d + 4 + ((4 : Nat) : Int) = 8 * d + 8 by omega])
  have F6 : f 6 = rd h 188 (8 * d + 9) := (hf 5 (by decide)).trans (by rw [show 8 * d + 4 + ((5 : Nat) : Int) = 8 * d + 9 by omega])
  have F8 : f 8 = rd h 188 (8 * d + 11) := (hf 7 (by decide)).trans (by rw [show 8 * d + 4 + ((7 : Nat) : Int) = 8 * d + 11 by omega])
  clear hf
  have tail : ∀ (w v8 v9 it : Int), it ≤ 9 → (0 ≤ it → lets f L s hr (f 8) it → ¬ bitZ sh d → inF f L s room hr sh d = it) → (¬ (0 ≤ it ∧ lets f L s hr (f 8) it ∧ ¬ bitZ sh d) → inF f L s room hr sh d = -1) → Rn xs xl e mm_leadsTo 119 [some (.inr (.inr 182)), some (.inl d), some (.inl s), some (.inl room), some (.inl hr), some (.inl sh), some (.inl 0), some (.inl w), some (.inl v8), some (.inl v9), none, none] [.inl it] h Q := by
    intro w v8 v9 it i9 Hy Hn
    by_cases c : 0 ≤ it ∧ rd h 188 (8 * d + 7) ≤ hr ∧ hr < rd h 188 (8 * d + 8) ∧ rd h 188 (8 * d + 4) ≠ 3 ∧ zand (zshr sh d) 1 ≠ 1 ∧ (rd h 188 (8 * d + 9) < 0 ∨ rd h 188 (8 * d + 9) = s ∨ s = 3)
    · have law : ∀ v, v = lawW (fcs hr s (f 8) it) L → (v = 0 → inF f L s room hr sh d = -1) ∧ (v ≠ 0 → inF f L s room hr sh d = it) := fun v hv => ⟨fun z => Hn (fun y => y.2.1.2.2.2.2 (hv.symm.trans z)), fun z => Hy c.1 ⟨by omega, by omega, by omega, by omega, fun y => z (hv.trans y)⟩ c.2.2.2.2.1⟩
      have next : Rn xs xl e mm_leadsTo 196 [some (.inr (.inr 182)), some (.inl d), some (.inl s), some (.inl room), some (.inl hr), some (.inl sh), some (.inl 0), some (.inl w), some (.inl v8), some (.inl v9), some (.inl it), none] [.inl 1] h Q := by
        refine B_leadsTo_196_1 hF (by omega) ⟨fun _ => ⟨fun _ => ⟨by omega, by omega, by omega, by omega, fun q => ?_, fun q => ?_⟩, fun q => absurd q p2⟩, fun q => absurd q p1⟩
        · have z : L.length = 0 := by
            rcases Nat.eq_zero_or_pos L.length with z | z
            · exact z
            · have := (l1 z).1; omega
          have := (law (lawW (fcs hr s (f 8) it) L) rfl).2 (by unfold lawW; rw [if_pos z]; decide)
          rw [← this]
          exact k _
        · have z : 0 < L.length := by
            rcases Nat.eq_zero_or_pos L.length with z | z
            · have := l0 z; omega
            · exact z
          obtain ⟨z3, za, zb⟩ := l1 z
          rw [z3]
          have fr : ∀ a i, a ≠ 196 → rd (wr (wr (wr (wr h 196 0 hr) 196 1 s) 196 2 (rd h 188 (8 * d + 11))) 196 3 it) a i = rd h a i := fun a i n => by rw [rdw_ne (fun q => n q.symm), rdw_ne (fun q => n q.symm), rdw_ne (fun q => n q.symm), rdw_ne (fun q => n q.symm)]
          have h196 : ∀ i, (hav 196 i).1 ≠ 2 := fun i => hav_nr (by decide +kernel) i
          refine ⟨1, by omega, G_worthAt (L := L) (f := fcs hr s (f 8) it) (by omega) (RF_wn (h196 _) (RF_wn (h196 _) (RF_wn (h196 _) (RF_wn (h196 _) hF)))) ((fr _ _ (by decide)).trans za) (fun i hi => ?_) (fun j j0 j1 => ?_) l3 z hO (hE z) hr' (fun h' hF' ff => B_leadsTo_258 hF' ⟨fun y => ?_, fun y => ?_⟩)⟩
          · rw [fr _ _ (by decide), fr _ _ (by decide)]
            exact zb i hi
          · rcases (show j = 0 ∨ j = 1 ∨ j = 2 ∨ j = 3 by omega) with rfl | rfl | rfl | rfl
            · rw [rdw_nei (by decide), rdw_nei (by decide), rdw_nei (by decide), rdw_eq]
              rfl
            · rw [rdw_nei (by decide), rdw_nei (by decide), rdw_eq]
              rfl
            · rw [rdw_nei (by decide), rdw_eq, F8]
              rfl
            · rw [rdw_eq]
              rfl
          · rw [← (law _ rfl).1 y]
            exact k _
          · have := (law _ rfl).2 y
            rw [← this]
            exact k _
      clear law Hy Hn k l0 l1
      refine B_leadsTo_119 hF (by omega) ?_
      (repeat' (first | apply And.intro | intro _)) <;> (first | exact next | omega | (exfalso; omega))
    · have K := Hn (fun y => c ⟨y.1, by have := y.2.1.2.1; omega, by have := y.2.1.2.2.1; omega, by have := y.2.1.1; omega, y.2.2, by have := y.2.1.2.2.2.1; omega⟩)
      have next : Rn xs xl e mm_leadsTo 196 [some (.inr (.inr 182)), some (.inl d), some (.inl s), some (.inl room), some (.inl hr), some (.inl sh), some (.inl 0), some (.inl w), some (.inl v8), some (.inl v9), some (.inl it), none] [.inl 0] h Q := B_leadsTo_196_0 hF (by rw [← K]; exact k _)
      clear Hy Hn k l0 l1
      refine B_leadsTo_119 hF (by omega) ?_
      (repeat' (first | apply And.intro | intro _)) <;> (first | exact next | omega | (exfalso; omega))
  clear k l0 l1
  have b0 := bit0 d
  have t55 : ∀ w : Int, (w = 0 ∨ w = 1) → (w = 1 ↔ lbk f hr 0) → Rn xs xl e mm_leadsTo 55 [some (.inr (.inr 182)), some (.inl d), some (.inl s), some (.inl room), some (.inl hr), some (.inl sh), some (.inl 0), none, none, none, none, none] [.inl w] h Q := by
    intro w w01 hw
    rcases w01 with rfl | rfl
    · have n : ¬ lbk f hr 0 := fun z => absurd (hw.mpr z) (by decide)
      by_cases c1 : room = f 2
      · have T := tail 0 (f 2) (f 3) (f 3) h3.2 (fun _ a b => (inF_1 n c1).1 a b) (fun a => (inF_1 n c1).2 (fun z => a ⟨h3.1, z⟩))
        clear tail
        rw [F2, F3] at T
        refine B_leadsTo_55 hF (by omega) ?_
        (repeat' (first | apply And.intro | intro _)) <;> (first | exact T | omega | (exfalso; omega))
      · by_cases c2 : s = 3 ∧ room = f 3
        · have T := tail 0 (f 2) (f 3) (f 2) h2.2 (fun _ a b => (inF_2 n c1 c2).1 a b) (fun a => (inF_2 n c1 c2).2 (fun z => a ⟨h2.1, z⟩))
          clear tail
          rw [F2, F3] at T
          refine B_leadsTo_55 hF (by omega) ?_
          (repeat' (first | apply And.intro | intro _)) <;> (first | exact T | omega | (exfalso; omega))
        · have T := tail 0 (f 2) (f 3) (-1) (by decide) (fun a => absurd a (by decide)) (fun _ => inF_3 n c1 c2)
          clear tail
          rw [F2, F3] at T
          refine B_leadsTo_55 hF (by omega) ?_
          (repeat' (first | apply And.intro | intro _)) <;> (first | exact T | omega | (exfalso; omega))
    · have n : lbk f hr 0 := hw.mp rfl
      by_cases c1 : room = f 3
      · have T := tail 1 (f 3) (f 2) (f 2) h2.2 (fun _ a b => (inF_4 n c1).1 a b) (fun a => (inF_4 n c1).2 (fun z => a ⟨h2.1, z⟩))
        clear tail
        rw [F2, F3] at T
        refine B_leadsTo_55 hF (by omega) ?_
        (repeat' (first | apply And.intro | intro _)) <;> (first | exact T | omega | (exfalso; omega))
      · by_cases c2 : s = 3 ∧ room = f 2
        · have T := tail 1 (f 3) (f 2) (f 3) h3.2 (fun _ a b => (inF_5 n c1 c2).1 a b) (fun a => (inF_5 n c1 c2).2 (fun z => a ⟨h3.1, z⟩))
          clear tail
          rw [F2, F3] at T
          refine B_leadsTo_55 hF (by omega) ?_
          (repeat' (first | apply And.intro | intro _)) <;> (first | exact T | omega | (exfalso; omega))
        · have T := tail 1 (f 3) (f 2) (-1) (by decide) (fun a => absurd a (by decide)) (fun _ => inF_6 n c1 c2)
          clear tail
          rw [F2, F3] at T
          refine B_leadsTo_55 hF (by omega) ?_
          (repeat' (first | apply And.intro | intro _)) <;> (first | exact T | omega | (exfalso; omega))
  clear tail
  rw [lbk_0, F1] at t55
  by_cases c : rd h 188 (8 * d + 4) = 1 ∧ 12 ≤ hr
  · have T := t55 1 (Or.inr rfl) ⟨fun _ => c, fun _ => rfl⟩
    clear t55
    refine B_leadsTo_0 hF (by omega) ?_
    (repeat' (first | apply And.intro | intro _)) <;> (first | exact T | omega | (exfalso; omega))
  · have T := t55 0 (Or.inl rfl) ⟨fun z => absurd z (by decide), fun z => absurd z c⟩
    clear t55
    refine B_leadsTo_0 hF (by omega) ?_
    (repeat' (first | apply And.intro | intro _)) <;> (first | exact T | omega | (exfalso; omega))
end QMb
end
section
/-! LM, by program (wip/p2/hand.py): rows of a scene -/
theorem dd_Scene_tryDoor_0 : decode mm_Scene_tryDoor.2.1 0 = .ok (.aload_n 0, 1) := by decide +kernel
theorem dd_Scene_tryDoor_1 : decode mm_Scene_tryDoor.2.1 1 = .ok (.getfield 18, 3) := by decide +kernel
theorem fd_9_18 : fld 9 18 = some (9, 0) := by decide +kernel
theorem dd_Scene_tryDoor_4 : decode mm_Scene_tryDoor.2.1 4 = .ok (.bipush 24, 2) := by decide +kernel
theorem dd_Scene_tryDoor_6 : decode mm_Scene_tryDoor.2.1 6 = .ok (.if_icmp .ge (14), 3) := by decide +kernel
theorem dd_Scene_tryDoor_20 : decode mm_Scene_tryDoor.2.1 20 = .ok (.iconst (-1), 1) := by decide +kernel
theorem dd_Scene_tryDoor_21 : decode mm_Scene_tryDoor.2.1 21 = .ok (.ireturn, 1) := by decide +kernel
theorem dd_Scene_tryDoor_9 : decode mm_Scene_tryDoor.2.1 9 = .ok (.aload_n 0, 1) := by decide +kernel
theorem dd_Scene_tryDoor_10 : decode mm_Scene_tryDoor.2.1 10 = .ok (.getfield 25, 3) := by decide +kernel
theorem fd_9_25 : fld 9 25 = some (9, 2) := by decide +kernel
theorem dd_Scene_tryDoor_13 : decode mm_Scene_tryDoor.2.1 13 = .ok (.iload_n 2, 1) := by decide +kernel
theorem dd_Scene_tryDoor_14 : decode mm_Scene_tryDoor.2.1 14 = .ok (.ishr, 1) := by decide +kernel
theorem dd_Scene_tryDoor_15 : decode mm_Scene_tryDoor.2.1 15 = .ok (.iconst 1, 1) := by decide +kernel
theorem dd_Scene_tryDoor_16 : decode mm_Scene_tryDoor.2.1 16 = .ok (.iand, 1) := by decide +kernel
theorem dd_Scene_tryDoor_17 : decode mm_Scene_tryDoor.2.1 17 = .ok (.ifCond .eq (5), 3) := by decide +kernel
theorem dd_Scene_tryDoor_22 : decode mm_Scene_tryDoor.2.1 22 = .ok (.aload_n 1, 1) := by decide +kernel
theorem dd_Scene_tryDoor_23 : decode mm_Scene_tryDoor.2.1 23 = .ok (.getfield 42, 3) := by decide +kernel
theorem fd_9_42 : fld 9 42 = some (6, 3) := by decide +kernel
theorem dd_Scene_tryDoor_26 : decode mm_Scene_tryDoor.2.1 26 = .ok (.iload_n 2, 1) := by decide +kernel
theorem dd_Scene_tryDoor_27 : decode mm_Scene_tryDoor.2.1 27 = .ok (.aaload, 1) := by decide +kernel
theorem dd_Scene_tryDoor_28 : decode mm_Scene_tryDoor.2.1 28 = .ok (.astore 4, 2) := by decide +kernel
theorem dd_Scene_tryDoor_30 : decode mm_Scene_tryDoor.2.1 30 = .ok (.aload_n 1, 1) := by decide +kernel
theorem dd_Scene_tryDoor_31 : decode mm_Scene_tryDoor.2.1 31 = .ok (.iload_n 3, 1) := by decide +kernel
theorem dd_Scene_tryDoor_32 : decode mm_Scene_tryDoor.2.1 32 = .ok (.aload 4, 2) := by decide +kernel
theorem dd_Scene_tryDoor_34 : decode mm_Scene_tryDoor.2.1 34 = .ok (.getfield 66, 3) := by decide +kernel
theorem fd_9_66 : fld 9 66 = some (4, 1) := by decide +kernel
theorem dd_Scene_tryDoor_37 : decode mm_Scene_tryDoor.2.1 37 = .ok (.aload_n 0, 1) := by decide +kernel
theorem dd_Scene_tryDoor_38 : decode mm_Scene_tryDoor.2.1 38 = .ok (.getfield 9, 3) := by decide +kernel
theorem fd_9_9 : fld 9 9 = some (9, 4) := by decide +kernel
theorem dd_Scene_tryDoor_41 : decode mm_Scene_tryDoor.2.1 41 = .ok (.iload_n 2, 1) := by decide +kernel
theorem dd_Scene_tryDoor_42 : decode mm_Scene_tryDoor.2.1 42 = .ok (.iaload, 1) := by decide +kernel
theorem dd_Scene_tryDoor_43 : decode mm_Scene_tryDoor.2.1 43 = .ok (.aload_n 0, 1) := by decide +kernel
theorem dd_Scene_tryDoor_44 : decode mm_Scene_tryDoor.2.1 44 = .ok (.getfield 18, 3) := by decide +kernel
theorem dd_Scene_tryDoor_47 : decode mm_Scene_tryDoor.2.1 47 = .ok (.aload_n 0, 1) := by decide +kernel
theorem dd_Scene_tryDoor_48 : decode mm_Scene_tryDoor.2.1 48 = .ok (.getfield 22, 3) := by decide +kernel
theorem fd_9_22 : fld 9 22 = some (9, 1) := by decide +kernel
theorem dd_Scene_tryDoor_51 : decode mm_Scene_tryDoor.2.1 51 = .ok (.invokevirtual 69, 3) := by decide +kernel
theorem cw_9_69 : cwOk 9 69 0 67 6 7 6 = true := by decide +kernel
theorem dd_Scene_tryDoor_54 : decode mm_Scene_tryDoor.2.1 54 = .ok (.istore 5, 2) := by decide +kernel
theorem dd_Scene_tryDoor_56 : decode mm_Scene_tryDoor.2.1 56 = .ok (.iload 5, 2) := by decide +kernel
theorem dd_Scene_tryDoor_58 : decode mm_Scene_tryDoor.2.1 58 = .ok (.iconst (-1), 1) := by decide +kernel
theorem dd_Scene_tryDoor_59 : decode mm_Scene_tryDoor.2.1 59 = .ok (.if_icmp .eq (21), 3) := by decide +kernel
theorem dd_Scene_tryDoor_80 : decode mm_Scene_tryDoor.2.1 80 = .ok (.iconst (-1), 1) := by decide +kernel
theorem dd_Scene_tryDoor_81 : decode mm_Scene_tryDoor.2.1 81 = .ok (.ireturn, 1) := by decide +kernel
theorem dd_Scene_tryDoor_62 : decode mm_Scene_tryDoor.2.1 62 = .ok (.aload_n 0, 1) := by decide +kernel
theorem dd_Scene_tryDoor_63 : decode mm_Scene_tryDoor.2.1 63 = .ok (.getfield 15, 3) := by decide +kernel
theorem fd_9_15 : fld 9 15 = some (9, 5) := by decide +kernel
theorem dd_Scene_tryDoor_66 : decode mm_Scene_tryDoor.2.1 66 = .ok (.iload_n 3, 1) := by decide +kernel
theorem dd_Scene_tryDoor_67 : decode mm_Scene_tryDoor.2.1 67 = .ok (.iaload, 1) := by decide +kernel
theorem dd_Scene_tryDoor_68 : decode mm_Scene_tryDoor.2.1 68 = .ok (.aload_n 1, 1) := by decide +kernel
theorem dd_Scene_tryDoor_69 : decode mm_Scene_tryDoor.2.1 69 = .ok (.getfield 73, 3) := by decide +kernel
theorem fd_9_73 : fld 9 73 = some (6, 1) := by decide +kernel
theorem dd_Scene_tryDoor_72 : decode mm_Scene_tryDoor.2.1 72 = .ok (.iload_n 3, 1) := by decide +kernel
theorem dd_Scene_tryDoor_73 : decode mm_Scene_tryDoor.2.1 73 = .ok (.aaload, 1) := by decide +kernel
theorem dd_Scene_tryDoor_74 : decode mm_Scene_tryDoor.2.1 74 = .ok (.getfield 77, 3) := by decide +kernel
theorem fd_9_77 : fld 9 77 = some (1, 7) := by decide +kernel
theorem dd_Scene_tryDoor_77 : decode mm_Scene_tryDoor.2.1 77 = .ok (.if_icmp .lt (5), 3) := by decide +kernel
theorem dd_Scene_tryDoor_82 : decode mm_Scene_tryDoor.2.1 82 = .ok (.aload_n 0, 1) := by decide +kernel
theorem dd_Scene_tryDoor_83 : decode mm_Scene_tryDoor.2.1 83 = .ok (.getfield 9, 3) := by decide +kernel
theorem dd_Scene_tryDoor_86 : decode mm_Scene_tryDoor.2.1 86 = .ok (.iload_n 2, 1) := by decide +kernel
theorem dd_Scene_tryDoor_87 : decode mm_Scene_tryDoor.2.1 87 = .ok (.iload 5, 2) := by decide +kernel
theorem dd_Scene_tryDoor_89 : decode mm_Scene_tryDoor.2.1 89 = .ok (.iastore, 1) := by decide +kernel
theorem dd_Scene_tryDoor_90 : decode mm_Scene_tryDoor.2.1 90 = .ok (.aload_n 0, 1) := by decide +kernel
theorem dd_Scene_tryDoor_91 : decode mm_Scene_tryDoor.2.1 91 = .ok (.getfield 15, 3) := by decide +kernel
theorem dd_Scene_tryDoor_94 : decode mm_Scene_tryDoor.2.1 94 = .ok (.iload_n 3, 1) := by decide +kernel
theorem dd_Scene_tryDoor_95 : decode mm_Scene_tryDoor.2.1 95 = .ok (.dup2, 1) := by decide +kernel
theorem dd_Scene_tryDoor_96 : decode mm_Scene_tryDoor.2.1 96 = .ok (.iaload, 1) := by decide +kernel
theorem dd_Scene_tryDoor_97 : decode mm_Scene_tryDoor.2.1 97 = .ok (.iconst 1, 1) := by decide +kernel
theorem dd_Scene_tryDoor_98 : decode mm_Scene_tryDoor.2.1 98 = .ok (.iadd, 1) := by decide +kernel
theorem dd_Scene_tryDoor_99 : decode mm_Scene_tryDoor.2.1 99 = .ok (.iastore, 1) := by decide +kernel
theorem dd_Scene_tryDoor_100 : decode mm_Scene_tryDoor.2.1 100 = .ok (.aload_n 0, 1) := by decide +kernel
theorem dd_Scene_tryDoor_101 : decode mm_Scene_tryDoor.2.1 101 = .ok (.dup, 1) := by decide +kernel
theorem dd_Scene_tryDoor_102 : decode mm_Scene_tryDoor.2.1 102 = .ok (.getfield 25, 3) := by decide +kernel
theorem dd_Scene_tryDoor_105 : decode mm_Scene_tryDoor.2.1 105 = .ok (.iconst 1, 1) := by decide +kernel
theorem dd_Scene_tryDoor_106 : decode mm_Scene_tryDoor.2.1 106 = .ok (.iload_n 2, 1) := by decide +kernel
theorem dd_Scene_tryDoor_107 : decode mm_Scene_tryDoor.2.1 107 = .ok (.ishl, 1) := by decide +kernel
theorem dd_Scene_tryDoor_108 : decode mm_Scene_tryDoor.2.1 108 = .ok (.ior, 1) := by decide +kernel
theorem dd_Scene_tryDoor_109 : decode mm_Scene_tryDoor.2.1 109 = .ok (.putfield 25, 3) := by decide +kernel
theorem fn_9_2 : fin 9 2 = false := by decide +kernel
theorem dd_Scene_tryDoor_112 : decode mm_Scene_tryDoor.2.1 112 = .ok (.aload_n 0, 1) := by decide +kernel
theorem dd_Scene_tryDoor_113 : decode mm_Scene_tryDoor.2.1 113 = .ok (.dup, 1) := by decide +kernel
theorem dd_Scene_tryDoor_114 : decode mm_Scene_tryDoor.2.1 114 = .ok (.getfield 28, 3) := by decide +kernel
theorem fd_9_28 : fld 9 28 = some (9, 3) := by decide +kernel
theorem dd_Scene_tryDoor_117 : decode mm_Scene_tryDoor.2.1 117 = .ok (.iload 5, 2) := by decide +kernel
theorem dd_Scene_tryDoor_119 : decode mm_Scene_tryDoor.2.1 119 = .ok (.aload 4, 2) := by decide +kernel
theorem dd_Scene_tryDoor_121 : decode mm_Scene_tryDoor.2.1 121 = .ok (.getfield 51, 3) := by decide +kernel
theorem fd_9_51 : fld 9 51 = some (4, 3) := by decide +kernel
theorem dd_Scene_tryDoor_124 : decode mm_Scene_tryDoor.2.1 124 = .ok (.if_icmp .ne (9), 3) := by decide +kernel
theorem dd_Scene_tryDoor_133 : decode mm_Scene_tryDoor.2.1 133 = .ok (.iconst 0, 1) := by decide +kernel
theorem dd_Scene_tryDoor_134 : decode mm_Scene_tryDoor.2.1 134 = .ok (.ior, 1) := by decide +kernel
theorem dd_Scene_tryDoor_135 : decode mm_Scene_tryDoor.2.1 135 = .ok (.putfield 28, 3) := by decide +kernel
theorem fn_9_3 : fin 9 3 = false := by decide +kernel
theorem dd_Scene_tryDoor_138 : decode mm_Scene_tryDoor.2.1 138 = .ok (.iload 5, 2) := by decide +kernel
theorem dd_Scene_tryDoor_140 : decode mm_Scene_tryDoor.2.1 140 = .ok (.ireturn, 1) := by decide +kernel
theorem dd_Scene_tryDoor_127 : decode mm_Scene_tryDoor.2.1 127 = .ok (.iconst 1, 1) := by decide +kernel
theorem dd_Scene_tryDoor_128 : decode mm_Scene_tryDoor.2.1 128 = .ok (.iload_n 2, 1) := by decide +kernel
theorem dd_Scene_tryDoor_129 : decode mm_Scene_tryDoor.2.1 129 = .ok (.ishl, 1) := by decide +kernel
theorem dd_Scene_tryDoor_130 : decode mm_Scene_tryDoor.2.1 130 = .ok (.goto 4, 3) := by decide +kernel
/-- a scene of the class -/
def scn (c : Int) : Prop := c = 60 ∨ c = 68 ∨ c = 103 ∨ c = 111 ∨ c = 119 ∨ c = 127 ∨ (134 ≤ c ∧ c ≤ 179 ∧ (c - 134) % 3 = 0)
theorem scn_all {c : Int} (hc : scn c) {P : Int → Prop} (p1 : P 60) (p2 : P 68) (p3 : P 103) (p4 : P 111) (p5 : P 119) (p6 : P 127) (p7 : ∀ k : Nat, k < 16 → P (134 + 3 * (k : Int))) : P c := by
  unfold scn at hc
  rcases hc with rfl | rfl | rfl | rfl | rfl | rfl | hc
  · exact p1
  · exact p2
  · exact p3
  · exact p4
  · exact p5
  · exact p6
  · have := p7 ((c - 134) / 3).toNat (by omega)
    rw [show 134 + 3 * ((((c - 134) / 3).toNat : Nat) : Int) = c by omega] at this
    exact this
theorem io_c {c : Int} (hc : scn c) : isO NC c 9 = true := by
  refine scn_all (P := fun c => isO NC c 9 = true) hc ?_ ?_ ?_ ?_ ?_ ?_ ?_ <;> decide +kernel
theorem ia_wc {c : Int} (hc : scn c) : isA NC (c + 1) 1 = true := by
  refine scn_all (P := fun c => isA NC (c + 1) 1 = true) hc ?_ ?_ ?_ ?_ ?_ ?_ ?_ <;> decide +kernel
theorem la_wc {c : Int} (hc : scn c) : (lay (c + 1).toNat).2.2 = 6 := by
  refine scn_all (P := fun c => (lay (c + 1).toNat).2.2 = 6) hc ?_ ?_ ?_ ?_ ?_ ?_ ?_ <;> decide +kernel
theorem ia_tc {c : Int} (hc : scn c) : isA NC (c + 2) 1 = true := by
  refine scn_all (P := fun c => isA NC (c + 2) 1 = true) hc ?_ ?_ ?_ ?_ ?_ ?_ ?_ <;> decide +kernel
theorem la_tc {c : Int} (hc : scn c) : (lay (c + 2).toNat).2.2 = 14 := by
  refine scn_all (P := fun c => (lay (c + 2).toNat).2.2 = 14) hc ?_ ?_ ?_ ?_ ?_ ?_ ?_ <;> decide +kernel
theorem rs_wh {h : LH} {c : Int} (hF : RF h) (hc : scn c) : rd h c ((4 : Nat) : Int) = c + 1 := by
  refine hF c 4 (c + 1) ?_ ?_
  · refine scn_all (P := fun c => vB c ((4 : Nat) : Int) = true) hc ?_ ?_ ?_ ?_ ?_ ?_ ?_ <;> decide +kernel
  · refine scn_all (P := fun c => hav c ((4 : Nat) : Int) = (2, c + 1, c + 1, 0)) hc ?_ ?_ ?_ ?_ ?_ ?_ ?_ <;> decide +kernel
theorem rs_th {h : LH} {c : Int} (hF : RF h) (hc : scn c) : rd h c ((5 : Nat) : Int) = c + 2 := by
  refine hF c 5 (c + 2) ?_ ?_
  · refine scn_all (P := fun c => vB c ((5 : Nat) : Int) = true) hc ?_ ?_ ?_ ?_ ?_ ?_ ?_ <;> decide +kernel
  · refine scn_all (P := fun c => hav c ((5 : Nat) : Int) = (2, c + 2, c + 2, 0)) hc ?_ ?_ ?_ ?_ ?_ ?_ ?_ <;> decide +kernel
theorem B_Scene_tryDoor_0 {xs : Nat → Int} {xl e : Nat} {h : LH} {Q : Option LV → LH → Prop} {v2 v3 : Int} {sc : Int} (hsc : scn sc) (hc0 : 60 ≤ sc) {q : Int} (hq : q = 5 ∨ q = 32) (hF : RF h) (hP : PT h) (r_v2 : 0 ≤ v2 ∧ v2 ≤ 5) (r_v3 : 0 ≤ v3 ∧ v3 ≤ 13)
    (k : (24 ≤ (rd h sc 0) →
        Q (some (.inl (-1))) h) ∧
      ((rd h sc 0) < 24 →
        ((zand (zshr (rd h sc 2) v2) 1) = 0 →
          (∃ c, c < e ∧ Rn xs xl c mm_Quarter_into 0 [some (.inr (.inr q)), some (.inl v3), some (.inl (rd h (q + 21 + v2) 1)), some (.inl (rd h (sc + 1) v2)), some (.inl (rd h sc 0)), some (.inl (rd h sc 1)), none] [] h (fun r h' => Rn xs xl e mm_Scene_tryDoor 54 [some (.inr (.inr sc)), some (.inr (.inr q)), some (.inl v2), some (.inl v3), some (.inr (.inr (q + 21 + v2))), none] (r.toList ++ []) h' Q))) ∧
        ((zand (zshr (rd h sc 2) v2) 1) ≠ 0 →
          Q (some (.inl (-1))) h))) :
    Rn xs xl e mm_Scene_tryDoor 0 [some (.inr (.inr sc)), some (.inr (.inr q)), some (.inl v2), some (.inl v3), none, none] [] h Q := by
  refine R_ld (v := .inr (.inr sc)) dd_Scene_tryDoor_0 rfl rfl rfl rfl ?_
  refine R_gf (v := .inl (rd h sc 0)) dd_Scene_tryDoor_1 fd_9_18 (io_c hsc) (congrArg (fun z : Int => (Sum.inl z : LV)) (rfl)) rfl ?_
  refine R_bi dd_Scene_tryDoor_4 (by decide) rfl ?_
  refine R_icmp dd_Scene_tryDoor_6 rfl rfl (fun (c2 : 24 ≤ (rd h sc 0)) => ?_) (fun (c2 : (rd h sc 0) < 24) => ?_)
  · replace k := k.1 c2
    refine R_ic dd_Scene_tryDoor_20 (by decide) rfl ?_
    exact R_iret dd_Scene_tryDoor_21 rfl k
  · replace k := k.2 c2
    refine R_ld (v := .inr (.inr sc)) dd_Scene_tryDoor_9 rfl rfl rfl rfl ?_
    refine R_gf (v := .inl (rd h sc 2)) dd_Scene_tryDoor_10 fd_9_25 (io_c hsc) (congrArg (fun z : Int => (Sum.inl z : LV)) (rfl)) rfl ?_
    refine R_ld (v := .inl v2) dd_Scene_tryDoor_13 rfl rfl rfl rfl ?_
    refine R_A dd_Scene_tryDoor_14 rfl rfl rfl rfl ?_
    refine R_ic dd_Scene_tryDoor_15 (by decide) rfl ?_
    refine R_A dd_Scene_tryDoor_16 rfl rfl rfl rfl ?_
    refine R_if dd_Scene_tryDoor_17 rfl rfl (fun (c3 : (zand (zshr (rd h sc 2) v2) 1) = 0) => ?_) (fun (c3 : (zand (zshr (rd h sc 2) v2) 1) ≠ 0) => ?_)
    · replace k := k.1 c3
      refine R_ld (v := .inr (.inr q)) dd_Scene_tryDoor_22 rfl rfl rfl rfl ?_
      refine R_gf (v := .inr (.inr (q + 2))) dd_Scene_tryDoor_23 fd_9_42 (io_q hq) (congrArg (fun z : Int => (Sum.inr (Sum.inr z) : LV)) (rq_ppl hF hq)) rfl ?_
      refine R_ld (v := .inl v2) dd_Scene_tryDoor_26 rfl rfl rfl rfl ?_
      refine R_aald (v := (q + 21 + v2)) (n := 6) dd_Scene_tryDoor_27 (ia_pq hq) (la_pq hq) (by omega) (rq_p hP hq (by omega)) rfl ?_
      refine R_st (ls' := [some (.inr (.inr sc)), some (.inr (.inr q)), some (.inl v2), some (.inl v3), some (.inr (.inr (q + 21 + v2))), none]) dd_Scene_tryDoor_28 rfl rfl rfl (Nat.le_of_ble_eq_true rfl) rfl rfl ?_
      refine R_ld (v := .inr (.inr q)) dd_Scene_tryDoor_30 rfl rfl rfl rfl ?_
      refine R_ld (v := .inl v3) dd_Scene_tryDoor_31 rfl rfl rfl rfl ?_
      refine R_ld (v := .inr (.inr (q + 21 + v2))) dd_Scene_tryDoor_32 rfl rfl rfl rfl ?_
      refine R_gf (v := .inl (rd h (q + 21 + v2) 1)) dd_Scene_tryDoor_34 fd_9_66 (io_p hq (by omega)) (congrArg (fun z : Int => (Sum.inl z : LV)) (rfl)) rfl ?_
      refine R_ld (v := .inr (.inr sc)) dd_Scene_tryDoor_37 rfl rfl rfl rfl ?_
      refine R_gf (v := .inr (.inr (sc + 1))) dd_Scene_tryDoor_38 fd_9_9 (io_c hsc) (congrArg (fun z : Int => (Sum.inr (Sum.inr z) : LV)) (rs_wh hF hsc)) rfl ?_
      refine R_ld (v := .inl v2) dd_Scene_tryDoor_41 rfl rfl rfl rfl ?_
      refine R_iald (v := (rd h (sc + 1) v2)) (n := 6) dd_Scene_tryDoor_42 (ia_wc hsc) (la_wc hsc) (by omega) (rfl) rfl ?_
      refine R_ld (v := .inr (.inr sc)) dd_Scene_tryDoor_43 rfl rfl rfl rfl ?_
      refine R_gf (v := .inl (rd h sc 0)) dd_Scene_tryDoor_44 fd_9_18 (io_c hsc) (congrArg (fun z : Int => (Sum.inl z : LV)) (rfl)) rfl ?_
      refine R_ld (v := .inr (.inr sc)) dd_Scene_tryDoor_47 rfl rfl rfl rfl ?_
      refine R_gf (v := .inl (rd h sc 1)) dd_Scene_tryDoor_48 fd_9_22 (io_c hsc) (congrArg (fun z : Int => (Sum.inl z : LV)) (rfl)) rfl ?_
      obtain ⟨c, hc, k⟩ := k
      exact R_call (as := [.inr (.inr q), .inl v3, .inl (rd h (q + 21 + v2) 1), .inl (rd h (sc + 1) v2), .inl (rd h sc 0), .inl (rd h sc 1)]) (rest := []) (M' := mm_Quarter_into) (ls0 := [some (.inr (.inr q)), some (.inl v3), some (.inl (rd h (q + 21 + v2) 1)), some (.inl (rd h (sc + 1) v2)), some (.inl (rd h sc 0)), some (.inl (rd h sc 1)), none]) dd_Scene_tryDoor_51 rfl rfl (cw_v cw_9_69 (io_q hq) rfl rfl (Nat.le_of_ble_eq_true rfl) (Nat.le_of_ble_eq_true rfl)) mt_Quarter_into rfl hc rfl k
    · replace k := k.2 c3
      refine R_ic dd_Scene_tryDoor_20 (by decide) rfl ?_
      exact R_iret dd_Scene_tryDoor_21 rfl k
theorem B_Scene_tryDoor_54 {xs : Nat → Int} {xl e : Nat} {h : LH} {Q : Option LV → LH → Prop} {v2 v3 w0 : Int} {sc : Int} (hsc : scn sc) (hc0 : 60 ≤ sc) {q : Int} (hq : q = 5 ∨ q = 32) (hF : RF h) (hP : PT h) (r_v2 : 0 ≤ v2 ∧ v2 ≤ 5) (r_v3 : 0 ≤ v3 ∧ v3 ≤ 13)
    (k : (w0 = (-1) →
        Q (some (.inl (-1))) h) ∧
      (w0 ≠ (-1) →
        ((rd h (sc + 2) v3) < (rd h (q + 7 + v3) 7) →
          (w0 ≠ (rd h (q + 21 + v2) 3) →
            Q (some (.inl w0)) (wr (wr (wr (wr h (sc + 1) v2 w0) (sc + 2) v3 (w32 ((rd h (sc + 2) v3) + 1))) sc 2 (zor (rd h sc 2) (zshl 1 v2))) sc 3 (zor (rd h sc 3) 0))) ∧
          (w0 = (rd h (q + 21 + v2) 3) →
            Q (some (.inl w0)) (wr (wr (wr (wr h (sc + 1) v2 w0) (sc + 2) v3 (w32 ((rd h (sc + 2) v3) + 1))) sc 2 (zor (rd h sc 2) (zshl 1 v2))) sc 3 (zor (rd h sc 3) (zshl 1 v2))))) ∧
        ((rd h (q + 7 + v3) 7) ≤ (rd h (sc + 2) v3) →
          Q (some (.inl (-1))) h))) :
    Rn xs xl e mm_Scene_tryDoor 54 [some (.inr (.inr sc)), some (.inr (.inr q)), some (.inl v2), some (.inl v3), some (.inr (.inr (q + 21 + v2))), none] [.inl w0] h Q := by
  refine R_st (ls' := [some (.inr (.inr sc)), some (.inr (.inr q)), some (.inl v2), some (.inl v3), some (.inr (.inr (q + 21 + v2))), some (.inl w0)]) dd_Scene_tryDoor_54 rfl rfl rfl (Nat.le_of_ble_eq_true rfl) rfl rfl ?_
  refine R_ld (v := .inl w0) dd_Scene_tryDoor_56 rfl rfl rfl rfl ?_
  refine R_ic dd_Scene_tryDoor_58 (by decide) rfl ?_
  refine R_icmp dd_Scene_tryDoor_59 rfl rfl (fun (c1 : w0 = (-1)) => ?_) (fun (c1 : w0 ≠ (-1)) => ?_)
  · replace k := k.1 c1
    refine R_ic dd_Scene_tryDoor_80 (by decide) rfl ?_
    exact R_iret dd_Scene_tryDoor_81 rfl k
  · replace k := k.2 c1
    refine R_ld (v := .inr (.inr sc)) dd_Scene_tryDoor_62 rfl rfl rfl rfl ?_
    refine R_gf (v := .inr (.inr (sc + 2))) dd_Scene_tryDoor_63 fd_9_15 (io_c hsc) (congrArg (fun z : Int => (Sum.inr (Sum.inr z) : LV)) (rs_th hF hsc)) rfl ?_
    refine R_ld (v := .inl v3) dd_Scene_tryDoor_66 rfl rfl rfl rfl ?_
    refine R_iald (v := (rd h (sc + 2) v3)) (n := 14) dd_Scene_tryDoor_67 (ia_tc hsc) (la_tc hsc) (by omega) (rfl) rfl ?_
    refine R_ld (v := .inr (.inr q)) dd_Scene_tryDoor_68 rfl rfl rfl rfl ?_
    refine R_gf (v := .inr (.inr (q + 1))) dd_Scene_tryDoor_69 fd_9_73 (io_q hq) (congrArg (fun z : Int => (Sum.inr (Sum.inr z) : LV)) (rq_arr hF hq)) rfl ?_
    refine R_ld (v := .inl v3) dd_Scene_tryDoor_72 rfl rfl rfl rfl ?_
    refine R_aald (v := (q + 7 + v3)) (n := 14) dd_Scene_tryDoor_73 (ia_dq hq) (la_dq hq) (by omega) (rq_d hP hq (by omega)) rfl ?_
    refine R_gf (v := .inl (rd h (q + 7 + v3) 7)) dd_Scene_tryDoor_74 fd_9_77 (io_d hq (by omega)) (congrArg (fun z : Int => (Sum.inl z : LV)) (rfl)) rfl ?_
    refine R_icmp dd_Scene_tryDoor_77 rfl rfl (fun (c2 : (rd h (sc + 2) v3) < (rd h (q + 7 + v3) 7)) => ?_) (fun (c2 : (rd h (q + 7 + v3) 7) ≤ (rd h (sc + 2) v3)) => ?_)
    · replace k := k.1 c2
      refine R_ld (v := .inr (.inr sc)) dd_Scene_tryDoor_82 rfl rfl rfl rfl ?_
      refine R_gf (v := .inr (.inr (sc + 1))) dd_Scene_tryDoor_83 fd_9_9 (io_c hsc) (congrArg (fun z : Int => (Sum.inr (Sum.inr z) : LV)) (rs_wh hF hsc)) rfl ?_
      refine R_ld (v := .inl v2) dd_Scene_tryDoor_86 rfl rfl rfl rfl ?_
      refine R_ld (v := .inl w0) dd_Scene_tryDoor_87 rfl rfl rfl rfl ?_
      refine R_iast (n := 6) dd_Scene_tryDoor_89 (ia_wc hsc) (la_wc hsc) (by omega) rfl ?_
      refine R_ld (v := .inr (.inr sc)) dd_Scene_tryDoor_90 rfl rfl rfl rfl ?_
      refine R_gf (v := .inr (.inr (sc + 2))) dd_Scene_tryDoor_91 fd_9_15 (io_c hsc) (congrArg (fun z : Int => (Sum.inr (Sum.inr z) : LV)) ((rdw_ne (by omega)).trans (rs_th hF hsc))) rfl ?_
      refine R_ld (v := .inl v3) dd_Scene_tryDoor_94 rfl rfl rfl rfl ?_
      refine R_A dd_Scene_tryDoor_95 rfl rfl rfl rfl ?_
      refine R_iald (v := (rd h (sc + 2) v3)) (n := 14) dd_Scene_tryDoor_96 (ia_tc hsc) (la_tc hsc) (by omega) (rdw_ne (by omega)) rfl ?_
      refine R_ic dd_Scene_tryDoor_97 (by decide) rfl ?_
      refine R_iaddw dd_Scene_tryDoor_98 rfl ?_
      refine R_iast (n := 14) dd_Scene_tryDoor_99 (ia_tc hsc) (la_tc hsc) (by omega) rfl ?_
      refine R_ld (v := .inr (.inr sc)) dd_Scene_tryDoor_100 rfl rfl rfl rfl ?_
      refine R_A dd_Scene_tryDoor_101 rfl rfl rfl rfl ?_
      refine R_gf (v := .inl (rd h sc 2)) dd_Scene_tryDoor_102 fd_9_25 (io_c hsc) (congrArg (fun z : Int => (Sum.inl z : LV)) ((rdw_ne (by omega)).trans (rdw_ne (by omega)))) rfl ?_
      refine R_ic dd_Scene_tryDoor_105 (by decide) rfl ?_
      refine R_ld (v := .inl v2) dd_Scene_tryDoor_106 rfl rfl rfl rfl ?_
      refine R_A dd_Scene_tryDoor_107 rfl rfl rfl rfl ?_
      refine R_A dd_Scene_tryDoor_108 rfl rfl rfl rfl ?_
      refine R_pf (z := (zor (rd h sc 2) (zshl 1 v2))) dd_Scene_tryDoor_109 fd_9_25 (io_c hsc) fn_9_2 rfl rfl ?_
      refine R_ld (v := .inr (.inr sc)) dd_Scene_tryDoor_112 rfl rfl rfl rfl ?_
      refine R_A dd_Scene_tryDoor_113 rfl rfl rfl rfl ?_
      refine R_gf (v := .inl (rd h sc 3)) dd_Scene_tryDoor_114 fd_9_28 (io_c hsc) (congrArg (fun z : Int => (Sum.inl z : LV)) ((rdw_nei (by omega)).trans ((rdw_ne (by omega)).trans (rdw_ne (by omega))))) rfl ?_
      refine R_ld (v := .inl w0) dd_Scene_tryDoor_117 rfl rfl rfl rfl ?_
      refine R_ld (v := .inr (.inr (q + 21 + v2))) dd_Scene_tryDoor_119 rfl rfl rfl rfl ?_
      refine R_gf (v := .inl (rd h (q + 21 + v2) 3)) dd_Scene_tryDoor_121 fd_9_51 (io_p hq (by omega)) (congrArg (fun z : Int => (Sum.inl z : LV)) ((rdw_ne (by omega)).trans ((rdw_ne (by omega)).trans (rdw_ne (by omega))))) rfl ?_
      refine R_icmp dd_Scene_tryDoor_124 rfl rfl (fun (c3 : w0 ≠ (rd h (q + 21 + v2) 3)) => ?_) (fun (c3 : w0 = (rd h (q + 21 + v2) 3)) => ?_)
      · replace k := k.1 c3
        refine R_ic dd_Scene_tryDoor_133 (by decide) rfl ?_
        refine R_A dd_Scene_tryDoor_134 rfl rfl rfl rfl ?_
        refine R_pf (z := (zor (rd h sc 3) 0)) dd_Scene_tryDoor_135 fd_9_28 (io_c hsc) fn_9_3 rfl rfl ?_
        refine R_ld (v := .inl w0) dd_Scene_tryDoor_138 rfl rfl rfl rfl ?_
        exact R_iret dd_Scene_tryDoor_140 rfl k
      · replace k := k.2 c3
        refine R_ic dd_Scene_tryDoor_127 (by decide) rfl ?_
        refine R_ld (v := .inl v2) dd_Scene_tryDoor_128 rfl rfl rfl rfl ?_
        refine R_A dd_Scene_tryDoor_129 rfl rfl rfl rfl ?_
        refine R_goto dd_Scene_tryDoor_130 rfl ?_
        refine R_A dd_Scene_tryDoor_134 rfl rfl rfl rfl ?_
        refine R_pf (z := (zor (rd h sc 3) (zshl 1 v2))) dd_Scene_tryDoor_135 fd_9_28 (io_c hsc) fn_9_3 rfl rfl ?_
        refine R_ld (v := .inl w0) dd_Scene_tryDoor_138 rfl rfl rfl rfl ?_
        exact R_iret dd_Scene_tryDoor_140 rfl k
    · replace k := k.2 c2
      refine R_ic dd_Scene_tryDoor_80 (by decide) rfl ?_
      exact R_iret dd_Scene_tryDoor_81 rfl k
end
section
/-! the scene, part s1: the class's tryDoor -/
/-- into which room one goes through door d in scene sc; -1 if he can't -/
noncomputable def tryF (h : LH) (q sc : Int) (L : List Int) (p d : Int) : Int :=
  if rd h sc 0 < 24 ∧ ¬ bitZ (rd h sc 2) p ∧ rd h (sc + 2) d < rd h (q + 7 + d) 7 then inF (rd h (q + 7 + d)) L (rd h (q + 21 + p) 1) (rd h (sc + 1) p) (rd h sc 0) (rd h sc 1) d else -1
section SC1
variable {xs : Nat → Int} {xl e : Nat} {h : LH} {Q : Option LV → LH → Prop} {p d q sc : Int} {L : List Int}
theorem F_tryDoor (he : 2 ≤ e) (hsc : scn sc) (hc0 : 60 ≤ sc) (hq : q = 5 ∨ q = 32) (hp : 0 ≤ p ∧ p ≤ 5) (hd : 0 ≤ d ∧ d ≤ 13) (hn : d < rd h q 2) (hs : 0 ≤ rd h (q + 21 + p) 1 ∧ rd h (q + 21 + p) 1 ≤ 3) (hh : 0 ≤ rd h sc 0) (hF : RF h) (hP : PT h) (hc : rd h (q + 7 + d) 5 ≤ 24) (hst : ∀ s hr, 0 ≤ s → s ≤ 3 → 0 ≤ hr → hr ≤ 23 → stl h q L h s hr)
    (k0 : tryF h q sc L p d = -1 → Q (some (.inl (-1))) h) (k1 : tryF h q sc L p d ≠ -1 → Q (some (.inl (tryF h q sc L p d))) (wr (wr (wr (wr h (sc + 1) p (tryF h q sc L p d)) (sc + 2) d (w32 (rd h (sc + 2) d + 1))) sc 2 (zor (rd h sc 2) (zshl 1 p))) sc 3 (zor (rd h sc 3) (if tryF h q sc L p d = rd h (q + 21 + p) 3 then zshl 1 p else 0)))) : Rn xs xl e mm_Scene_tryDoor 0 [some (.inr (.inr sc)), some (.inr (.inr q)), some (.inl p), some (.inl d), none, none] [] h Q := by
  unfold tryF at k0 k1
  refine B_Scene_tryDoor_0 hsc hc0 hq hF hP hp hd ⟨fun c => ?_, fun c => ⟨fun c2 => ⟨1, by omega, ?_⟩, fun c2 => ?_⟩⟩
  · rw [if_neg (fun z => absurd z.1 (by omega))] at k0
    exact k0 rfl
  · have nb : ¬ bitZ (rd h sc 2) p := by unfold bitZ; omega
    refine F_into (L := L) (by omega) hq hd hn hs (by omega) hF hP hc hst ?_
    refine B_Scene_tryDoor_54 hsc hc0 hq hF hP hp hd ⟨fun z => ?_, fun z => ⟨fun c3 => ⟨fun c4 => ?_, fun c4 => ?_⟩, fun c3 => ?_⟩⟩
    · by_cases c3 : rd h (sc + 2) d < rd h (q + 7 + d) 7
      · rw [if_pos ⟨c, nb, c3⟩] at k0
        exact k0 z
      · rw [if_neg (fun y => c3 y.2.2)] at k0
        exact k0 rfl
    · rw [if_pos ⟨c, nb, c3⟩] at k1
      have := k1 z
      rw [if_neg c4] at this
      exact this
    · rw [if_pos ⟨c, nb, c3⟩] at k1
      have := k1 z
      rw [if_pos c4] at this
      exact this
    · rw [if_neg (fun y => absurd y.2.2 (by omega))] at k0
      exact k0 rfl
  · have nb : bitZ (rd h sc 2) p := by have := bitZ_01 (rd h sc 2) p; unfold bitZ; omega
    rw [if_neg (fun z => z.2.1 nb)] at k0
    exact k0 rfl
end SC1
end
section
/-! the scene, part s2: the reference's goes -/
noncomputable def goF (h : LH) (b p d : Int) : Int := if rd h 198 (b + p + 14) ≠ 1 ∧ rd h 198 (b + d + 20) < rd h 188 (8 * d + 10) then NW (key h) (rd h 198 (b + 1)) (rd h 188 (4 * p + 116)) d (rd h 198 (b + p + 2)) (rd h 198 b) else -1
/-- one has gone: r the room -/
def gone (b p d r : Int) (h g : LH) : Prop := rd g 198 (b + p + 2) = r ∧ rd g 198 (b + p + 14) = 1 ∧ rd g 198 (b + d + 20) = rd h 198 (b + d + 20) + 1 ∧ rd g 198 (b + p + 8) = (if r = rd h 188 (4 * p + 118) then 1 else rd h 198 (b + p + 8)) ∧ ∀ a i, a ≠ 196 → a ≠ 197 → ¬ (a = 198 ∧ (i = b + p + 2 ∨ i = b + p + 14 ∨ i = b + d + 20 ∨ i = b + p + 8)) → rd g a i = rd h a i
section SC2
variable {xs : Nat → Int} {xl e : Nat} {h : LH} {Q : Option LV → LH → Prop} {b p d : Int}
theorem G_goes (he : 5 ≤ e) (hI : INV h) (hb : 0 ≤ b ∧ b ≤ 1540) (hp : 0 ≤ p ∧ p ≤ 5) (hd : 0 ≤ d ∧ d ≤ 13) (hs : 0 ≤ rd h 188 (4 * p + 116) ∧ rd h 188 (4 * p + 116) ≤ 3) (hro : 0 ≤ rd h 198 (b + p + 2) ∧ rd h 198 (b + p + 2) ≤ 9) (hhr : 0 ≤ rd h 198 b ∧ rd h 198 b ≤ 24) (hct : 0 ≤ rd h 198 (b + d + 20) ∧ rd h 198 (b + d + 20) ≤ 100000) (hr9 : -1 ≤ goF h b p d ∧ goF h b p d ≤ 9)
    (k0 : goF h b p d = -1 → ∀ g, frL h g → Q (some (.inl (-1))) g) (k1 : 0 ≤ goF h b p d → ∀ g, gone b p d (goF h b p d) h g → Q (some (.inl (goF h b p d))) g) : Rn xs xl e mm_goes 0 [some (.inr (.inr 182)), some (.inl b), some (.inl p), some (.inl d), none] [] h Q := by
  have t70 : ∀ g, RF g → frL h g → Rn xs xl e mm_goes 70 [some (.inr (.inr 182)), some (.inl b), some (.inl p), some (.inl d), none] [.inl (goF h b p d)] g Q := by
    intro g gF gf
    have f188 : ∀ i, rd g 188 i = rd h 188 i := fun i => gf _ _ (by decide) (by decide)
    have f198 : ∀ i, rd g 198 i = rd h 198 i := fun i => gf _ _ (by decide) (by decide)
    have e20 : rd (wr (wr g 198 (b + p + 2) (goF h b p d)) 198 (b + p + 14) 1) 198 (b + d + 20) = rd h 198 (b + d + 20) := by
      rw [rdw_nei (by omega), rdw_nei (by omega)]
      exact f198 _
    have fin : ∀ w, w = (if goF h b p d = rd h 188 (4 * p + 118) then 1 else rd h 198 (b + p + 8)) → gone b p d (goF h b p d) h (wr (wr (wr (wr g 198 (b + p + 2) (goF h b p d)) 198 (b + p + 14) 1) 198 (b + d + 20) (rd h 198 (b + d + 20) + 1)) 198 (b + p + 8) w) := by
      intro w hw
      refine ⟨?_, ?_, ?_, ?_, fun a i n1 n2 n3 => ?_⟩
      · rw [rdw_nei (by omega), rdw_nei (by omega), rdw_nei (by omega), rdw_eq]
      · rw [rdw_nei (by omega), rdw_nei (by omega), rdw_eq]
      · rw [rdw_nei (by omega), rdw_eq]
      · rw [rdw_eq, hw]
      · by_cases c : a = 198
        · subst c
          rw [rdw_nei (fun z => n3 ⟨rfl, by omega⟩), rdw_nei (fun z => n3 ⟨rfl, by omega⟩), rdw_nei (fun z => n3 ⟨rfl, by omega⟩), rdw_nei (fun z => n3 ⟨rfl, by omega⟩)]
          exact f198 i
        · rw [rdw_ne (fun z => c z.symm), rdw_ne (fun z => c z.symm), rdw_ne (fun z => c z.symm), rdw_ne (fun z => c z.symm)]
          exact gf a i n1 n2
    refine B_goes_70 gF hb hp hd hr9 (by omega) ⟨fun c => ?_, fun c => ?_⟩
    · have e1 : goF h b p d = -1 := by omega
      rw [e1]
      exact k0 e1 g gf
    · rw [e20]
      have e8 : rd (wr (wr (wr g 198 (b + p + 2) (goF h b p d)) 198 (b + p + 14) 1) 198 (b + d + 20) (rd h 198 (b + d + 20) + 1)) 198 (b + p + 8) = rd h 198 (b + p + 8) := by
        rw [rdw_nei (by omega), rdw_nei (by omega), rdw_nei (by omega)]
        exact f198 _
      rw [e8, f188]
      exact ⟨by omega, fun c2 => k1 c _ (fin _ (by rw [if_neg c2])), fun c2 => k1 c _ (fin _ (by rw [if_pos c2]))⟩
  refine B_goes_0 (RF_of hI.1) hb hp hd (by omega) ⟨fun c => ?_, fun c => ⟨fun c2 => ⟨4, by omega, ?_⟩, fun c2 => ?_⟩⟩
  · have := t70 h (RF_of hI.1) (fun _ _ _ _ => rfl)
    unfold goF at this
    rw [if_neg (fun z => z.1 c)] at this
    exact this
  · refine D_leadsNow (K := key h) (S := rd h 198) (by omega) ⟨hI, rfl, rfl⟩ hb hd hs hro (by omega) (fun g w gf => ?_)
    have := t70 g (RF_of w.1.1) gf
    unfold goF at this
    rw [if_pos ⟨c, c2⟩] at this
    exact this
  · have := t70 h (RF_of hI.1) (fun _ _ _ _ => rfl)
    unfold goF at this
    rw [if_neg (fun z => absurd z.2 (by omega))] at this
    exact this
end SC2
end
