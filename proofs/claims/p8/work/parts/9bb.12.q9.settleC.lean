/-! doors by sort and hour, part q9: what the class's settle keeps -/
/-- row of bits: door j has its bit where P j -/
def bts (x : Int) (P : Int → Prop) : Prop := ∀ j, 0 ≤ j → j < 14 → (bitZ x j ↔ P j)
/-- the doors as settled in sort s and hour hr -/
def stl (h0 : LH) (q : Int) (L : List Int) (h : LH) (s hr : Int) : Prop := bts (rd h (q + 5) (24 * s + hr)) (fun j => j < rd h0 q 2 ∧ wAh (rd h0 (q + 7 + j)) L s hr (rd h0 (q + 7 + j) 8) 0) ∧ bts (rd h (q + 6) (24 * s + hr)) (fun j => j < rd h0 q 2 ∧ wBk (rd h0 (q + 7 + j)) L s hr (rd h0 (q + 7 + j) 8) 0)
theorem hav_ahd {q : Int} (hq : q = 5 ∨ q = 32) (i : Int) : (hav (q + 5) i).1 ≠ 2 := by
  rcases hq with rfl | rfl
  · exact hav_nr (by decide +kernel) i
  · exact hav_nr (by decide +kernel) i
theorem hav_bck {q : Int} (hq : q = 5 ∨ q = 32) (i : Int) : (hav (q + 6) i).1 ≠ 2 := by
  rcases hq with rfl | rfl
  · exact hav_nr (by decide +kernel) i
  · exact hav_nr (by decide +kernel) i
section QM9
variable {xs : Nat → Int} {xl e : Nat} {h : LH} {Q : Option LV → LH → Prop} {v1 v2 v3 v4 v5 q d : Int} {L : List Int}
theorem bts_step {x m : Int} {P : Int → Prop} (hm : 0 ≤ m ∧ m ≤ 13) {w : Int} (hx : bts x (fun j => j < m ∧ P j)) (hw : w = 0 ∧ ¬ P m ∨ w = zshl 1 m ∧ P m) : bts (zor x w) (fun j => j < m + 1 ∧ P j) := by
  intro j j0 j1
  rw [bit_or j0 (by omega), hx j j0 j1]
  rcases hw with ⟨e, n⟩ | ⟨e, n⟩
  · rw [e]
    refine ⟨fun z => z.elim (fun y => ⟨by have := y.1; omega, y.2⟩) (fun y => absurd y bit_zero), fun z => Or.inl ⟨?_, z.2⟩⟩
    have : j ≠ m := fun y => n (by rw [← y]; exact z.2)
    have := z.1
    omega
  · rw [e, bit_shl hm.1 (by omega) j0 (by omega)]
    refine ⟨fun z => z.elim (fun y => ⟨by have := y.1; omega, y.2⟩) (fun y => ⟨by omega, by rw [y]; exact n⟩), fun z => ?_⟩
    by_cases y : j = m
    · exact Or.inr y
    · exact Or.inl ⟨by have := z.1; omega, z.2⟩
theorem F_settleHour (he : 4 ≤ e) (hq : q = 5 ∨ q = 32) (h1 : 0 ≤ v1 ∧ v1 ≤ 3) (h2 : 0 ≤ v2 ∧ v2 ≤ 23) (hF : RF h) (hP : PT h) (hl : LWQ h q L) (hn : 0 ≤ rd h q 2 ∧ rd h q 2 ≤ 14)
    (k : ∀ h', RF h' → (∀ a i, a ≠ q + 4 → a ≠ q + 5 → a ≠ q + 6 → rd h' a i = rd h a i) → (∀ i, i ≠ 24 * v1 + v2 → rd h' (q + 5) i = rd h (q + 5) i ∧ rd h' (q + 6) i = rd h (q + 6) i) → stl h q L h' v1 v2 → Q none h') : Rn xs xl e mm_Quarter_settleHour 0 [some (.inr (.inr q)), some (.inl v1), some (.inl v2), none, none, none, none] [] h Q := by
  have loop : ∀ (n : Nat) (m a b : Int) (g : LH) (o6 : Option LV), rd h q 2 - m ≤ n → 0 ≤ m → m ≤ rd h q 2 → RF g → (∀ a i, a ≠ q + 4 → rd g a i = rd h a i) → bts a (fun j => j < m ∧ wAh (rd h (q + 7 + j)) L v1 v2 (rd h (q + 7 + j) 8) 0) → bts b (fun j => j < m ∧ wBk (rd h (q + 7 + j)) L v1 v2 (rd h (q + 7 + j) 8) 0) → Rn xs xl e mm_Quarter_settleHour 8 [some (.inr (.inr q)), some (.inl v1), some (.inl v2), some (.inl a), some (.inl b), some (.inl m), o6] [] g Q := by
    intro n
    induction n with
    | zero =>
      intro m a b g o6 hd m0 m1 gF gf ha hb
      have em : m = rd h q 2 := by omega
      have gP : PT g := PT_fr hP (fun a i n => gf a i (by omega))
      have e2 : rd g q 2 = rd h q 2 := gf _ _ (by omega)
      subst em
      refine B_Quarter_settleHour_8 hq gF gP (by omega) ⟨fun _ => B_Quarter_settleHour_82 hq gF h1 h2 ?_, fun c => by omega⟩
      refine k _ (RF_wn (hav_bck hq _) (RF_wn (hav_ahd hq _) gF)) (fun a i n1 n2 n3 => ?_) (fun i n1 => ⟨?_, ?_⟩) ⟨?_, ?_⟩
      · rw [rdw_ne (fun z => n3 z.symm), rdw_ne (fun z => n2 z.symm)]
        exact gf a i n1
      · rw [rdw_ne (by omega), rdw_nei (fun z => n1 z.symm)]
        exact gf _ _ (by omega)
      · rw [rdw_nei (fun z => n1 z.symm), rdw_ne (by omega)]
        exact gf _ _ (by omega)
      · rw [rdw_ne (by omega), rdw_eq]
        exact ha
      · rw [rdw_eq]
        exact hb
    | succ n ih =>
      intro m a b g o6 hd m0 m1 gF gf ha hb
      rcases Int.lt_or_le m (rd h q 2) with lt | ge
      · have gP : PT g := PT_fr hP (fun a i n => gf a i (by omega))
        have e2 : rd g q 2 = rd h q 2 := gf _ _ (by omega)
        have hlg : LWQ g q L := LWQ_fr hl (gf _ _ (by omega)) (fun i _ => gf _ _ (by omega))
        have ef : rd g (q + 7 + m) = rd h (q + 7 + m) := funext (fun i => gf _ _ (by omega))
        refine B_Quarter_settleHour_8 hq gF gP (by omega) ⟨fun c => by omega, fun c => ⟨by omega, 3, by omega, F_ways (by omega) hq (by omega) (Or.inl rfl) gF gP hlg (fun r h' r4 ra rb hF' f => ?_)⟩⟩
        rw [ef] at ra rb
        have ff : ∀ a i, a ≠ q + 4 → rd h' a i = rd h a i := fun a i n => (f a i n).trans (gf a i n)
        have st : ∀ (wa wb : Int), (wa = 0 ∧ ¬ (r = 1 ∨ r = 3) ∨ wa = zshl 1 m ∧ (r = 1 ∨ r = 3)) → (wb = 0 ∧ ¬ (r = 2 ∨ r = 3) ∨ wb = zshl 1 m ∧ (r = 2 ∨ r = 3)) → Rn xs xl e mm_Quarter_settleHour 8 [some (.inr (.inr q)), some (.inl v1), some (.inl v2), some (.inl (zor a wa)), some (.inl (zor b wb)), some (.inl (m + 1)), some (.inl r)] [] h' Q := by
          intro wa wb ea eb
          rw [ra] at ea
          rw [rb] at eb
          exact ih (m + 1) _ _ h' _ (by omega) (by omega) (by omega) hF' ff (bts_step (P := fun j => wAh (rd h (q + 7 + j)) L v1 v2 (rd h (q + 7 + j) 8) 0) (by omega) ha ea) (bts_step (P := fun j => wBk (rd h (q + 7 + j)) L v1 v2 (rd h (q + 7 + j) 8) 0) (by omega) hb eb)
        refine B_Quarter_settleHour_36 hq hF' (by omega) ?_
        rcases r4 with rfl | rfl | rfl | rfl
        · exact ⟨fun _ => ⟨fun _ => st 0 0 (by omega) (by omega), fun z => absurd rfl z⟩, fun z => absurd rfl z⟩
        · exact ⟨fun z => absurd z (by decide), fun _ => ⟨fun _ => st _ 0 (Or.inr ⟨rfl, Or.inl rfl⟩) (by omega), fun z => absurd rfl z⟩⟩
        · exact ⟨fun _ => ⟨fun z => absurd z (by decide), fun _ => st 0 _ (by omega) (Or.inr ⟨rfl, Or.inl rfl⟩)⟩, fun z => absurd rfl z⟩
        · exact ⟨fun z => absurd z (by decide), fun _ => ⟨fun z => absurd z (by decide), fun _ => st _ _ (Or.inr ⟨rfl, Or.inr rfl⟩) (Or.inr ⟨rfl, Or.inr rfl⟩)⟩⟩
      · exact ih m a b g o6 (by omega) m0 m1 gF gf ha hb
  have z : ∀ P : Int → Prop, bts 0 (fun j => j < 0 ∧ P j) := fun P j j0 j1 => ⟨fun y => absurd y bit_zero, fun y => by have := y.1; omega⟩
  exact B_Quarter_settleHour_0 hq hF (loop (rd h q 2).toNat 0 0 0 h none (by omega) (by omega) hn.1 hF (fun _ _ _ => rfl) (z _) (z _))
theorem stl_fr {h0 h h' : LH} {s hr : Int} (hs : stl h0 q L h s hr) (f1 : rd h' (q + 5) (24 * s + hr) = rd h (q + 5) (24 * s + hr)) (f2 : rd h' (q + 6) (24 * s + hr) = rd h (q + 6) (24 * s + hr)) : stl h0 q L h' s hr := by
  unfold stl
  rw [f1, f2]
  exact hs
theorem stl_0 {h0 h1 h : LH} {s hr : Int} (f : ∀ a i, a ≠ q + 4 → a ≠ q + 5 → a ≠ q + 6 → rd h1 a i = rd h0 a i) (hs : stl h1 q L h s hr) : stl h0 q L h s hr := by
  have e : ∀ j, 0 ≤ j → rd h1 (q + 7 + j) = rd h0 (q + 7 + j) := fun j j0 => funext (fun i => f _ _ (by omega) (by omega) (by omega))
  have e2 : rd h1 q 2 = rd h0 q 2 := f _ _ (by omega) (by omega) (by omega)
  refine ⟨fun j j0 j1 => ?_, fun j j0 j1 => ?_⟩
  · have := hs.1 j j0 j1
    show _ ↔ j < rd h0 q 2 ∧ wAh (rd h0 (q + 7 + j)) L s hr (rd h0 (q + 7 + j) 8) 0
    rw [← e j j0, ← e2]
    exact this
  · have := hs.2 j j0 j1
    show _ ↔ j < rd h0 q 2 ∧ wBk (rd h0 (q + 7 + j)) L s hr (rd h0 (q + 7 + j) 8) 0
    rw [← e j j0, ← e2]
    exact this
theorem F_settle (he : 5 ≤ e) (hq : q = 5 ∨ q = 32) (hF : RF h) (hP : PT h) (hl : LWQ h q L) (hn : 0 ≤ rd h q 2 ∧ rd h q 2 ≤ 14)
    (k : ∀ h', RF h' → (∀ a i, a ≠ q + 4 → a ≠ q + 5 → a ≠ q + 6 → rd h' a i = rd h a i) → (∀ s hr, 0 ≤ s → s ≤ 3 → 0 ≤ hr → hr ≤ 23 → stl h q L h' s hr) → Q none h') : Rn xs xl e mm_Quarter_settle 0 [some (.inr (.inr q)), none, none] [] h Q := by
  have inner : ∀ (n : Nat) (s : Int) (g : LH) (m : Int), 24 - m ≤ n → 0 ≤ m → m ≤ 24 → 0 ≤ s → s ≤ 3 → RF g → (∀ a i, a ≠ q + 4 → a ≠ q + 5 → a ≠ q + 6 → rd g a i = rd h a i) → (∀ t hr, 0 ≤ t → t ≤ 3 → 0 ≤ hr → hr ≤ 23 → (t < s ∨ t = s ∧ hr < m) → stl h q L g t hr) → (∀ g', RF g' → (∀ a i, a ≠ q + 4 → a ≠ q + 5 → a ≠ q + 6 → rd g' a i = rd h a i) → (∀ t hr, 0 ≤ t → t ≤ 3 → 0 ≤ hr → hr ≤ 23 → t < s + 1 → stl h q L g' t hr) → Rn xs xl e mm_Quarter_settle 2 [some (.inr (.inr q)), some (.inl (s + 1)), some (.inl 24)] [] g' Q) → Rn xs xl e mm_Quarter_settle 9 [some (.inr (.inr q)), some (.inl s), some (.inl m)] [] g Q := by
    intro n
    induction n with
    | zero =>
      intro s g m hd m0 m1 s0 s1 gF gf gs kk
      have em : m = 24 := by omega
      subst em
      refine B_Quarter_settle_9 hq gF ⟨fun _ => B_Quarter_settle_27 hq gF (by omega) (kk g gF gf (fun t hr t0 t1 r0 r1 lt => gs t hr t0 t1 r0 r1 (by omega))), fun c => by omega⟩
    | succ n ih =>
      intro s g m hd m0 m1 s0 s1 gF gf gs kk
      rcases Int.lt_or_le m 24 with lt | ge
      · have gP : PT g := PT_fr hP (fun a i n => gf a i (by omega) (by omega) (by omega))
        have hlg : LWQ g q L := LWQ_fr hl (gf _ _ (by omega) (by omega) (by omega)) (fun i _ => gf _ _ (by omega) (by omega) (by omega))
        have e2 : rd g q 2 = rd h q 2 := gf _ _ (by omega) (by omega) (by omega)
        refine B_Quarter_settle_9 hq gF ⟨fun c => by omega, fun _ => ⟨4, by omega, F_settleHour (by omega) hq (by omega) (by omega) gF gP hlg (by omega) (fun h' hF' f f2 hs => ?_)⟩⟩
        refine B_Quarter_settle_21 hq hF' (by omega) (ih s h' (m + 1) (by omega) (by omega) (by omega) s0 s1 hF' (fun a i n1 n2 n3 => (f a i n1 n2 n3).trans (gf a i n1 n2 n3)) (fun t hr t0 t1 r0 r1 tt => ?_) kk)
        by_cases c : t = s ∧ hr = m
        · obtain ⟨rfl, rfl⟩ := c
          exact stl_0 gf hs
        · have ne : 24 * t + hr ≠ 24 * s + m := by omega
          exact stl_fr (gs t hr t0 t1 r0 r1 (by omega)) (f2 _ ne).1 (f2 _ ne).2
      · exact ih s g m (by omega) m0 m1 s0 s1 gF gf gs kk
  have outer : ∀ (n : Nat) (s : Int) (g : LH) (o2 : Option LV), 4 - s ≤ n → 0 ≤ s → s ≤ 4 → RF g → (∀ a i, a ≠ q + 4 → a ≠ q + 5 → a ≠ q + 6 → rd g a i = rd h a i) → (∀ t hr, 0 ≤ t → t ≤ 3 → 0 ≤ hr → hr ≤ 23 → t < s → stl h q L g t hr) → Rn xs xl e mm_Quarter_settle 2 [some (.inr (.inr q)), some (.inl s), o2] [] g Q := by
    intro n
    induction n with
    | zero =>
      intro s g o2 hd s0 s1 gF gf gs
      exact B_Quarter_settle_2 hq gF ⟨fun _ => k g gF gf (fun t hr t0 t1 r0 r1 => gs t hr t0 t1 r0 r1 (by omega)), fun c => by omega⟩
    | succ n ih =>
      intro s g o2 hd s0 s1 gF gf gs
      rcases Int.lt_or_le s 4 with lt | ge
      · refine B_Quarter_settle_2 hq gF ⟨fun c => by omega, fun _ => inner 24 s g 0 (by omega) (by omega) (by omega) s0 (by omega) gF gf (fun t hr t0 t1 r0 r1 tt => gs t hr t0 t1 r0 r1 (by omega)) (fun g' gF' gf' gs' => ih (s + 1) g' _ (by omega) (by omega) (by omega) gF' gf' gs')⟩
      · exact ih s g o2 (by omega) s0 s1 gF gf gs
  exact B_Quarter_settle_0 hq hF (outer 4 0 h none (by omega) (by omega) (by omega) hF (fun _ _ _ _ _ => rfl) (fun t hr t0 t1 r0 r1 lt => by omega))
end QM9
