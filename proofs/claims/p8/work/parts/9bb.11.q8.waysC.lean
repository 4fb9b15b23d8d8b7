/-! doors by sort and hour, part q8: by which ways the class's doors let a sort by; what settle keeps -/
/-- a quarter with this law -/
def LWQ (h : LH) (q : Int) (L : List Int) : Prop := rd h q 6 = (L.length : Int) ∧ (∀ i : Nat, i < L.length → rd h (q + 3) i = L.getD i 0) ∧ L.length ≤ 1000 ∧ hOk 32 L 0 ∧ (0 < L.length → hEnd L 0 = 1) ∧ ∀ c ∈ L, cdR c
theorem LWQ_fr {h h' : LH} {q : Int} {L : List Int} (hl : LWQ h q L) (f1 : rd h' q 6 = rd h q 6) (f2 : ∀ i : Nat, i < L.length → rd h' (q + 3) i = rd h (q + 3) i) : LWQ h' q L :=
  ⟨f1.trans hl.1, fun i hi => (f2 i hi).trans (hl.2.1 i hi), hl.2.2⟩
/-- a door with the fields f lets sort s by in hour hr into a room -/
def lets (f : Int → Int) (L : List Int) (s hr cost room : Int) : Prop := f 1 ≠ 3 ∧ f 4 ≤ hr ∧ hr < f 5 ∧ (f 6 = -1 ∨ f 6 = s ∨ s = 3) ∧ lawW (fcs hr s cost room) L ≠ 0
/-- it leads back -/
def lbk (f : Int → Int) (hr t : Int) : Prop := ((f 1 = 1 ∧ 12 ≤ hr) ∧ t = 0) ∨ (¬ (f 1 = 1 ∧ 12 ≤ hr) ∧ t = 1)
def wAh (f : Int → Int) (L : List Int) (s hr cost t : Int) : Prop := (s = 3 ∨ ¬ lbk f hr t) ∧ lets f L s hr cost (f 3)
def wBk (f : Int → Int) (L : List Int) (s hr cost t : Int) : Prop := (s = 3 ∨ lbk f hr t) ∧ lets f L s hr cost (f 2)
section QM8
variable {xs : Nat → Int} {xl e : Nat} {h : LH} {Q : Option LV → LH → Prop} {v1 v2 v3 v4 v5 q d : Int} {L : List Int}
theorem F_letsInto (he : 2 ≤ e) (hq : q = 5 ∨ q = 32) (hd : q + 7 ≤ d ∧ d ≤ q + 20) (hF : RF h) (hl : LWQ h q L)
    (k : ∀ r h', (r = 0 ∨ r = 1) → (r = 1 ↔ lets (rd h d) L v2 v3 v4 v5) → RF h' → (∀ a i, a ≠ q + 4 → rd h' a i = rd h a i) → Q (some (.inl r)) h') : Rn xs xl e mm_Quarter_letsInto 0 [some (.inr (.inr q)), some (.inr (.inr d)), some (.inl v2), some (.inl v3), some (.inl v4), some (.inl v5)] [] h Q := by
  have no : (lets (rd h d) L v2 v3 v4 v5 → False) → Q (some (.inl 0)) h := fun z => k 0 h (Or.inl rfl) ⟨fun y => by omega, fun y => (z y).elim⟩ hF (fun _ _ _ => rfl)
  have yes : rd h d 1 ≠ 3 → rd h d 4 ≤ v3 → v3 < rd h d 5 → (rd h d 6 = -1 ∨ rd h d 6 = v2 ∨ v2 = 3) → ∃ c, c < e ∧ Rn xs xl c mm_Quarter_lawFor 0 [some (.inr (.inr q)), some (.inl v3), some (.inl v2), some (.inl v4), some (.inl v5), none, none, none] [] h (fun r h' => Rn xs xl e mm_Quarter_letsInto 59 [some (.inr (.inr q)), some (.inr (.inr d)), some (.inl v2), some (.inl v3), some (.inl v4), some (.inl v5)] (r.toList ++ []) h' Q) := by
    intro a1 a2 a3 a4
    obtain ⟨l1, l2, l3, l4, l5, l6⟩ := hl
    refine ⟨1, by omega, F_lawFor (by omega) hq hF l1 l2 l3 l4 l5 l6 (fun h' hF' f => B_Quarter_letsInto_59 hq hd hF' ⟨fun z => ?_, fun z => ?_⟩)⟩
    · exact k 0 h' (Or.inl rfl) ⟨fun y => by omega, fun y => absurd z y.2.2.2.2⟩ hF' f
    · exact k 1 h' (Or.inr rfl) ⟨fun _ => ⟨a1, a2, a3, a4, z⟩, fun _ => rfl⟩ hF' f
  refine B_Quarter_letsInto_0 hq hd hF ⟨fun c => no (fun z => z.1 c), fun c => ⟨fun c2 => no (fun z => ?_), fun c2 => ⟨fun c3 => ⟨fun c4 => yes c c2 c3 (Or.inl c4), fun c4 => ⟨fun c5 => yes c c2 c3 (Or.inr (Or.inl c5)), fun c5 => ⟨fun c6 => yes c c2 c3 (Or.inr (Or.inr c6)), fun c6 => no (fun z => ?_)⟩⟩⟩, fun c3 => no (fun z => ?_)⟩⟩⟩
  · have := z.2.1; omega
  · rcases z.2.2.2.1 with y | y | y
    · exact c4 y
    · exact c5 y
    · exact c6 y
  · have := z.2.2.1; omega
theorem F_ways (he : 3 ≤ e) (hq : q = 5 ∨ q = 32) (h1 : 0 ≤ v1 ∧ v1 ≤ 13) (h5 : v5 = 0 ∨ v5 = 1) (hF : RF h) (hP : PT h) (hl : LWQ h q L)
    (k : ∀ r h', (r = 0 ∨ r = 1 ∨ r = 2 ∨ r = 3) → ((r = 1 ∨ r = 3) ↔ wAh (rd h (q + 7 + v1)) L v2 v3 v4 v5) → ((r = 2 ∨ r = 3) ↔ wBk (rd h (q + 7 + v1)) L v2 v3 v4 v5) → RF h' → (∀ a i, a ≠ q + 4 → rd h' a i = rd h a i) → Q (some (.inl r)) h') : Rn xs xl e mm_Quarter_ways 0 [some (.inr (.inr q)), some (.inl v1), some (.inl v2), some (.inl v3), some (.inl v4), some (.inl v5), none, none, none] [] h Q := by
  have hd : q + 7 ≤ q + 7 + v1 ∧ q + 7 + v1 ≤ q + 20 := by omega
  -- the second way
  have t77 : ∀ (w r : Int) (g : LH), (w = 0 ∨ w = 1) → (w = 1 ↔ lbk (rd h (q + 7 + v1)) v3 v5) → (r = 0 ∨ r = 1) → (r = 1 ↔ wAh (rd h (q + 7 + v1)) L v2 v3 v4 v5) → RF g → (∀ a i, a ≠ q + 4 → rd g a i = rd h a i) → Rn xs xl e mm_Quarter_ways 77 [some (.inr (.inr q)), some (.inl v1), some (.inl v2), some (.inl v3), some (.inl v4), some (.inl v5), some (.inr (.inr (q + 7 + v1))), some (.inl w), some (.inl r)] [] g Q := by
    intro w r g w01 hw r01 hr gF gf
    have ef : rd g (q + 7 + v1) = rd h (q + 7 + v1) := funext (fun i => gf _ _ (by omega))
    have hlg : LWQ g q L := LWQ_fr hl (gf _ _ (by omega)) (fun i _ => gf _ _ (by omega))
    have call : (v2 = 3 ∨ w = 1) → ∃ c, c < e ∧ Rn xs xl c mm_Quarter_letsInto 0 [some (.inr (.inr q)), some (.inr (.inr (q + 7 + v1))), some (.inl v2), some (.inl v3), some (.inl v4), some (.inl (rd g (q + 7 + v1) 2))] [] g (fun r' h' => Rn xs xl e mm_Quarter_ways 102 [some (.inr (.inr q)), some (.inl v1), some (.inl v2), some (.inl v3), some (.inl v4), some (.inl v5), some (.inr (.inr (q + 7 + v1))), some (.inl w), some (.inl r)] (r'.toList ++ []) h' Q) := by
      intro hv
      refine ⟨2, by omega, F_letsInto (by omega) hq hd gF hlg (fun r' h' q01 qi hF' f => ?_)⟩
      rw [ef] at qi
      have ff : ∀ a i, a ≠ q + 4 → rd h' a i = rd h a i := fun a i n => (f a i n).trans (gf a i n)
      have wb : wBk (rd h (q + 7 + v1)) L v2 v3 v4 v5 ↔ r' = 1 := by
        unfold wBk
        rw [qi, ← hw]
        exact ⟨fun z => z.2, fun z => ⟨hv, z⟩⟩
      refine B_Quarter_ways_102 hq hF' h1 ⟨fun z => B_Quarter_ways_111 hq hF' h1 ?_, fun z => B_Quarter_ways_111 hq hF' h1 ?_⟩
      · exact k r h' (by omega) (by rw [← hr]; omega) (by rw [wb]; omega) hF' ff
      · have e2 : zor r 2 = r + 2 := by rcases r01 with rfl | rfl <;> decide
        rw [e2]
        exact k (r + 2) h' (by omega) (by rw [← hr]; omega) (by rw [wb]; omega) hF' ff
    refine B_Quarter_ways_77 hq gF h1 ⟨fun c => call (Or.inl c), fun c => ⟨fun c2 => B_Quarter_ways_111 hq gF h1 ?_, fun c2 => call (Or.inr (w01.resolve_left c2))⟩⟩
    clear call
    refine k r g (by omega) (by rw [← hr]; omega) ⟨fun z => by omega, fun z => ?_⟩ gF gf
    rcases z.1 with y | y
    · exact absurd y c
    · have := hw.mpr y; omega
  have t38 : ∀ (w : Int), (w = 0 ∨ w = 1) → (w = 1 ↔ lbk (rd h (q + 7 + v1)) v3 v5) → Rn xs xl e mm_Quarter_ways 38 [some (.inr (.inr q)), some (.inl v1), some (.inl v2), some (.inl v3), some (.inl v4), some (.inl v5), some (.inr (.inr (q + 7 + v1))), none, none] [.inl w] h Q := by
    intro w w01 hw
    have call : (v2 = 3 ∨ w = 0) → ∃ c, c < e ∧ Rn xs xl c mm_Quarter_letsInto 0 [some (.inr (.inr q)), some (.inr (.inr (q + 7 + v1))), some (.inl v2), some (.inl v3), some (.inl v4), some (.inl (rd h (q + 7 + v1) 3))] [] h (fun r' h' => Rn xs xl e mm_Quarter_ways 68 [some (.inr (.inr q)), some (.inl v1), some (.inl v2), some (.inl v3), some (.inl v4), some (.inl v5), some (.inr (.inr (q + 7 + v1))), some (.inl w), some (.inl 0)] (r'.toList ++ []) h' Q) := by
      intro hv
      refine ⟨2, by omega, F_letsInto (by omega) hq hd hF hl (fun r' h' q01 qi hF' f => ?_)⟩
      have wa : wAh (rd h (q + 7 + v1)) L v2 v3 v4 v5 ↔ r' = 1 := by
        unfold wAh
        rw [qi, ← hw]
        exact ⟨fun z => z.2, fun z => ⟨hv.elim Or.inl (fun y => Or.inr (by omega)), z⟩⟩
      refine B_Quarter_ways_68 hq hF' h1 ⟨fun z => ?_, fun z => ?_⟩
      · exact t77 w 0 h' w01 hw (Or.inl rfl) (by rw [wa]; omega) hF' f
      · exact t77 w 1 h' w01 hw (Or.inr rfl) (by rw [wa]; omega) hF' f
    refine B_Quarter_ways_38 hq hF h1 ⟨fun c => call (Or.inl c), fun c => ⟨fun c2 => ?_, fun c2 => call (Or.inr c2)⟩⟩
    clear call
    refine t77 w 0 h w01 hw (Or.inl rfl) ⟨fun z => by omega, fun z => ?_⟩ hF (fun _ _ _ => rfl)
    rcases z.1 with y | y
    · exact absurd y c
    · exact absurd (hw.mp (by omega)) y
  refine B_Quarter_ways_0 hq hF hP h1 ⟨fun c => ⟨fun c2 => t38 0 (Or.inl rfl) ?_, fun c2 => t38 1 (Or.inr rfl) ?_⟩, fun c => ⟨fun c1 => ⟨fun c2 => t38 0 (Or.inl rfl) ?_, fun c2 => t38 1 (Or.inr rfl) ?_⟩, fun c1 => ⟨fun c2 => t38 0 (Or.inl rfl) ?_, fun c2 => t38 1 (Or.inr rfl) ?_⟩⟩⟩
  all_goals (unfold lbk; omega)
end QM8
