/-! LM, part 52: the reference's law and doors answer by what was told alone -/
def bothF (c a b : Int) : Int := if c = 4 then w32 (a + b) else if c = 5 then w32 (a - b) else if c = 6 then w32 (a * b) else if c = 7 then (if a < b then 1 else 0) else if c = 8 then (if a = b then 1 else 0) else if c = 9 then (if a ≠ 0 ∧ b ≠ 0 then 1 else 0) else (if a ≠ 0 ∨ b ≠ 0 then 1 else 0)
theorem bothF_in (c a b : Int) : i32 (bothF c a b) := by
  unfold bothF
  have z : i32 0 := z32
  have o : i32 1 := by unfold i32; omega
  repeat' split
  all_goals first | exact w32_in _ | exact z | exact o
/-- values lie on the pile, the last on top -/
def pileOk (h : LH) : List Int → Prop
  | [] => True
  | v :: r => rd h 197 (r.length : Int) = v ∧ i32 v ∧ pileOk h r
theorem pileOk_wr {h : LH} {i v : Int} : ∀ {s : List Int}, pileOk h s → (s.length : Int) ≤ i → pileOk (wr h 197 i v) s
  | [], _, _ => trivial
  | w :: r, hp, hi => by
    rw [List.length_cons] at hi
    refine ⟨?_, hp.2.1, pileOk_wr hp.2.2 (by omega)⟩
    rw [rdw_nei (by omega)]
    exact hp.1
theorem pileOk_same {h h' : LH} (e : ∀ i, rd h' 197 i = rd h 197 i) : ∀ {s : List Int}, pileOk h s → pileOk h' s
  | [], _ => trivial
  | w :: r, hp => ⟨by rw [e]; exact hp.1, hp.2.1, pileOk_same e hp.2.2⟩
section C10
variable {xs : Nat → Int} {xl e : Nat} {h : LH} {Q : Option LV → LH → Prop}
theorem D_both {c a b : Int} (hF : RF h) (k : Q (some (.inl (bothF c a b))) h) : Rn xs xl e mm_both 0 [some (.inl c), some (.inl a), some (.inl b)] [] h Q := by
  refine B_both_0 hF ?_
  unfold bothF at k
  refine ⟨fun q => ?_, fun q => ?_, fun q => ?_, fun q => ?_, fun q => ?_, fun q => ?_, fun q => ?_⟩
  · rw [if_pos q] at k
    exact k
  · rw [if_neg (by omega), if_pos q] at k
    exact k
  · rw [if_neg (by omega), if_neg (by omega), if_pos q] at k
    exact k
  · rw [if_neg (by omega), if_neg (by omega), if_neg (by omega), if_pos q] at k
    refine ⟨fun c => ?_, fun c => ?_⟩
    · rw [if_neg (by omega)] at k
      exact k
    · rw [if_pos c] at k
      exact k
  · rw [if_neg (by omega), if_neg (by omega), if_neg (by omega), if_neg (by omega), if_pos q] at k
    refine ⟨fun c => ?_, fun c => ?_⟩
    · rw [if_neg c] at k
      exact k
    · rw [if_pos c] at k
      exact k
  · rw [if_neg (by omega), if_neg (by omega), if_neg (by omega), if_neg (by omega), if_neg (by omega), if_pos q] at k
    refine ⟨fun c => ?_, fun c => ⟨fun d => ?_, fun d => ?_⟩⟩
    · rw [if_neg (by omega)] at k
      exact k
    · rw [if_neg (by omega)] at k
      exact k
    · rw [if_pos ⟨c, d⟩] at k
      exact k
  · rw [if_neg (by omega), if_neg (by omega), if_neg (by omega), if_neg (by omega), if_neg (by omega), if_neg (by omega)] at k
    refine ⟨fun c => ?_, fun c => ⟨fun d => ?_, fun d => ?_⟩⟩
    · rw [if_pos (Or.inl c)] at k
      exact k
    · rw [if_neg (by omega)] at k
      exact k
    · rw [if_pos (Or.inr d)] at k
      exact k
/-- a heap with this law and these facts -/
def lawH (op ar fc : Int → Int) (h0 h : LH) : Prop := INV h ∧ rd h 189 = op ∧ rd h 190 = ar ∧ (∀ j, 0 ≤ j → j ≤ 3 → rd h 196 j = fc j) ∧ ∀ a i, a ≠ 197 → rd h a i = rd h0 a i
theorem lawH_wr {op ar fc : Int → Int} {h0 h : LH} (hl : lawH op ar fc h0 h) {i v : Int} (i0 : 0 ≤ i ∧ i < 1100) (hv : i32 v) : lawH op ar fc h0 (wr h 197 i v) := by
  obtain ⟨l1, l2, l3, l4, l5⟩ := hl
  refine ⟨wA_pile l1 i0 hv.1 hv.2, ?_, ?_, fun j j0 j1 => ?_, fun a i hn => ?_⟩
  · rw [← l2]
    exact funext (fun j => rdw_ne (by decide))
  · rw [← l3]
    exact funext (fun j => rdw_ne (by decide))
  · rw [rdw_ne (by decide)]
    exact l4 j j0 j1
  · rw [rdw_ne (fun q => hn q.symm)]
    exact l5 a i hn
/-- one expression: a value more on the pile -/
theorem seg_run {op ar fc : Int → Int} (hfc : ∀ j, 0 ≤ j → j ≤ 3 → i32 (fc j)) {i j : Int} (hs : seg op ar i j) : i < j ∧ ∃ v, i32 v ∧ ∀ (xs : Nat → Int) (xl e : Nat) (h0 h : LH) (s : List Int) (o4 : Option LV) (fr : Int) (Q : Option LV → LH → Prop), 1 ≤ e → lawH op ar fc h0 h → pileOk h s → 0 ≤ i → j ≤ 1000 → (s.length : Int) + (j - i) ≤ 1100 → (∀ h' o', lawH op ar fc h0 h' → pileOk h' (v :: s) → Rn xs xl e mm_worthAt 4 [some (.inr (.inr 182)), some (.inl fr), some (.inl ((s.length : Int) + 1)), some (.inl j), o'] [] h' Q) → Rn xs xl e mm_worthAt 4 [some (.inr (.inr 182)), some (.inl fr), some (.inl (s.length : Int)), some (.inl i), o4] [] h Q := by
  refine hs (fun i j => i < j ∧ ∃ v, i32 v ∧ ∀ (xs : Nat → Int) (xl e : Nat) (h0 h : LH) (s : List Int) (o4 : Option LV) (fr : Int) (Q : Option LV → LH → Prop), 1 ≤ e → lawH op ar fc h0 h → pileOk h s → 0 ≤ i → j ≤ 1000 → (s.length : Int) + (j - i) ≤ 1100 → (∀ h' o', lawH op ar fc h0 h' → pileOk h' (v :: s) → Rn xs xl e mm_worthAt 4 [some (.inr (.inr 182)), some (.inl fr), some (.inl ((s.length : Int) + 1)), some (.inl j), o'] [] h' Q) → Rn xs xl e mm_worthAt 4 [some (.inr (.inr 182)), some (.inl fr), some (.inl (s.length : Int)), some (.inl i), o4] [] h Q) ?_ ?_ ?_ ?_
  · intro p hp
    by_cases hex : i32 (ar p)
    · refine ⟨by omega, ar p, hex, fun xs xl e h0 h s o4 fr Q he hl hpl i0 j1 hlen k => ?_⟩
      have e1 : rd h 189 p = op p := by rw [hl.2.1]
      have e2 : rd h 190 p = ar p := by rw [hl.2.2.1]
      have l2 := lawH_wr hl (i := (s.length : Int)) (v := ar p) (by omega) hex
      have k2 := k (wr h 197 (s.length : Int) (ar p)) (some (.inl (rd h 189 p))) l2 ⟨rdw_eq, hex, pileOk_wr hpl (Int.le_refl _)⟩
      rw [← e2] at k2
      exact B_worthAt_4 (RF_of hl.1.1) ⟨by omega, fun c => by omega, fun c => ⟨by omega, fun c1 => ⟨fun c2 => absurd c1 c2, fun _ => ⟨by omega, by omega, by omega, by omega, k2⟩⟩, fun c1 => by omega⟩⟩
    · refine ⟨by omega, 0, z32, fun xs xl e h0 h s o4 fr Q he hl hpl i0 j1 hlen k => ?_⟩
      exfalso
      have := rA_arg hl.1.1 (i := p) (by omega)
      rw [hl.2.2.1] at this
      exact hex ⟨this.1, this.2⟩
  · intro p hp a0 a1
    refine ⟨by omega, fc (ar p), hfc _ a0 a1, fun xs xl e h0 h s o4 fr Q he hl hpl i0 j1 hlen k => ?_⟩
    have e1 : rd h 189 p = op p := by rw [hl.2.1]
    have e2 : rd h 190 p = ar p := by rw [hl.2.2.1]
    have e3 : rd h 196 (rd h 190 p) = fc (ar p) := by rw [e2]; exact hl.2.2.2.1 _ a0 a1
    have l2 := lawH_wr hl (i := (s.length : Int)) (v := fc (ar p)) (by omega) (hfc _ a0 a1)
    have k2 := k (wr h 197 (s.length : Int) (fc (ar p))) (some (.inl (rd h 189 p))) l2 ⟨rdw_eq, hfc _ a0 a1, pileOk_wr hpl (Int.le_refl _)⟩
    rw [← e3] at k2
    exact B_worthAt_4 (RF_of hl.1.1) ⟨by omega, fun c => by omega, fun c => ⟨by omega, fun c1 => by omega, fun c1 => ⟨fun c2 => by omega, fun _ => ⟨fun _ => ⟨by omega, by omega, by omega, by omega, by omega, k2⟩, fun c2 => by omega⟩⟩⟩⟩
  · rintro p q ⟨lt, v, v32, hv⟩ hq
    refine ⟨by omega, (if v = 0 then 1 else 0), by unfold i32; split <;> omega, fun xs xl e h0 h s o4 fr Q he hl hpl i0 j1 hlen k => ?_⟩
    refine hv xs xl e h0 h s o4 fr Q he hl hpl i0 (by omega) (by omega) (fun h' o' l' p' => ?_)
    have e1 : rd h' 189 q = op q := by rw [l'.2.1]
    have ev : rd h' 197 (s.length : Int) = v := p'.1
    have es : ((s.length : Int) + 1 - 1) = (s.length : Int) := by omega
    have go : ∀ w : Int, w = (if v = 0 then 1 else 0) → Rn xs xl e mm_worthAt 4 [some (.inr (.inr 182)), some (.inl fr), some (.inl ((s.length : Int) + 1)), some (.inl (q + 1)), some (.inl (rd h' 189 q))] [] (wr h' 197 ((s.length : Int) + 1 - 1) w) Q := by
      intro w hw
      rw [es]
      have w32' : i32 w := by unfold i32; rw [hw]; split <;> omega
      exact k _ _ (lawH_wr l' (by omega) w32') ⟨by rw [rdw_eq, hw], by rw [← hw]; exact w32', pileOk_wr p'.2.2 (Int.le_refl _)⟩
    refine B_worthAt_4 (RF_of l'.1.1) ⟨by omega, fun c => by omega, fun c => ⟨by omega, fun c1 => by omega, fun c1 => ⟨fun c2 => ⟨fun c3 => by omega, fun _ => ⟨by omega, by omega, by omega, fun c4 => ⟨by omega, by omega, go 0 ?_⟩, fun c4 => ⟨by omega, by omega, go 1 ?_⟩⟩⟩, fun c2 => by omega⟩⟩⟩
    · rw [es, ev] at c4
      rw [if_neg c4]
    · rw [es, ev] at c4
      rw [if_pos c4]
  · rintro p q r ⟨lt1, v, v32, hv⟩ ⟨lt2, w, w32', hw⟩ o1 o2
    refine ⟨by omega, bothF (op r) v w, bothF_in _ _ _, fun xs xl e h0 h s o4 fr Q he hl hpl i0 j1 hlen k => ?_⟩
    refine hv xs xl e h0 h s o4 fr Q he hl hpl i0 (by omega) (by omega) (fun h1 o' l1 p1 => ?_)
    have key := hw xs xl e h0 h1 (v :: s) o' fr Q he l1 p1 (by omega) (by omega) (by rw [List.length_cons]; omega)
    rw [List.length_cons] at key
    refine key (fun h2 o2' l2 p2 => ?_)
    have e1 : rd h2 189 r = op r := by rw [l2.2.1]
    have ew : rd h2 197 ((s.length : Int) + 1) = w := by have := p2.1; rw [List.length_cons] at this; exact this
    have ev : rd h2 197 (s.length : Int) = v := p2.2.2.1
    have es2 : (((s.length + 1 : Nat) : Int) + 1 - 2) = (s.length : Int) := by omega
    have es1 : (((s.length + 1 : Nat) : Int) + 1 - 1) = (s.length : Int) + 1 := by omega
    refine B_worthAt_4 (RF_of l2.1.1) ⟨by omega, fun c => by omega, fun c => ⟨by omega, fun c1 => by omega, fun c1 => ⟨fun c2 => ⟨fun c3 => ⟨by omega, by omega, by omega, by omega, by omega, 0, by omega, ?_⟩, fun c3 => by omega⟩, fun c2 => by omega⟩⟩⟩
    rw [es2, es1, ev, ew]
    refine D_both (RF_of l2.1.1) ?_
    refine B_worthAt_133 (RF_of l2.1.1) ⟨by omega, by omega, ?_⟩
    have b32 := bothF_in (op r) v w
    rw [e1]
    exact k _ _ (lawH_wr l2 (by omega) b32) ⟨rdw_eq, b32, pileOk_wr p2.2.2.2.2 (Int.le_refl _)⟩
end C10
/-- the law's worth is the same wherever law and facts are -/
theorem law_det {op ar fc : Int → Int} (hfc : ∀ j, 0 ≤ j → j ≤ 3 → i32 (fc j)) (hl : lawOk op ar) : ∃ v, ∀ (xs : Nat → Int) (xl e : Nat) (h : LH) (Q : Option LV → LH → Prop), 1 ≤ e → lawH op ar fc h h → (∀ h', INV h' → (∀ a i, a ≠ 197 → rd h' a i = rd h a i) → Q (some (.inl v)) h') → Rn xs xl e mm_worthAt 0 [some (.inr (.inr 182)), some (.inl 0), none, none, none] [] h Q := by
  obtain ⟨n, n1, n2, n3⟩ := hl
  obtain ⟨lt, v, v32, hv⟩ := seg_run hfc n2
  refine ⟨v, fun xs xl e h Q he hh k => ?_⟩
  refine B_worthAt_0 (RF_of hh.1.1) (hv xs xl e h h [] none 0 Q he hh trivial (by omega) n1 (by simp; omega) (fun h' o' l' p' => ?_))
  have e1 : rd h' 189 n = op n := by rw [l'.2.1]
  refine B_worthAt_4 (RF_of l'.1.1) ⟨by omega, fun _ => ?_, fun c => by omega⟩
  have := p'.1
  rw [show rd h' 197 0 = v from this]
  exact k h' l'.1 l'.2.2.2.2
/-- what doors answer by -/
abbrev KEY : Type := (Int → Int) × (Int → Int) × (Int → Int) × Int × Int × Int × Int
def key (h : LH) : KEY := (rd h 188, rd h 189, rd h 190, rd h 182 28, rd h 182 29, rd h 182 30, rd h 182 31)
def frL (h h' : LH) : Prop := ∀ a i, a ≠ 196 → a ≠ 197 → rd h' a i = rd h a i
theorem key_fr {h h' : LH} (f : frL h h') : key h' = key h := by
  unfold key
  rw [show rd h' 188 = rd h 188 from funext (fun j => f 188 j (by decide) (by decide)), show rd h' 189 = rd h 189 from funext (fun j => f 189 j (by decide) (by decide)), show rd h' 190 = rd h 190 from funext (fun j => f 190 j (by decide) (by decide)), f 182 28 (by decide) (by decide), f 182 29 (by decide) (by decide), f 182 30 (by decide) (by decide), f 182 31 (by decide) (by decide)]
/-- r is what leadsTo answers, wherever this is told -/
def LDP (K : KEY) (d s room hr sh tu r : Int) : Prop := (-1 ≤ r ∧ r ≤ 9) ∧ (0 ≤ r → r = K.1 (8 * d + 5) + K.1 (8 * d + 6) - room ∧ (room = K.1 (8 * d + 5) ∨ room = K.1 (8 * d + 6))) ∧ (0 ≤ r → s ≠ 3 → tu = 0 → (K.1 (8 * d + 4) = 1 ∧ 12 ≤ hr → room = K.1 (8 * d + 6)) ∧ (¬ (K.1 (8 * d + 4) = 1 ∧ 12 ≤ hr) → room = K.1 (8 * d + 5))) ∧ ∀ (xs : Nat → Int) (xl e : Nat) (h : LH) (Q : Option LV → LH → Prop), 3 ≤ e → INV h → key h = K → (∀ h', INV h' → frL h h' → Q (some (.inl r)) h') → Rn xs xl e mm_leadsTo 0 [some (.inr (.inr 182)), some (.inl d), some (.inl s), some (.inl room), some (.inl hr), some (.inl sh), some (.inl tu), none, none, none, none, none] [] h Q
