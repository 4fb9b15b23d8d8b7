section
/-! LM, part 52: the reference's law and doors answer by what was told alone -/
def bothF (c a b : Int) : Int := if c = 4 then w32 (a + b) else if c = 5 then w32 (a - b) else if c = 6 then w32 (a * b) else if c = 7 then (if a < b then 1 else 0) else if c = 8 then (if a = b then 1 else 0) else if c = 9 then (if a ≠ 0 ∧ b ≠ 0 then 1 else 0) else (if a ≠ 0 ∨ b ≠ 0 then 1 else 0)
theorem bothF_in (c a b : Int) : i32 (bothF c a b) := by
  unfold bothF
  have z : i32 0 := z32
  have o : i32 1 := by unfold i32; omega
  repeat' split
  all_goals first | exact w32_in _ | exact z | exact o
/-- values lie on the pile, the last on top -/
def pileOk (h : LH) : List Int → Prop
  | [] => True
  | v :: r => rd h 197 (r.length : Int) = v ∧ i32 v ∧ pileOk h r
theorem pileOk_wr {h : LH} {i v : Int} : ∀ {s : List Int}, pileOk h s → (s.length : Int) ≤ i → pileOk (wr h 197 i v) s
  | [], _, _ => trivial
  | w :: r, hp, hi => by
    rw [List.length_cons] at hi
    refine ⟨?_, hp.2.1, pileOk_wr hp.2.2 (by omega)⟩
    rw [rdw_nei (by omega)]
    exact hp.1
theorem pileOk_same {h h' : LH} (e : ∀ i, rd h' 197 i = rd h 197 i) : ∀ {s : List Int}, pileOk h s → pileOk h' s
  | [], _ => trivial
  | w :: r, hp => ⟨by rw [e]; exact hp.1, hp.2.1, pileOk_same e hp.2.2⟩
section C10
variable {xs : Nat → Int} {xl e : Nat} {h : LH} {Q : Option LV → LH → Prop}
theorem D_both {c a b : Int} (hF : RF h) (k : Q (some (.inl (bothF c a b))) h) : Rn xs xl e mm_both 0 [some (.inl c), some (.inl a), some (.inl b)] [] h Q := by
  refine B_both_0 hF ?_
  unfold bothF at k
  refine ⟨fun q => ?_, fun q => ?_, fun q => ?_, fun q => ?_, fun q => ?_, fun q => ?_, fun q => ?_⟩
  · rw [if_pos q] at k
    exact k
  · rw [if_neg (by omega), if_pos q] at k
    exact k
  · rw [if_neg (by omega), if_neg (by omega), if_pos q] at k
    exact k
  · rw [if_neg (by omega), if_neg (by omega), if_neg (by omega), if_pos q] at k
    refine ⟨fun c => ?_, fun c => ?_⟩
    · rw [if_neg (by omega)] at k
      exact k
    · rw [if_pos c] at k
      exact k
  · rw [if_neg (by omega), if_neg (by omega), if_neg (by omega), if_neg (by omega), if_pos q] at k
    refine ⟨fun c => ?_, fun c => ?_⟩
    · rw [if_neg c] at k
      exact k
    · rw [if_pos c] at k
      exact k
  · rw [if_neg (by omega), if_neg (by omega), if_neg (by omega), if_neg (by omega), if_neg (by omega), if_pos q] at k
    refine ⟨fun c => ?_, fun c => ⟨fun d => ?_, fun d => ?_⟩⟩
    · rw [if_neg (by omega)] at k
      exact k
    · rw [if_neg (by omega)] at k
      exact k
    · rw [if_pos ⟨c, d⟩] at k
      exact k
  · rw [if_neg (by omega), if_neg (by omega), if_neg (by omega), if_neg (by omega), if_neg (by omega), if_neg (by omega)] at k
    refine ⟨fun c => ?_, fun c => ⟨fun d => ?_, fun d => ?_⟩⟩
    · rw [if_pos (Or.inl c)] at k
      exact k
    · rw [if_neg (by omega)] at k
      exact k
    · rw [if_pos (Or.inr d)] at k
      exact k
/-- a heap with this law and these facts -/
def lawH (op ar fc : Int → Int) (h0 h : LH) : Prop := INV h ∧ rd h 189 = op ∧ rd h 190 = ar ∧ (∀ j, 0 ≤ j → j ≤ 3 → rd h 196 j = fc j) ∧ ∀ a i, a ≠ 197 → rd h a i = rd h0 a i
theorem lawH_wr {op ar fc : Int → Int} {h0 h : LH} (hl : lawH op ar fc h0 h) {i v : Int} (i0 : 0 ≤ i ∧ i < 1100) (hv : i32 v) : lawH op ar fc h0 (wr h 197 i v) := by
  obtain ⟨l1, l2, l3, l4, l5⟩ := hl
  refine ⟨wA_pile l1 i0 hv.1 hv.2, ?_, ?_, fun j j0 j1 => ?_, fun a i hn => ?_⟩
  · rw [← l2]
    exact funext (fun j => rdw_ne (by decide))
  · rw [← l3]
    exact funext (fun j => rdw_ne (by decide))
  · rw [rdw_ne (by decide)]
    exact l4 j j0 j1
  · rw [rdw_ne (fun q => hn q.symm)]
    exact l5 a i hn
/-- one expression: a value more on the pile -/
theorem seg_run {op ar fc : Int → Int} (hfc : ∀ j, 0 ≤ j → j ≤ 3 → i32 (fc j)) {i j : Int} (hs : seg op ar i j) : i < j ∧ ∃ v, i32 v ∧ ∀ (xs : Nat → Int) (xl e : Nat) (h0 h : LH) (s : List Int) (o4 : Option LV) (fr : Int) (Q : Option LV → LH → Prop), 1 ≤ e → lawH op ar fc h0 h → pileOk h s → 0 ≤ i → j ≤ 1000 → (s.length : Int) + (j - i) ≤ 1100 → (∀ h' o', lawH op ar fc h0 h' → pileOk h' (v :: s) → Rn xs xl e mm_worthAt 4 [some (.inr (.inr 182)), some (.inl fr), some (.inl ((s.length : Int) + 1)), some (.inl j), o'] [] h' Q) → Rn xs xl e mm_worthAt 4 [some (.inr (.inr 182)), some (.inl fr), some (.inl (s.length : Int)), some (.inl i), o4] [] h Q := by
  refine hs (fun i j => i < j ∧ ∃ v, i32 v ∧ ∀ (xs : Nat → Int) (xl e : Nat) (h0 h : LH) (s : List Int) (o4 : Option LV) (fr : Int) (Q : Option LV → LH → Prop), 1 ≤ e → lawH op ar fc h0 h → pileOk h s → 0 ≤ i → j ≤ 1000 → (s.length : Int) + (j - i) ≤ 1100 → (∀ h' o', lawH op ar fc h0 h' → pileOk h' (v :: s) → Rn xs xl e mm_worthAt 4 [some (.inr (.inr 182)), some (.inl fr), some (.inl ((s.length : Int) + 1)), some (.inl j), o'] [] h' Q) → Rn xs xl e mm_worthAt 4 [some (.inr (.inr 182)), some (.inl fr), some (.inl (s.length : Int)), some (.inl i), o4] [] h Q) ?_ ?_ ?_ ?_
  · intro p hp
    by_cases hex : i32 (ar p)
    · refine ⟨by omega, ar p, hex, fun xs xl e h0 h s o4 fr Q he hl hpl i0 j1 hlen k => ?_⟩
      have e1 : rd h 189 p = op p := by rw [hl.2.1]
      have e2 : rd h 190 p = ar p := by rw [hl.2.2.1]
      have l2 := lawH_wr hl (i := (s.length : Int)) (v := ar p) (by omega) hex
      have k2 := k (wr h 197 (s.length : Int) (ar p)) (some (.inl (rd h 189 p))) l2 ⟨rdw_eq, hex, pileOk_wr hpl (Int.le_refl _)⟩
      rw [← e2] at k2
      exact B_worthAt_4 (RF_of hl.1.1) ⟨by omega, fun c => by omega, fun c => ⟨by omega, fun c1 => ⟨fun c2 => absurd c1 c2, fun _ => ⟨by omega, by omega, by omega, by omega, k2⟩⟩, fun c1 => by omega⟩⟩
    · refine ⟨by omega, 0, z32, fun xs xl e h0 h s o4 fr Q he hl hpl i0 j1 hlen k => ?_⟩
      exfalso
      have := rA_arg hl.1.1 (i := p) (by omega)
      rw [hl.2.2.1] at this
      exact hex ⟨this.1, this.2⟩
  · intro p hp a0 a1
    refine ⟨by omega, fc (ar p), hfc _ a0 a1, fun xs xl e h0 h s o4 fr Q he hl hpl i0 j1 hlen k => ?_⟩
    have e1 : rd h 189 p = op p := by rw [hl.2.1]
    have e2 : rd h 190 p = ar p := by rw [hl.2.2.1]
    have e3 : rd h 196 (rd h 190 p) = fc (ar p) := by rw [e2]; exact hl.2.2.2.1 _ a0 a1
    have l2 := lawH_wr hl (i := (s.length : Int)) (v := fc (ar p)) (by omega) (hfc _ a0 a1)
    have k2 := k (wr h 197 (s.length : Int) (fc (ar p))) (some (.inl (rd h 189 p))) l2 ⟨rdw_eq, hfc _ a0 a1, pileOk_wr hpl (Int.le_refl _)⟩
    rw [← e3] at k2
    exact B_worthAt_4 (RF_of hl.1.1) ⟨by omega, fun c => by omega, fun c => ⟨by omega, fun c1 => by omega, fun c1 => ⟨fun c2 => by omega, fun _ => ⟨fun _ => ⟨by omega, by omega, by omega, by omega, by omega, k2⟩, fun c2 => by omega⟩⟩⟩⟩
  · rintro p q ⟨lt, v, v32, hv⟩ hq
    refine ⟨by omega, (if v = 0 then 1 else 0), by unfold i32; split <;> omega, fun xs xl e h0 h s o4 fr Q he hl hpl i0 j1 hlen k => ?_⟩
    refine hv xs xl e h0 h s o4 fr Q he hl hpl i0 (by omega) (by omega) (fun h' o' l' p' => ?_)
    have e1 : rd h' 189 q = op q := by rw [l'.2.1]
    have ev : rd h' 197 (s.length : Int) = v := p'.1
    have es : ((s.length : Int) + 1 - 1) = (s.length : Int) := by omega
    have go : ∀ w : Int, w = (if v = 0 then 1 else 0) → Rn xs xl e mm_worthAt 4 [some (.inr (.inr 182)), some (.inl fr), some (.inl ((s.length : Int) + 1)), some (.inl (q + 1)), some (.inl (rd h' 189 q))] [] (wr h' 197 ((s.length : Int) + 1 - 1) w) Q := by
      intro w hw
      rw [es]
      have w32' : i32 w := by unfold i32; rw [hw]; split <;> omega
      exact k _ _ (lawH_wr l' (by omega) w32') ⟨by rw [rdw_eq, hw], by rw [← hw]; exact w32', pileOk_wr p'.2.2 (Int.le_refl _)⟩
    refine B_worthAt_4 (RF_of l'.1.1) ⟨by omega, fun c => by omega, fun c => ⟨by omega, fun c1 => by omega, fun c1 => ⟨fun c2 => ⟨fun c3 => by omega, fun _ => ⟨by omega, by omega, by omega, fun c4 => ⟨by omega, by omega, go 0 ?_⟩, fun c4 => ⟨by omega, by omega, go 1 ?_⟩⟩⟩, fun c2 => by omega⟩⟩⟩
    · rw [es, ev] at c4
      rw [if_neg c4]
    · rw [es, ev] at c4
      rw [if_pos c4]
  · rintro p q r ⟨lt1, v, v32, hv⟩ ⟨lt2, w, w32', hw⟩ o1 o2
    refine ⟨by omega, bothF (op r) v w, bothF_in _ _ _, fun xs xl e h0 h s o4 fr Q he hl hpl i0 j1 hlen k => ?_⟩
    refine hv xs xl e h0 h s o4 fr Q he hl hpl i0 (by omega) (by omega) (fun h1 o' l1 p1 => ?_)
    have key := hw xs xl e h0 h1 (v :: s) o' fr Q he l1 p1 (by omega) (by omega) (by rw [List.length_cons]; omega)
    rw [List.length_cons] at key
    refine key (fun h2 o2' l2 p2 => ?_)
    have e1 : rd h2 189 r = op r := by rw [l2.2.1]
    have ew : rd h2 197 ((s.length : Int) + 1) = w := by have := p2.1; rw [List.length_cons] at this; exact this
    have ev : rd h2 197 (s.length : Int) = v := p2.2.2.1
    have es2 : (((s.length + 1 : Nat) : Int) + 1 - 2) = (s.length : Int) := by omega
    have es1 : (((s.length + 1 : Nat) : Int) + 1 - 1) = (s.length : Int) + 1 := by omega
    refine B_worthAt_4 (RF_of l2.1.1) ⟨by omega, fun c => by omega, fun c => ⟨by omega, fun c1 => by omega, fun c1 => ⟨fun c2 => ⟨fun c3 => ⟨by omega, by omega, by omega, by omega, by omega, 0, by omega, ?_⟩, fun c3 => by omega⟩, fun c2 => by omega⟩⟩⟩
    rw [es2, es1, ev, ew]
    refine D_both (RF_of l2.1.1) ?_
    refine B_worthAt_133 (RF_of l2.1.1) ⟨by omega, by omega, ?_⟩
    have b32 := bothF_in (op r) v w
    rw [e1]
    exact k _ _ (lawH_wr l2 (by omega) b32) ⟨rdw_eq, b32, pileOk_wr p2.2.2.2.2 (Int.le_refl _)⟩
end C10
/-- the law's worth is the same wherever law and facts are -/
theorem law_det {op ar fc : Int → Int} (hfc : ∀ j, 0 ≤ j → j ≤ 3 → i32 (fc j)) (hl : lawOk op ar) : ∃ v, ∀ (xs : Nat → Int) (xl e : Nat) (h : LH) (Q : Option LV → LH → Prop), 1 ≤ e → lawH op ar fc h h → (∀ h', INV h' → (∀ a i, a ≠ 197 → rd h' a i = rd h a i) → Q (some (.inl v)) h') → Rn xs xl e mm_worthAt 0 [some (.inr (.inr 182)), some (.inl 0), none, none, none] [] h Q := by
  obtain ⟨n, n1, n2, n3⟩ := hl
  obtain ⟨lt, v, v32, hv⟩ := seg_run hfc n2
  refine ⟨v, fun xs xl e h Q he hh k => ?_⟩
  refine B_worthAt_0 (RF_of hh.1.1) (hv xs xl e h h [] none 0 Q he hh trivial (by omega) n1 (by simp; omega) (fun h' o' l' p' => ?_))
  have e1 : rd h' 189 n = op n := by rw [l'.2.1]
  refine B_worthAt_4 (RF_of l'.1.1) ⟨by omega, fun _ => ?_, fun c => by omega⟩
  have := p'.1
  rw [show rd h' 197 0 = v from this]
  exact k h' l'.1 l'.2.2.2.2
/-- what doors answer by -/
abbrev KEY : Type := (Int → Int) × (Int → Int) × (Int → Int) × Int × Int × Int × Int
def key (h : LH) : KEY := (rd h 188, rd h 189, rd h 190, rd h 182 28, rd h 182 29, rd h 182 30, rd h 182 31)
def frL (h h' : LH) : Prop := ∀ a i, a ≠ 196 → a ≠ 197 → rd h' a i = rd h a i
theorem key_fr {h h' : LH} (f : frL h h') : key h' = key h := by
  unfold key
  rw [show rd h' 188 = rd h 188 from funext (fun j => f 188 j (by decide) (by decide)), show rd h' 189 = rd h 189 from funext (fun j => f 189 j (by decide) (by decide)), show rd h' 190 = rd h 190 from funext (fun j => f 190 j (by decide) (by decide)), f 182 28 (by decide) (by decide), f 182 29 (by decide) (by decide), f 182 30 (by decide) (by decide), f 182 31 (by decide) (by decide)]
/-- r is what leadsTo answers, wherever this is told -/
def LDP (K : KEY) (d s room hr sh tu r : Int) : Prop := (-1 ≤ r ∧ r ≤ 9) ∧ (0 ≤ r → r = K.1 (8 * d + 5) + K.1 (8 * d + 6) - room ∧ (room = K.1 (8 * d + 5) ∨ room = K.1 (8 * d + 6))) ∧ (0 ≤ r → s ≠ 3 → tu = 0 → (K.1 (8 * d + 4) = 1 ∧ 12 ≤ hr → room = K.1 (8 * d + 6)) ∧ (¬ (K.1 (8 * d + 4) = 1 ∧ 12 ≤ hr) → room = K.1 (8 * d + 5))) ∧ ∀ (xs : Nat → Int) (xl e : Nat) (h : LH) (Q : Option LV → LH → Prop), 3 ≤ e → INV h → key h = K → (∀ h', INV h' → frL h h' → Q (some (.inl r)) h') → Rn xs xl e mm_leadsTo 0 [some (.inr (.inr 182)), some (.inl d), some (.inl s), some (.inl room), some (.inl hr), some (.inl sh), some (.inl tu), none, none, none, none, none] [] h Q
end
section
/-! LM, part 53: what a door answers -/
theorem bit0 (d : Int) : zand (zshr 0 d) 1 = 0 := by
  unfold zand zshr
  rw [show Int32.ofInt 0 = 0 from rfl, Int32.zero_shiftRight]
  rw [show (0 : Int32).toInt = 0 from rfl, show Int32.ofInt 0 = 0 from rfl, Int32.zero_and]
  rfl
theorem leads_det (K : KEY) {d s room hr : Int} (sh tu : Int) (hd : 0 ≤ d ∧ d ≤ 13) (hs : 0 ≤ s ∧ s ≤ 3) (hro : 0 ≤ room ∧ room ≤ 9) (hhr : 0 ≤ hr ∧ hr ≤ 25) : ∃ r, LDP K d s room hr sh tu r := by
  by_cases hex : ∃ h, INV h ∧ key h = K
  case neg => exact ⟨-1, by omega, fun q => by omega, fun q => by omega, fun xs xl e h Q he hI hk k => absurd ⟨h, hI, hk⟩ hex⟩
  obtain ⟨h0, hI0, hk0⟩ := hex
  have ek : ∀ (h : LH), key h = K → ∀ i, rd h 188 i = K.1 i := fun h hk i => by rw [← hk]; rfl
  have k5 : 0 ≤ K.1 (8 * d + 5) ∧ K.1 (8 * d + 5) ≤ 9 := by rw [← ek h0 hk0]; exact rq_d1 hI0.1 (d := d) (by omega) (by omega) (by omega)
  have k6 : 0 ≤ K.1 (8 * d + 6) ∧ K.1 (8 * d + 6) ≤ 9 := by rw [← ek h0 hk0]; exact rq_d2 hI0.1 (d := d) (by omega) (by omega) (by omega)
  -- whether it leads back
  obtain ⟨w, w01, wb, hA⟩ : ∃ w : Int, (w = 0 ∨ w = 1) ∧ (tu = 0 → (w = 1 ↔ K.1 (8 * d + 4) = 1 ∧ 12 ≤ hr)) ∧ ∀ (xs : Nat → Int) (xl e : Nat) (h : LH) (Q : Option LV → LH → Prop), 1 ≤ e → INV h → key h = K → Rn xs xl e mm_leadsTo 55 [some (.inr (.inr 182)), some (.inl d), some (.inl s), some (.inl room), some (.inl hr), some (.inl sh), some (.inl tu), none, none, none, none, none] [.inl w] h Q → Rn xs xl e mm_leadsTo 0 [some (.inr (.inr 182)), some (.inl d), some (.inl s), some (.inl room), some (.inl hr), some (.inl sh), some (.inl tu), none, none, none, none, none] [] h Q := by
    have b0 := bit0 d
    by_cases c1 : K.1 (8 * d + 4) = 1 <;> by_cases c2 : 12 ≤ hr <;> by_cases c3 : zand (zshr tu d) 1 = 1
    · refine ⟨0, Or.inl rfl, fun q => ?_, fun xs xl e h Q he hI hk k => ?_⟩
      · rw [q] at c3; omega
      have e4 := ek h hk (8 * d + 4)
      refine B_leadsTo_0 (RF_of hI.1) he ?_
      (repeat' (first | apply And.intro | intro _)) <;> (first | exact k | omega | (exfalso; omega))
    · refine ⟨1, Or.inr rfl, fun q => by omega, fun xs xl e h Q he hI hk k => ?_⟩
      have e4 := ek h hk (8 * d + 4)
      refine B_leadsTo_0 (RF_of hI.1) he ?_
      (repeat' (first | apply And.intro | intro _)) <;> (first | exact k | omega | (exfalso; omega))
    · refine ⟨1, Or.inr rfl, fun q => ?_, fun xs xl e h Q he hI hk k => ?_⟩
      · rw [q] at c3; omega
      have e4 := ek h hk (8 * d + 4)
      refine B_leadsTo_0 (RF_of hI.1) he ?_
      (repeat' (first | apply And.intro | intro _)) <;> (first | exact k | omega | (exfalso; omega))
    · refine ⟨0, Or.inl rfl, fun q => by omega, fun xs xl e h Q he hI hk k => ?_⟩
      have e4 := ek h hk (8 * d + 4)
      refine B_leadsTo_0 (RF_of hI.1) he ?_
      (repeat' (first | apply And.intro | intro _)) <;> (first | exact k | omega | (exfalso; omega))
    · refine ⟨1, Or.inr rfl, fun q => ?_, fun xs xl e h Q he hI hk k => ?_⟩
      · rw [q] at c3; omega
      have e4 := ek h hk (8 * d + 4)
      refine B_leadsTo_0 (RF_of hI.1) he ?_
      (repeat' (first | apply And.intro | intro _)) <;> (first | exact k | omega | (exfalso; omega))
    · refine ⟨0, Or.inl rfl, fun q => by omega, fun xs xl e h Q he hI hk k => ?_⟩
      have e4 := ek h hk (8 * d + 4)
      refine B_leadsTo_0 (RF_of hI.1) he ?_
      (repeat' (first | apply And.intro | intro _)) <;> (first | exact k | omega | (exfalso; omega))
    · refine ⟨1, Or.inr rfl, fun q => ?_, fun xs xl e h Q he hI hk k => ?_⟩
      · rw [q] at c3; omega
      have e4 := ek h hk (8 * d + 4)
      refine B_leadsTo_0 (RF_of hI.1) he ?_
      (repeat' (first | apply And.intro | intro _)) <;> (first | exact k | omega | (exfalso; omega))
    · refine ⟨0, Or.inl rfl, fun q => by omega, fun xs xl e h Q he hI hk k => ?_⟩
      have e4 := ek h hk (8 * d + 4)
      refine B_leadsTo_0 (RF_of hI.1) he ?_
      (repeat' (first | apply And.intro | intro _)) <;> (first | exact k | omega | (exfalso; omega))
  -- into which room
  obtain ⟨v8, v9, it, i1, i2, i3, hB⟩ : ∃ v8 v9 it : Int, (-1 ≤ it ∧ it ≤ 9) ∧ (0 ≤ it → it = K.1 (8 * d + 5) + K.1 (8 * d + 6) - room ∧ (room = K.1 (8 * d + 5) ∨ room = K.1 (8 * d + 6))) ∧ (0 ≤ it → s ≠ 3 → (w = 1 → room = K.1 (8 * d + 6)) ∧ (w = 0 → room = K.1 (8 * d + 5))) ∧ ∀ (xs : Nat → Int) (xl e : Nat) (h : LH) (Q : Option LV → LH → Prop), 1 ≤ e → INV h → key h = K → Rn xs xl e mm_leadsTo 119 [some (.inr (.inr 182)), some (.inl d), some (.inl s), some (.inl room), some (.inl hr), some (.inl sh), some (.inl tu), some (.inl w), some (.inl v8), some (.inl v9), none, none] [.inl it] h Q → Rn xs xl e mm_leadsTo 55 [some (.inr (.inr 182)), some (.inl d), some (.inl s), some (.inl room), some (.inl hr), some (.inl sh), some (.inl tu), none, none, none, none, none] [.inl w] h Q := by
    rcases w01 with rfl | rfl
    · by_cases c1 : room = K.1 (8 * d + 5)
      · refine ⟨K.1 (8 * d + 5), K.1 (8 * d + 6), K.1 (8 * d + 6), by omega, fun _ => by omega, fun _ _ => by omega, fun xs xl e h Q he hI hk k => ?_⟩
        have e5 := ek h hk (8 * d + 5)
        have e6 := ek h hk (8 * d + 6)
        rw [← e5, ← e6] at k
        refine B_leadsTo_55 (RF_of hI.1) he ?_
        (repeat' (first | apply And.intro | intro _)) <;> (first | exact k | omega | (exfalso; omega))
      · by_cases c2 : s = 3 ∧ room = K.1 (8 * d + 6)
        · refine ⟨K.1 (8 * d + 5), K.1 (8 * d + 6), K.1 (8 * d + 5), by omega, fun _ => by omega, fun _ _ => by omega, fun xs xl e h Q he hI hk k => ?_⟩
          have e5 := ek h hk (8 * d + 5)
          have e6 := ek h hk (8 * d + 6)
          rw [← e5, ← e6] at k
          refine B_leadsTo_55 (RF_of hI.1) he ?_
          (repeat' (first | apply And.intro | intro _)) <;> (first | exact k | omega | (exfalso; omega))
        · refine ⟨K.1 (8 * d + 5), K.1 (8 * d + 6), -1, by omega, fun _ => by omega, fun _ _ => by omega, fun xs xl e h Q he hI hk k => ?_⟩
          have e5 := ek h hk (8 * d + 5)
          have e6 := ek h hk (8 * d + 6)
          rw [← e5, ← e6] at k
          refine B_leadsTo_55 (RF_of hI.1) he ?_
          (repeat' (first | apply And.intro | intro _)) <;> (first | exact k | omega | (exfalso; omega))
    · by_cases c1 : room = K.1 (8 * d + 6)
      · refine ⟨K.1 (8 * d + 6), K.1 (8 * d + 5), K.1 (8 * d + 5), by omega, fun _ => by omega, fun _ _ => by omega, fun xs xl e h Q he hI hk k => ?_⟩
        have e5 := ek h hk (8 * d + 5)
        have e6 := ek h hk (8 * d + 6)
        rw [← e5, ← e6] at k
        refine B_leadsTo_55 (RF_of hI.1) he ?_
        (repeat' (first | apply And.intro | intro _)) <;> (first | exact k | omega | (exfalso; omega))
      · by_cases c2 : s = 3 ∧ room = K.1 (8 * d + 5)
        · refine ⟨K.1 (8 * d + 6), K.1 (8 * d + 5), K.1 (8 * d + 6), by omega, fun _ => by omega, fun _ _ => by omega, fun xs xl e h Q he hI hk k => ?_⟩
          have e5 := ek h hk (8 * d + 5)
          have e6 := ek h hk (8 * d + 6)
          rw [← e5, ← e6] at k
          refine B_leadsTo_55 (RF_of hI.1) he ?_
          (repeat' (first | apply And.intro | intro _)) <;> (first | exact k | omega | (exfalso; omega))
        · refine ⟨K.1 (8 * d + 6), K.1 (8 * d + 5), -1, by omega, fun _ => by omega, fun _ _ => by omega, fun xs xl e h Q he hI hk k => ?_⟩
          have e5 := ek h hk (8 * d + 5)
          have e6 := ek h hk (8 * d + 6)
          rw [← e5, ← e6] at k
          refine B_leadsTo_55 (RF_of hI.1) he ?_
          (repeat' (first | apply And.intro | intro _)) <;> (first | exact k | omega | (exfalso; omega))
  -- whether it lets one by
  obtain ⟨l, l01, l2, hC⟩ : ∃ l : Int, (l = 0 ∨ l = 1) ∧ (l = 1 → 0 ≤ it) ∧ ∀ (xs : Nat → Int) (xl e : Nat) (h : LH) (Q : Option LV → LH → Prop), 1 ≤ e → INV h → key h = K → Rn xs xl e mm_leadsTo 196 [some (.inr (.inr 182)), some (.inl d), some (.inl s), some (.inl room), some (.inl hr), some (.inl sh), some (.inl tu), some (.inl w), some (.inl v8), some (.inl v9), some (.inl it), none] [.inl l] h Q → Rn xs xl e mm_leadsTo 119 [some (.inr (.inr 182)), some (.inl d), some (.inl s), some (.inl room), some (.inl hr), some (.inl sh), some (.inl tu), some (.inl w), some (.inl v8), some (.inl v9), none, none] [.inl it] h Q := by
    by_cases c : 0 ≤ it ∧ K.1 (8 * d + 7) ≤ hr ∧ hr < K.1 (8 * d + 8) ∧ K.1 (8 * d + 4) ≠ 3 ∧ zand (zshr sh d) 1 ≠ 1 ∧ (K.1 (8 * d + 9) < 0 ∨ K.1 (8 * d + 9) = s ∨ s = 3)
    · refine ⟨1, Or.inr rfl, fun _ => c.1, fun xs xl e h Q he hI hk k => ?_⟩
      have e4 := ek h hk (8 * d + 4)
      have e7 := ek h hk (8 * d + 7)
      have e8 := ek h hk (8 * d + 8)
      have e9 := ek h hk (8 * d + 9)
      refine B_leadsTo_119 (RF_of hI.1) he ?_
      (repeat' (first | apply And.intro | intro _)) <;> (first | exact k | omega | (exfalso; omega))
    · refine ⟨0, Or.inl rfl, fun q => by omega, fun xs xl e h Q he hI hk k => ?_⟩
      have e4 := ek h hk (8 * d + 4)
      have e7 := ek h hk (8 * d + 7)
      have e8 := ek h hk (8 * d + 8)
      have e9 := ek h hk (8 * d + 9)
      refine B_leadsTo_119 (RF_of hI.1) he ?_
      (repeat' (first | apply And.intro | intro _)) <;> (first | exact k | omega | (exfalso; omega))
  have str2 : ∀ r : Int, r = it → (0 ≤ r → s ≠ 3 → tu = 0 → (K.1 (8 * d + 4) = 1 ∧ 12 ≤ hr → room = K.1 (8 * d + 6)) ∧ (¬ (K.1 (8 * d + 4) = 1 ∧ 12 ≤ hr) → room = K.1 (8 * d + 5))) := by
    intro r hr' r0 s3 t0
    subst hr'
    have z := wb t0
    have y := i3 r0 s3
    refine ⟨fun q => y.1 (z.mpr q), fun q => y.2 ?_⟩
    rcases w01 with x | x
    · exact x
    · exact absurd (z.mp x) q
  rcases l01 with rfl | rfl
  · refine ⟨-1, by omega, fun q => by omega, fun q => by omega, fun xs xl e h Q he hI hk k => ?_⟩
    exact hA xs xl e h Q (by omega) hI hk (hB xs xl e h Q (by omega) hI hk (hC xs xl e h Q (by omega) hI hk (B_leadsTo_196_0 (RF_of hI.1) (k h hI (fun _ _ _ _ => rfl)))))
  · have it0 := l2 rfl
    -- the price
    obtain ⟨p, p1, hD⟩ : ∃ p : Int, (0 ≤ p ∧ p ≤ 9) ∧ ∀ (xs : Nat → Int) (xl e : Nat) (h : LH) (Q : Option LV → LH → Prop), 2 ≤ e → INV h → key h = K → ((K.1 3 < 0 → Q (some (.inl it)) (wr (wr (wr (wr h 196 0 hr) 196 1 s) 196 2 p) 196 3 it)) ∧ (0 ≤ K.1 3 → ∃ c, c < e ∧ Rn xs xl c mm_worthAt 0 [some (.inr (.inr 182)), some (.inl 0), none, none, none] [] (wr (wr (wr (wr h 196 0 hr) 196 1 s) 196 2 p) 196 3 it) (fun r h' => Rn xs xl e mm_leadsTo 258 [some (.inr (.inr 182)), some (.inl d), some (.inl s), some (.inl room), some (.inl hr), some (.inl sh), some (.inl tu), some (.inl w), some (.inl v8), some (.inl v9), some (.inl it), some (.inl 1)] (r.toList ++ []) h' Q))) → Rn xs xl e mm_leadsTo 196 [some (.inr (.inr 182)), some (.inl d), some (.inl s), some (.inl room), some (.inl hr), some (.inl sh), some (.inl tu), some (.inl w), some (.inl v8), some (.inl v9), some (.inl it), none] [.inl 1] h Q := by
      have ko : rd h0 182 28 = K.2.2.2.1 ∧ rd h0 182 29 = K.2.2.2.2.1 ∧ rd h0 182 30 = K.2.2.2.2.2.1 ∧ rd h0 182 31 = K.2.2.2.2.2.2 := by rw [← hk0]; exact ⟨rfl, rfl, rfl, rfl⟩
      have r1 := rF_priceOne hI0.1
      have r2 := rF_priceOther hI0.1
      have r3 := rq_d7 hI0.1 (i := 8 * d + 11) (d := d) (by omega) (by omega) (by omega)
      rw [ek h0 hk0] at r3
      have kk : ∀ h, key h = K → rd h 182 28 = K.2.2.2.1 ∧ rd h 182 29 = K.2.2.2.2.1 ∧ rd h 182 30 = K.2.2.2.2.2.1 ∧ rd h 182 31 = K.2.2.2.2.2.2 := fun h hk => by rw [← hk]; exact ⟨rfl, rfl, rfl, rfl⟩
      have z3 : ∀ h, INV h → key h = K → 0 ≤ K.1 3 → rd h 188 3 = 0 := fun h hI hk q => by have := rq_let hI.1; have := ek h hk 3; omega
      by_cases c1 : d = K.2.2.2.1
      · refine ⟨K.2.2.2.2.2.1, by omega, fun xs xl e h Q he hI hk k => ?_⟩
        obtain ⟨x1, x2, x3, x4⟩ := kk h hk
        have e3 := ek h hk 3
        rw [← x3] at k
        refine B_leadsTo_196_1 (RF_of hI.1) he ⟨fun q => absurd (c1.trans x1.symm) q, fun _ => ⟨fun q => k.1 (by rw [← e3]; exact q), fun q => ?_⟩⟩
        rw [z3 h hI hk (by rw [← e3]; exact q)]
        exact k.2 (by rw [← e3]; exact q)
      · by_cases c2 : d = K.2.2.2.2.1
        · refine ⟨K.2.2.2.2.2.2, by omega, fun xs xl e h Q he hI hk k => ?_⟩
          obtain ⟨x1, x2, x3, x4⟩ := kk h hk
          have e3 := ek h hk 3
          rw [← x4] at k
          refine B_leadsTo_196_1 (RF_of hI.1) he ⟨fun _ => ⟨fun q => absurd (c2.trans x2.symm) q, fun _ => ⟨fun q => k.1 (by rw [← e3]; exact q), fun q => ?_⟩⟩, fun q => absurd (q.trans x1) c1⟩
          rw [z3 h hI hk (by rw [← e3]; exact q)]
          exact k.2 (by rw [← e3]; exact q)
        · refine ⟨K.1 (8 * d + 11), by omega, fun xs xl e h Q he hI hk k => ?_⟩
          obtain ⟨x1, x2, x3, x4⟩ := kk h hk
          have e3 := ek h hk 3
          rw [← ek h hk (8 * d + 11)] at k
          have y1 : -2147483648 ≤ 8 * d ∧ 8 * d ≤ 2147483647 := by clear k; omega
          have y2 : -2147483648 ≤ 8 * d + 4 ∧ 8 * d + 4 ≤ 2147483647 := by clear k; omega
          have y3 : -2147483648 ≤ 8 * d + 11 ∧ 8 * d + 11 ≤ 2147483647 := by clear k; omega
          have y4 : 0 ≤ 8 * d + 11 ∧ 8 * d + 11 < 300 := by clear k; omega
          refine B_leadsTo_196_1 (RF_of hI.1) he ⟨fun _ => ⟨fun _ => ⟨y1, y2, y3, y4, fun q => k.1 (by rw [← e3]; exact q), fun q => ?_⟩, fun q => absurd (q.trans x2) c2⟩, fun q => absurd (q.trans x1) c1⟩
          rw [z3 h hI hk (by rw [← e3]; exact q)]
          exact k.2 (by rw [← e3]; exact q)
    have hfI : ∀ h, INV h → INV (wr (wr (wr (wr h 196 0 hr) 196 1 s) 196 2 p) 196 3 it) := fun h hI => wA_facts (wA_facts (wA_facts (wA_facts hI (by omega) (by omega) (by omega)) (by omega) (by omega) (by omega)) (by omega) (by omega) (by omega)) (by omega) (by omega) (by omega)
    have hff : ∀ h, frL h (wr (wr (wr (wr h 196 0 hr) 196 1 s) 196 2 p) 196 3 it) := fun h a i n1 n2 => by rw [rdw_ne (fun q => n1 q.symm), rdw_ne (fun q => n1 q.symm), rdw_ne (fun q => n1 q.symm), rdw_ne (fun q => n1 q.symm)]
    have run : ∀ (r : Int), LDP K d s room hr sh tu r → True := fun _ _ => trivial
    by_cases cl : K.1 3 < 0
    · refine ⟨it, i1, i2, str2 it rfl, fun xs xl e h Q he hI hk k => ?_⟩
      exact hA xs xl e h Q (by omega) hI hk (hB xs xl e h Q (by omega) hI hk (hC xs xl e h Q (by omega) hI hk (hD xs xl e h Q (by omega) hI hk ⟨fun _ => k _ (hfI h hI) (hff h), fun q => by omega⟩)))
    · have lo : lawOk K.2.1 K.2.2.1 := by
        have q := hI0.2.2.1 (by have := rq_let hI0.1; have := ek h0 hk0 3; omega)
        have e1 : rd h0 189 = K.2.1 := by rw [← hk0]; rfl
        have e2 : rd h0 190 = K.2.2.1 := by rw [← hk0]; rfl
        rw [e1, e2] at q
        exact q
      obtain ⟨v, hv⟩ := law_det (fc := fun j => if j = 0 then hr else if j = 1 then s else if j = 2 then p else it) (fun j _ _ => by
        show i32 (if j = 0 then hr else if j = 1 then s else if j = 2 then p else it)
        unfold i32
        split
        · omega
        · split
          · omega
          · split <;> omega) lo
      have go : ∀ (xs : Nat → Int) (xl e : Nat) (h : LH) (Q : Option LV → LH → Prop), 3 ≤ e → INV h → key h = K → (∀ h', INV h' → frL h h' → Q (some (.inl (if v = 0 then -1 else it))) h') → Rn xs xl e mm_leadsTo 0 [some (.inr (.inr 182)), some (.inl d), some (.inl s), some (.inl room), some (.inl hr), some (.inl sh), some (.inl tu), none, none, none, none, none] [] h Q := by
        intro xs xl e h Q he hI hk k
        refine hA xs xl e h Q (by omega) hI hk (hB xs xl e h Q (by omega) hI hk (hC xs xl e h Q (by omega) hI hk (hD xs xl e h Q (by omega) hI hk ⟨fun q => absurd q cl, fun q => ⟨1, by omega, hv xs xl 1 _ _ (by omega) ⟨hfI h hI, ?_, ?_, fun j j0 j1 => ?_, fun _ _ _ => rfl⟩ (fun h' hI' hf' => ?_)⟩⟩)))
        · have e1 : rd h 189 = K.2.1 := by rw [← hk]; rfl
          rw [← e1]
          exact funext (fun j => hff h 189 j (by decide) (by decide))
        · have e1 : rd h 190 = K.2.2.1 := by rw [← hk]; rfl
          rw [← e1]
          exact funext (fun j => hff h 190 j (by decide) (by decide))
        · show _ = (if j = 0 then hr else if j = 1 then s else if j = 2 then p else it)
          rcases (show j = 0 ∨ j = 1 ∨ j = 2 ∨ j = 3 by omega) with rfl | rfl | rfl | rfl
          · rw [rdw_nei (by decide), rdw_nei (by decide), rdw_nei (by decide), rdw_eq, if_pos rfl]
          · rw [rdw_nei (by decide), rdw_nei (by decide), rdw_eq]
            rfl
          · rw [rdw_nei (by decide), rdw_eq]
            rfl
          · rw [rdw_eq]
            rfl
        · have fr : frL h h' := fun a i n1 n2 => (hf' a i n2).trans (hff h a i n1 n2)
          have kq := k h' hI' fr
          refine B_leadsTo_258 (RF_of hI'.1) ⟨fun q => ?_, fun q => ?_⟩
          · rw [if_pos q] at kq
            exact kq
          · rw [if_neg q] at kq
            exact kq
      by_cases cv : v = 0
      · rw [if_pos cv] at go
        exact ⟨-1, by omega, fun q => by omega, fun q => by omega, go⟩
      · rw [if_neg cv] at go
        exact ⟨it, i1, i2, str2 it rfl, go⟩
/-- what leadsTo answers -/
noncomputable def LF (K : KEY) (d s room hr sh tu : Int) : Int := Classical.epsilon (fun r => LDP K d s room hr sh tu r)
theorem LF_ok (K : KEY) {d s room hr : Int} (sh tu : Int) (hd : 0 ≤ d ∧ d ≤ 13) (hs : 0 ≤ s ∧ s ≤ 3) (hro : 0 ≤ room ∧ room ≤ 9) (hhr : 0 ≤ hr ∧ hr ≤ 25) : LDP K d s room hr sh tu (LF K d s room hr sh tu) := Classical.epsilon_spec (leads_det K sh tu hd hs hro hhr)
end
section
/-! LM, part 54: sets as bits -/
abbrev bitZ (s k : Int) : Prop := zand (zshr s k) 1 = 1
theorem shamt : ∀ n : Nat, n < 32 → ((Int32.ofInt (n : Int) &&& 31).toBitVec.smod (32 : BitVec 32)).toNat = n := by decide +kernel
theorem shamtZ {k : Int} (k0 : 0 ≤ k) (k1 : k < 32) : ((Int32.ofInt k &&& 31).toBitVec.smod (32 : BitVec 32)).toNat = k.toNat := by
  have := shamt k.toNat (by omega)
  rw [Int.toNat_of_nonneg k0] at this
  exact this
theorem bit1 (Y : Int32) : (Y &&& Int32.ofInt 1).toInt = 1 ↔ Y.toBitVec.getLsbD 0 = true := by
  have e : (Y &&& Int32.ofInt 1).toBitVec = BitVec.setWidth 32 (BitVec.ofBool (Y.toBitVec.getLsbD 0)) := by
    rw [Int32.toBitVec_and, show (Int32.ofInt 1).toBitVec = 1#32 from rfl, BitVec.and_one_eq_setWidth_ofBool_getLsbD]
  have e2 : (Y &&& Int32.ofInt 1) = Int32.ofBitVec (BitVec.setWidth 32 (BitVec.ofBool (Y.toBitVec.getLsbD 0))) := by
    rw [← Int32.toBitVec_inj, e]
    rfl
  rw [e2]
  cases Y.toBitVec.getLsbD 0 <;> decide
theorem bitZ_iff {s k : Int} (k0 : 0 ≤ k) (k1 : k < 32) : bitZ s k ↔ (Int32.ofInt s).toBitVec.getLsbD k.toNat = true := by
  unfold bitZ zand zshr
  rw [x_to, bit1, Int32.toBitVec_shiftRight, BitVec.getLsbD_sshiftRight', shamtZ k0 k1]
  simp only [Nat.add_zero]
  rw [if_pos (by omega)]
  simp
theorem bit_or {a b k : Int} (k0 : 0 ≤ k) (k1 : k < 32) : bitZ (zor a b) k ↔ bitZ a k ∨ bitZ b k := by
  rw [bitZ_iff k0 k1, bitZ_iff k0 k1, bitZ_iff k0 k1]
  unfold zor
  rw [x_to, Int32.toBitVec_or, BitVec.getLsbD_or, Bool.or_eq_true]
theorem bit_shl {j k : Int} (j0 : 0 ≤ j) (j1 : j < 32) (k0 : 0 ≤ k) (k1 : k < 32) : bitZ (zshl 1 j) k ↔ k = j := by
  rw [bitZ_iff k0 k1]
  unfold zshl
  rw [x_to, Int32.toBitVec_shiftLeft, BitVec.getLsbD_shiftLeft', shamtZ j0 j1, show (Int32.ofInt 1).toBitVec = 1#32 from rfl, BitVec.getLsbD_one]
  simp only [Bool.and_eq_true, decide_eq_true_eq, Bool.not_eq_true', decide_eq_false_iff_not]
  omega
theorem bit_and0 {a g : Int} (g0 : 0 ≤ g) (g1 : g < 32) (h : zand a (zshl 1 g) ≠ 0) : bitZ a g := by
  rw [bitZ_iff g0 g1]
  cases hq : (Int32.ofInt a).toBitVec.getLsbD g.toNat with
  | true => rfl
  | false =>
    exfalso
    apply h
    unfold zand zshl
    rw [x_to]
    have e : (Int32.ofInt a &&& (Int32.ofInt 1 <<< (Int32.ofInt g &&& 31))) = Int32.ofInt 0 := by
      rw [← Int32.toBitVec_inj, Int32.toBitVec_and, Int32.toBitVec_shiftLeft]
      refine BitVec.eq_of_getLsbD_eq (fun i hi => ?_)
      rw [BitVec.getLsbD_and, BitVec.getLsbD_shiftLeft', shamtZ g0 g1, show (Int32.ofInt 1).toBitVec = 1#32 from rfl, BitVec.getLsbD_one, show (Int32.ofInt 0).toBitVec = 0#32 from rfl, BitVec.getLsbD_zero]
      by_cases c : i = g.toNat
      · subst c
        rw [hq]
        rfl
      · have : (decide (i < 32) && !decide (i < g.toNat) && (decide (0 < 32) && decide (i - g.toNat = 0))) = false := by
          simp only [Bool.and_eq_false_iff, decide_eq_false_iff_not, Bool.not_eq_false', decide_eq_true_eq]
          omega
        rw [this, Bool.and_false]
    rw [e]
    rfl
/-- sets grow -/
theorem zor_ge {a b : Int} (a0 : 0 ≤ a) (a1 : a ≤ 1048575) (b0 : 0 ≤ b) (b1 : b ≤ 1048575) : a ≤ zor a b ∧ zor a b ≤ 1048575 := by
  unfold zor
  obtain ⟨m, rfl⟩ : ∃ m : Nat, a = m := ⟨a.toNat, by omega⟩
  obtain ⟨n, rfl⟩ : ∃ n : Nat, b = n := ⟨b.toNat, by omega⟩
  have e : (Int32.ofInt (m : Int) ||| Int32.ofInt (n : Int)) = Int32.ofInt ((m ||| n : Nat) : Int) := by
    rw [← Int32.toBitVec_inj, Int32.toBitVec_or, Int32.toBitVec_ofInt, Int32.toBitVec_ofInt, Int32.toBitVec_ofInt]
    rw [BitVec.ofInt_natCast, BitVec.ofInt_natCast, BitVec.ofInt_natCast]
    apply BitVec.eq_of_toNat_eq
    rw [BitVec.toNat_or, BitVec.toNat_ofNat, BitVec.toNat_ofNat, BitVec.toNat_ofNat, Nat.mod_eq_of_lt (by omega), Nat.mod_eq_of_lt (by omega), Nat.mod_eq_of_lt]
    exact Nat.or_lt_two_pow (by omega) (by omega)
  have l1 : m ≤ m ||| n := Nat.left_le_or
  have l2 : m ||| n < 2 ^ 20 := Nat.or_lt_two_pow (by omega) (by omega)
  rw [e, x_of (by unfold i32; omega)]
  omega
end
