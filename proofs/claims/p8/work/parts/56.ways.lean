/-! LM, part 56: the reference's ways: where one can be, the fewest doors -/
/-- a heap with this quarter and this state -/
def WC (K : KEY) (S : Int → Int) (h : LH) : Prop := INV h ∧ key h = K ∧ rd h 198 = S
theorem WC_fr {K : KEY} {S : Int → Int} {h h' : LH} (w : WC K S h) (hI : INV h') (f : frL h h') : WC K S h' := ⟨hI, (key_fr f).trans w.2.1, (funext (fun j => f 198 j (by decide) (by decide))).trans w.2.2⟩
noncomputable def NW (K : KEY) (sh s d room hr : Int) : Int := if hr < 24 then LF K d s room hr sh 0 else -1
theorem NW_ok (K : KEY) (sh : Int) {s d room hr : Int} (hd : 0 ≤ d ∧ d ≤ 13) (hs : 0 ≤ s ∧ s ≤ 3) (hro : 0 ≤ room ∧ room ≤ 9) (hhr : 0 ≤ hr ∧ hr ≤ 25) : (-1 ≤ NW K sh s d room hr ∧ NW K sh s d room hr ≤ 9) ∧ (0 ≤ NW K sh s d room hr → NW K sh s d room hr = K.1 (8 * d + 5) + K.1 (8 * d + 6) - room ∧ (room = K.1 (8 * d + 5) ∨ room = K.1 (8 * d + 6))) := by
  unfold NW
  split
  · have q := LF_ok K sh 0 hd hs hro hhr
    exact ⟨q.1, q.2.1⟩
  · exact ⟨by omega, fun z => by omega⟩
section C11
variable {xs : Nat → Int} {xl e : Nat} {h : LH} {Q : Option LV → LH → Prop} {K : KEY} {S : Int → Int}
theorem D_leadsNow {b d s room hr : Int} (he : 4 ≤ e) (w : WC K S h) (hb : 0 ≤ b ∧ b ≤ 1540) (hd : 0 ≤ d ∧ d ≤ 13) (hs : 0 ≤ s ∧ s ≤ 3) (hro : 0 ≤ room ∧ room ≤ 9) (hhr : 0 ≤ hr ∧ hr ≤ 25) (k : ∀ h', WC K S h' → frL h h' → Q (some (.inl (NW K (S (b + 1)) s d room hr))) h') : Rn xs xl e mm_leadsNow 0 [some (.inr (.inr 182)), some (.inl b), some (.inl d), some (.inl s), some (.inl room), some (.inl hr)] [] h Q := by
  have hF := RF_of w.1.1
  have e1 : rd h 198 (b + 1) = S (b + 1) := by rw [w.2.2]
  refine B_leadsNow_0 hF ⟨fun c => ?_, fun c => ⟨by omega, by omega, 3, by omega, ?_⟩⟩
  · have q := k h w (fun _ _ _ _ => rfl)
    unfold NW at q
    rw [if_neg (by omega)] at q
    exact q
  · rw [e1]
    refine (LF_ok K (S (b + 1)) 0 hd hs hro hhr).2.2.2 xs xl 3 h _ (by omega) w.1 w.2.1 (fun h' hI' f => ?_)
    have q := k h' (WC_fr w hI' f) f
    unfold NW at q
    rw [if_pos c] at q
    exact B_leadsNow_26 (RF_of hI'.1) q
end C11
/-- the state into which a door leads in an hour -/
noncomputable def tr (K : KEY) (S : Int → Int) (b p hr k d : Int) : Int := if NW K (S (b + 1)) (K.1 (4 * p + 116)) d (k % 10) hr < 0 then -1 else NW K (S (b + 1)) (K.1 (4 * p + 116)) d (k % 10) hr + (if 10 ≤ k ∨ NW K (S (b + 1)) (K.1 (4 * p + 116)) d (k % 10) hr = K.1 (4 * p + 118) then 10 else 0)
/-- from a state in an hour, so many hours on -/
noncomputable def Rch (K : KEY) (S : Int → Int) (b p : Int) : Nat → Int → Int → Int → Prop
  | 0, _, k, g => k = g
  | n + 1, hr, k, g => Rch K S b p n (hr + 1) k g ∨ ∃ d, 0 ≤ d ∧ d < K.1 1 ∧ 0 ≤ tr K S b p hr k d ∧ Rch K S b p n (hr + 1) (tr K S b p hr k d) g
theorem Rch_snoc {K : KEY} {S : Int → Int} {b p : Int} : ∀ {n : Nat} {hr k0 k j : Int}, Rch K S b p n hr k0 k → (k = j ∨ ∃ d, 0 ≤ d ∧ d < K.1 1 ∧ 0 ≤ tr K S b p (hr + n) k d ∧ tr K S b p (hr + n) k d = j) → Rch K S b p (n + 1) hr k0 j
  | 0, hr, k0, k, j, h, hj => by
    have h : k0 = k := h
    subst h
    rw [show hr + ((0 : Nat) : Int) = hr by omega] at hj
    rcases hj with q | ⟨d, d0, d1, d2, d3⟩
    · exact Or.inl q
    · exact Or.inr ⟨d, d0, d1, d2, d3⟩
  | n + 1, hr, k0, k, j, h, hj => by
    have e : hr + ((n + 1 : Nat) : Int) = hr + 1 + (n : Int) := by omega
    rw [e] at hj
    rcases h with q | ⟨d, d0, d1, d2, d3⟩
    · exact Or.inl (Rch_snoc q hj)
    · exact Or.inr ⟨d, d0, d1, d2, Rch_snoc d3 hj⟩
/-- what a heap of this quarter gives of its numbers -/
def KB (K : KEY) (p : Int) : Prop := (0 ≤ K.1 1 ∧ K.1 1 ≤ 14) ∧ (0 ≤ K.1 0 ∧ K.1 0 ≤ 10) ∧ (0 ≤ K.1 (4 * p + 116) ∧ K.1 (4 * p + 116) ≤ 3) ∧ (0 ≤ K.1 (4 * p + 117) ∧ K.1 (4 * p + 117) ≤ 9) ∧ (0 ≤ K.1 (4 * p + 118) ∧ K.1 (4 * p + 118) ≤ 9) ∧ ∀ d, 0 ≤ d → d < K.1 1 → (0 ≤ K.1 (8 * d + 5) ∧ K.1 (8 * d + 5) < K.1 0) ∧ (0 ≤ K.1 (8 * d + 6) ∧ K.1 (8 * d + 6) < K.1 0)
theorem KB_of {K : KEY} {S : Int → Int} {h : LH} (w : WC K S h) {p : Int} (hp : 0 ≤ p ∧ p ≤ 5) : KB K p := by
  have e : ∀ i, rd h 188 i = K.1 i := fun i => by rw [← w.2.1]; rfl
  have d1 := rq_doors w.1.1
  have d0 := rq_rooms w.1.1
  have a := rq_p0 w.1.1 (i := 4 * p + 116) (d := p) (by omega) (by omega) (by omega)
  have c := rq_p1 w.1.1 (i := 4 * p + 117) (d := p) (by omega) (by omega) (by omega)
  have f := rq_p2 w.1.1 (i := 4 * p + 118) (d := p) (by omega) (by omega) (by omega)
  rw [e] at a c f
  rw [e 1] at d1
  rw [e 0] at d0
  refine ⟨d1, d0, a, c, f, fun d x0 x1 => ?_⟩
  have y1 := rq_d1 w.1.1 (i := 8 * d + 5) (d := d) (by omega) (by omega) (by omega)
  have y2 := rq_d2 w.1.1 (i := 8 * d + 6) (d := d) (by omega) (by omega) (by omega)
  have z := w.1.2.2.2.2.1.1 d x0 (by omega) (by rw [e 1]; exact x1)
  rw [e] at y1 y2
  rw [e, e, e, show (5 + 8 * d : Int) = 8 * d + 5 by omega, show (6 + 8 * d : Int) = 8 * d + 6 by omega] at z
  omega
theorem tr_ok {K : KEY} {S : Int → Int} {b p hr k d : Int} (kb : KB K p) (hk : 0 ≤ k ∧ k ≤ 19) (hd : 0 ≤ d ∧ d < K.1 1) (hhr : 0 ≤ hr ∧ hr ≤ 25) : -1 ≤ tr K S b p hr k d ∧ tr K S b p hr k d ≤ 19 ∧ (0 ≤ tr K S b p hr k d → tr K S b p hr k d % 10 < K.1 0) := by
  have q := NW_ok K (S (b + 1)) (s := K.1 (4 * p + 116)) (d := d) (room := k % 10) (hr := hr) (by have := kb.1; omega) kb.2.2.1 (by omega) hhr
  have z := kb.2.2.2.2.2 d hd.1 hd.2
  unfold tr
  generalize NW K (S (b + 1)) (K.1 (4 * p + 116)) d (k % 10) hr = x at *
  split
  · omega
  · split <;> omega
/-- where a door leads doesn't hang on the hour -/
theorem tr_hour {K : KEY} {S : Int → Int} {b p hr hr' k d : Int} (kb : KB K p) (hk : 0 ≤ k ∧ k ≤ 19) (hd : 0 ≤ d ∧ d < K.1 1) (h1 : 0 ≤ hr ∧ hr ≤ 25) (h2 : 0 ≤ hr' ∧ hr' ≤ 25) (t1 : 0 ≤ tr K S b p hr k d) (t2 : 0 ≤ tr K S b p hr' k d) : tr K S b p hr' k d = tr K S b p hr k d := by
  have q := NW_ok K (S (b + 1)) (s := K.1 (4 * p + 116)) (d := d) (room := k % 10) (hr := hr) (by have := kb.1; omega) kb.2.2.1 (by omega) h1
  have q' := NW_ok K (S (b + 1)) (s := K.1 (4 * p + 116)) (d := d) (room := k % 10) (hr := hr') (by have := kb.1; omega) kb.2.2.1 (by omega) h2
  unfold tr at t1 t2 ⊢
  generalize NW K (S (b + 1)) (K.1 (4 * p + 116)) d (k % 10) hr = x at *
  generalize NW K (S (b + 1)) (K.1 (4 * p + 116)) d (k % 10) hr' = y at *
  by_cases cx : x < 0
  · rw [if_pos cx] at t1; omega
  · by_cases cy : y < 0
    · rw [if_pos cy] at t2; omega
    · have e : y = x := by have := q.2 (by omega); have := q'.2 (by omega); omega
      rw [e]
section C12
variable {xs : Nat → Int} {xl e : Nat} {h : LH} {Q : Option LV → LH → Prop} {K : KEY} {S : Int → Int} {b p : Int}
theorem frL.trans {h h1 h2 : LH} (a : frL h h1) (c : frL h1 h2) : frL h h2 := fun x i n1 n2 => (c x i n1 n2).trans (a x i n1 n2)
theorem frL.refl (h : LH) : frL h h := fun _ _ _ _ => rfl
theorem bit_zero {j : Int} : ¬ bitZ 0 j := by
  intro q
  have := bit0 j
  unfold bitZ at q
  omega
theorem D_stepOf {set hr : Int} (he : 5 ≤ e) (w : WC K S h) (hb : 0 ≤ b ∧ b ≤ 1540) (hp : 0 ≤ p ∧ p ≤ 5) (hhr : 0 ≤ hr ∧ hr ≤ 24) (k : ∀ r h', WC K S h' → frL h h' → (∀ j, 0 ≤ j → j ≤ 19 → bitZ r j → bitZ set j ∨ ∃ q d, 0 ≤ q ∧ q ≤ 19 ∧ 0 ≤ d ∧ d < K.1 1 ∧ bitZ set q ∧ 0 ≤ tr K S b p hr q d ∧ tr K S b p hr q d = j) → Q (some (.inl r)) h') : Rn xs xl e mm_stepOf 0 [some (.inr (.inr 182)), some (.inl b), some (.inl p), some (.inl set), some (.inl hr), none, none, none, none, none] [] h Q := by
  have kb := KB_of w hp
  have inner : ∀ (n : Nat) (g : LH) (nx q d : Int) (o8 o9 : Option LV), K.1 1 - d ≤ n → 0 ≤ q → q ≤ 19 → 0 ≤ d → d ≤ K.1 1 → WC K S g → frL h g → (∀ j, 0 ≤ j → j ≤ 19 → bitZ nx j → bitZ set j ∨ ∃ q d, 0 ≤ q ∧ q ≤ 19 ∧ 0 ≤ d ∧ d < K.1 1 ∧ bitZ set q ∧ 0 ≤ tr K S b p hr q d ∧ tr K S b p hr q d = j) → (∀ g nx o7 o8 o9, WC K S g → frL h g → (∀ j, 0 ≤ j → j ≤ 19 → bitZ nx j → bitZ set j ∨ ∃ q d, 0 ≤ q ∧ q ≤ 19 ∧ 0 ≤ d ∧ d < K.1 1 ∧ bitZ set q ∧ 0 ≤ tr K S b p hr q d ∧ tr K S b p hr q d = j) → Rn xs xl e mm_stepOf 6 [some (.inr (.inr 182)), some (.inl b), some (.inl p), some (.inl set), some (.inl hr), some (.inl nx), some (.inl (q + 1)), o7, o8, o9] [] g Q) → Rn xs xl e mm_stepOf 16 [some (.inr (.inr 182)), some (.inl b), some (.inl p), some (.inl set), some (.inl hr), some (.inl nx), some (.inl q), some (.inl d), o8, o9] [] g Q := by
    intro n
    induction n with
    | zero =>
      intro g nx q d o8 o9 hn q0 q1 d0 d1 gw gf gi cont
      have e1 : rd g 188 1 = K.1 1 := by rw [← gw.2.1]; rfl
      have := kb.1
      exact B_stepOf_16 (RF_of gw.1.1) hb hp ⟨q0, q1⟩ (by omega) (by omega) ⟨fun _ => cont g nx _ _ _ gw gf gi, fun c => by omega⟩
    | succ n ih =>
      intro g nx q d o8 o9 hn q0 q1 d0 d1 gw gf gi cont
      have e1 : rd g 188 1 = K.1 1 := by rw [← gw.2.1]; rfl
      have e2 : rd g 188 (4 * p + 116) = K.1 (4 * p + 116) := by rw [← gw.2.1]; rfl
      have k1 := kb.1
      refine B_stepOf_16 (RF_of gw.1.1) hb hp ⟨q0, q1⟩ (by omega) (by omega) ⟨fun _ => cont g nx _ _ _ gw gf gi, fun c => ⟨fun _ => cont g nx _ _ _ gw gf gi, fun cb => ⟨4, by omega, ?_⟩⟩⟩
      rw [e2]
      refine D_leadsNow (by omega) gw hb (by omega) kb.2.2.1 (by omega) (by omega) (fun g' gw' gf' => ?_)
      have e3 : rd g' 188 (4 * p + 118) = K.1 (4 * p + 118) := by rw [← gw'.2.1]; rfl
      have nb := NW_ok K (S (b + 1)) (s := K.1 (4 * p + 116)) (d := d) (room := q % 10) (hr := hr) (by omega) kb.2.2.1 (by omega) (by omega)
      have go : ∀ (nx' : Int) (o8 o9 : Option LV), (∀ j, 0 ≤ j → j ≤ 19 → bitZ nx' j → bitZ nx j ∨ (0 ≤ tr K S b p hr q d ∧ tr K S b p hr q d = j)) → Rn xs xl e mm_stepOf 16 [some (.inr (.inr 182)), some (.inl b), some (.inl p), some (.inl set), some (.inl hr), some (.inl nx'), some (.inl q), some (.inl (d + 1)), o8, o9] [] g' Q := by
        intro nx' o8 o9 hx
        refine ih g' nx' q (d + 1) o8 o9 (by omega) q0 q1 (by omega) (by omega) gw' (gf.trans gf') (fun j j0 j1 jb => ?_) cont
        rcases hx j j0 j1 jb with z | z
        · exact gi j j0 j1 z
        · exact Or.inr ⟨q, d, q0, q1, d0, by omega, cb, z.1, z.2⟩
      have htr : tr K S b p hr q d = (if NW K (S (b + 1)) (K.1 (4 * p + 116)) d (q % 10) hr < 0 then -1 else NW K (S (b + 1)) (K.1 (4 * p + 116)) d (q % 10) hr + (if 10 ≤ q ∨ NW K (S (b + 1)) (K.1 (4 * p + 116)) d (q % 10) hr = K.1 (4 * p + 118) then 10 else 0)) := rfl
      generalize hx : NW K (S (b + 1)) (K.1 (4 * p + 116)) d (q % 10) hr = x at *
      have none' : ∀ j, 0 ≤ j → j ≤ 19 → bitZ (zor nx 0) j → bitZ nx j ∨ (0 ≤ tr K S b p hr q d ∧ tr K S b p hr q d = j) := fun j j0 j1 jb => by
        rcases (bit_or j0 (by omega)).mp jb with z | z
        · exact Or.inl z
        · exact absurd z bit_zero
      have some' : ∀ y : Int, 0 ≤ y → y ≤ 19 → tr K S b p hr q d = y → ∀ j, 0 ≤ j → j ≤ 19 → bitZ (zor nx (zshl 1 y)) j → bitZ nx j ∨ (0 ≤ tr K S b p hr q d ∧ tr K S b p hr q d = j) := fun y y0 y1 ht j j0 j1 jb => by
        rcases (bit_or j0 (by omega)).mp jb with z | z
        · exact Or.inl z
        · have := (bit_shl y0 (by omega) j0 (by omega)).mp z
          exact Or.inr ⟨by omega, by omega⟩
      refine B_stepOf_54 (RF_of gw'.1.1) hb hp ⟨q0, q1⟩ (by omega) (by omega) (by omega) ⟨fun c1 => ⟨fun c2 => go _ _ _ (some' _ (by omega) (by omega) ?_), fun c2 => go _ _ _ none'⟩, fun c1 => ⟨fun c3 => ⟨fun c2 => go _ _ _ (some' _ (by omega) (by omega) ?_), fun c2 => go _ _ _ none'⟩, fun c3 => ⟨fun c2 => go _ _ _ (some' _ (by omega) (by omega) ?_), fun c2 => go _ _ _ none'⟩⟩⟩
      · rw [htr, if_neg (by omega), if_pos (Or.inl c1)]
      · rw [htr, if_neg (by omega), if_neg (by omega)]
        omega
      · rw [htr, if_neg (by omega), if_pos (Or.inr (by omega))]
  have outer : ∀ (n : Nat) (g : LH) (nx q : Int) (o7 o8 o9 : Option LV), 20 - q ≤ n → 0 ≤ q → q ≤ 20 → WC K S g → frL h g → (∀ j, 0 ≤ j → j ≤ 19 → bitZ nx j → bitZ set j ∨ ∃ q d, 0 ≤ q ∧ q ≤ 19 ∧ 0 ≤ d ∧ d < K.1 1 ∧ bitZ set q ∧ 0 ≤ tr K S b p hr q d ∧ tr K S b p hr q d = j) → Rn xs xl e mm_stepOf 6 [some (.inr (.inr 182)), some (.inl b), some (.inl p), some (.inl set), some (.inl hr), some (.inl nx), some (.inl q), o7, o8, o9] [] g Q := by
    intro n
    induction n with
    | zero =>
      intro g nx q o7 o8 o9 hn q0 q1 gw gf gi
      exact B_stepOf_6 (RF_of gw.1.1) hb hp ⟨q0, q1⟩ ⟨fun _ => k nx g gw gf gi, fun c => by omega⟩
    | succ n ih =>
      intro g nx q o7 o8 o9 hn q0 q1 gw gf gi
      refine B_stepOf_6 (RF_of gw.1.1) hb hp ⟨q0, q1⟩ ⟨fun _ => k nx g gw gf gi, fun c => ?_⟩
      exact inner 14 g nx q 0 _ _ (by have := kb.1; omega) q0 (by omega) (by omega) (by have := kb.1; omega) gw gf gi (fun g' nx' o7 o8 o9 gw' gf' gi' => ih g' nx' (q + 1) _ _ _ (by omega) (by omega) (by omega) gw' gf' gi')
  exact B_stepOf_0 (RF_of w.1.1) hb hp (outer 20 h set 0 none none none (by omega) (by omega) (by omega) w (frL.refl h) (fun j _ _ jb => Or.inl jb))
end C12
