section
/-! LM, part 56: the reference's ways: where one can be, the fewest doors -/
/-- a heap with this quarter and this state -/
def WC (K : KEY) (S : Int → Int) (h : LH) : Prop := INV h ∧ key h = K ∧ rd h 198 = S
theorem WC_fr {K : KEY} {S : Int → Int} {h h' : LH} (w : WC K S h) (hI : INV h') (f : frL h h') : WC K S h' := ⟨hI, (key_fr f).trans w.2.1, (funext (fun j => f 198 j (by decide) (by decide))).trans w.2.2⟩
noncomputable def NW (K : KEY) (sh s d room hr : Int) : Int := if hr < 24 then LF K d s room hr sh 0 else -1
theorem NW_ok (K : KEY) (sh : Int) {s d room hr : Int} (hd : 0 ≤ d ∧ d ≤ 13) (hs : 0 ≤ s ∧ s ≤ 3) (hro : 0 ≤ room ∧ room ≤ 9) (hhr : 0 ≤ hr ∧ hr ≤ 25) : (-1 ≤ NW K sh s d room hr ∧ NW K sh s d room hr ≤ 9) ∧ (0 ≤ NW K sh s d room hr → NW K sh s d room hr = K.1 (8 * d + 5) + K.1 (8 * d + 6) - room ∧ (room = K.1 (8 * d + 5) ∨ room = K.1 (8 * d + 6))) := by
  unfold NW
  split
  · have q := LF_ok K sh 0 hd hs hro hhr
    exact ⟨q.1, q.2.1⟩
  · exact ⟨by omega, fun z => by omega⟩
section C11
variable {xs : Nat → Int} {xl e : Nat} {h : LH} {Q : Option LV → LH → Prop} {K : KEY} {S : Int → Int}
theorem D_leadsNow {b d s room hr : Int} (he : 4 ≤ e) (w : WC K S h) (hb : 0 ≤ b ∧ b ≤ 1540) (hd : 0 ≤ d ∧ d ≤ 13) (hs : 0 ≤ s ∧ s ≤ 3) (hro : 0 ≤ room ∧ room ≤ 9) (hhr : 0 ≤ hr ∧ hr ≤ 25) (k : ∀ h', WC K S h' → frL h h' → Q (some (.inl (NW K (S (b + 1)) s d room hr))) h') : Rn xs xl e mm_leadsNow 0 [some (.inr (.inr 182)), some (.inl b), some (.inl d), some (.inl s), some (.inl room), some (.inl hr)] [] h Q := by
  have hF := RF_of w.1.1
  have e1 : rd h 198 (b + 1) = S (b + 1) := by rw [w.2.2]
  refine B_leadsNow_0 hF ⟨fun c => ?_, fun c => ⟨by omega, by omega, 3, by omega, ?_⟩⟩
  · have q := k h w (fun _ _ _ _ => rfl)
    unfold NW at q
    rw [if_neg (by omega)] at q
    exact q
  · rw [e1]
    refine (LF_ok K (S (b + 1)) 0 hd hs hro hhr).2.2.2 xs xl 3 h _ (by omega) w.1 w.2.1 (fun h' hI' f => ?_)
    have q := k h' (WC_fr w hI' f) f
    unfold NW at q
    rw [if_pos c] at q
    exact B_leadsNow_26 (RF_of hI'.1) q
end C11
/-- the state into which a door leads in an hour -/
noncomputable def tr (K : KEY) (S : Int → Int) (b p hr k d : Int) : Int := if NW K (S (b + 1)) (K.1 (4 * p + 116)) d (k % 10) hr < 0 then -1 else NW K (S (b + 1)) (K.1 (4 * p + 116)) d (k % 10) hr + (if 10 ≤ k ∨ NW K (S (b + 1)) (K.1 (4 * p + 116)) d (k % 10) hr = K.1 (4 * p + 118) then 10 else 0)
/-- from a state in an hour, so many hours on -/
noncomputable def Rch (K : KEY) (S : Int → Int) (b p : Int) : Nat → Int → Int → Int → Prop
  | 0, _, k, g => k = g
  | n + 1, hr, k, g => Rch K S b p n (hr + 1) k g ∨ ∃ d, 0 ≤ d ∧ d < K.1 1 ∧ 0 ≤ tr K S b p hr k d ∧ Rch K S b p n (hr + 1) (tr K S b p hr k d) g
theorem Rch_snoc {K : KEY} {S : Int → Int} {b p : Int} : ∀ {n : Nat} {hr k0 k j : Int}, Rch K S b p n hr k0 k → (k = j ∨ ∃ d, 0 ≤ d ∧ d < K.1 1 ∧ 0 ≤ tr K S b p (hr + n) k d ∧ tr K S b p (hr + n) k d = j) → Rch K S b p (n + 1) hr k0 j
  | 0, hr, k0, k, j, h, hj => by
    have h : k0 = k := h
    subst h
    rw [show hr + ((0 : Nat) : Int) = hr by omega] at hj
    rcases hj with q | ⟨d, d0, d1, d2, d3⟩
    · exact Or.inl q
    · exact Or.inr ⟨d, d0, d1, d2, d3⟩
  | n + 1, hr, k0, k, j, h, hj => by
    have e : hr + ((n + 1 : Nat) : Int) = hr + 1 + (n : Int) := by omega
    rw [e] at hj
    rcases h with q | ⟨d, d0, d1, d2, d3⟩
    · exact Or.inl (Rch_snoc q hj)
    · exact Or.inr ⟨d, d0, d1, d2, Rch_snoc d3 hj⟩
/-- what a heap of this quarter gives of its numbers -/
def KB (K : KEY) (p : Int) : Prop := (0 ≤ K.1 1 ∧ K.1 1 ≤ 14) ∧ (0 ≤ K.1 0 ∧ K.1 0 ≤ 10) ∧ (0 ≤ K.1 (4 * p + 116) ∧ K.1 (4 * p + 116) ≤ 3) ∧ (0 ≤ K.1 (4 * p + 117) ∧ K.1 (4 * p + 117) ≤ 9) ∧ (0 ≤ K.1 (4 * p + 118) ∧ K.1 (4 * p + 118) ≤ 9) ∧ ∀ d, 0 ≤ d → d < K.1 1 → (0 ≤ K.1 (8 * d + 5) ∧ K.1 (8 * d + 5) < K.1 0) ∧ (0 ≤ K.1 (8 * d + 6) ∧ K.1 (8 * d + 6) < K.1 0)
theorem KB_of {K : KEY} {S : Int → Int} {h : LH} (w : WC K S h) {p : Int} (hp : 0 ≤ p ∧ p ≤ 5) : KB K p := by
  have e : ∀ i, rd h 188 i = K.1 i := fun i => by rw [← w.2.1]; rfl
  have d1 := rq_doors w.1.1
  have d0 := rq_rooms w.1.1
  have a := rq_p0 w.1.1 (i := 4 * p + 116) (d := p) (by omega) (by omega) (by omega)
  have c := rq_p1 w.1.1 (i := 4 * p + 117) (d := p) (by omega) (by omega) (by omega)
  have f := rq_p2 w.1.1 (i := 4 * p + 118) (d := p) (by omega) (by omega) (by omega)
  rw [e] at a c f
  rw [e 1] at d1
  rw [e 0] at d0
  refine ⟨d1, d0, a, c, f, fun d x0 x1 => ?_⟩
  have y1 := rq_d1 w.1.1 (i := 8 * d + 5) (d := d) (by omega) (by omega) (by omega)
  have y2 := rq_d2 w.1.1 (i := 8 * d + 6) (d := d) (by omega) (by omega) (by omega)
  have z := w.1.2.2.2.2.1.1 d x0 (by omega) (by rw [e 1]; exact x1)
  rw [e] at y1 y2
  rw [e, e, e, show (5 + 8 * d : Int) = 8 * d + 5 by omega, show (6 + 8 * d : Int) = 8 * d + 6 by omega] at z
  omega
theorem tr_ok {K : KEY} {S : Int → Int} {b p hr k d : Int} (kb : KB K p) (hk : 0 ≤ k ∧ k ≤ 19) (hd : 0 ≤ d ∧ d < K.1 1) (hhr : 0 ≤ hr ∧ hr ≤ 25) : -1 ≤ tr K S b p hr k d ∧ tr K S b p hr k d ≤ 19 ∧ (0 ≤ tr K S b p hr k d → tr K S b p hr k d % 10 < K.1 0) := by
  have q := NW_ok K (S (b + 1)) (s := K.1 (4 * p + 116)) (d := d) (room := k % 10) (hr := hr) (by have := kb.1; omega) kb.2.2.1 (by omega) hhr
  have z := kb.2.2.2.2.2 d hd.1 hd.2
  unfold tr
  generalize NW K (S (b + 1)) (K.1 (4 * p + 116)) d (k % 10) hr = x at *
  split
  · omega
  · split <;> omega
/-- where a door leads doesn't hang on the hour -/
theorem tr_hour {K : KEY} {S : Int → Int} {b p hr hr' k d : Int} (kb : KB K p) (hk : 0 ≤ k ∧ k ≤ 19) (hd : 0 ≤ d ∧ d < K.1 1) (h1 : 0 ≤ hr ∧ hr ≤ 25) (h2 : 0 ≤ hr' ∧ hr' ≤ 25) (t1 : 0 ≤ tr K S b p hr k d) (t2 : 0 ≤ tr K S b p hr' k d) : tr K S b p hr' k d = tr K S b p hr k d := by
  have q := NW_ok K (S (b + 1)) (s := K.1 (4 * p + 116)) (d := d) (room := k % 10) (hr := hr) (by have := kb.1; omega) kb.2.2.1 (by omega) h1
  have q' := NW_ok K (S (b + 1)) (s := K.1 (4 * p + 116)) (d := d) (room := k % 10) (hr := hr') (by have := kb.1; omega) kb.2.2.1 (by omega) h2
  unfold tr at t1 t2 ⊢
  generalize NW K (S (b + 1)) (K.1 (4 * p + 116)) d (k % 10) hr = x at *
  generalize NW K (S (b + 1)) (K.1 (4 * p + 116)) d (k % 10) hr' = y at *
  by_cases cx : x < 0
  · rw [if_pos cx] at t1; omega
  · by_cases cy : y < 0
    · rw [if_pos cy] at t2; omega
    · have e : y = x := by have := q.2 (by omega); have := q'.2 (by omega); omega
      rw [e]
section C12
variable {xs : Nat → Int} {xl e : Nat} {h : LH} {Q : Option LV → LH → Prop} {K : KEY} {S : Int → Int} {b p : Int}
theorem frL.trans {h h1 h2 : LH} (a : frL h h1) (c : frL h1 h2) : frL h h2 := fun x i n1 n2 => (c x i n1 n2).trans (a x i n1 n2)
theorem frL.refl (h : LH) : frL h h := fun _ _ _ _ => rfl
theorem bit_zero {j : Int} : ¬ bitZ 0 j := by
  intro q
  have := bit0 j
  unfold bitZ at q
  omega
theorem D_stepOf {set hr : Int} (he : 5 ≤ e) (w : WC K S h) (hb : 0 ≤ b ∧ b ≤ 1540) (hp : 0 ≤ p ∧ p ≤ 5) (hhr : 0 ≤ hr ∧ hr ≤ 24) (k : ∀ r h', WC K S h' → frL h h' → (∀ j, 0 ≤ j → j ≤ 19 → bitZ r j → bitZ set j ∨ ∃ q d, 0 ≤ q ∧ q ≤ 19 ∧ 0 ≤ d ∧ d < K.1 1 ∧ bitZ set q ∧ 0 ≤ tr K S b p hr q d ∧ tr K S b p hr q d = j) → Q (some (.inl r)) h') : Rn xs xl e mm_stepOf 0 [some (.inr (.inr 182)), some (.inl b), some (.inl p), some (.inl set), some (.inl hr), none, none, none, none, none] [] h Q := by
  have kb := KB_of w hp
  have inner : ∀ (n : Nat) (g : LH) (nx q d : Int) (o8 o9 : Option LV), K.1 1 - d ≤ n → 0 ≤ q → q ≤ 19 → 0 ≤ d → d ≤ K.1 1 → WC K S g → frL h g → (∀ j, 0 ≤ j → j ≤ 19 → bitZ nx j → bitZ set j ∨ ∃ q d, 0 ≤ q ∧ q ≤ 19 ∧ 0 ≤ d ∧ d < K.1 1 ∧ bitZ set q ∧ 0 ≤ tr K S b p hr q d ∧ tr K S b p hr q d = j) → (∀ g nx o7 o8 o9, WC K S g → frL h g → (∀ j, 0 ≤ j → j ≤ 19 → bitZ nx j → bitZ set j ∨ ∃ q d, 0 ≤ q ∧ q ≤ 19 ∧ 0 ≤ d ∧ d < K.1 1 ∧ bitZ set q ∧ 0 ≤ tr K S b p hr q d ∧ tr K S b p hr q d = j) → Rn xs xl e mm_stepOf 6 [some (.inr (.inr 182)), some (.inl b), some (.inl p), some (.inl set), some (.inl hr), some (.inl nx), some (.inl (q + 1)), o7, o8, o9] [] g Q) → Rn xs xl e mm_stepOf 16 [some (.inr (.inr 182)), some (.inl b), some (.inl p), some (.inl set), some (.inl hr), some (.inl nx), some (.inl q), some (.inl d), o8, o9] [] g Q := by
    intro n
    induction n with
    | zero =>
      intro g nx q d o8 o9 hn q0 q1 d0 d1 gw gf gi cont
      have e1 : rd g 188 1 = K.1 1 := by rw [← gw.2.1]; rfl
      have := kb.1
      exact B_stepOf_16 (RF_of gw.1.1) hb hp ⟨q0, q1⟩ (by omega) (by omega) ⟨fun _ => cont g nx _ _ _ gw gf gi, fun c => by omega⟩
    | succ n ih =>
      intro g nx q d o8 o9 hn q0 q1 d0 d1 gw gf gi cont
      have e1 : rd g 188 1 = K.1 1 := by rw [← gw.2.1]; rfl
      have e2 : rd g 188 (4 * p + 116) = K.1 (4 * p + 116) := by rw [← gw.2.1]; rfl
      have k1 := kb.1
      refine B_stepOf_16 (RF_of gw.1.1) hb hp ⟨q0, q1⟩ (by omega) (by omega) ⟨fun _ => cont g nx _ _ _ gw gf gi, fun c => ⟨fun _ => cont g nx _ _ _ gw gf gi, fun cb => ⟨4, by omega, ?_⟩⟩⟩
      rw [e2]
      refine D_leadsNow (by omega) gw hb (by omega) kb.2.2.1 (by omega) (by omega) (fun g' gw' gf' => ?_)
      have e3 : rd g' 188 (4 * p + 118) = K.1 (4 * p + 118) := by rw [← gw'.2.1]; rfl
      have nb := NW_ok K (S (b + 1)) (s := K.1 (4 * p + 116)) (d := d) (room := q % 10) (hr := hr) (by omega) kb.2.2.1 (by omega) (by omega)
      have go : ∀ (nx' : Int) (o8 o9 : Option LV), (∀ j, 0 ≤ j → j ≤ 19 → bitZ nx' j → bitZ nx j ∨ (0 ≤ tr K S b p hr q d ∧ tr K S b p hr q d = j)) → Rn xs xl e mm_stepOf 16 [some (.inr (.inr 182)), some (.inl b), some (.inl p), some (.inl set), some (.inl hr), some (.inl nx'), some (.inl q), some (.inl (d + 1)), o8, o9] [] g' Q := by
        intro nx' o8 o9 hx
        refine ih g' nx' q (d + 1) o8 o9 (by omega) q0 q1 (by omega) (by omega) gw' (gf.trans gf') (fun j j0 j1 jb => ?_) cont
        rcases hx j j0 j1 jb with z | z
        · exact gi j j0 j1 z
        · exact Or.inr ⟨q, d, q0, q1, d0, by omega, cb, z.1, z.2⟩
      have htr : tr K S b p hr q d = (if NW K (S (b + 1)) (K.1 (4 * p + 116)) d (q % 10) hr < 0 then -1 else NW K (S (b + 1)) (K.1 (4 * p + 116)) d (q % 10) hr + (if 10 ≤ q ∨ NW K (S (b + 1)) (K.1 (4 * p + 116)) d (q % 10) hr = K.1 (4 * p + 118) then 10 else 0)) := rfl
      generalize hx : NW K (S (b + 1)) (K.1 (4 * p + 116)) d (q % 10) hr = x at *
      have none' : ∀ j, 0 ≤ j → j ≤ 19 → bitZ (zor nx 0) j → bitZ nx j ∨ (0 ≤ tr K S b p hr q d ∧ tr K S b p hr q d = j) := fun j j0 j1 jb => by
        rcases (bit_or j0 (by omega)).mp jb with z | z
        · exact Or.inl z
        · exact absurd z bit_zero
      have some' : ∀ y : Int, 0 ≤ y → y ≤ 19 → tr K S b p hr q d = y → ∀ j, 0 ≤ j → j ≤ 19 → bitZ (zor nx (zshl 1 y)) j → bitZ nx j ∨ (0 ≤ tr K S b p hr q d ∧ tr K S b p hr q d = j) := fun y y0 y1 ht j j0 j1 jb => by
        rcases (bit_or j0 (by omega)).mp jb with z | z
        · exact Or.inl z
        · have := (bit_shl y0 (by omega) j0 (by omega)).mp z
          exact Or.inr ⟨by omega, by omega⟩
      refine B_stepOf_54 (RF_of gw'.1.1) hb hp ⟨q0, q1⟩ (by omega) (by omega) (by omega) ⟨fun c1 => ⟨fun c2 => go _ _ _ (some' _ (by omega) (by omega) ?_), fun c2 => go _ _ _ none'⟩, fun c1 => ⟨fun c3 => ⟨fun c2 => go _ _ _ (some' _ (by omega) (by omega) ?_), fun c2 => go _ _ _ none'⟩, fun c3 => ⟨fun c2 => go _ _ _ (some' _ (by omega) (by omega) ?_), fun c2 => go _ _ _ none'⟩⟩⟩
      · rw [htr, if_neg (by omega), if_pos (Or.inl c1)]
      · rw [htr, if_neg (by omega), if_neg (by omega)]
        omega
      · rw [htr, if_neg (by omega), if_pos (Or.inr (by omega))]
  have outer : ∀ (n : Nat) (g : LH) (nx q : Int) (o7 o8 o9 : Option LV), 20 - q ≤ n → 0 ≤ q → q ≤ 20 → WC K S g → frL h g → (∀ j, 0 ≤ j → j ≤ 19 → bitZ nx j → bitZ set j ∨ ∃ q d, 0 ≤ q ∧ q ≤ 19 ∧ 0 ≤ d ∧ d < K.1 1 ∧ bitZ set q ∧ 0 ≤ tr K S b p hr q d ∧ tr K S b p hr q d = j) → Rn xs xl e mm_stepOf 6 [some (.inr (.inr 182)), some (.inl b), some (.inl p), some (.inl set), some (.inl hr), some (.inl nx), some (.inl q), o7, o8, o9] [] g Q := by
    intro n
    induction n with
    | zero =>
      intro g nx q o7 o8 o9 hn q0 q1 gw gf gi
      exact B_stepOf_6 (RF_of gw.1.1) hb hp ⟨q0, q1⟩ ⟨fun _ => k nx g gw gf gi, fun c => by omega⟩
    | succ n ih =>
      intro g nx q o7 o8 o9 hn q0 q1 gw gf gi
      refine B_stepOf_6 (RF_of gw.1.1) hb hp ⟨q0, q1⟩ ⟨fun _ => k nx g gw gf gi, fun c => ?_⟩
      exact inner 14 g nx q 0 _ _ (by have := kb.1; omega) q0 (by omega) (by omega) (by have := kb.1; omega) gw gf gi (fun g' nx' o7 o8 o9 gw' gf' gi' => ih g' nx' (q + 1) _ _ _ (by omega) (by omega) (by omega) gw' gf' gi')
  exact B_stepOf_0 (RF_of w.1.1) hb hp (outer 20 h set 0 none none none (by omega) (by omega) (by omega) w (frL.refl h) (fun j _ _ jb => Or.inl jb))
end C12
end
section
/-! LM, part 57: the reference's ways: the soonest hour, the fewest doors -/
section C13
variable {xs : Nat → Int} {xl e : Nat} {h : LH} {Q : Option LV → LH → Prop} {K : KEY} {S : Int → Int} {b p : Int}
/-- numbers of a state -/
def SB (S : Int → Int) (b p : Int) : Prop := (0 ≤ S b ∧ S b ≤ 24) ∧ (0 ≤ S (b + p + 14) ∧ S (b + p + 14) ≤ 1) ∧ (0 ≤ S (b + p + 8) ∧ S (b + p + 8) ≤ 1) ∧ (0 ≤ S (b + p + 2) ∧ S (b + p + 2) ≤ 9)
theorem SB_of (w : WC K S h) (b0 : b % 70 = 0) (hb : 0 ≤ b ∧ b ≤ 1540) (hp : 0 ≤ p ∧ p ≤ 5) : SB S b p := by
  have e : ∀ i, rd h 198 i = S i := fun i => by rw [w.2.2]
  have a := rs_now w.1.1 (i := b) b 0 (by omega) b0 (by omega) (by omega) (by omega) (by omega)
  have c := rs_went w.1.1 (i := b + p + 14) b p (by omega) b0 (by omega) (by omega) (by omega) (by omega)
  have d := rs_done w.1.1 (i := b + p + 8) b p (by omega) b0 (by omega) (by omega) (by omega) (by omega)
  have f := rs_where w.1.1 (i := b + p + 2) b p (by omega) b0 (by omega) (by omega) (by omega) (by omega)
  rw [e] at a c d f
  exact ⟨a, c, d, f⟩
def k0F (S : Int → Int) (b p : Int) : Int := if S (b + p + 8) = 1 then S (b + p + 2) + 10 else S (b + p + 2)
theorem D_firstHour {g : Int} (he : 6 ≤ e) (w : WC K S h) (b0 : b % 70 = 0) (hb : 0 ≤ b ∧ b ≤ 1540) (hp : 0 ≤ p ∧ p ≤ 5) (hg : 0 ≤ g ∧ g ≤ 19) (k : ∀ r h', WC K S h' → frL h h' → (r = -1 ∨ (S b ≤ r ∧ r ≤ 24 ∧ (k0F S b p = g ∨ (r ≤ 23 ∧ Rch K S b p (r + 1 - (S b + S (b + p + 14))).toNat (S b + S (b + p + 14)) (k0F S b p) g)))) → Q (some (.inl r)) h') : Rn xs xl e mm_firstHour 0 [some (.inr (.inr 182)), some (.inl b), some (.inl p), some (.inl (zshl 1 g)), none, none] [] h Q := by
  have sb := SB_of w b0 hb hp
  have loop : ∀ (n : Nat) (q : LH) (set hr : Int), 24 - hr ≤ n → S b ≤ hr → hr ≤ 24 → WC K S q → frL h q → (∀ j, 0 ≤ j → j ≤ 19 → bitZ set j → Rch K S b p (hr - (S b + S (b + p + 14))).toNat (S b + S (b + p + 14)) (k0F S b p) j) → Rn xs xl e mm_firstHour 34 [some (.inr (.inr 182)), some (.inl b), some (.inl p), some (.inl (zshl 1 g)), some (.inl set), some (.inl hr)] [] q Q := by
    intro n
    induction n with
    | zero =>
      intro q set hr hn h0 h1 qw qf qi
      exact B_firstHour_34 (RF_of qw.1.1) hb hp (by have := sb.1; omega) ⟨fun _ => k (-1) q qw qf (Or.inl rfl), fun c => by omega⟩
    | succ n ih =>
      intro q set hr hn h0 h1 qw qf qi
      have s0 := sb.1
      have s1 := sb.2.1
      have e0 : rd q 198 b = S b := by rw [qw.2.2]
      have e1 : rd q 198 (b + p + 14) = S (b + p + 14) := by rw [qw.2.2]
      have t84 : ∀ (q' : LH) (set' : Int), hr < 24 → WC K S q' → frL h q' → (∀ j, 0 ≤ j → j ≤ 19 → bitZ set' j → Rch K S b p (hr + 1 - (S b + S (b + p + 14))).toNat (S b + S (b + p + 14)) (k0F S b p) j) → Rn xs xl e mm_firstHour 84 [some (.inr (.inr 182)), some (.inl b), some (.inl p), some (.inl (zshl 1 g)), some (.inl set), some (.inl hr)] [.inl set'] q' Q := by
        intro q' set' hl qw' qf' qi'
        refine B_firstHour_84 (RF_of qw'.1.1) hb hp (by omega) ⟨fun _ => ih q' set' (hr + 1) (by omega) (by omega) (by omega) qw' qf' qi', fun c => ?_⟩
        have bg := bit_and0 hg.1 (by omega) c
        exact k hr q' qw' qf' (Or.inr ⟨h0, by omega, Or.inr ⟨by omega, qi' g hg.1 hg.2 bg⟩⟩)
      have stp : hr < 24 → ¬ (hr = S b ∧ S (b + p + 14) = 1) → ∃ c, c < e ∧ Rn xs xl c mm_stepOf 0 [some (.inr (.inr 182)), some (.inl b), some (.inl p), some (.inl set), some (.inl hr), none, none, none, none, none] [] q (fun r h' => Rn xs xl e mm_firstHour 84 [some (.inr (.inr 182)), some (.inl b), some (.inl p), some (.inl (zshl 1 g)), some (.inl set), some (.inl hr)] (r.toList ++ []) h' Q) := by
        intro hl hn2
        refine ⟨5, by omega, D_stepOf (by omega) qw hb hp (by omega) (fun r q' qw' qf' hr' => t84 q' r hl qw' (qf.trans qf') (fun j j0 j1 jb => ?_))⟩
        have el : (hr + 1 - (S b + S (b + p + 14))).toNat = (hr - (S b + S (b + p + 14))).toNat + 1 := by omega
        have ec : S b + S (b + p + 14) + (((hr - (S b + S (b + p + 14))).toNat : Nat) : Int) = hr := by omega
        rw [el]
        rcases hr' j j0 j1 jb with z | ⟨x, d, x0, x1, d0, d1, z, t0, t1⟩
        · exact Rch_snoc (qi j j0 j1 z) (Or.inl rfl)
        · refine Rch_snoc (qi x x0 x1 z) (Or.inr ⟨d, d0, d1, ?_, ?_⟩)
          · rw [ec]; exact t0
          · rw [ec]; exact t1
      refine B_firstHour_34 (RF_of qw.1.1) hb hp (by omega) ⟨fun _ => k (-1) q qw qf (Or.inl rfl), fun c => ⟨fun c1 => stp c (by omega), fun c1 => ⟨fun c2 => stp c (by omega), fun c2 => t84 q set c qw qf (fun j j0 j1 jb => ?_)⟩⟩⟩
      have z := qi j j0 j1 jb
      rw [show (hr + 1 - (S b + S (b + p + 14))).toNat = (hr - (S b + S (b + p + 14))).toNat by omega]
      exact z
  have e0 : rd h 198 b = S b := by rw [w.2.2]
  have e2 : rd h 198 (b + p + 2) = S (b + p + 2) := by rw [w.2.2]
  have e8 : rd h 198 (b + p + 8) = S (b + p + 8) := by rw [w.2.2]
  obtain ⟨s0, s1, s2, s3⟩ := sb
  have strt : ∀ x : Int, 0 ≤ x → x ≤ 19 → k0F S b p = x → (zand (zshl 1 x) (zshl 1 g) = 0 → Rn xs xl e mm_firstHour 34 [some (.inr (.inr 182)), some (.inl b), some (.inl p), some (.inl (zshl 1 g)), some (.inl (zshl 1 x)), some (.inl (rd h 198 b))] [] h Q) ∧ (zand (zshl 1 x) (zshl 1 g) ≠ 0 → Q (some (.inl (rd h 198 b))) h) := by
    intro x x0 x1 hx
    rw [e0]
    refine ⟨fun _ => loop 24 h _ (S b) (by omega) (by omega) (by omega) w (frL.refl h) (fun j j0 j1 jb => ?_), fun c => ?_⟩
    · have := (bit_shl x0 (by omega) j0 (by omega)).mp jb
      rw [show (S b - (S b + S (b + p + 14))).toNat = 0 by omega, hx]
      exact this.symm
    · have bg := (bit_shl x0 (by omega) hg.1 (by omega)).mp (bit_and0 hg.1 (by omega) c)
      exact k (S b) h w (frL.refl h) (Or.inr ⟨by omega, by omega, Or.inl (by omega)⟩)
  refine B_firstHour_0 (RF_of w.1.1) hb hp (by omega) ⟨fun c => ?_, fun c => ?_⟩
  · rw [e2]
    have z := strt (S (b + p + 2)) (by omega) (by omega) (by unfold k0F; rw [if_neg (by omega)])
    exact ⟨by omega, z.1, z.2⟩
  · rw [e2]
    have z := strt (S (b + p + 2) + 10) (by omega) (by omega) (by unfold k0F; rw [if_pos (by omega)])
    exact ⟨by omega, z.1, z.2⟩
theorem D_errandHour (he : 7 ≤ e) (w : WC K S h) (b0 : b % 70 = 0) (hb : 0 ≤ b ∧ b ≤ 1540) (hp : 0 ≤ p ∧ p ≤ 5) (k : ∀ r h', WC K S h' → frL h h' → (r = -1 ∨ (S b ≤ r ∧ r ≤ 24 ∧ (k0F S b p = K.1 (4 * p + 117) + 10 ∨ (r ≤ 23 ∧ Rch K S b p (r + 1 - (S b + S (b + p + 14))).toNat (S b + S (b + p + 14)) (k0F S b p) (K.1 (4 * p + 117) + 10))))) → Q (some (.inl r)) h') : Rn xs xl e mm_errandHour 0 [some (.inr (.inr 182)), some (.inl b), some (.inl p)] [] h Q := by
  have kb := KB_of w hp
  have e1 : rd h 188 (4 * p + 117) = K.1 (4 * p + 117) := by rw [← w.2.1]; rfl
  have k4 := kb.2.2.2.1
  refine B_errandHour_0 (RF_of w.1.1) hb hp (by omega) ⟨by omega, 6, by omega, ?_⟩
  rw [e1]
  exact D_firstHour (by omega) w b0 hb hp (by omega) (fun r h' w' f' hr => B_errandHour_17 (RF_of w'.1.1) hb hp (k r h' w' f' hr))
/-- the fewest doors: a row of the table -/
def good (K : KEY) (S : Int → Int) (b p : Int) (F : Int → Int) (hr k : Int) : Prop := (0 ≤ F (20 * hr + k) ∧ F (20 * hr + k) ≤ 1000000) ∧ F (20 * hr + k) ≤ F (20 * (hr + 1) + k) ∧ (k % 10 < K.1 0 → ∀ d, 0 ≤ d → d < K.1 1 → 0 ≤ tr K S b p hr k d → F (20 * hr + k) ≤ 1 + F (20 * (hr + 1) + tr K S b p hr k d)) ∧ (F (20 * hr + k) = F (20 * (hr + 1) + k) ∨ ∃ d, 0 ≤ d ∧ d < K.1 1 ∧ 0 ≤ tr K S b p hr k d ∧ F (20 * hr + k) = 1 + F (20 * (hr + 1) + tr K S b p hr k d))
def lastR (K : KEY) (p till : Int) (F : Int → Int) : Prop := ∀ k, 0 ≤ k → k ≤ 19 → F (20 * (till + 1) + k) = if k = K.1 (4 * p + 117) + 10 then 0 else 1000000
theorem good_of {F G : Int → Int} {hr k : Int} (e : ∀ i, 20 * hr ≤ i → i < 20 * hr + 40 → G i = F i) (hk : 0 ≤ k ∧ k ≤ 19) (kb : KB K p) (hhr : 0 ≤ hr ∧ hr ≤ 25) (g : good K S b p F hr k) : good K S b p G hr k := by
  obtain ⟨g1, g2, g3, g4⟩ := g
  have a := e (20 * hr + k) (by omega) (by omega)
  have c := e (20 * (hr + 1) + k) (by omega) (by omega)
  have t : ∀ d, 0 ≤ d → d < K.1 1 → 0 ≤ tr K S b p hr k d → G (20 * (hr + 1) + tr K S b p hr k d) = F (20 * (hr + 1) + tr K S b p hr k d) := fun d d0 d1 t0 => e _ (by omega) (by have := tr_ok (S := S) (b := b) kb hk ⟨d0, d1⟩ hhr; omega)
  refine ⟨by rw [a]; exact g1, by rw [a, c]; exact g2, fun q d d0 d1 t0 => by rw [a, t d d0 d1 t0]; exact g3 q d d0 d1 t0, ?_⟩
  rcases g4 with q | ⟨d, d0, d1, t0, q⟩
  · exact Or.inl (by rw [a, c]; exact q)
  · exact Or.inr ⟨d, d0, d1, t0, by rw [a, t d d0 d1 t0]; exact q⟩
def frF (h h' : LH) : Prop := ∀ a i, a ≠ 196 → a ≠ 197 → a ≠ 201 → rd h' a i = rd h a i
theorem WC_few {i v : Int} (w : WC K S h) (hi : 0 ≤ i ∧ i < 500) (hv : i32 v) : WC K S (wr h 201 i v) := by
  refine ⟨wA_fewest w.1 hi hv.1 hv.2, ?_, ?_⟩
  · rw [← w.2.1]
    unfold key
    rw [show rd (wr h 201 i v) 188 = rd h 188 from funext (fun j => rdw_ne (by decide)), show rd (wr h 201 i v) 189 = rd h 189 from funext (fun j => rdw_ne (by decide)), show rd (wr h 201 i v) 190 = rd h 190 from funext (fun j => rdw_ne (by decide)), rdw_ne (by decide), rdw_ne (by decide), rdw_ne (by decide), rdw_ne (by decide)]
  · rw [← w.2.2]
    exact funext (fun j => rdw_ne (by decide))
set_option maxHeartbeats 2000000 in
theorem D_findFewest {till : Int} (he : 5 ≤ e) (w : WC K S h) (b0 : b % 70 = 0) (hb : 0 ≤ b ∧ b ≤ 1540) (hp : 0 ≤ p ∧ p ≤ 5) (ht : 0 ≤ till ∧ till ≤ 23) (k : ∀ h', WC K S h' → frF h h' → lastR K p till (rd h' 201) → (∀ hr q, S b ≤ hr → hr ≤ till → 0 ≤ q → q ≤ 19 → good K S b p (rd h' 201) hr q) → Q none h') : Rn xs xl e mm_findFewest 0 [some (.inr (.inr 182)), some (.inl b), some (.inl p), some (.inl till), none, none, none, none, none, none, none] [] h Q := by
  have kb := KB_of w hp
  have sb := SB_of w b0 hb hp
  have kd := kb.1
  have kh := kb.2.2.2.1
  have s0 := sb.1
  -- the rows, the last first
  have rows : ∀ (n : Nat) (g : LH) (hr : Int) (o5 o6 o7 o8 o9 o10 : Option LV), hr + 1 ≤ n → -1 ≤ hr → hr ≤ till → WC K S g → frF h g → lastR K p till (rd g 201) → (∀ x q, hr < x → S b ≤ x → x ≤ till → 0 ≤ q → q ≤ 19 → good K S b p (rd g 201) x q) → Rn xs xl e mm_findFewest 54 [some (.inr (.inr 182)), some (.inl b), some (.inl p), some (.inl till), some (.inl hr), o5, o6, o7, o8, o9, o10] [] g Q := by
    intro n
    induction n with
    | zero =>
      intro g hr o5 o6 o7 o8 o9 o10 hn h0 h1 gw gf gl gg
      have e0 : rd g 198 b = S b := by rw [gw.2.2]
      exact B_findFewest_54 (RF_of gw.1.1) hb hp (by omega) ⟨fun _ => k g gw gf gl (fun x q x0 x1 q0 q1 => gg x q (by omega) x0 x1 q0 q1), fun c => by omega⟩
    | succ n ih =>
      intro g hr o5 o6 o7 o8 o9 o10 hn h0 h1 gw gf gl gg
      have e0 : rd g 198 b = S b := by rw [gw.2.2]
      refine B_findFewest_54 (RF_of gw.1.1) hb hp (by omega) ⟨fun _ => k g gw gf gl (fun x q x0 x1 q0 q1 => gg x q (by omega) x0 x1 q0 q1), fun c => ?_⟩
      -- the states of a row
      have states : ∀ (m : Nat) (f : LH) (q : Int) (o6 o7 o8 o9 o10 : Option LV), 20 - q ≤ m → 0 ≤ q → q ≤ 20 → WC K S f → frF h f → lastR K p till (rd f 201) → (∀ x y, hr < x → S b ≤ x → x ≤ till → 0 ≤ y → y ≤ 19 → good K S b p (rd f 201) x y) → (∀ y, 0 ≤ y → y < q → good K S b p (rd f 201) hr y) → Rn xs xl e mm_findFewest 70 [some (.inr (.inr 182)), some (.inl b), some (.inl p), some (.inl till), some (.inl hr), some (.inl q), o6, o7, o8, o9, o10] [] f Q := by
        intro m
        induction m with
        | zero =>
          intro f q o6 o7 o8 o9 o10 hm q0 q1 fw ff fl fg fr
          refine B_findFewest_70 (RF_of fw.1.1) hb hp (by omega) ⟨q0, q1⟩ ⟨fun _ => ih f (hr - 1) _ _ _ _ _ _ (by omega) (by omega) (by omega) fw ff fl (fun x y x0 x1 x2 y0 y1 => ?_), fun c => by omega⟩
          by_cases hx : x = hr
          · rw [hx]; exact fr y y0 (by omega)
          · exact fg x y (by omega) x1 x2 y0 y1
        | succ m im =>
          intro f q o6 o7 o8 o9 o10 hm q0 q1 fw ff fl fg fr
          refine B_findFewest_70 (RF_of fw.1.1) hb hp (by omega) ⟨q0, q1⟩ ⟨fun _ => ih f (hr - 1) _ _ _ _ _ _ (by omega) (by omega) (by omega) fw ff fl (fun x y x0 x1 x2 y0 y1 => ?_), fun cq => ⟨by omega, ?_⟩⟩
          · by_cases hx : x = hr
            · rw [hx]; exact fr y y0 (by omega)
            · exact fg x y (by omega) x1 x2 y0 y1
          -- what the next row holds
          have nxt : ∀ y, 0 ≤ y → y ≤ 19 → 0 ≤ rd f 201 (20 * (hr + 1) + y) ∧ rd f 201 (20 * (hr + 1) + y) ≤ 1000000 := by
            intro y y0 y1
            by_cases hx : hr = till
            · have := fl y y0 y1
              rw [hx, this]
              split <;> omega
            · exact (fg (hr + 1) y (by omega) (by omega) (by omega) y0 y1).1
          have n0 := nxt q q0 (by omega)
          rw [show (20 * hr + q + 20 : Int) = 20 * (hr + 1) + q by omega]
          -- the doors of a state
          have doors : ∀ (l : Nat) (u : LH) (best d : Int) (o8 o9 o10 : Option LV), K.1 1 - d ≤ l → 0 ≤ d → d ≤ K.1 1 → WC K S u → frL f u → (0 ≤ best ∧ best ≤ 1000000) → best ≤ rd f 201 (20 * (hr + 1) + q) → (q % 10 < K.1 0 → ∀ x, 0 ≤ x → x < d → 0 ≤ tr K S b p hr q x → best ≤ 1 + rd f 201 (20 * (hr + 1) + tr K S b p hr q x)) → (best = rd f 201 (20 * (hr + 1) + q) ∨ ∃ x, 0 ≤ x ∧ x < K.1 1 ∧ 0 ≤ tr K S b p hr q x ∧ best = 1 + rd f 201 (20 * (hr + 1) + tr K S b p hr q x)) → Rn xs xl e mm_findFewest 97 [some (.inr (.inr 182)), some (.inl b), some (.inl p), some (.inl till), some (.inl hr), some (.inl q), some (.inl best), some (.inl d), o8, o9, o10] [] u Q := by
            have close : ∀ (u : LH) (best d : Int) (o8 o9 o10 : Option LV), WC K S u → frL f u → (0 ≤ best ∧ best ≤ 1000000) → best ≤ rd f 201 (20 * (hr + 1) + q) → (q % 10 < K.1 0 → ∀ x, 0 ≤ x → x < K.1 1 → 0 ≤ tr K S b p hr q x → best ≤ 1 + rd f 201 (20 * (hr + 1) + tr K S b p hr q x)) → (best = rd f 201 (20 * (hr + 1) + q) ∨ ∃ x, 0 ≤ x ∧ x < K.1 1 ∧ 0 ≤ tr K S b p hr q x ∧ best = 1 + rd f 201 (20 * (hr + 1) + tr K S b p hr q x)) → Rn xs xl e mm_findFewest 229 [some (.inr (.inr 182)), some (.inl b), some (.inl p), some (.inl till), some (.inl hr), some (.inl q), some (.inl best), some (.inl d), o8, o9, o10] [] u Q := by
              intro u best d o8 o9 o10 uw uf ub u1 u2 u3
              have eu : ∀ i, rd u 201 i = rd f 201 i := fun i => uf 201 i (by decide) (by decide)
              have w2 := WC_few uw (i := 20 * hr + q) (v := best) (by omega) ⟨by omega, by omega⟩
              have eg : ∀ i, i ≠ 20 * hr + q → rd (wr u 201 (20 * hr + q) best) 201 i = rd f 201 i := fun i hi => (rdw_nei (fun z => hi z.symm)).trans (eu i)
              have eb : rd (wr u 201 (20 * hr + q) best) 201 (20 * hr + q) = best := rdw_eq
              refine B_findFewest_229 (RF_of uw.1.1) hb hp (by omega) (by omega) (im _ (q + 1) _ _ _ _ _ (by omega) (by omega) (by omega) w2 (fun a i n1 n2 n3 => ?_) (fun y y0 y1 => ?_) (fun x y x0 x1 x2 y0 y1 => ?_) (fun y y0 y1 => ?_))
              · rw [rdw_ne (fun z => n3 z.symm), uf a i n1 n2]
                exact ff a i n1 n2 n3
              · rw [eg _ (by omega)]
                exact fl y y0 y1
              · exact good_of (F := rd f 201) (fun i i0 i1 => eg i (by omega)) ⟨y0, y1⟩ kb (by omega) (fg x y x0 x1 x2 y0 y1)
              · by_cases hy : y = q
                · subst hy
                  have tq : ∀ x, 0 ≤ x → x < K.1 1 → 0 ≤ tr K S b p hr y x → rd (wr u 201 (20 * hr + y) best) 201 (20 * (hr + 1) + tr K S b p hr y x) = rd f 201 (20 * (hr + 1) + tr K S b p hr y x) := fun x _ _ t0 => eg _ (by omega)
                  refine ⟨by rw [eb]; exact ub, by rw [eb, eg _ (by omega)]; exact u1, fun z x x0 x1 t0 => by rw [eb, tq x x0 x1 t0]; exact u2 z x x0 x1 t0, ?_⟩
                  rcases u3 with z | ⟨x, x0, x1, t0, z⟩
                  · exact Or.inl (by rw [eb, eg _ (by omega)]; exact z)
                  · exact Or.inr ⟨x, x0, x1, t0, by rw [eb, tq x x0 x1 t0]; exact z⟩
                · have g0 := fr y y0 (by omega)
                  obtain ⟨g1, g2, g3, g4⟩ := g0
                  have tq : ∀ x, 0 ≤ x → x < K.1 1 → 0 ≤ tr K S b p hr y x → rd (wr u 201 (20 * hr + q) best) 201 (20 * (hr + 1) + tr K S b p hr y x) = rd f 201 (20 * (hr + 1) + tr K S b p hr y x) := fun x _ _ t0 => eg _ (by omega)
                  have ey := eg (20 * hr + y) (by omega)
                  have ez := eg (20 * (hr + 1) + y) (by omega)
                  refine ⟨by rw [ey]; exact g1, by rw [ey, ez]; exact g2, fun z x x0 x1 t0 => by rw [ey, tq x x0 x1 t0]; exact g3 z x x0 x1 t0, ?_⟩
                  rcases g4 with z | ⟨x, x0, x1, t0, z⟩
                  · exact Or.inl (by rw [ey, ez]; exact z)
                  · exact Or.inr ⟨x, x0, x1, t0, by rw [ey, tq x x0 x1 t0]; exact z⟩
            intro l
            induction l with
            | zero =>
              intro u best d o8 o9 o10 hl d0 d1 uw uf ub u1 u2 u3
              have e1 : rd u 188 1 = K.1 1 := by rw [← uw.2.1]; rfl
              exact B_findFewest_97 (RF_of uw.1.1) hb hp (by omega) (by omega) (by omega) (by omega) ⟨fun _ => close u best d _ _ _ uw uf ub u1 (fun z x x0 x1 t0 => u2 z x x0 (by omega) t0) u3, fun c => by omega⟩
            | succ l il =>
              intro u best d o8 o9 o10 hl d0 d1 uw uf ub u1 u2 u3
              have e1 : rd u 188 1 = K.1 1 := by rw [← uw.2.1]; rfl
              have er : rd u 188 0 = K.1 0 := by rw [← uw.2.1]; rfl
              have es : rd u 188 (4 * p + 116) = K.1 (4 * p + 116) := by rw [← uw.2.1]; rfl
              refine B_findFewest_97 (RF_of uw.1.1) hb hp (by omega) (by omega) (by omega) (by omega) ⟨fun _ => close u best d _ _ _ uw uf ub u1 (fun z x x0 x1 t0 => u2 z x x0 (by omega) t0) u3, fun c => ⟨fun c2 => close u best d _ _ _ uw uf ub u1 (fun z x x0 x1 t0 => by omega) u3, fun c2 => ⟨4, by omega, ?_⟩⟩⟩
              rw [es]
              refine D_leadsNow (by omega) uw hb (by omega) kb.2.2.1 (by omega) (by omega) (fun u' uw' uf' => ?_)
              have e3 : rd u' 188 (4 * p + 118) = K.1 (4 * p + 118) := by rw [← uw'.2.1]; rfl
              have nb := NW_ok K (S (b + 1)) (s := K.1 (4 * p + 116)) (d := d) (room := q % 10) (hr := hr) (by omega) kb.2.2.1 (by omega) (by omega)
              have htr : tr K S b p hr q d = (if NW K (S (b + 1)) (K.1 (4 * p + 116)) d (q % 10) hr < 0 then -1 else NW K (S (b + 1)) (K.1 (4 * p + 116)) d (q % 10) hr + (if 10 ≤ q ∨ NW K (S (b + 1)) (K.1 (4 * p + 116)) d (q % 10) hr = K.1 (4 * p + 118) then 10 else 0)) := rfl
              generalize hx : NW K (S (b + 1)) (K.1 (4 * p + 116)) d (q % 10) hr = x at *
              have eu : ∀ i, rd u' 201 i = rd f 201 i := fun i => (uf' 201 i (by decide) (by decide)).trans (uf 201 i (by decide) (by decide))
              -- no way by this door
              have no : tr K S b p hr q d = -1 → ∀ o8 o9 o10, (best ≤ 1000000 → Rn xs xl e mm_findFewest 97 [some (.inr (.inr 182)), some (.inl b), some (.inl p), some (.inl till), some (.inl hr), some (.inl q), some (.inl best), some (.inl (d + 1)), o8, o9, o10] [] u' Q) := by
                intro ht o8 o9 o10 _
                refine il u' best (d + 1) _ _ _ (by omega) (by omega) (by omega) uw' (uf.trans uf') ub u1 (fun z y y0 y1 t0 => ?_) u3
                by_cases hy : y = d
                · subst hy; omega
                · exact u2 z y y0 (by omega) t0
              -- by this door into state y
              have yes : ∀ y i : Int, tr K S b p hr q d = y → 0 ≤ y → y ≤ 19 → i = 20 * (hr + 1) + y → ∀ o8 o9 o10 o8' o9' o10', (-2147483648 ≤ rd u' 201 i + 1 ∧ rd u' 201 i + 1 ≤ 2147483647) ∧ (best ≤ rd u' 201 i + 1 → Rn xs xl e mm_findFewest 97 [some (.inr (.inr 182)), some (.inl b), some (.inl p), some (.inl till), some (.inl hr), some (.inl q), some (.inl best), some (.inl (d + 1)), o8, o9, o10] [] u' Q) ∧ (rd u' 201 i + 1 < best → Rn xs xl e mm_findFewest 97 [some (.inr (.inr 182)), some (.inl b), some (.inl p), some (.inl till), some (.inl hr), some (.inl q), some (.inl (rd u' 201 i + 1)), some (.inl (d + 1)), o8', o9', o10'] [] u' Q) := by
                intro y i ht y0 y1 hi o8 o9 o10 o8' o9' o10'
                have ny := nxt y y0 y1
                have ei := eu i
                rw [hi] at ei
                rw [hi, ei]
                refine ⟨by omega, fun cb => il u' best (d + 1) _ _ _ (by omega) (by omega) (by omega) uw' (uf.trans uf') ub u1 (fun z x2 x0 x1 t0 => ?_) u3, fun cb => il u' _ (d + 1) _ _ _ (by omega) (by omega) (by omega) uw' (uf.trans uf') (by omega) (by omega) (fun z x2 x0 x1 t0 => ?_) (Or.inr ⟨d, d0, by omega, by omega, by rw [ht]; omega⟩)⟩
                · by_cases hy : x2 = d
                  · rw [hy, ht]; omega
                  · exact u2 z x2 x0 (by omega) t0
                · by_cases hy : x2 = d
                  · rw [hy, ht]; omega
                  · have := u2 z x2 x0 (by omega) t0
                    omega
              refine B_findFewest_138 (RF_of uw'.1.1) hb hp (by omega) (by omega) (by omega) (by omega) (by omega) ⟨fun c3 => ⟨fun c4 => yes (x + 10) _ ?_ (by omega) (by omega) (by omega) _ _ _ _ _ _, fun c4 => ⟨fun c5 => no ?_ _ _ _ c5, fun c5 => by omega⟩⟩, fun c3 => ⟨fun c6 => ⟨fun c4 => yes x _ ?_ (by omega) (by omega) (by omega) _ _ _ _ _ _, fun c4 => ⟨fun c5 => no ?_ _ _ _ c5, fun c5 => by omega⟩⟩, fun c6 => ⟨fun c4 => yes (x + 10) _ ?_ (by omega) (by omega) (by omega) _ _ _ _ _ _, fun c4 => ⟨fun c5 => no ?_ _ _ _ c5, fun c5 => by omega⟩⟩⟩⟩
              · rw [htr, if_neg (by omega), if_pos (Or.inl c3)]
              · rw [htr, if_pos c4]
              · rw [htr, if_neg (by omega), if_neg (by omega), Int.add_zero]
              · rw [htr, if_pos c4]
              · rw [htr, if_neg (by omega), if_pos (Or.inr (by omega))]
              · rw [htr, if_pos c4]
          exact doors 14 f _ 0 _ _ _ (by omega) (by omega) (by omega) fw (frL.refl f) n0 (Int.le_refl _) (fun z x x0 x1 t0 => by omega) (Or.inl rfl)
      exact states 20 g 0 _ _ _ _ _ (by omega) (by omega) (by omega) gw gf gl gg (fun y y0 y1 => by omega)
  -- the last row
  have last : ∀ (n : Nat) (g : LH) (q : Int), 20 - q ≤ n → 0 ≤ q → q ≤ 20 → WC K S g → frF h g → (∀ y, 0 ≤ y → y < q → rd g 201 (20 * (till + 1) + y) = if y = K.1 (4 * p + 117) + 10 then 0 else 1000000) → Rn xs xl e mm_findFewest 3 [some (.inr (.inr 182)), some (.inl b), some (.inl p), some (.inl till), some (.inl q), none, none, none, none, none, none] [] g Q := by
    intro n
    induction n with
    | zero =>
      intro g q hn q0 q1 gw gf gl
      exact B_findFewest_3 (RF_of gw.1.1) hb hp ht ⟨q0, q1⟩ (by omega) ⟨fun _ => rows (till + 1).toNat g till _ _ _ _ _ _ (by omega) (by omega) (by omega) gw gf (fun y y0 y1 => gl y y0 (by omega)) (fun x y x0 x1 x2 => by omega), fun c => by omega⟩
    | succ n ih =>
      intro g q hn q0 q1 gw gf gl
      have e1 : rd g 188 (4 * p + 117) = K.1 (4 * p + 117) := by rw [← gw.2.1]; rfl
      refine B_findFewest_3 (RF_of gw.1.1) hb hp ht ⟨q0, q1⟩ (by omega) ⟨fun _ => rows (till + 1).toNat g till _ _ _ _ _ _ (by omega) (by omega) (by omega) gw gf (fun y y0 y1 => gl y y0 (by omega)) (fun x y x0 x1 x2 => by omega), fun c => ⟨by omega, fun c2 => ⟨by omega, ?_⟩, fun c2 => ⟨by omega, ?_⟩⟩⟩
      · refine ih _ (q + 1) (by omega) (by omega) (by omega) (WC_few gw (by omega) (by unfold i32; omega)) (fun a i n1 n2 n3 => by rw [rdw_ne (fun z => n3 z.symm)]; exact gf a i n1 n2 n3) (fun y y0 y1 => ?_)
        by_cases hy : y = q
        · rw [hy, show (20 * (till + 1) + q : Int) = 20 * till + q + 20 by omega, rdw_eq, if_neg (by omega)]
        · rw [rdw_nei (by omega)]
          exact gl y y0 (by omega)
      · refine ih _ (q + 1) (by omega) (by omega) (by omega) (WC_few gw (by omega) (by unfold i32; omega)) (fun a i n1 n2 n3 => by rw [rdw_ne (fun z => n3 z.symm)]; exact gf a i n1 n2 n3) (fun y y0 y1 => ?_)
        by_cases hy : y = q
        · rw [hy, show (20 * (till + 1) + q : Int) = 20 * till + q + 20 by omega, rdw_eq, if_pos (by omega)]
        · rw [rdw_nei (by omega)]
          exact gl y y0 (by omega)
  exact B_findFewest_0 (RF_of w.1.1) hb hp ht (last 20 h 0 (by omega) (by omega) (by omega) w (fun _ _ _ _ _ => rfl) (fun y y0 y1 => by omega))
end C13
end
section
/-! LM, part 58: the reference's ways: the way itself -/
section C14
variable {xs : Nat → Int} {xl e : Nat} {h : LH} {Q : Option LV → LH → Prop} {K : KEY} {S : Int → Int} {b p : Int}
-- the table alone
def FOK (K : KEY) (S : Int → Int) (b p till lo : Int) (F : Int → Int) : Prop := lastR K p till F ∧ ∀ hr q, lo ≤ hr → hr ≤ till → 0 ≤ q → q ≤ 19 → good K S b p F hr q
theorem F_mono {till lo : Int} {F : Int → Int} (f : FOK K S b p till lo F) {q : Int} (hq : 0 ≤ q ∧ q ≤ 19) : ∀ (n : Nat) (hr : Int), lo ≤ hr → hr + n ≤ till + 1 → F (20 * hr + q) ≤ F (20 * (hr + n) + q)
  | 0, hr, _, _ => by rw [show hr + ((0 : Nat) : Int) = hr by omega]; exact Int.le_refl _
  | n + 1, hr, h0, h1 => by
    have a := (f.2 hr q h0 (by omega) hq.1 hq.2).2.1
    have c := F_mono f hq n (hr + 1) (by omega) (by omega)
    rw [show hr + ((n + 1 : Nat) : Int) = hr + 1 + n by omega]
    omega
theorem F_rng {till lo : Int} {F : Int → Int} (f : FOK K S b p till lo F) {q hr : Int} (hq : 0 ≤ q ∧ q ≤ 19) (h0 : lo ≤ hr) (h1 : hr ≤ till + 1) : 0 ≤ F (20 * hr + q) ∧ F (20 * hr + q) ≤ 1000000 := by
  by_cases c : hr = till + 1
  · rw [c, f.1 q hq.1 hq.2]
    split <;> omega
  · exact (f.2 hr q h0 (by omega) hq.1 hq.2).1
theorem F_fin {till lo g : Int} {F : Int → Int} (kb : KB K p) (hg : g = K.1 (4 * p + 117) + 10) (f : FOK K S b p till lo F) (lo0 : 0 ≤ lo) (t1 : till ≤ 23) : ∀ (n : Nat) (hr q : Int), 0 ≤ q → q ≤ 19 → q % 10 < K.1 0 → lo ≤ hr → hr + n = till + 1 → Rch K S b p n hr q g → F (20 * hr + q) ≤ n
  | 0, hr, q, q0, q1, _, h0, h1, r => by
    have r : q = g := r
    rw [show hr = till + 1 by omega, f.1 q q0 q1, if_pos (by omega)]
    omega
  | n + 1, hr, q, q0, q1, qr, h0, h1, r => by
    obtain ⟨g1, g2, g3, g4⟩ := f.2 hr q h0 (by omega) q0 q1
    rcases r with r | ⟨d, d0, d1, d2, r⟩
    · have := F_fin kb hg f lo0 t1 n (hr + 1) q q0 q1 qr (by omega) (by omega) r
      omega
    · have t := tr_ok (S := S) (b := b) (hr := hr) kb ⟨q0, q1⟩ ⟨d0, d1⟩ (by omega)
      have := F_fin kb hg f lo0 t1 n (hr + 1) _ d2 t.2.1 (t.2.2 d2) (by omega) (by omega) r
      have := g3 qr d d0 d1 d2
      omega
theorem F_next {till lo : Int} {F : Int → Int} (f : FOK K S b p till lo F) {q : Int} (hq : 0 ≤ q ∧ q ≤ 19) : ∀ (n : Nat) (hr : Int), lo ≤ hr → hr + n = till + 1 → 0 < F (20 * hr + q) → F (20 * hr + q) < 1000000 → ∃ x d, hr ≤ x ∧ x ≤ till ∧ 0 ≤ d ∧ d < K.1 1 ∧ 0 ≤ tr K S b p x q d ∧ F (20 * (x + 1) + tr K S b p x q d) + 1 = F (20 * hr + q)
  | 0, hr, h0, h1, a, c => by
    rw [show hr = till + 1 by omega, f.1 q hq.1 hq.2] at a c
    split at a <;> omega
  | n + 1, hr, h0, h1, a, c => by
    obtain ⟨g1, g2, g3, g4⟩ := f.2 hr q h0 (by omega) hq.1 hq.2
    rcases g4 with r | ⟨d, d0, d1, d2, r⟩
    · obtain ⟨x, d, x0, x1, d0, d1, d2, r2⟩ := F_next f hq n (hr + 1) (by omega) (by omega) (by omega) (by omega)
      exact ⟨x, d, by omega, x1, d0, d1, d2, by omega⟩
    · exact ⟨hr, d, by omega, by omega, d0, d1, d2, by omega⟩
theorem F_zero {till lo g : Int} {F : Int → Int} (kb : KB K p) (hg : g = K.1 (4 * p + 117) + 10) (f : FOK K S b p till lo F) (lo0 : 0 ≤ lo) (t1 : till ≤ 23) {q : Int} (hq : 0 ≤ q ∧ q ≤ 19) : ∀ (n : Nat) (hr : Int), lo ≤ hr → hr + n = till + 1 → F (20 * hr + q) = 0 → q = g
  | 0, hr, h0, h1, a => by
    rw [show hr = till + 1 by omega, f.1 q hq.1 hq.2] at a
    split at a
    · omega
    · omega
  | n + 1, hr, h0, h1, a => by
    obtain ⟨g1, g2, g3, g4⟩ := f.2 hr q h0 (by omega) hq.1 hq.2
    rcases g4 with r | ⟨d, d0, d1, d2, r⟩
    · exact F_zero kb hg f lo0 t1 hq n (hr + 1) (by omega) (by omega) (by omega)
    · have t := tr_ok (S := S) (b := b) (hr := hr) kb hq ⟨d0, d1⟩ (by omega)
      have := F_rng f (q := tr K S b p hr q d) (hr := hr + 1) ⟨d2, t.2.1⟩ (by omega) (by omega)
      omega
theorem F_goal {till lo g hr : Int} {F : Int → Int} (kb : KB K p) (hg : g = K.1 (4 * p + 117) + 10) (f : FOK K S b p till lo F) (h0 : lo ≤ hr) (h1 : hr ≤ till + 1) : F (20 * hr + g) = 0 := by
  have k4 := kb.2.2.2.1
  have m := F_mono f (q := g) (by omega) (till + 1 - hr).toNat hr h0 (by omega)
  have l := f.1 g (by omega) (by omega)
  rw [if_pos hg] at l
  rw [show hr + (((till + 1 - hr).toNat : Nat) : Int) = till + 1 by omega, l] at m
  have := F_rng f (q := g) (hr := hr) (by omega) h0 h1
  omega
/-- the first hour in which a door leads on -/
def frst (K : KEY) (S : Int → Int) (b p hour till q d x : Int) : Prop := hour ≤ x ∧ x ≤ till ∧ 0 ≤ tr K S b p x q d ∧ ∀ y, hour ≤ y → y < x → tr K S b p y q d < 0
def frN (h h' : LH) : Prop := ∀ a i, a ≠ 196 → a ≠ 197 → ¬ (a = 182 ∧ (i = 35 ∨ i = 36)) → rd h' a i = rd h a i
theorem WC_fld {j v : Int} (hj : j = 34 ∨ j = 35 ∨ j = 36) (w : WC K S h) (hI : INV (wr h 182 j v)) : WC K S (wr h 182 j v) := by
  refine ⟨hI, ?_, ?_⟩
  · rw [← w.2.1]
    unfold key
    rw [show rd (wr h 182 j v) 188 = rd h 188 from funext (fun i => rdw_ne (by decide)), show rd (wr h 182 j v) 189 = rd h 189 from funext (fun i => rdw_ne (by decide)), show rd (wr h 182 j v) 190 = rd h 190 from funext (fun i => rdw_ne (by decide)), rdw_nei (by omega), rdw_nei (by omega), rdw_nei (by omega), rdw_nei (by omega)]
  · rw [← w.2.2]
    exact funext (fun i => rdw_ne (by decide))
theorem D_isNext {q d hour till left : Int} (he : 5 ≤ e) (w : WC K S h) (hb : 0 ≤ b ∧ b ≤ 1540) (hp : 0 ≤ p ∧ p ≤ 5) (hq : 0 ≤ q ∧ q ≤ 19) (hd : 0 ≤ d ∧ d < K.1 1) (hh : 0 ≤ hour ∧ hour ≤ till + 1) (ht : till ≤ 23) (k1 : ∀ h' x, WC K S h' → frN h h' → frst K S b p hour till q d x → rd h 201 (20 * (x + 1) + tr K S b p x q d) = left → rd h' 182 35 = tr K S b p x q d → rd h' 182 36 = x + 1 → Q (some (.inl 1)) h') (k0 : ∀ h', WC K S h' → frN h h' → (∀ x, frst K S b p hour till q d x → rd h 201 (20 * (x + 1) + tr K S b p x q d) ≠ left) → Q (some (.inl 0)) h') : Rn xs xl e mm_isNext 0 [some (.inr (.inr 182)), some (.inl b), some (.inl p), some (.inl q), some (.inl d), some (.inl hour), some (.inl till), some (.inl left), none, none] [] h Q := by
  have kb := KB_of w hp
  have kd := kb.1
  have nw : ∀ x, 0 ≤ x → x ≤ 24 → (0 ≤ tr K S b p x q d ↔ 0 ≤ NW K (S (b + 1)) (K.1 (4 * p + 116)) d (q % 10) x) := by
    intro x _ _
    unfold tr
    split
    · omega
    · split <;> omega
  have t39 : ∀ (g : LH) (x : Int), hour ≤ x → (till < x ∨ (x ≤ till ∧ 0 ≤ tr K S b p x q d)) → (∀ y, hour ≤ y → y < x → y ≤ till → tr K S b p y q d < 0) → WC K S g → frL h g → Rn xs xl e mm_isNext 39 [some (.inr (.inr 182)), some (.inl b), some (.inl p), some (.inl q), some (.inl d), some (.inl hour), some (.inl till), some (.inl left), some (.inl x), none] [] g Q := by
    intro g x x0 x1 x2 gw gf
    have frn : frN h g := fun a i n1 n2 _ => gf a i n1 n2
    have es : rd g 188 (4 * p + 116) = K.1 (4 * p + 116) := by rw [← gw.2.1]; rfl
    refine B_isNext_39 (RF_of gw.1.1) hb hp hq (by omega) ⟨fun c => ⟨4, by omega, ?_⟩, fun c => k0 g gw frn (fun y hy => ?_)⟩
    · have tx : 0 ≤ tr K S b p x q d := by
        rcases x1 with z | z
        · omega
        · exact z.2
      rw [es]
      refine D_leadsNow (by omega) gw hb (by omega) kb.2.2.1 (by omega) (by omega) (fun u uw uf => ?_)
      have e3 : rd u 188 (4 * p + 118) = K.1 (4 * p + 118) := by rw [← uw.2.1]; rfl
      have nb := NW_ok K (S (b + 1)) (s := K.1 (4 * p + 116)) (d := d) (room := q % 10) (hr := x) (by omega) kb.2.2.1 (by omega) (by omega)
      have n0 := (nw x (by omega) (by omega)).mp tx
      have htr : tr K S b p x q d = (if NW K (S (b + 1)) (K.1 (4 * p + 116)) d (q % 10) x < 0 then -1 else NW K (S (b + 1)) (K.1 (4 * p + 116)) d (q % 10) x + (if 10 ≤ q ∨ NW K (S (b + 1)) (K.1 (4 * p + 116)) d (q % 10) x = K.1 (4 * p + 118) then 10 else 0)) := rfl
      have tb := tr_ok (S := S) (b := b) (hr := x) kb hq hd (by omega)
      have fx : frst K S b p hour till q d x := ⟨x0, c, tx, fun y y0 y1 => x2 y y0 y1 (by omega)⟩
      have only : ∀ y, frst K S b p hour till q d y → y = x := by
        intro y hy
        rcases Int.lt_trichotomy y x with z | z | z
        · have := fx.2.2.2 y hy.1 z
          have := hy.2.2.1
          omega
        · exact z
        · have := hy.2.2.2 x x0 z
          omega
      have eu : ∀ i, rd u 201 i = rd h 201 i := fun i => (uf 201 i (by decide) (by decide)).trans (gf 201 i (by decide) (by decide))
      generalize NW K (S (b + 1)) (K.1 (4 * p + 116)) d (q % 10) x = z at *
      have fin : ∀ y i : Int, tr K S b p x q d = y → i = 20 * (x + 1) + y → (rd u 201 i ≠ left → Q (some (.inl 0)) (wr (wr u 182 35 y) 182 36 (x + 1))) ∧ (rd u 201 i = left → Q (some (.inl 1)) (wr (wr u 182 35 y) 182 36 (x + 1))) := by
        intro y i hy hi
        rw [hi, eu]
        have w1 := WC_fld (j := 35) (v := y) (by omega) uw (wF_nextState uw.1 (by omega) (by omega))
        have w2 := WC_fld (j := 36) (v := x + 1) (by omega) w1 (wF_nextHour w1.1 (by omega) (by omega))
        have fr : frN h (wr (wr u 182 35 y) 182 36 (x + 1)) := by
          intro a j n1 n2 n3
          rw [rd_wr, if_neg (by rintro ⟨rfl, rfl⟩; exact n3 ⟨rfl, Or.inr rfl⟩), rd_wr, if_neg (by rintro ⟨rfl, rfl⟩; exact n3 ⟨rfl, Or.inl rfl⟩), uf a j n1 n2]
          exact gf a j n1 n2
        refine ⟨fun c1 => k0 _ w2 fr (fun y2 hy2 => ?_), fun c1 => k1 _ x w2 fr fx (by rw [hy]; exact c1) ((rdw_nei (by decide)).trans (rdw_eq.trans hy.symm)) rdw_eq⟩
        rw [only y2 hy2, hy]
        exact c1
      refine B_isNext_67 (RF_of uw.1.1) hb hp hq (by omega) (by omega) (by omega) ⟨fun c3 => ?_, fun c3 => ⟨fun c6 => ?_, fun c6 => ?_⟩⟩
      · have f := fin (z + 10) (20 * (x + 1) + (z + 10)) (by rw [htr, if_neg (by omega), if_pos (Or.inl c3)]) rfl
        exact ⟨by omega, by omega, by omega, f.1, f.2⟩
      · have f := fin z (20 * (x + 1) + z) (by rw [htr, if_neg (by omega), if_neg (by omega), Int.add_zero]) rfl
        exact ⟨by omega, by omega, by omega, f.1, f.2⟩
      · have f := fin (z + 10) (20 * (x + 1) + (z + 10)) (by rw [htr, if_neg (by omega), if_pos (Or.inr (by omega))]) rfl
        exact ⟨by omega, by omega, by omega, f.1, f.2⟩
    · have := x2 y hy.1 (by have := hy.2.1; omega) hy.2.1
      have := hy.2.2.1
      omega
  have loop : ∀ (n : Nat) (g : LH) (x : Int), till + 1 - x ≤ n → hour ≤ x → x ≤ till + 1 → (∀ y, hour ≤ y → y < x → tr K S b p y q d < 0) → WC K S g → frL h g → Rn xs xl e mm_isNext 4 [some (.inr (.inr 182)), some (.inl b), some (.inl p), some (.inl q), some (.inl d), some (.inl hour), some (.inl till), some (.inl left), some (.inl x), none] [] g Q := by
    intro n
    induction n with
    | zero =>
      intro g x hn x0 x1 x2 gw gf
      exact B_isNext_4 (RF_of gw.1.1) hb hp hq (by omega) (by omega) ⟨fun c => t39 g x x0 (Or.inl c) (fun y y0 y1 _ => x2 y y0 y1) gw gf, fun c => by omega⟩
    | succ n ih =>
      intro g x hn x0 x1 x2 gw gf
      have es : rd g 188 (4 * p + 116) = K.1 (4 * p + 116) := by rw [← gw.2.1]; rfl
      refine B_isNext_4 (RF_of gw.1.1) hb hp hq (by omega) (by omega) ⟨fun c => t39 g x x0 (Or.inl c) (fun y y0 y1 _ => x2 y y0 y1) gw gf, fun c => ⟨4, by omega, ?_⟩⟩
      rw [es]
      refine D_leadsNow (by omega) gw hb (by omega) kb.2.2.1 (by omega) (by omega) (fun u uw uf => ?_)
      have iff := nw x (by omega) (by omega)
      refine B_isNext_30 (RF_of uw.1.1) hb hp (by omega) ⟨fun c2 => t39 u x x0 (Or.inr ⟨c, iff.mpr c2⟩) (fun y y0 y1 _ => x2 y y0 y1) uw (gf.trans uf), fun c2 => ih u (x + 1) (by omega) (by omega) (by omega) (fun y y0 y1 => ?_) uw (gf.trans uf)⟩
      by_cases hy : y = x
      · rw [hy]
        have : ¬ 0 ≤ tr K S b p x q d := fun z => by have := iff.mp z; omega
        omega
      · exact x2 y y0 (by omega)
  exact B_isNext_0 (RF_of w.1.1) hb hp (loop (till + 1 - hour).toNat h hour (by omega) (by omega) (by omega) (fun y y0 y1 => by omega) w (frL.refl h))
def frW (h h' : LH) : Prop := ∀ a i, a ≠ 196 → a ≠ 197 → a ≠ 201 → a ≠ 202 → ¬ (a = 182 ∧ (i = 34 ∨ i = 35 ∨ i = 36)) → rd h' a i = rd h a i
theorem D_findWay (he : 8 ≤ e) (w : WC K S h) (b0 : b % 70 = 0) (hb : 0 ≤ b ∧ b ≤ 1540) (hp : 0 ≤ p ∧ p ≤ 5) (hro : S (b + p + 2) < K.1 0) (k : ∀ r h', WC K S h' → frW h h' → -1 ≤ r → r ≤ 24 → rd h' 182 34 ≤ 24 → (0 < rd h' 182 34 → rd h' 202 0 < K.1 1) → Q (some (.inl r)) h') : Rn xs xl e mm_findWay 0 [some (.inr (.inr 182)), some (.inl b), some (.inl p), none, none, none, none, none] [] h Q := by
  have kb := KB_of w hp
  have sb := SB_of w b0 hb hp
  obtain ⟨s0, s1, s2, s3⟩ := sb
  have kd := kb.1
  have kr := kb.2.1
  have kh := kb.2.2.2.1
  refine B_findWay_0 (RF_of w.1.1) hb hp ⟨7, by omega, D_errandHour (by omega) w b0 hb hp (fun till g gw gf hr => ?_)⟩
  have e2 : rd g 198 (b + p + 2) = S (b + p + 2) := by rw [gw.2.2]
  have e8 : rd g 198 (b + p + 8) = S (b + p + 8) := by rw [gw.2.2]
  have e7 : rd g 188 (4 * p + 117) = K.1 (4 * p + 117) := by rw [← gw.2.1]; rfl
  have w1 := WC_fld (j := 34) (v := 0) (by omega) gw (wF_wayMany gw.1 (by omega) (by omega))
  have f1 : frW h (wr g 182 34 0) := by
    intro a i n1 n2 n3 n4 n5
    rw [rd_wr, if_neg (by rintro ⟨rfl, rfl⟩; exact n5 ⟨rfl, Or.inl rfl⟩)]
    exact gf a i n1 n2
  have tb : -1 ≤ till ∧ till ≤ 24 := by
    rcases hr with z | z
    · omega
    · omega
  have ret : Q (some (.inl till)) (wr g 182 34 0) := k till _ w1 f1 tb.1 tb.2 (by rw [rdw_eq]; omega) (by rw [rdw_eq]; intro z; omega)
  -- there is a way
  have go : ∀ q0 : Int, k0F S b p = q0 → 0 ≤ q0 → q0 ≤ 19 → q0 % 10 < K.1 0 → 0 ≤ till → q0 ≠ K.1 (4 * p + 117) + 10 → ∃ c, c < e ∧ Rn xs xl c mm_findFewest 0 [some (.inr (.inr 182)), some (.inl b), some (.inl p), some (.inl till), none, none, none, none, none, none, none] [] (wr g 182 34 0) (fun r h' => Rn xs xl e mm_findWay 73 [some (.inr (.inr 182)), some (.inl b), some (.inl p), some (.inl till), some (.inl q0), none, none, none] (r.toList ++ []) h' Q) := by
    intro q0 hq0 x0 x1 x2 t0 hne
    obtain ⟨z0, z1, z2, z3⟩ : S b ≤ till ∧ till ≤ 23 ∧ till ≤ 24 ∧ Rch K S b p (till + 1 - (S b + S (b + p + 14))).toNat (S b + S (b + p + 14)) q0 (K.1 (4 * p + 117) + 10) := by
      rcases hr with z | ⟨z1, z2, z | z⟩
      · omega
      · omega
      · rw [hq0] at z
        exact ⟨z1, z.1, z2, z.2⟩
    refine ⟨5, by omega, D_findFewest (by omega) w1 b0 hb hp (by omega) (fun u uw uf ul ug => ?_)⟩
    have F : FOK K S b p till (S b) (rd u 201) := ⟨ul, ug⟩
    have u34 : rd u 182 34 = 0 := (uf 182 34 (by decide) (by decide) (by decide)).trans rdw_eq
    have u0 : rd u 198 b = S b := by rw [uw.2.2]
    have u14 : rd u 198 (b + p + 14) = S (b + p + 14) := by rw [uw.2.2]
    -- hour of beginning
    by_cases late : till + 1 < S b + S (b + p + 14)
    · exfalso
      rw [show (till + 1 - (S b + S (b + p + 14))).toNat = 0 by omega] at z3
      exact hne z3
    have fin := F_fin kb rfl F s0.1 z1 (till + 1 - (S b + S (b + p + 14))).toNat (S b + S (b + p + 14)) q0 x0 x1 x2 (by omega) (by omega) z3
    refine B_findWay_73 (RF_of uw.1.1) hb hp ⟨by omega, ?_⟩
    rw [u0, u14]
    -- the way, door by door
    have way : ∀ (n : Nat) (v : LH) (q hour : Int) (o6 o7 : Option LV), rd u 201 (20 * hour + q) = n → 0 ≤ q → q ≤ 19 → q % 10 < K.1 0 → S b ≤ hour → hour ≤ till + 1 → WC K S v → frW h v → (∀ i, rd v 201 i = rd u 201 i) → rd v 182 34 + n ≤ 24 → (0 < rd v 182 34 → rd v 202 0 < K.1 1) → Rn xs xl e mm_findWay 95 [some (.inr (.inr 182)), some (.inl b), some (.inl p), some (.inl till), some (.inl q), some (.inl hour), o6, o7] [] v Q := by
      intro n
      induction n with
      | zero =>
        intro v q hour o6 o7 hn q0' q1 q2 h0 h1 vw vf ve vm vz
        have eq := F_zero kb rfl F s0.1 z1 ⟨q0', q1⟩ (till + 1 - hour).toNat hour h0 (by omega) hn
        have ev := ve (20 * hour + q)
        have e7v : rd v 188 (4 * p + 117) = K.1 (4 * p + 117) := by rw [← vw.2.1]; rfl
        exact B_findWay_95 (RF_of vw.1.1) hb hp ⟨q0', q1⟩ (by omega) (by omega) ⟨by omega, fun c => by omega, fun _ => ⟨fun _ => k till v vw vf tb.1 tb.2 (by omega) vz, fun c => by omega⟩⟩
      | succ n ih =>
        intro v q hour o6 o7 hn q0' q1 q2 h0 h1 vw vf ve vm vz
        have ev := ve (20 * hour + q)
        have e7v : rd v 188 (4 * p + 117) = K.1 (4 * p + 117) := by rw [← vw.2.1]; rfl
        have v34 := rF_wayMany vw.1.1
        have qg : q ≠ K.1 (4 * p + 117) + 10 := by
          intro z
          have := F_goal kb z F h0 h1
          omega
        obtain ⟨x, d, xx0, xx1, d0, d1, d2, dr⟩ := F_next F ⟨q0', q1⟩ (till + 1 - hour).toNat hour h0 (by omega) (by omega) (by omega)
        -- the first door that is on a way
        have dl : ∀ (m : Nat) (y : LH) (door : Int), d - door ≤ m → 0 ≤ door → door ≤ d → WC K S y → frW h y → (∀ i, rd y 201 i = rd u 201 i) → (rd y 182 34 = rd v 182 34 ∧ rd y 202 0 = rd v 202 0) → Rn xs xl e mm_findWay 145 [some (.inr (.inr 182)), some (.inl b), some (.inl p), some (.inl till), some (.inl q), some (.inl hour), some (.inl (n : Int)), some (.inl door)] [] y Q := by
          have step : ∀ (y : LH) (door : Int), 0 ≤ door → door ≤ d → WC K S y → frW h y → (∀ i, rd y 201 i = rd u 201 i) → (rd y 182 34 = rd v 182 34 ∧ rd y 202 0 = rd v 202 0) → (∀ y' : LH, door ≠ d → WC K S y' → frW h y' → (∀ i, rd y' 201 i = rd u 201 i) → (rd y' 182 34 = rd v 182 34 ∧ rd y' 202 0 = rd v 202 0) → Rn xs xl e mm_findWay 145 [some (.inr (.inr 182)), some (.inl b), some (.inl p), some (.inl till), some (.inl q), some (.inl hour), some (.inl (n : Int)), some (.inl (door + 1))] [] y' Q) → Rn xs xl e mm_findWay 145 [some (.inr (.inr 182)), some (.inl b), some (.inl p), some (.inl till), some (.inl q), some (.inl hour), some (.inl (n : Int)), some (.inl door)] [] y Q := by
            intro y door dr0 dr1 yw yf ye ym more
            refine B_findWay_145 (RF_of yw.1.1) hb hp ⟨5, by omega, D_isNext (by omega) yw hb hp ⟨q0', q1⟩ ⟨dr0, by omega⟩ (by omega) (by omega) (fun y' z yw' yf' fz ez n35 n36 => ?_) (fun y' yw' yf' no => ?_)⟩
            · have t := tr_ok (S := S) (b := b) (hr := z) kb ⟨q0', q1⟩ ⟨dr0, by omega⟩ (by have := fz.1; have := fz.2.1; omega)
              have ym' : rd y' 182 34 = rd v 182 34 := (yf' 182 34 (by decide) (by decide) (by omega)).trans ym.1
              have yz' : rd y' 202 0 = rd v 202 0 := (yf' 202 0 (by decide) (by decide) (by omega)).trans ym.2
              have fwy : frW h y' := fun a i n1 n2 n3 n4 n5 => (yf' a i n1 n2 (fun c => n5 ⟨c.1, by omega⟩)).trans (yf a i n1 n2 n3 n4 n5)
              have i1 : INV (wr y' 202 (rd y' 182 34) door) := wA_wayDoors yw'.1 (by omega) (by omega) (by omega)
              have wv : WC K S (wr y' 202 (rd y' 182 34) door) := by
                refine ⟨i1, ?_, ?_⟩
                · rw [← yw'.2.1]
                  unfold key
                  rw [show rd (wr y' 202 (rd y' 182 34) door) 188 = rd y' 188 from funext (fun i => rdw_ne (by decide)), show rd (wr y' 202 (rd y' 182 34) door) 189 = rd y' 189 from funext (fun i => rdw_ne (by decide)), show rd (wr y' 202 (rd y' 182 34) door) 190 = rd y' 190 from funext (fun i => rdw_ne (by decide)), rdw_ne (by decide), rdw_ne (by decide), rdw_ne (by decide), rdw_ne (by decide)]
                · rw [← yw'.2.2]
                  exact funext (fun i => rdw_ne (by decide))
              have w3 := WC_fld (j := 34) (v := rd y' 182 34 + 1) (by omega) wv (wF_wayMany wv.1 (by omega) (by omega))
              refine B_findWay_160_1 (RF_of yw'.1.1) hb hp ⟨by omega, by omega, ?_⟩
              rw [n35, n36]
              have fz2 := fz.2.1
              have fz1 := fz.1
              refine ih _ _ (z + 1) _ _ ?_ fz.2.2.1 t.2.1 (t.2.2 fz.2.2.1) (by omega) (by omega) w3 (fun a i n1 n2 n3 n4 n5 => ?_) (fun i => ?_) ?_ ?_
              · rw [← ye]
                exact ez
              · rw [rd_wr, if_neg (by rintro ⟨rfl, rfl⟩; exact n5 ⟨rfl, Or.inl rfl⟩), rdw_ne (fun c => n4 c.symm)]
                exact fwy a i n1 n2 n3 n4 n5
              · rw [rdw_ne (by decide), rdw_ne (by decide), yf' 201 i (by decide) (by decide) (by omega)]
                exact ye i
              · rw [rdw_eq]
                omega
              · intro _
                rw [rdw_ne (by decide)]
                by_cases zz : rd y' 182 34 = 0
                · rw [zz, rdw_eq]
                  omega
                · rw [rdw_nei zz, yz']
                  exact vz (by omega)
            · have ym' : rd y' 182 34 = rd v 182 34 := (yf' 182 34 (by decide) (by decide) (by omega)).trans ym.1
              have yz' : rd y' 202 0 = rd v 202 0 := (yf' 202 0 (by decide) (by decide) (by omega)).trans ym.2
              have fwy : frW h y' := fun a i n1 n2 n3 n4 n5 => (yf' a i n1 n2 (fun c => n5 ⟨c.1, by omega⟩)).trans (yf a i n1 n2 n3 n4 n5)
              have ye' : ∀ i, rd y' 201 i = rd u 201 i := fun i => (yf' 201 i (by decide) (by decide) (by omega)).trans (ye i)
              have ne : door ≠ d := by
                intro hdd
                subst hdd
                -- the first hour of this door
                obtain ⟨f, ff⟩ : ∃ f, frst K S b p hour till q door f := by
                  have ex : ∀ (m : Nat), ∀ a : Int, a = hour + m → (∀ y, hour ≤ y → y < a → tr K S b p y q door < 0) ∨ ∃ f, frst K S b p hour till q door f ∨ till < f := by
                    intro m
                    induction m with
                    | zero => exact fun a ha => Or.inl (fun y y0 y1 => by omega)
                    | succ m im =>
                      intro a ha
                      rcases im (a - 1) (by omega) with z | z
                      · by_cases c : 0 ≤ tr K S b p (a - 1) q door
                        · by_cases c2 : a - 1 ≤ till
                          · exact Or.inr ⟨a - 1, Or.inl ⟨by omega, c2, c, fun y y0 y1 => z y y0 y1⟩⟩
                          · exact Or.inr ⟨a - 1, Or.inr (by omega)⟩
                        · refine Or.inl (fun y y0 y1 => ?_)
                          by_cases hy : y = a - 1
                          · rw [hy]; omega
                          · exact z y y0 (by omega)
                      · exact Or.inr z
                  have fnd : ∀ (m : Nat), hour + m ≤ x + 1 → (∀ y, hour ≤ y → y < hour + m → tr K S b p y q door < 0) ∨ ∃ f, frst K S b p hour till q door f := by
                    intro m
                    induction m with
                    | zero => exact fun _ => Or.inl (fun y y0 y1 => by omega)
                    | succ m im =>
                      intro hm
                      rcases im (by omega) with z | z
                      · by_cases c : 0 ≤ tr K S b p (hour + m) q door
                        · exact Or.inr ⟨hour + m, by omega, by omega, c, fun y y0 y1 => z y y0 y1⟩
                        · refine Or.inl (fun y y0 y1 => ?_)
                          by_cases hy : y = hour + m
                          · rw [hy]; omega
                          · exact z y y0 (by omega)
                      · exact Or.inr z
                  rcases fnd (x + 1 - hour).toNat (by omega) with z | z
                  · have := z x xx0 (by omega)
                    omega
                  · exact z
                have fx : f ≤ x := by
                  rcases Int.lt_or_le x f with z | z
                  · have := ff.2.2.2 x xx0 z
                    omega
                  · exact z
                have f0 := ff.1
                have f1' := ff.2.1
                have f2 := ff.2.2.1
                have same := tr_hour (S := S) (b := b) (hr := x) (hr' := f) kb ⟨q0', q1⟩ ⟨dr0, by omega⟩ (by omega) (by omega) d2 f2
                have t := tr_ok (S := S) (b := b) (hr := x) kb ⟨q0', q1⟩ ⟨dr0, by omega⟩ (by omega)
                have m1 := F_mono F (q := tr K S b p x q door) ⟨d2, t.2.1⟩ (x - f).toNat (f + 1) (by omega) (by omega)
                rw [show f + 1 + (((x - f).toNat : Nat) : Int) = x + 1 by omega] at m1
                have m2 := F_mono F (q := q) ⟨q0', q1⟩ (f - hour).toNat hour h0 (by omega)
                rw [show hour + (((f - hour).toNat : Nat) : Int) = f by omega] at m2
                have m3 := (F.2 f q (by omega) f1' q0' q1).2.2.1 q2 door dr0 (by omega) f2
                have nn := no f ff
                rw [ye, same] at nn
                rw [same] at m3
                omega
              exact B_findWay_160_0 (RF_of yw'.1.1) hb hp (by omega) (more y' ne yw' fwy ye' ⟨ym', yz'⟩)
          intro m
          induction m with
          | zero => exact fun y door hm dr0 dr1 yw yf ye ym => step y door dr0 dr1 yw yf ye ym (fun y' ne _ _ _ _ => by omega)
          | succ m im => exact fun y door hm dr0 dr1 yw yf ye ym => step y door dr0 dr1 yw yf ye ym (fun y' ne yw' yf' ye' ym' => im y' (door + 1) (by omega) (by omega) (by omega) yw' yf' ye' ym')
        have en : rd v 201 (20 * hour + q) - 1 = (n : Int) := by omega
        refine B_findWay_95 (RF_of vw.1.1) hb hp ⟨q0', q1⟩ (by omega) (by omega) ⟨by omega, fun _ => ⟨by omega, ?_⟩, fun c => by omega⟩
        rw [en]
        exact dl d.toNat v 0 (by omega) (by omega) (by omega) vw vf ve ⟨rfl, rfl⟩
    have r0 := F_rng F (q := q0) (hr := S b + S (b + p + 14)) ⟨x0, x1⟩ (by omega) (by omega)
    refine way (rd u 201 (20 * (S b + S (b + p + 14)) + q0)).toNat u q0 _ _ _ (by omega) x0 x1 x2 (by omega) (by omega) uw (fun a i n1 n2 n3 n4 n5 => ?_) (fun _ => rfl) (by omega) (fun z => by omega)
    rw [uf a i n1 n2 n3]
    exact f1 a i n1 n2 n3 n4 n5
  refine B_findWay_6 (RF_of gw.1.1) hb hp (by omega) ⟨fun c => ?_, fun c => ?_⟩
  · rw [e2, e7]
    have hk : k0F S b p = S (b + p + 2) := by unfold k0F; rw [if_neg (by omega)]
    exact ⟨by omega, fun _ => ret, fun t0 => ⟨by omega, fun ne => go _ hk (by omega) (by omega) (by omega) t0 ne, fun _ => ret⟩⟩
  · rw [e2, e7]
    have hk : k0F S b p = S (b + p + 2) + 10 := by unfold k0F; rw [if_pos (by omega)]
    exact ⟨by omega, fun _ => ret, fun t0 => ⟨by omega, fun ne => go _ hk (by omega) (by omega) (by omega) t0 ne, fun _ => ret⟩⟩
end C14
end
section
/-! LM, by program (wip/p2/hand.py): rows of goesBy -/
def mm_goesBy : LM_M := (⟨"OneSidedModel", "goesBy", "(I)I"⟩, prog_14_method_101_code, 8, (some .int), 12, 2, 0, 1785, 1784, 1000127)
theorem dd_goesBy_0 : decode mm_goesBy.2.1 0 = .ok (.aload_n 0, 1) := by decide +kernel
theorem dd_goesBy_1 : decode mm_goesBy.2.1 1 = .ok (.iload_n 1, 1) := by decide +kernel
theorem dd_goesBy_2 : decode mm_goesBy.2.1 2 = .ok (.iconst 0, 1) := by decide +kernel
theorem dd_goesBy_3 : decode mm_goesBy.2.1 3 = .ok (.invokevirtual 325, 3) := by decide +kernel
theorem dd_goesBy_6 : decode mm_goesBy.2.1 6 = .ok (.istore_n 2, 1) := by decide +kernel
theorem dd_goesBy_7 : decode mm_goesBy.2.1 7 = .ok (.iconst 0, 1) := by decide +kernel
theorem dd_goesBy_8 : decode mm_goesBy.2.1 8 = .ok (.istore_n 3, 1) := by decide +kernel
theorem dd_goesBy_9 : decode mm_goesBy.2.1 9 = .ok (.iload_n 3, 1) := by decide +kernel
theorem dd_goesBy_10 : decode mm_goesBy.2.1 10 = .ok (.bipush 10, 2) := by decide +kernel
theorem dd_goesBy_12 : decode mm_goesBy.2.1 12 = .ok (.if_icmp .ge (32), 3) := by decide +kernel
theorem dd_goesBy_44 : decode mm_goesBy.2.1 44 = .ok (.iconst 0, 1) := by decide +kernel
theorem dd_goesBy_45 : decode mm_goesBy.2.1 45 = .ok (.istore_n 3, 1) := by decide +kernel
theorem dd_goesBy_15 : decode mm_goesBy.2.1 15 = .ok (.aload_n 0, 1) := by decide +kernel
theorem dd_goesBy_16 : decode mm_goesBy.2.1 16 = .ok (.getfield 168, 3) := by decide +kernel
theorem fd_12_168 : fld 12 168 = some (12, 49) := by decide +kernel
theorem rf_182_49 {h : LH} (hF : RF h) : rd h 182 49 = 210 := hF 182 49 210 (by decide +kernel) (by decide +kernel)
theorem dd_goesBy_19 : decode mm_goesBy.2.1 19 = .ok (.iload_n 3, 1) := by decide +kernel
theorem dd_goesBy_20 : decode mm_goesBy.2.1 20 = .ok (.iload_n 3, 1) := by decide +kernel
theorem dd_goesBy_21 : decode mm_goesBy.2.1 21 = .ok (.aload_n 0, 1) := by decide +kernel
theorem dd_goesBy_22 : decode mm_goesBy.2.1 22 = .ok (.iload_n 1, 1) := by decide +kernel
theorem dd_goesBy_23 : decode mm_goesBy.2.1 23 = .ok (.iconst 2, 1) := by decide +kernel
theorem dd_goesBy_24 : decode mm_goesBy.2.1 24 = .ok (.invokevirtual 325, 3) := by decide +kernel
theorem dd_goesBy_27 : decode mm_goesBy.2.1 27 = .ok (.if_icmp .ne (7), 3) := by decide +kernel
theorem dd_goesBy_34 : decode mm_goesBy.2.1 34 = .ok (.ldc_w 396, 3) := by decide +kernel
theorem dd_goesBy_37 : decode mm_goesBy.2.1 37 = .ok (.iastore, 1) := by decide +kernel
theorem ia_210 : isA NC 210 1 = true := by decide +kernel
theorem la_210 : (lay (210 : Int).toNat).2.2 = 10 := by decide +kernel
theorem dd_goesBy_38 : decode mm_goesBy.2.1 38 = .ok (.iinc 3 1, 3) := by decide +kernel
theorem dd_goesBy_41 : decode mm_goesBy.2.1 41 = .ok (.goto (-32), 3) := by decide +kernel
theorem dd_goesBy_30 : decode mm_goesBy.2.1 30 = .ok (.iconst 0, 1) := by decide +kernel
theorem dd_goesBy_31 : decode mm_goesBy.2.1 31 = .ok (.goto 6, 3) := by decide +kernel
theorem dd_goesBy_46 : decode mm_goesBy.2.1 46 = .ok (.iload_n 3, 1) := by decide +kernel
theorem dd_goesBy_47 : decode mm_goesBy.2.1 47 = .ok (.bipush 10, 2) := by decide +kernel
theorem dd_goesBy_49 : decode mm_goesBy.2.1 49 = .ok (.if_icmp .ge (126), 3) := by decide +kernel
theorem dd_goesBy_175 : decode mm_goesBy.2.1 175 = .ok (.iconst 0, 1) := by decide +kernel
theorem dd_goesBy_176 : decode mm_goesBy.2.1 176 = .ok (.istore_n 3, 1) := by decide +kernel
theorem dd_goesBy_177 : decode mm_goesBy.2.1 177 = .ok (.aload_n 0, 1) := by decide +kernel
theorem dd_goesBy_178 : decode mm_goesBy.2.1 178 = .ok (.getfield 125, 3) := by decide +kernel
theorem dd_goesBy_181 : decode mm_goesBy.2.1 181 = .ok (.iconst 2, 1) := by decide +kernel
theorem dd_goesBy_182 : decode mm_goesBy.2.1 182 = .ok (.iload_n 1, 1) := by decide +kernel
theorem dd_goesBy_183 : decode mm_goesBy.2.1 183 = .ok (.iadd, 1) := by decide +kernel
theorem dd_goesBy_184 : decode mm_goesBy.2.1 184 = .ok (.iaload, 1) := by decide +kernel
theorem dd_goesBy_185 : decode mm_goesBy.2.1 185 = .ok (.istore 4, 2) := by decide +kernel
theorem dd_goesBy_52 : decode mm_goesBy.2.1 52 = .ok (.iconst 0, 1) := by decide +kernel
theorem dd_goesBy_53 : decode mm_goesBy.2.1 53 = .ok (.istore 4, 2) := by decide +kernel
theorem dd_goesBy_55 : decode mm_goesBy.2.1 55 = .ok (.iload 4, 2) := by decide +kernel
theorem dd_goesBy_57 : decode mm_goesBy.2.1 57 = .ok (.aload_n 0, 1) := by decide +kernel
theorem dd_goesBy_58 : decode mm_goesBy.2.1 58 = .ok (.invokevirtual 332, 3) := by decide +kernel
theorem dd_goesBy_61 : decode mm_goesBy.2.1 61 = .ok (.if_icmp .ge (108), 3) := by decide +kernel
theorem dd_goesBy_169 : decode mm_goesBy.2.1 169 = .ok (.iinc 3 1, 3) := by decide +kernel
theorem dd_goesBy_172 : decode mm_goesBy.2.1 172 = .ok (.goto (-126), 3) := by decide +kernel
theorem dd_goesBy_64 : decode mm_goesBy.2.1 64 = .ok (.iconst 0, 1) := by decide +kernel
theorem dd_goesBy_65 : decode mm_goesBy.2.1 65 = .ok (.istore 5, 2) := by decide +kernel
theorem dd_goesBy_67 : decode mm_goesBy.2.1 67 = .ok (.iload 5, 2) := by decide +kernel
theorem dd_goesBy_69 : decode mm_goesBy.2.1 69 = .ok (.aload_n 0, 1) := by decide +kernel
theorem dd_goesBy_70 : decode mm_goesBy.2.1 70 = .ok (.invokevirtual 335, 3) := by decide +kernel
theorem dd_goesBy_73 : decode mm_goesBy.2.1 73 = .ok (.if_icmp .ge (90), 3) := by decide +kernel
theorem dd_goesBy_163 : decode mm_goesBy.2.1 163 = .ok (.iinc 4 1, 3) := by decide +kernel
theorem dd_goesBy_166 : decode mm_goesBy.2.1 166 = .ok (.goto (-111), 3) := by decide +kernel
theorem dd_goesBy_76 : decode mm_goesBy.2.1 76 = .ok (.aload_n 0, 1) := by decide +kernel
theorem dd_goesBy_77 : decode mm_goesBy.2.1 77 = .ok (.iconst 0, 1) := by decide +kernel
theorem dd_goesBy_78 : decode mm_goesBy.2.1 78 = .ok (.iload 5, 2) := by decide +kernel
theorem dd_goesBy_80 : decode mm_goesBy.2.1 80 = .ok (.iload_n 2, 1) := by decide +kernel
theorem dd_goesBy_81 : decode mm_goesBy.2.1 81 = .ok (.iload 4, 2) := by decide +kernel
theorem dd_goesBy_83 : decode mm_goesBy.2.1 83 = .ok (.aload_n 0, 1) := by decide +kernel
theorem dd_goesBy_84 : decode mm_goesBy.2.1 84 = .ok (.getfield 125, 3) := by decide +kernel
theorem dd_goesBy_87 : decode mm_goesBy.2.1 87 = .ok (.iconst 0, 1) := by decide +kernel
theorem dd_goesBy_88 : decode mm_goesBy.2.1 88 = .ok (.iaload, 1) := by decide +kernel
theorem dd_goesBy_89 : decode mm_goesBy.2.1 89 = .ok (.invokevirtual 373, 3) := by decide +kernel
theorem dd_goesBy_92 : decode mm_goesBy.2.1 92 = .ok (.istore 6, 2) := by decide +kernel
theorem dd_goesBy_94 : decode mm_goesBy.2.1 94 = .ok (.iload 6, 2) := by decide +kernel
theorem dd_goesBy_96 : decode mm_goesBy.2.1 96 = .ok (.ifCond .ge (9), 3) := by decide +kernel
theorem dd_goesBy_105 : decode mm_goesBy.2.1 105 = .ok (.aload_n 0, 1) := by decide +kernel
theorem dd_goesBy_106 : decode mm_goesBy.2.1 106 = .ok (.getfield 168, 3) := by decide +kernel
theorem dd_goesBy_109 : decode mm_goesBy.2.1 109 = .ok (.iload 6, 2) := by decide +kernel
theorem dd_goesBy_111 : decode mm_goesBy.2.1 111 = .ok (.iaload, 1) := by decide +kernel
theorem dd_goesBy_112 : decode mm_goesBy.2.1 112 = .ok (.bipush 100, 2) := by decide +kernel
theorem dd_goesBy_114 : decode mm_goesBy.2.1 114 = .ok (.aload_n 0, 1) := by decide +kernel
theorem dd_goesBy_115 : decode mm_goesBy.2.1 115 = .ok (.iload 5, 2) := by decide +kernel
theorem dd_goesBy_117 : decode mm_goesBy.2.1 117 = .ok (.invokevirtual 354, 3) := by decide +kernel
theorem dd_goesBy_120 : decode mm_goesBy.2.1 120 = .ok (.imul, 1) := by decide +kernel
theorem dd_goesBy_121 : decode mm_goesBy.2.1 121 = .ok (.iadd, 1) := by decide +kernel
theorem dd_goesBy_122 : decode mm_goesBy.2.1 122 = .ok (.iconst 1, 1) := by decide +kernel
theorem dd_goesBy_123 : decode mm_goesBy.2.1 123 = .ok (.iadd, 1) := by decide +kernel
theorem dd_goesBy_124 : decode mm_goesBy.2.1 124 = .ok (.istore 7, 2) := by decide +kernel
theorem dd_goesBy_126 : decode mm_goesBy.2.1 126 = .ok (.aload_n 0, 1) := by decide +kernel
theorem dd_goesBy_127 : decode mm_goesBy.2.1 127 = .ok (.getfield 168, 3) := by decide +kernel
theorem dd_goesBy_130 : decode mm_goesBy.2.1 130 = .ok (.iload 4, 2) := by decide +kernel
theorem dd_goesBy_132 : decode mm_goesBy.2.1 132 = .ok (.iload 7, 2) := by decide +kernel
theorem dd_goesBy_134 : decode mm_goesBy.2.1 134 = .ok (.aload_n 0, 1) := by decide +kernel
theorem dd_goesBy_135 : decode mm_goesBy.2.1 135 = .ok (.getfield 168, 3) := by decide +kernel
theorem dd_goesBy_138 : decode mm_goesBy.2.1 138 = .ok (.iload 4, 2) := by decide +kernel
theorem dd_goesBy_140 : decode mm_goesBy.2.1 140 = .ok (.iaload, 1) := by decide +kernel
theorem dd_goesBy_141 : decode mm_goesBy.2.1 141 = .ok (.if_icmp .ge (8), 3) := by decide +kernel
theorem dd_goesBy_149 : decode mm_goesBy.2.1 149 = .ok (.aload_n 0, 1) := by decide +kernel
theorem dd_goesBy_150 : decode mm_goesBy.2.1 150 = .ok (.getfield 168, 3) := by decide +kernel
theorem dd_goesBy_153 : decode mm_goesBy.2.1 153 = .ok (.iload 4, 2) := by decide +kernel
theorem dd_goesBy_155 : decode mm_goesBy.2.1 155 = .ok (.iaload, 1) := by decide +kernel
theorem dd_goesBy_156 : decode mm_goesBy.2.1 156 = .ok (.iastore, 1) := by decide +kernel
theorem dd_goesBy_157 : decode mm_goesBy.2.1 157 = .ok (.iinc 5 1, 3) := by decide +kernel
theorem dd_goesBy_160 : decode mm_goesBy.2.1 160 = .ok (.goto (-93), 3) := by decide +kernel
theorem dd_goesBy_144 : decode mm_goesBy.2.1 144 = .ok (.iload 7, 2) := by decide +kernel
theorem dd_goesBy_146 : decode mm_goesBy.2.1 146 = .ok (.goto 10, 3) := by decide +kernel
theorem dd_goesBy_99 : decode mm_goesBy.2.1 99 = .ok (.ldc_w 396, 3) := by decide +kernel
theorem dd_goesBy_102 : decode mm_goesBy.2.1 102 = .ok (.goto 22, 3) := by decide +kernel
theorem dd_goesBy_187 : decode mm_goesBy.2.1 187 = .ok (.aload_n 0, 1) := by decide +kernel
theorem dd_goesBy_188 : decode mm_goesBy.2.1 188 = .ok (.getfield 168, 3) := by decide +kernel
theorem dd_goesBy_191 : decode mm_goesBy.2.1 191 = .ok (.iload 4, 2) := by decide +kernel
theorem dd_goesBy_193 : decode mm_goesBy.2.1 193 = .ok (.iaload, 1) := by decide +kernel
theorem dd_goesBy_194 : decode mm_goesBy.2.1 194 = .ok (.ifCond .le (112), 3) := by decide +kernel
theorem dd_goesBy_306 : decode mm_goesBy.2.1 306 = .ok (.iload_n 3, 1) := by decide +kernel
theorem dd_goesBy_307 : decode mm_goesBy.2.1 307 = .ok (.ireturn, 1) := by decide +kernel
theorem dd_goesBy_197 : decode mm_goesBy.2.1 197 = .ok (.aload_n 0, 1) := by decide +kernel
theorem dd_goesBy_198 : decode mm_goesBy.2.1 198 = .ok (.getfield 168, 3) := by decide +kernel
theorem dd_goesBy_201 : decode mm_goesBy.2.1 201 = .ok (.iload 4, 2) := by decide +kernel
theorem dd_goesBy_203 : decode mm_goesBy.2.1 203 = .ok (.iaload, 1) := by decide +kernel
theorem dd_goesBy_204 : decode mm_goesBy.2.1 204 = .ok (.ldc_w 396, 3) := by decide +kernel
theorem dd_goesBy_207 : decode mm_goesBy.2.1 207 = .ok (.if_icmp .ge (99), 3) := by decide +kernel
theorem dd_goesBy_210 : decode mm_goesBy.2.1 210 = .ok (.iconst (-1), 1) := by decide +kernel
theorem dd_goesBy_211 : decode mm_goesBy.2.1 211 = .ok (.istore 5, 2) := by decide +kernel
theorem dd_goesBy_213 : decode mm_goesBy.2.1 213 = .ok (.iconst 0, 1) := by decide +kernel
theorem dd_goesBy_214 : decode mm_goesBy.2.1 214 = .ok (.istore 6, 2) := by decide +kernel
theorem dd_goesBy_216 : decode mm_goesBy.2.1 216 = .ok (.iload 6, 2) := by decide +kernel
theorem dd_goesBy_218 : decode mm_goesBy.2.1 218 = .ok (.aload_n 0, 1) := by decide +kernel
theorem dd_goesBy_219 : decode mm_goesBy.2.1 219 = .ok (.invokevirtual 335, 3) := by decide +kernel
theorem dd_goesBy_222 : decode mm_goesBy.2.1 222 = .ok (.if_icmp .ge (77), 3) := by decide +kernel
theorem dd_goesBy_299 : decode mm_goesBy.2.1 299 = .ok (.iload 5, 2) := by decide +kernel
theorem dd_goesBy_301 : decode mm_goesBy.2.1 301 = .ok (.istore 4, 2) := by decide +kernel
theorem dd_goesBy_303 : decode mm_goesBy.2.1 303 = .ok (.goto (-116), 3) := by decide +kernel
theorem dd_goesBy_225 : decode mm_goesBy.2.1 225 = .ok (.iload 5, 2) := by decide +kernel
theorem dd_goesBy_227 : decode mm_goesBy.2.1 227 = .ok (.ifCond .ge (72), 3) := by decide +kernel
theorem dd_goesBy_230 : decode mm_goesBy.2.1 230 = .ok (.aload_n 0, 1) := by decide +kernel
theorem dd_goesBy_231 : decode mm_goesBy.2.1 231 = .ok (.iconst 0, 1) := by decide +kernel
theorem dd_goesBy_232 : decode mm_goesBy.2.1 232 = .ok (.iload 6, 2) := by decide +kernel
theorem dd_goesBy_234 : decode mm_goesBy.2.1 234 = .ok (.iload_n 2, 1) := by decide +kernel
theorem dd_goesBy_235 : decode mm_goesBy.2.1 235 = .ok (.iload 4, 2) := by decide +kernel
theorem dd_goesBy_237 : decode mm_goesBy.2.1 237 = .ok (.aload_n 0, 1) := by decide +kernel
theorem dd_goesBy_238 : decode mm_goesBy.2.1 238 = .ok (.getfield 125, 3) := by decide +kernel
theorem dd_goesBy_241 : decode mm_goesBy.2.1 241 = .ok (.iconst 0, 1) := by decide +kernel
theorem dd_goesBy_242 : decode mm_goesBy.2.1 242 = .ok (.iaload, 1) := by decide +kernel
theorem dd_goesBy_243 : decode mm_goesBy.2.1 243 = .ok (.invokevirtual 373, 3) := by decide +kernel
theorem dd_goesBy_246 : decode mm_goesBy.2.1 246 = .ok (.istore 7, 2) := by decide +kernel
theorem dd_goesBy_248 : decode mm_goesBy.2.1 248 = .ok (.iload 7, 2) := by decide +kernel
theorem dd_goesBy_250 : decode mm_goesBy.2.1 250 = .ok (.ifCond .lt (43), 3) := by decide +kernel
theorem dd_goesBy_293 : decode mm_goesBy.2.1 293 = .ok (.iinc 6 1, 3) := by decide +kernel
theorem dd_goesBy_296 : decode mm_goesBy.2.1 296 = .ok (.goto (-80), 3) := by decide +kernel
theorem dd_goesBy_253 : decode mm_goesBy.2.1 253 = .ok (.aload_n 0, 1) := by decide +kernel
theorem dd_goesBy_254 : decode mm_goesBy.2.1 254 = .ok (.getfield 168, 3) := by decide +kernel
theorem dd_goesBy_257 : decode mm_goesBy.2.1 257 = .ok (.iload 7, 2) := by decide +kernel
theorem dd_goesBy_259 : decode mm_goesBy.2.1 259 = .ok (.iaload, 1) := by decide +kernel
theorem dd_goesBy_260 : decode mm_goesBy.2.1 260 = .ok (.bipush 100, 2) := by decide +kernel
theorem dd_goesBy_262 : decode mm_goesBy.2.1 262 = .ok (.aload_n 0, 1) := by decide +kernel
theorem dd_goesBy_263 : decode mm_goesBy.2.1 263 = .ok (.iload 6, 2) := by decide +kernel
theorem dd_goesBy_265 : decode mm_goesBy.2.1 265 = .ok (.invokevirtual 354, 3) := by decide +kernel
theorem dd_goesBy_268 : decode mm_goesBy.2.1 268 = .ok (.imul, 1) := by decide +kernel
theorem dd_goesBy_269 : decode mm_goesBy.2.1 269 = .ok (.iadd, 1) := by decide +kernel
theorem dd_goesBy_270 : decode mm_goesBy.2.1 270 = .ok (.iconst 1, 1) := by decide +kernel
theorem dd_goesBy_271 : decode mm_goesBy.2.1 271 = .ok (.iadd, 1) := by decide +kernel
theorem dd_goesBy_272 : decode mm_goesBy.2.1 272 = .ok (.aload_n 0, 1) := by decide +kernel
theorem dd_goesBy_273 : decode mm_goesBy.2.1 273 = .ok (.getfield 168, 3) := by decide +kernel
theorem dd_goesBy_276 : decode mm_goesBy.2.1 276 = .ok (.iload 4, 2) := by decide +kernel
theorem dd_goesBy_278 : decode mm_goesBy.2.1 278 = .ok (.iaload, 1) := by decide +kernel
theorem dd_goesBy_279 : decode mm_goesBy.2.1 279 = .ok (.if_icmp .ne (14), 3) := by decide +kernel
theorem dd_goesBy_282 : decode mm_goesBy.2.1 282 = .ok (.iload 7, 2) := by decide +kernel
theorem dd_goesBy_284 : decode mm_goesBy.2.1 284 = .ok (.istore 5, 2) := by decide +kernel
theorem dd_goesBy_286 : decode mm_goesBy.2.1 286 = .ok (.iload_n 3, 1) := by decide +kernel
theorem dd_goesBy_287 : decode mm_goesBy.2.1 287 = .ok (.iconst 1, 1) := by decide +kernel
theorem dd_goesBy_288 : decode mm_goesBy.2.1 288 = .ok (.iload 6, 2) := by decide +kernel
theorem dd_goesBy_290 : decode mm_goesBy.2.1 290 = .ok (.ishl, 1) := by decide +kernel
theorem dd_goesBy_291 : decode mm_goesBy.2.1 291 = .ok (.ior, 1) := by decide +kernel
theorem dd_goesBy_292 : decode mm_goesBy.2.1 292 = .ok (.istore_n 3, 1) := by decide +kernel
theorem B_goesBy_0 {xs : Nat → Int} {xl e : Nat} {h : LH} {Q : Option LV → LH → Prop} {v1 : Int} (hF : RF h) (r_v1 : 0 ≤ v1 ∧ v1 ≤ 5) (he : 1 ≤ e)
    (k : Rn xs xl e mm_goesBy 9 [some (.inr (.inr 182)), some (.inl v1), some (.inl (rd h 188 (4 * v1 + 116))), some (.inl 0), none, none, none, none] [] h Q) :
    Rn xs xl e mm_goesBy 0 [some (.inr (.inr 182)), some (.inl v1), none, none, none, none, none, none] [] h Q := by
  refine R_ld (v := .inr (.inr 182)) dd_goesBy_0 rfl rfl rfl rfl ?_
  refine R_ld (v := .inl v1) dd_goesBy_1 rfl rfl rfl rfl ?_
  refine R_ic dd_goesBy_2 (by decide) rfl ?_
  refine R_call (as := [.inr (.inr 182), .inl v1, .inl 0]) (rest := []) (M' := mm_personOf) (ls0 := [some (.inr (.inr 182)), some (.inl v1), some (.inl 0)]) dd_goesBy_3 rfl rfl (cw_v cw_12_325 io_182 rfl rfl (Nat.le_of_ble_eq_true rfl) (Nat.le_of_ble_eq_true rfl)) mt_personOf rfl (c := e - 1) (by omega) rfl ?_
  refine R_ld (v := .inr (.inr 182)) dd_personOf_0 rfl rfl rfl rfl ?_
  refine R_gf (v := .inr (.inr 188)) dd_personOf_1 fd_12_95 io_182 (congrArg (fun z : Int => (Sum.inr (Sum.inr z) : LV)) (rf_182_10 hF)) rfl ?_
  refine R_bi dd_personOf_4 (by decide) rfl ?_
  refine R_ic dd_personOf_6 (by decide) rfl ?_
  refine R_ld (v := .inl v1) dd_personOf_7 rfl rfl rfl rfl ?_
  refine R_imul (c := 4 * v1) dd_personOf_8 (by omega) (by omega) rfl ?_
  refine R_iadd (c := 4 * v1 + 116) dd_personOf_9 (by omega) (by omega) rfl ?_
  refine R_ld (v := .inl 0) dd_personOf_10 rfl rfl rfl rfl ?_
  refine R_iadd (c := 4 * v1 + 116) dd_personOf_11 (by omega) (by omega) rfl ?_
  refine R_iald (v := (rd h 188 (4 * v1 + 116))) (n := 300) dd_personOf_12 ia_188 la_188 (by omega) (rfl) rfl ?_
  refine R_iret dd_personOf_13 rfl ?_
  change Rn xs xl e mm_goesBy 6 [some (.inr (.inr 182)), some (.inl v1), none, none, none, none, none, none] [.inl (rd h 188 (4 * v1 + 116))] h _
  refine R_st (ls' := [some (.inr (.inr 182)), some (.inl v1), some (.inl (rd h 188 (4 * v1 + 116))), none, none, none, none, none]) dd_goesBy_6 rfl rfl rfl (Nat.le_of_ble_eq_true rfl) rfl rfl ?_
  refine R_ic dd_goesBy_7 (by decide) rfl ?_
  refine R_st (ls' := [some (.inr (.inr 182)), some (.inl v1), some (.inl (rd h 188 (4 * v1 + 116))), some (.inl 0), none, none, none, none]) dd_goesBy_8 rfl rfl rfl (Nat.le_of_ble_eq_true rfl) rfl rfl ?_
  exact k
theorem B_goesBy_9 {xs : Nat → Int} {xl e : Nat} {h : LH} {Q : Option LV → LH → Prop} {v1 v2 v3 : Int} (hF : RF h) (r_v1 : 0 ≤ v1 ∧ v1 ≤ 5) (r_v2 : 0 ≤ v2 ∧ v2 ≤ 3) (r_v3 : 0 ≤ v3 ∧ v3 ≤ 10) (he : 1 ≤ e)
    (k : (10 ≤ v3 →
        Rn xs xl e mm_goesBy 46 [some (.inr (.inr 182)), some (.inl v1), some (.inl v2), some (.inl 0), none, none, none, none] [] h Q) ∧
      (v3 < 10 →
        (v3 ≠ (rd h 188 (4 * v1 + 118)) →
          (0 ≤ v3 ∧ v3 < 10) ∧
          Rn xs xl e mm_goesBy 9 [some (.inr (.inr 182)), some (.inl v1), some (.inl v2), some (.inl (v3 + 1)), none, none, none, none] [] (wr h 210 v3 1000000) Q) ∧
        (v3 = (rd h 188 (4 * v1 + 118)) →
          (0 ≤ v3 ∧ v3 < 10) ∧
          Rn xs xl e mm_goesBy 9 [some (.inr (.inr 182)), some (.inl v1), some (.inl v2), some (.inl (v3 + 1)), none, none, none, none] [] (wr h 210 v3 0) Q))) :
    Rn xs xl e mm_goesBy 9 [some (.inr (.inr 182)), some (.inl v1), some (.inl v2), some (.inl v3), none, none, none, none] [] h Q := by
  refine R_ld (v := .inl v3) dd_goesBy_9 rfl rfl rfl rfl ?_
  refine R_bi dd_goesBy_10 (by decide) rfl ?_
  refine R_icmp dd_goesBy_12 rfl rfl (fun (c3 : 10 ≤ v3) => ?_) (fun (c3 : v3 < 10) => ?_)
  · replace k := k.1 c3
    refine R_ic dd_goesBy_44 (by decide) rfl ?_
    refine R_st (ls' := [some (.inr (.inr 182)), some (.inl v1), some (.inl v2), some (.inl 0), none, none, none, none]) dd_goesBy_45 rfl rfl rfl (Nat.le_of_ble_eq_true rfl) rfl rfl ?_
    exact k
  · replace k := k.2 c3
    refine R_ld (v := .inr (.inr 182)) dd_goesBy_15 rfl rfl rfl rfl ?_
    refine R_gf (v := .inr (.inr 210)) dd_goesBy_16 fd_12_168 io_182 (congrArg (fun z : Int => (Sum.inr (Sum.inr z) : LV)) (rf_182_49 hF)) rfl ?_
    refine R_ld (v := .inl v3) dd_goesBy_19 rfl rfl rfl rfl ?_
    refine R_ld (v := .inl v3) dd_goesBy_20 rfl rfl rfl rfl ?_
    refine R_ld (v := .inr (.inr 182)) dd_goesBy_21 rfl rfl rfl rfl ?_
    refine R_ld (v := .inl v1) dd_goesBy_22 rfl rfl rfl rfl ?_
    refine R_ic dd_goesBy_23 (by decide) rfl ?_
    refine R_call (as := [.inr (.inr 182), .inl v1, .inl 2]) (rest := [.inl v3, .inl v3, .inr (.inr 210)]) (M' := mm_personOf) (ls0 := [some (.inr (.inr 182)), some (.inl v1), some (.inl 2)]) dd_goesBy_24 rfl rfl (cw_v cw_12_325 io_182 rfl rfl (Nat.le_of_ble_eq_true rfl) (Nat.le_of_ble_eq_true rfl)) mt_personOf rfl (c := e - 1) (by omega) rfl ?_
    refine R_ld (v := .inr (.inr 182)) dd_personOf_0 rfl rfl rfl rfl ?_
    refine R_gf (v := .inr (.inr 188)) dd_personOf_1 fd_12_95 io_182 (congrArg (fun z : Int => (Sum.inr (Sum.inr z) : LV)) (rf_182_10 hF)) rfl ?_
    refine R_bi dd_personOf_4 (by decide) rfl ?_
    refine R_ic dd_personOf_6 (by decide) rfl ?_
    refine R_ld (v := .inl v1) dd_personOf_7 rfl rfl rfl rfl ?_
    refine R_imul (c := 4 * v1) dd_personOf_8 (by omega) (by omega) rfl ?_
    refine R_iadd (c := 4 * v1 + 116) dd_personOf_9 (by omega) (by omega) rfl ?_
    refine R_ld (v := .inl 2) dd_personOf_10 rfl rfl rfl rfl ?_
    refine R_iadd (c := 4 * v1 + 118) dd_personOf_11 (by omega) (by omega) rfl ?_
    refine R_iald (v := (rd h 188 (4 * v1 + 118))) (n := 300) dd_personOf_12 ia_188 la_188 (by omega) (rfl) rfl ?_
    refine R_iret dd_personOf_13 rfl ?_
    change Rn xs xl e mm_goesBy 27 [some (.inr (.inr 182)), some (.inl v1), some (.inl v2), some (.inl v3), none, none, none, none] [.inl (rd h 188 (4 * v1 + 118)), .inl v3, .inl v3, .inr (.inr 210)] h _
    refine R_icmp dd_goesBy_27 rfl rfl (fun (c4 : v3 ≠ (rd h 188 (4 * v1 + 118))) => ?_) (fun (c4 : v3 = (rd h 188 (4 * v1 + 118))) => ?_)
    · replace k := k.1 c4
      refine R_C (v := .inl (1000000)) dd_goesBy_34 rfl rfl (by decide +kernel) rfl ?_
      obtain ⟨s1, k⟩ := k
      refine R_iast (n := 10) dd_goesBy_37 ia_210 la_210 s1 rfl ?_
      refine R_inc (y := v3 + 1) (ls' := [some (.inr (.inr 182)), some (.inl v1), some (.inl v2), some (.inl (v3 + 1)), none, none, none, none]) dd_goesBy_38 rfl (by decide) (by omega) (by omega) rfl rfl ?_
      refine R_goto dd_goesBy_41 rfl ?_
      exact k
    · replace k := k.2 c4
      refine R_ic dd_goesBy_30 (by decide) rfl ?_
      refine R_goto dd_goesBy_31 rfl ?_
      obtain ⟨s2, k⟩ := k
      refine R_iast (n := 10) dd_goesBy_37 ia_210 la_210 s2 rfl ?_
      refine R_inc (y := v3 + 1) (ls' := [some (.inr (.inr 182)), some (.inl v1), some (.inl v2), some (.inl (v3 + 1)), none, none, none, none]) dd_goesBy_38 rfl (by decide) (by omega) (by omega) rfl rfl ?_
      refine R_goto dd_goesBy_41 rfl ?_
      exact k
theorem B_goesBy_46 {xs : Nat → Int} {xl e : Nat} {h : LH} {Q : Option LV → LH → Prop} {v1 v2 v3 : Int} {o4 : Option LV} {o5 : Option LV} {o6 : Option LV} {o7 : Option LV} (hF : RF h) (r_v1 : 0 ≤ v1 ∧ v1 ≤ 5) (r_v2 : 0 ≤ v2 ∧ v2 ≤ 3) (r_v3 : 0 ≤ v3 ∧ v3 ≤ 10)
    (k : (10 ≤ v3 →
        Rn xs xl e mm_goesBy 187 [some (.inr (.inr 182)), some (.inl v1), some (.inl v2), some (.inl 0), some (.inl (rd h 198 (v1 + 2))), o5, o6, o7] [] h Q) ∧
      (v3 < 10 →
        Rn xs xl e mm_goesBy 55 [some (.inr (.inr 182)), some (.inl v1), some (.inl v2), some (.inl v3), some (.inl 0), o5, o6, o7] [] h Q)) :
    Rn xs xl e mm_goesBy 46 [some (.inr (.inr 182)), some (.inl v1), some (.inl v2), some (.inl v3), o4, o5, o6, o7] [] h Q := by
  refine R_ld (v := .inl v3) dd_goesBy_46 rfl rfl rfl rfl ?_
  refine R_bi dd_goesBy_47 (by decide) rfl ?_
  refine R_icmp dd_goesBy_49 rfl rfl (fun (c1 : 10 ≤ v3) => ?_) (fun (c1 : v3 < 10) => ?_)
  · replace k := k.1 c1
    refine R_ic dd_goesBy_175 (by decide) rfl ?_
    refine R_st (ls' := [some (.inr (.inr 182)), some (.inl v1), some (.inl v2), some (.inl 0), o4, o5, o6, o7]) dd_goesBy_176 rfl rfl rfl (Nat.le_of_ble_eq_true rfl) rfl rfl ?_
    refine R_ld (v := .inr (.inr 182)) dd_goesBy_177 rfl rfl rfl rfl ?_
    refine R_gf (v := .inr (.inr 198)) dd_goesBy_178 fd_12_125 io_182 (congrArg (fun z : Int => (Sum.inr (Sum.inr z) : LV)) (rf_182_24 hF)) rfl ?_
    refine R_ic dd_goesBy_181 (by decide) rfl ?_
    refine R_ld (v := .inl v1) dd_goesBy_182 rfl rfl rfl rfl ?_
    refine R_iadd (c := v1 + 2) dd_goesBy_183 (by omega) (by omega) rfl ?_
    refine R_iald (v := (rd h 198 (v1 + 2))) (n := 1610) dd_goesBy_184 ia_198 la_198 (by omega) (rfl) rfl ?_
    refine R_st (ls' := [some (.inr (.inr 182)), some (.inl v1), some (.inl v2), some (.inl 0), some (.inl (rd h 198 (v1 + 2))), o5, o6, o7]) dd_goesBy_185 rfl rfl rfl (Nat.le_of_ble_eq_true rfl) rfl rfl ?_
    exact k
  · replace k := k.2 c1
    refine R_ic dd_goesBy_52 (by decide) rfl ?_
    refine R_st (ls' := [some (.inr (.inr 182)), some (.inl v1), some (.inl v2), some (.inl v3), some (.inl 0), o5, o6, o7]) dd_goesBy_53 rfl rfl rfl (Nat.le_of_ble_eq_true rfl) rfl rfl ?_
    exact k
theorem B_goesBy_55 {xs : Nat → Int} {xl e : Nat} {h : LH} {Q : Option LV → LH → Prop} {v1 v2 v3 v4 : Int} {o5 : Option LV} {o6 : Option LV} {o7 : Option LV} (hF : RF h) (r_v1 : 0 ≤ v1 ∧ v1 ≤ 5) (r_v2 : 0 ≤ v2 ∧ v2 ≤ 3) (r_v3 : 0 ≤ v3 ∧ v3 ≤ 9) (r_v4 : 0 ≤ v4 ∧ v4 ≤ 10) (he : 1 ≤ e)
    (k : ((rd h 188 0) ≤ v4 →
        Rn xs xl e mm_goesBy 46 [some (.inr (.inr 182)), some (.inl v1), some (.inl v2), some (.inl (v3 + 1)), some (.inl v4), o5, o6, o7] [] h Q) ∧
      (v4 < (rd h 188 0) →
        Rn xs xl e mm_goesBy 67 [some (.inr (.inr 182)), some (.inl v1), some (.inl v2), some (.inl v3), some (.inl v4), some (.inl 0), o6, o7] [] h Q)) :
    Rn xs xl e mm_goesBy 55 [some (.inr (.inr 182)), some (.inl v1), some (.inl v2), some (.inl v3), some (.inl v4), o5, o6, o7] [] h Q := by
  refine R_ld (v := .inl v4) dd_goesBy_55 rfl rfl rfl rfl ?_
  refine R_ld (v := .inr (.inr 182)) dd_goesBy_57 rfl rfl rfl rfl ?_
  refine R_call (as := [.inr (.inr 182)]) (rest := [.inl v4]) (M' := mm_rooms) (ls0 := [some (.inr (.inr 182))]) dd_goesBy_58 rfl rfl (cw_v cw_12_332 io_182 rfl rfl (Nat.le_of_ble_eq_true rfl) (Nat.le_of_ble_eq_true rfl)) mt_rooms rfl (c := e - 1) (by omega) rfl ?_
  refine R_ld (v := .inr (.inr 182)) dd_rooms_0 rfl rfl rfl rfl ?_
  refine R_gf (v := .inr (.inr 188)) dd_rooms_1 fd_12_95 io_182 (congrArg (fun z : Int => (Sum.inr (Sum.inr z) : LV)) (rf_182_10 hF)) rfl ?_
  refine R_ic dd_rooms_4 (by decide) rfl ?_
  refine R_iald (v := (rd h 188 0)) (n := 300) dd_rooms_5 ia_188 la_188 (by decide) (rfl) rfl ?_
  refine R_iret dd_rooms_6 rfl ?_
  change Rn xs xl e mm_goesBy 61 [some (.inr (.inr 182)), some (.inl v1), some (.inl v2), some (.inl v3), some (.inl v4), o5, o6, o7] [.inl (rd h 188 0), .inl v4] h _
  refine R_icmp dd_goesBy_61 rfl rfl (fun (c1 : (rd h 188 0) ≤ v4) => ?_) (fun (c1 : v4 < (rd h 188 0)) => ?_)
  · replace k := k.1 c1
    refine R_inc (y := v3 + 1) (ls' := [some (.inr (.inr 182)), some (.inl v1), some (.inl v2), some (.inl (v3 + 1)), some (.inl v4), o5, o6, o7]) dd_goesBy_169 rfl (by decide) (by omega) (by omega) rfl rfl ?_
    refine R_goto dd_goesBy_172 rfl ?_
    exact k
  · replace k := k.2 c1
    refine R_ic dd_goesBy_64 (by decide) rfl ?_
    refine R_st (ls' := [some (.inr (.inr 182)), some (.inl v1), some (.inl v2), some (.inl v3), some (.inl v4), some (.inl 0), o6, o7]) dd_goesBy_65 rfl rfl rfl (Nat.le_of_ble_eq_true rfl) rfl rfl ?_
    exact k
theorem B_goesBy_67 {xs : Nat → Int} {xl e : Nat} {h : LH} {Q : Option LV → LH → Prop} {v1 v2 v3 v4 v5 : Int} {o6 : Option LV} {o7 : Option LV} (hF : RF h) (r_v1 : 0 ≤ v1 ∧ v1 ≤ 5) (r_v2 : 0 ≤ v2 ∧ v2 ≤ 3) (r_v3 : 0 ≤ v3 ∧ v3 ≤ 9) (r_v4 : 0 ≤ v4 ∧ v4 ≤ 9) (r_v5 : 0 ≤ v5 ∧ v5 ≤ 14) (he : 1 ≤ e)
    (k : ((rd h 188 1) ≤ v5 →
        Rn xs xl e mm_goesBy 55 [some (.inr (.inr 182)), some (.inl v1), some (.inl v2), some (.inl v3), some (.inl (v4 + 1)), some (.inl v5), o6, o7] [] h Q) ∧
      (v5 < (rd h 188 1) →
        (∃ c, c < e ∧ Rn xs xl c mm_leadsNow 0 [some (.inr (.inr 182)), some (.inl 0), some (.inl v5), some (.inl v2), some (.inl v4), some (.inl (rd h 198 0))] [] h (fun r h' => Rn xs xl e mm_goesBy 92 [some (.inr (.inr 182)), some (.inl v1), some (.inl v2), some (.inl v3), some (.inl v4), some (.inl v5), o6, o7] (r.toList ++ []) h' Q)))) :
    Rn xs xl e mm_goesBy 67 [some (.inr (.inr 182)), some (.inl v1), some (.inl v2), some (.inl v3), some (.inl v4), some (.inl v5), o6, o7] [] h Q := by
  refine R_ld (v := .inl v5) dd_goesBy_67 rfl rfl rfl rfl ?_
  refine R_ld (v := .inr (.inr 182)) dd_goesBy_69 rfl rfl rfl rfl ?_
  refine R_call (as := [.inr (.inr 182)]) (rest := [.inl v5]) (M' := mm_doors) (ls0 := [some (.inr (.inr 182))]) dd_goesBy_70 rfl rfl (cw_v cw_12_335 io_182 rfl rfl (Nat.le_of_ble_eq_true rfl) (Nat.le_of_ble_eq_true rfl)) mt_doors rfl (c := e - 1) (by omega) rfl ?_
  refine R_ld (v := .inr (.inr 182)) dd_doors_0 rfl rfl rfl rfl ?_
  refine R_gf (v := .inr (.inr 188)) dd_doors_1 fd_12_95 io_182 (congrArg (fun z : Int => (Sum.inr (Sum.inr z) : LV)) (rf_182_10 hF)) rfl ?_
  refine R_ic dd_doors_4 (by decide) rfl ?_
  refine R_iald (v := (rd h 188 1)) (n := 300) dd_doors_5 ia_188 la_188 (by decide) (rfl) rfl ?_
  refine R_iret dd_doors_6 rfl ?_
  change Rn xs xl e mm_goesBy 73 [some (.inr (.inr 182)), some (.inl v1), some (.inl v2), some (.inl v3), some (.inl v4), some (.inl v5), o6, o7] [.inl (rd h 188 1), .inl v5] h _
  refine R_icmp dd_goesBy_73 rfl rfl (fun (c2 : (rd h 188 1) ≤ v5) => ?_) (fun (c2 : v5 < (rd h 188 1)) => ?_)
  · replace k := k.1 c2
    refine R_inc (y := v4 + 1) (ls' := [some (.inr (.inr 182)), some (.inl v1), some (.inl v2), some (.inl v3), some (.inl (v4 + 1)), some (.inl v5), o6, o7]) dd_goesBy_163 rfl (by decide) (by omega) (by omega) rfl rfl ?_
    refine R_goto dd_goesBy_166 rfl ?_
    exact k
  · replace k := k.2 c2
    refine R_ld (v := .inr (.inr 182)) dd_goesBy_76 rfl rfl rfl rfl ?_
    refine R_ic dd_goesBy_77 (by decide) rfl ?_
    refine R_ld (v := .inl v5) dd_goesBy_78 rfl rfl rfl rfl ?_
    refine R_ld (v := .inl v2) dd_goesBy_80 rfl rfl rfl rfl ?_
    refine R_ld (v := .inl v4) dd_goesBy_81 rfl rfl rfl rfl ?_
    refine R_ld (v := .inr (.inr 182)) dd_goesBy_83 rfl rfl rfl rfl ?_
    refine R_gf (v := .inr (.inr 198)) dd_goesBy_84 fd_12_125 io_182 (congrArg (fun z : Int => (Sum.inr (Sum.inr z) : LV)) (rf_182_24 hF)) rfl ?_
    refine R_ic dd_goesBy_87 (by decide) rfl ?_
    refine R_iald (v := (rd h 198 0)) (n := 1610) dd_goesBy_88 ia_198 la_198 (by decide) (rfl) rfl ?_
    obtain ⟨c, hc, k⟩ := k
    exact R_call (as := [.inr (.inr 182), .inl 0, .inl v5, .inl v2, .inl v4, .inl (rd h 198 0)]) (rest := []) (M' := mm_leadsNow) (ls0 := [some (.inr (.inr 182)), some (.inl 0), some (.inl v5), some (.inl v2), some (.inl v4), some (.inl (rd h 198 0))]) dd_goesBy_89 rfl rfl (cw_v cw_12_373 io_182 rfl rfl (Nat.le_of_ble_eq_true rfl) (Nat.le_of_ble_eq_true rfl)) mt_leadsNow rfl hc rfl k
theorem B_goesBy_92 {xs : Nat → Int} {xl e : Nat} {h : LH} {Q : Option LV → LH → Prop} {v1 v2 v3 v4 v5 w0 : Int} {o6 : Option LV} {o7 : Option LV} (hF : RF h) (r_v1 : 0 ≤ v1 ∧ v1 ≤ 5) (r_v2 : 0 ≤ v2 ∧ v2 ≤ 3) (r_v3 : 0 ≤ v3 ∧ v3 ≤ 9) (r_v4 : 0 ≤ v4 ∧ v4 ≤ 9) (r_v5 : 0 ≤ v5 ∧ v5 ≤ 13) (r_w0 : -1 ≤ w0 ∧ w0 ≤ 9) (he : 2 ≤ e)
    (k : (0 ≤ w0 →
        (0 ≤ w0 ∧ w0 < 10) ∧
        (v5 ≠ (rd h 182 28) →
          (v5 ≠ (rd h 182 29) →
            (-2147483648 ≤ 100 * (rd h 188 (8 * v5 + 11)) ∧ 100 * (rd h 188 (8 * v5 + 11)) ≤ 2147483647) ∧
            (-2147483648 ≤ (rd h 210 w0) + 100 * (rd h 188 (8 * v5 + 11)) ∧ (rd h 210 w0) + 100 * (rd h 188 (8 * v5 + 11)) ≤ 2147483647) ∧
            (-2147483648 ≤ (rd h 210 w0) + 100 * (rd h 188 (8 * v5 + 11)) + 1 ∧ (rd h 210 w0) + 100 * (rd h 188 (8 * v5 + 11)) + 1 ≤ 2147483647) ∧
            ((rd h 210 v4) ≤ ((rd h 210 w0) + 100 * (rd h 188 (8 * v5 + 11)) + 1) →
              Rn xs xl e mm_goesBy 67 [some (.inr (.inr 182)), some (.inl v1), some (.inl v2), some (.inl v3), some (.inl v4), some (.inl (v5 + 1)), some (.inl w0), some (.inl ((rd h 210 w0) + 100 * (rd h 188 (8 * v5 + 11)) + 1))] [] (wr h 210 v4 (rd h 210 v4)) Q) ∧
            (((rd h 210 w0) + 100 * (rd h 188 (8 * v5 + 11)) + 1) < (rd h 210 v4) →
              Rn xs xl e mm_goesBy 67 [some (.inr (.inr 182)), some (.inl v1), some (.inl v2), some (.inl v3), some (.inl v4), some (.inl (v5 + 1)), some (.inl w0), some (.inl ((rd h 210 w0) + 100 * (rd h 188 (8 * v5 + 11)) + 1))] [] (wr h 210 v4 ((rd h 210 w0) + 100 * (rd h 188 (8 * v5 + 11)) + 1)) Q)) ∧
          (v5 = (rd h 182 29) →
            (-2147483648 ≤ 100 * (rd h 182 31) ∧ 100 * (rd h 182 31) ≤ 2147483647) ∧
            (-2147483648 ≤ (rd h 210 w0) + 100 * (rd h 182 31) ∧ (rd h 210 w0) + 100 * (rd h 182 31) ≤ 2147483647) ∧
            (-2147483648 ≤ (rd h 210 w0) + 100 * (rd h 182 31) + 1 ∧ (rd h 210 w0) + 100 * (rd h 182 31) + 1 ≤ 2147483647) ∧
            ((rd h 210 v4) ≤ ((rd h 210 w0) + 100 * (rd h 182 31) + 1) →
              Rn xs xl e mm_goesBy 67 [some (.inr (.inr 182)), some (.inl v1), some (.inl v2), some (.inl v3), some (.inl v4), some (.inl (v5 + 1)), some (.inl w0), some (.inl ((rd h 210 w0) + 100 * (rd h 182 31) + 1))] [] (wr h 210 v4 (rd h 210 v4)) Q) ∧
            (((rd h 210 w0) + 100 * (rd h 182 31) + 1) < (rd h 210 v4) →
              Rn xs xl e mm_goesBy 67 [some (.inr (.inr 182)), some (.inl v1), some (.inl v2), some (.inl v3), some (.inl v4), some (.inl (v5 + 1)), some (.inl w0), some (.inl ((rd h 210 w0) + 100 * (rd h 182 31) + 1))] [] (wr h 210 v4 ((rd h 210 w0) + 100 * (rd h 182 31) + 1)) Q))) ∧
        (v5 = (rd h 182 28) →
          (-2147483648 ≤ 100 * (rd h 182 30) ∧ 100 * (rd h 182 30) ≤ 2147483647) ∧
          (-2147483648 ≤ (rd h 210 w0) + 100 * (rd h 182 30) ∧ (rd h 210 w0) + 100 * (rd h 182 30) ≤ 2147483647) ∧
          (-2147483648 ≤ (rd h 210 w0) + 100 * (rd h 182 30) + 1 ∧ (rd h 210 w0) + 100 * (rd h 182 30) + 1 ≤ 2147483647) ∧
          ((rd h 210 v4) ≤ ((rd h 210 w0) + 100 * (rd h 182 30) + 1) →
            Rn xs xl e mm_goesBy 67 [some (.inr (.inr 182)), some (.inl v1), some (.inl v2), some (.inl v3), some (.inl v4), some (.inl (v5 + 1)), some (.inl w0), some (.inl ((rd h 210 w0) + 100 * (rd h 182 30) + 1))] [] (wr h 210 v4 (rd h 210 v4)) Q) ∧
          (((rd h 210 w0) + 100 * (rd h 182 30) + 1) < (rd h 210 v4) →
            Rn xs xl e mm_goesBy 67 [some (.inr (.inr 182)), some (.inl v1), some (.inl v2), some (.inl v3), some (.inl v4), some (.inl (v5 + 1)), some (.inl w0), some (.inl ((rd h 210 w0) + 100 * (rd h 182 30) + 1))] [] (wr h 210 v4 ((rd h 210 w0) + 100 * (rd h 182 30) + 1)) Q))) ∧
      (w0 < 0 →
        ((rd h 210 v4) ≤ 1000000 →
          Rn xs xl e mm_goesBy 67 [some (.inr (.inr 182)), some (.inl v1), some (.inl v2), some (.inl v3), some (.inl v4), some (.inl (v5 + 1)), some (.inl w0), some (.inl 1000000)] [] (wr h 210 v4 (rd h 210 v4)) Q) ∧
        (1000000 < (rd h 210 v4) →
          Rn xs xl e mm_goesBy 67 [some (.inr (.inr 182)), some (.inl v1), some (.inl v2), some (.inl v3), some (.inl v4), some (.inl (v5 + 1)), some (.inl w0), some (.inl 1000000)] [] (wr h 210 v4 1000000) Q))) :
    Rn xs xl e mm_goesBy 92 [some (.inr (.inr 182)), some (.inl v1), some (.inl v2), some (.inl v3), some (.inl v4), some (.inl v5), o6, o7] [.inl w0] h Q := by
  refine R_st (ls' := [some (.inr (.inr 182)), some (.inl v1), some (.inl v2), some (.inl v3), some (.inl v4), some (.inl v5), some (.inl w0), o7]) dd_goesBy_92 rfl rfl rfl (Nat.le_of_ble_eq_true rfl) rfl rfl ?_
  refine R_ld (v := .inl w0) dd_goesBy_94 rfl rfl rfl rfl ?_
  refine R_if dd_goesBy_96 rfl rfl (fun (c11 : 0 ≤ w0) => ?_) (fun (c11 : w0 < 0) => ?_)
  · replace k := k.1 c11
    refine R_ld (v := .inr (.inr 182)) dd_goesBy_105 rfl rfl rfl rfl ?_
    refine R_gf (v := .inr (.inr 210)) dd_goesBy_106 fd_12_168 io_182 (congrArg (fun z : Int => (Sum.inr (Sum.inr z) : LV)) (rf_182_49 hF)) rfl ?_
    refine R_ld (v := .inl w0) dd_goesBy_109 rfl rfl rfl rfl ?_
    obtain ⟨s1, k⟩ := k
    refine R_iald (v := (rd h 210 w0)) (n := 10) dd_goesBy_111 ia_210 la_210 s1 (rfl) rfl ?_
    refine R_bi dd_goesBy_112 (by decide) rfl ?_
    refine R_ld (v := .inr (.inr 182)) dd_goesBy_114 rfl rfl rfl rfl ?_
    refine R_ld (v := .inl v5) dd_goesBy_115 rfl rfl rfl rfl ?_
    refine R_call (as := [.inr (.inr 182), .inl v5]) (rest := [.inl 100, .inl (rd h 210 w0)]) (M' := mm_priceOf) (ls0 := [some (.inr (.inr 182)), some (.inl v5)]) dd_goesBy_117 rfl rfl (cw_v cw_12_354 io_182 rfl rfl (Nat.le_of_ble_eq_true rfl) (Nat.le_of_ble_eq_true rfl)) mt_priceOf rfl (c := e - 1) (by omega) rfl ?_
    refine R_ld (v := .inl v5) dd_priceOf_0 rfl rfl rfl rfl ?_
    refine R_ld (v := .inr (.inr 182)) dd_priceOf_1 rfl rfl rfl rfl ?_
    refine R_gf (v := .inl (rd h 182 28)) dd_priceOf_2 fd_12_135 io_182 (congrArg (fun z : Int => (Sum.inl z : LV)) (rfl)) rfl ?_
    refine R_icmp dd_priceOf_5 rfl rfl (fun (c12 : v5 ≠ (rd h 182 28)) => ?_) (fun (c12 : v5 = (rd h 182 28)) => ?_)
    · replace k := k.1 c12
      refine R_ld (v := .inl v5) dd_priceOf_15 rfl rfl rfl rfl ?_
      refine R_ld (v := .inr (.inr 182)) dd_priceOf_16 rfl rfl rfl rfl ?_
      refine R_gf (v := .inl (rd h 182 29)) dd_priceOf_17 fd_12_138 io_182 (congrArg (fun z : Int => (Sum.inl z : LV)) (rfl)) rfl ?_
      refine R_icmp dd_priceOf_20 rfl rfl (fun (c13 : v5 ≠ (rd h 182 29)) => ?_) (fun (c13 : v5 = (rd h 182 29)) => ?_)
      · replace k := k.1 c13
        refine R_ld (v := .inr (.inr 182)) dd_priceOf_30 rfl rfl rfl rfl ?_
        refine R_ld (v := .inl v5) dd_priceOf_31 rfl rfl rfl rfl ?_
        refine R_bi dd_priceOf_32 (by decide) rfl ?_
        refine R_call (as := [.inr (.inr 182), .inl v5, .inl 7]) (rest := []) (M' := mm_doorOf) (ls0 := [some (.inr (.inr 182)), some (.inl v5), some (.inl 7)]) dd_priceOf_34 rfl rfl (cw_v cw_12_347 io_182 rfl rfl (Nat.le_of_ble_eq_true rfl) (Nat.le_of_ble_eq_true rfl)) mt_doorOf rfl (c := e - 2) (by omega) rfl ?_
        refine R_ld (v := .inr (.inr 182)) dd_doorOf_0 rfl rfl rfl rfl ?_
        refine R_gf (v := .inr (.inr 188)) dd_doorOf_1 fd_12_95 io_182 (congrArg (fun z : Int => (Sum.inr (Sum.inr z) : LV)) (rf_182_10 hF)) rfl ?_
        refine R_ic dd_doorOf_4 (by decide) rfl ?_
        refine R_bi dd_doorOf_5 (by decide) rfl ?_
        refine R_ld (v := .inl v5) dd_doorOf_7 rfl rfl rfl rfl ?_
        refine R_imul (c := 8 * v5) dd_doorOf_8 (by omega) (by omega) rfl ?_
        refine R_iadd (c := 8 * v5 + 4) dd_doorOf_9 (by omega) (by omega) rfl ?_
        refine R_ld (v := .inl 7) dd_doorOf_10 rfl rfl rfl rfl ?_
        refine R_iadd (c := 8 * v5 + 11) dd_doorOf_11 (by omega) (by omega) rfl ?_
        refine R_iald (v := (rd h 188 (8 * v5 + 11))) (n := 300) dd_doorOf_12 ia_188 la_188 (by omega) (rfl) rfl ?_
        refine R_iret dd_doorOf_13 rfl ?_
        change Rn xs xl (e - 1) mm_priceOf 37 [some (.inr (.inr 182)), some (.inl v5)] [.inl (rd h 188 (8 * v5 + 11))] h _
        refine R_iret dd_priceOf_37 rfl ?_
        change Rn xs xl e mm_goesBy 120 [some (.inr (.inr 182)), some (.inl v1), some (.inl v2), some (.inl v3), some (.inl v4), some (.inl v5), some (.inl w0), o7] [.inl (rd h 188 (8 * v5 + 11)), .inl 100, .inl (rd h 210 w0)] h _
        obtain ⟨s2, k⟩ := k
        refine R_imul (c := 100 * (rd h 188 (8 * v5 + 11))) dd_goesBy_120 (by omega) s2 rfl ?_
        obtain ⟨s3, k⟩ := k
        refine R_iadd (c := (rd h 210 w0) + 100 * (rd h 188 (8 * v5 + 11))) dd_goesBy_121 (by omega) s3 rfl ?_
        refine R_ic dd_goesBy_122 (by decide) rfl ?_
        obtain ⟨s4, k⟩ := k
        refine R_iadd (c := (rd h 210 w0) + 100 * (rd h 188 (8 * v5 + 11)) + 1) dd_goesBy_123 (by omega) s4 rfl ?_
        refine R_st (ls' := [some (.inr (.inr 182)), some (.inl v1), some (.inl v2), some (.inl v3), some (.inl v4), some (.inl v5), some (.inl w0), some (.inl ((rd h 210 w0) + 100 * (rd h 188 (8 * v5 + 11)) + 1))]) dd_goesBy_124 rfl rfl rfl (Nat.le_of_ble_eq_true rfl) rfl rfl ?_
        refine R_ld (v := .inr (.inr 182)) dd_goesBy_126 rfl rfl rfl rfl ?_
        refine R_gf (v := .inr (.inr 210)) dd_goesBy_127 fd_12_168 io_182 (congrArg (fun z : Int => (Sum.inr (Sum.inr z) : LV)) (rf_182_49 hF)) rfl ?_
        refine R_ld (v := .inl v4) dd_goesBy_130 rfl rfl rfl rfl ?_
        refine R_ld (v := .inl ((rd h 210 w0) + 100 * (rd h 188 (8 * v5 + 11)) + 1)) dd_goesBy_132 rfl rfl rfl rfl ?_
        refine R_ld (v := .inr (.inr 182)) dd_goesBy_134 rfl rfl rfl rfl ?_
        refine R_gf (v := .inr (.inr 210)) dd_goesBy_135 fd_12_168 io_182 (congrArg (fun z : Int => (Sum.inr (Sum.inr z) : LV)) (rf_182_49 hF)) rfl ?_
        refine R_ld (v := .inl v4) dd_goesBy_138 rfl rfl rfl rfl ?_
        refine R_iald (v := (rd h 210 v4)) (n := 10) dd_goesBy_140 ia_210 la_210 (by omega) (rfl) rfl ?_
        refine R_icmp dd_goesBy_141 rfl rfl (fun (c14 : (rd h 210 v4) ≤ ((rd h 210 w0) + 100 * (rd h 188 (8 * v5 + 11)) + 1)) => ?_) (fun (c14 : ((rd h 210 w0) + 100 * (rd h 188 (8 * v5 + 11)) + 1) < (rd h 210 v4)) => ?_)
        · replace k := k.1 c14
          refine R_ld (v := .inr (.inr 182)) dd_goesBy_149 rfl rfl rfl rfl ?_
          refine R_gf (v := .inr (.inr 210)) dd_goesBy_150 fd_12_168 io_182 (congrArg (fun z : Int => (Sum.inr (Sum.inr z) : LV)) (rf_182_49 hF)) rfl ?_
          refine R_ld (v := .inl v4) dd_goesBy_153 rfl rfl rfl rfl ?_
          refine R_iald (v := (rd h 210 v4)) (n := 10) dd_goesBy_155 ia_210 la_210 (by omega) (rfl) rfl ?_
          refine R_iast (n := 10) dd_goesBy_156 ia_210 la_210 (by omega) rfl ?_
          refine R_inc (y := v5 + 1) (ls' := [some (.inr (.inr 182)), some (.inl v1), some (.inl v2), some (.inl v3), some (.inl v4), some (.inl (v5 + 1)), some (.inl w0), some (.inl ((rd h 210 w0) + 100 * (rd h 188 (8 * v5 + 11)) + 1))]) dd_goesBy_157 rfl (by decide) (by omega) (by omega) rfl rfl ?_
          refine R_goto dd_goesBy_160 rfl ?_
          exact k
        · replace k := k.2 c14
          refine R_ld (v := .inl ((rd h 210 w0) + 100 * (rd h 188 (8 * v5 + 11)) + 1)) dd_goesBy_144 rfl rfl rfl rfl ?_
          refine R_goto dd_goesBy_146 rfl ?_
          refine R_iast (n := 10) dd_goesBy_156 ia_210 la_210 (by omega) rfl ?_
          refine R_inc (y := v5 + 1) (ls' := [some (.inr (.inr 182)), some (.inl v1), some (.inl v2), some (.inl v3), some (.inl v4), some (.inl (v5 + 1)), some (.inl w0), some (.inl ((rd h 210 w0) + 100 * (rd h 188 (8 * v5 + 11)) + 1))]) dd_goesBy_157 rfl (by decide) (by omega) (by omega) rfl rfl ?_
          refine R_goto dd_goesBy_160 rfl ?_
          exact k
      · replace k := k.2 c13
        refine R_ld (v := .inr (.inr 182)) dd_priceOf_23 rfl rfl rfl rfl ?_
        refine R_gf (v := .inl (rd h 182 31)) dd_priceOf_24 fd_12_344 io_182 (congrArg (fun z : Int => (Sum.inl z : LV)) (rfl)) rfl ?_
        refine R_goto dd_priceOf_27 rfl ?_
        refine R_iret dd_priceOf_37 rfl ?_
        change Rn xs xl e mm_goesBy 120 [some (.inr (.inr 182)), some (.inl v1), some (.inl v2), some (.inl v3), some (.inl v4), some (.inl v5), some (.inl w0), o7] [.inl (rd h 182 31), .inl 100, .inl (rd h 210 w0)] h _
        obtain ⟨s5, k⟩ := k
        refine R_imul (c := 100 * (rd h 182 31)) dd_goesBy_120 (by omega) s5 rfl ?_
        obtain ⟨s6, k⟩ := k
        refine R_iadd (c := (rd h 210 w0) + 100 * (rd h 182 31)) dd_goesBy_121 (by omega) s6 rfl ?_
        refine R_ic dd_goesBy_122 (by decide) rfl ?_
        obtain ⟨s7, k⟩ := k
        refine R_iadd (c := (rd h 210 w0) + 100 * (rd h 182 31) + 1) dd_goesBy_123 (by omega) s7 rfl ?_
        refine R_st (ls' := [some (.inr (.inr 182)), some (.inl v1), some (.inl v2), some (.inl v3), some (.inl v4), some (.inl v5), some (.inl w0), some (.inl ((rd h 210 w0) + 100 * (rd h 182 31) + 1))]) dd_goesBy_124 rfl rfl rfl (Nat.le_of_ble_eq_true rfl) rfl rfl ?_
        refine R_ld (v := .inr (.inr 182)) dd_goesBy_126 rfl rfl rfl rfl ?_
        refine R_gf (v := .inr (.inr 210)) dd_goesBy_127 fd_12_168 io_182 (congrArg (fun z : Int => (Sum.inr (Sum.inr z) : LV)) (rf_182_49 hF)) rfl ?_
        refine R_ld (v := .inl v4) dd_goesBy_130 rfl rfl rfl rfl ?_
        refine R_ld (v := .inl ((rd h 210 w0) + 100 * (rd h 182 31) + 1)) dd_goesBy_132 rfl rfl rfl rfl ?_
        refine R_ld (v := .inr (.inr 182)) dd_goesBy_134 rfl rfl rfl rfl ?_
        refine R_gf (v := .inr (.inr 210)) dd_goesBy_135 fd_12_168 io_182 (congrArg (fun z : Int => (Sum.inr (Sum.inr z) : LV)) (rf_182_49 hF)) rfl ?_
        refine R_ld (v := .inl v4) dd_goesBy_138 rfl rfl rfl rfl ?_
        refine R_iald (v := (rd h 210 v4)) (n := 10) dd_goesBy_140 ia_210 la_210 (by omega) (rfl) rfl ?_
        refine R_icmp dd_goesBy_141 rfl rfl (fun (c15 : (rd h 210 v4) ≤ ((rd h 210 w0) + 100 * (rd h 182 31) + 1)) => ?_) (fun (c15 : ((rd h 210 w0) + 100 * (rd h 182 31) + 1) < (rd h 210 v4)) => ?_)
        · replace k := k.1 c15
          refine R_ld (v := .inr (.inr 182)) dd_goesBy_149 rfl rfl rfl rfl ?_
          refine R_gf (v := .inr (.inr 210)) dd_goesBy_150 fd_12_168 io_182 (congrArg (fun z : Int => (Sum.inr (Sum.inr z) : LV)) (rf_182_49 hF)) rfl ?_
          refine R_ld (v := .inl v4) dd_goesBy_153 rfl rfl rfl rfl ?_
          refine R_iald (v := (rd h 210 v4)) (n := 10) dd_goesBy_155 ia_210 la_210 (by omega) (rfl) rfl ?_
          refine R_iast (n := 10) dd_goesBy_156 ia_210 la_210 (by omega) rfl ?_
          refine R_inc (y := v5 + 1) (ls' := [some (.inr (.inr 182)), some (.inl v1), some (.inl v2), some (.inl v3), some (.inl v4), some (.inl (v5 + 1)), some (.inl w0), some (.inl ((rd h 210 w0) + 100 * (rd h 182 31) + 1))]) dd_goesBy_157 rfl (by decide) (by omega) (by omega) rfl rfl ?_
          refine R_goto dd_goesBy_160 rfl ?_
          exact k
        · replace k := k.2 c15
          refine R_ld (v := .inl ((rd h 210 w0) + 100 * (rd h 182 31) + 1)) dd_goesBy_144 rfl rfl rfl rfl ?_
          refine R_goto dd_goesBy_146 rfl ?_
          refine R_iast (n := 10) dd_goesBy_156 ia_210 la_210 (by omega) rfl ?_
          refine R_inc (y := v5 + 1) (ls' := [some (.inr (.inr 182)), some (.inl v1), some (.inl v2), some (.inl v3), some (.inl v4), some (.inl (v5 + 1)), some (.inl w0), some (.inl ((rd h 210 w0) + 100 * (rd h 182 31) + 1))]) dd_goesBy_157 rfl (by decide) (by omega) (by omega) rfl rfl ?_
          refine R_goto dd_goesBy_160 rfl ?_
          exact k
    · replace k := k.2 c12
      refine R_ld (v := .inr (.inr 182)) dd_priceOf_8 rfl rfl rfl rfl ?_
      refine R_gf (v := .inl (rd h 182 30)) dd_priceOf_9 fd_12_341 io_182 (congrArg (fun z : Int => (Sum.inl z : LV)) (rfl)) rfl ?_
      refine R_goto dd_priceOf_12 rfl ?_
      refine R_iret dd_priceOf_37 rfl ?_
      change Rn xs xl e mm_goesBy 120 [some (.inr (.inr 182)), some (.inl v1), some (.inl v2), some (.inl v3), some (.inl v4), some (.inl v5), some (.inl w0), o7] [.inl (rd h 182 30), .inl 100, .inl (rd h 210 w0)] h _
      obtain ⟨s8, k⟩ := k
      refine R_imul (c := 100 * (rd h 182 30)) dd_goesBy_120 (by omega) s8 rfl ?_
      obtain ⟨s9, k⟩ := k
      refine R_iadd (c := (rd h 210 w0) + 100 * (rd h 182 30)) dd_goesBy_121 (by omega) s9 rfl ?_
      refine R_ic dd_goesBy_122 (by decide) rfl ?_
      obtain ⟨s10, k⟩ := k
      refine R_iadd (c := (rd h 210 w0) + 100 * (rd h 182 30) + 1) dd_goesBy_123 (by omega) s10 rfl ?_
      refine R_st (ls' := [some (.inr (.inr 182)), some (.inl v1), some (.inl v2), some (.inl v3), some (.inl v4), some (.inl v5), some (.inl w0), some (.inl ((rd h 210 w0) + 100 * (rd h 182 30) + 1))]) dd_goesBy_124 rfl rfl rfl (Nat.le_of_ble_eq_true rfl) rfl rfl ?_
      refine R_ld (v := .inr (.inr 182)) dd_goesBy_126 rfl rfl rfl rfl ?_
      refine R_gf (v := .inr (.inr 210)) dd_goesBy_127 fd_12_168 io_182 (congrArg (fun z : Int => (Sum.inr (Sum.inr z) : LV)) (rf_182_49 hF)) rfl ?_
      refine R_ld (v := .inl v4) dd_goesBy_130 rfl rfl rfl rfl ?_
      refine R_ld (v := .inl ((rd h 210 w0) + 100 * (rd h 182 30) + 1)) dd_goesBy_132 rfl rfl rfl rfl ?_
      refine R_ld (v := .inr (.inr 182)) dd_goesBy_134 rfl rfl rfl rfl ?_
      refine R_gf (v := .inr (.inr 210)) dd_goesBy_135 fd_12_168 io_182 (congrArg (fun z : Int => (Sum.inr (Sum.inr z) : LV)) (rf_182_49 hF)) rfl ?_
      refine R_ld (v := .inl v4) dd_goesBy_138 rfl rfl rfl rfl ?_
      refine R_iald (v := (rd h 210 v4)) (n := 10) dd_goesBy_140 ia_210 la_210 (by omega) (rfl) rfl ?_
      refine R_icmp dd_goesBy_141 rfl rfl (fun (c16 : (rd h 210 v4) ≤ ((rd h 210 w0) + 100 * (rd h 182 30) + 1)) => ?_) (fun (c16 : ((rd h 210 w0) + 100 * (rd h 182 30) + 1) < (rd h 210 v4)) => ?_)
      · replace k := k.1 c16
        refine R_ld (v := .inr (.inr 182)) dd_goesBy_149 rfl rfl rfl rfl ?_
        refine R_gf (v := .inr (.inr 210)) dd_goesBy_150 fd_12_168 io_182 (congrArg (fun z : Int => (Sum.inr (Sum.inr z) : LV)) (rf_182_49 hF)) rfl ?_
        refine R_ld (v := .inl v4) dd_goesBy_153 rfl rfl rfl rfl ?_
        refine R_iald (v := (rd h 210 v4)) (n := 10) dd_goesBy_155 ia_210 la_210 (by omega) (rfl) rfl ?_
        refine R_iast (n := 10) dd_goesBy_156 ia_210 la_210 (by omega) rfl ?_
        refine R_inc (y := v5 + 1) (ls' := [some (.inr (.inr 182)), some (.inl v1), some (.inl v2), some (.inl v3), some (.inl v4), some (.inl (v5 + 1)), some (.inl w0), some (.inl ((rd h 210 w0) + 100 * (rd h 182 30) + 1))]) dd_goesBy_157 rfl (by decide) (by omega) (by omega) rfl rfl ?_
        refine R_goto dd_goesBy_160 rfl ?_
        exact k
      · replace k := k.2 c16
        refine R_ld (v := .inl ((rd h 210 w0) + 100 * (rd h 182 30) + 1)) dd_goesBy_144 rfl rfl rfl rfl ?_
        refine R_goto dd_goesBy_146 rfl ?_
        refine R_iast (n := 10) dd_goesBy_156 ia_210 la_210 (by omega) rfl ?_
        refine R_inc (y := v5 + 1) (ls' := [some (.inr (.inr 182)), some (.inl v1), some (.inl v2), some (.inl v3), some (.inl v4), some (.inl (v5 + 1)), some (.inl w0), some (.inl ((rd h 210 w0) + 100 * (rd h 182 30) + 1))]) dd_goesBy_157 rfl (by decide) (by omega) (by omega) rfl rfl ?_
        refine R_goto dd_goesBy_160 rfl ?_
        exact k
  · replace k := k.2 c11
    refine R_C (v := .inl (1000000)) dd_goesBy_99 rfl rfl (by decide +kernel) rfl ?_
    refine R_goto dd_goesBy_102 rfl ?_
    refine R_st (ls' := [some (.inr (.inr 182)), some (.inl v1), some (.inl v2), some (.inl v3), some (.inl v4), some (.inl v5), some (.inl w0), some (.inl 1000000)]) dd_goesBy_124 rfl rfl rfl (Nat.le_of_ble_eq_true rfl) rfl rfl ?_
    refine R_ld (v := .inr (.inr 182)) dd_goesBy_126 rfl rfl rfl rfl ?_
    refine R_gf (v := .inr (.inr 210)) dd_goesBy_127 fd_12_168 io_182 (congrArg (fun z : Int => (Sum.inr (Sum.inr z) : LV)) (rf_182_49 hF)) rfl ?_
    refine R_ld (v := .inl v4) dd_goesBy_130 rfl rfl rfl rfl ?_
    refine R_ld (v := .inl 1000000) dd_goesBy_132 rfl rfl rfl rfl ?_
    refine R_ld (v := .inr (.inr 182)) dd_goesBy_134 rfl rfl rfl rfl ?_
    refine R_gf (v := .inr (.inr 210)) dd_goesBy_135 fd_12_168 io_182 (congrArg (fun z : Int => (Sum.inr (Sum.inr z) : LV)) (rf_182_49 hF)) rfl ?_
    refine R_ld (v := .inl v4) dd_goesBy_138 rfl rfl rfl rfl ?_
    refine R_iald (v := (rd h 210 v4)) (n := 10) dd_goesBy_140 ia_210 la_210 (by omega) (rfl) rfl ?_
    refine R_icmp dd_goesBy_141 rfl rfl (fun (c17 : (rd h 210 v4) ≤ 1000000) => ?_) (fun (c17 : 1000000 < (rd h 210 v4)) => ?_)
    · replace k := k.1 c17
      refine R_ld (v := .inr (.inr 182)) dd_goesBy_149 rfl rfl rfl rfl ?_
      refine R_gf (v := .inr (.inr 210)) dd_goesBy_150 fd_12_168 io_182 (congrArg (fun z : Int => (Sum.inr (Sum.inr z) : LV)) (rf_182_49 hF)) rfl ?_
      refine R_ld (v := .inl v4) dd_goesBy_153 rfl rfl rfl rfl ?_
      refine R_iald (v := (rd h 210 v4)) (n := 10) dd_goesBy_155 ia_210 la_210 (by omega) (rfl) rfl ?_
      refine R_iast (n := 10) dd_goesBy_156 ia_210 la_210 (by omega) rfl ?_
      refine R_inc (y := v5 + 1) (ls' := [some (.inr (.inr 182)), some (.inl v1), some (.inl v2), some (.inl v3), some (.inl v4), some (.inl (v5 + 1)), some (.inl w0), some (.inl 1000000)]) dd_goesBy_157 rfl (by decide) (by omega) (by omega) rfl rfl ?_
      refine R_goto dd_goesBy_160 rfl ?_
      exact k
    · replace k := k.2 c17
      refine R_ld (v := .inl 1000000) dd_goesBy_144 rfl rfl rfl rfl ?_
      refine R_goto dd_goesBy_146 rfl ?_
      refine R_iast (n := 10) dd_goesBy_156 ia_210 la_210 (by omega) rfl ?_
      refine R_inc (y := v5 + 1) (ls' := [some (.inr (.inr 182)), some (.inl v1), some (.inl v2), some (.inl v3), some (.inl v4), some (.inl (v5 + 1)), some (.inl w0), some (.inl 1000000)]) dd_goesBy_157 rfl (by decide) (by omega) (by omega) rfl rfl ?_
      refine R_goto dd_goesBy_160 rfl ?_
      exact k
theorem B_goesBy_187 {xs : Nat → Int} {xl e : Nat} {h : LH} {Q : Option LV → LH → Prop} {v1 v2 v3 v4 : Int} {o5 : Option LV} {o6 : Option LV} {o7 : Option LV} (hF : RF h) (r_v1 : 0 ≤ v1 ∧ v1 ≤ 5) (r_v2 : 0 ≤ v2 ∧ v2 ≤ 3) (r_v4 : 0 ≤ v4 ∧ v4 ≤ 9)
    (k : ((rd h 210 v4) ≤ 0 →
        Q (some (.inl v3)) h) ∧
      (0 < (rd h 210 v4) →
        (1000000 ≤ (rd h 210 v4) →
          Q (some (.inl v3)) h) ∧
        ((rd h 210 v4) < 1000000 →
          Rn xs xl e mm_goesBy 216 [some (.inr (.inr 182)), some (.inl v1), some (.inl v2), some (.inl v3), some (.inl v4), some (.inl (-1)), some (.inl 0), o7] [] h Q))) :
    Rn xs xl e mm_goesBy 187 [some (.inr (.inr 182)), some (.inl v1), some (.inl v2), some (.inl v3), some (.inl v4), o5, o6, o7] [] h Q := by
  refine R_ld (v := .inr (.inr 182)) dd_goesBy_187 rfl rfl rfl rfl ?_
  refine R_gf (v := .inr (.inr 210)) dd_goesBy_188 fd_12_168 io_182 (congrArg (fun z : Int => (Sum.inr (Sum.inr z) : LV)) (rf_182_49 hF)) rfl ?_
  refine R_ld (v := .inl v4) dd_goesBy_191 rfl rfl rfl rfl ?_
  refine R_iald (v := (rd h 210 v4)) (n := 10) dd_goesBy_193 ia_210 la_210 (by omega) (rfl) rfl ?_
  refine R_if dd_goesBy_194 rfl rfl (fun (c1 : (rd h 210 v4) ≤ 0) => ?_) (fun (c1 : 0 < (rd h 210 v4)) => ?_)
  · replace k := k.1 c1
    refine R_ld (v := .inl v3) dd_goesBy_306 rfl rfl rfl rfl ?_
    exact R_iret dd_goesBy_307 rfl k
  · replace k := k.2 c1
    refine R_ld (v := .inr (.inr 182)) dd_goesBy_197 rfl rfl rfl rfl ?_
    refine R_gf (v := .inr (.inr 210)) dd_goesBy_198 fd_12_168 io_182 (congrArg (fun z : Int => (Sum.inr (Sum.inr z) : LV)) (rf_182_49 hF)) rfl ?_
    refine R_ld (v := .inl v4) dd_goesBy_201 rfl rfl rfl rfl ?_
    refine R_iald (v := (rd h 210 v4)) (n := 10) dd_goesBy_203 ia_210 la_210 (by omega) (rfl) rfl ?_
    refine R_C (v := .inl (1000000)) dd_goesBy_204 rfl rfl (by decide +kernel) rfl ?_
    refine R_icmp dd_goesBy_207 rfl rfl (fun (c2 : 1000000 ≤ (rd h 210 v4)) => ?_) (fun (c2 : (rd h 210 v4) < 1000000) => ?_)
    · replace k := k.1 c2
      refine R_ld (v := .inl v3) dd_goesBy_306 rfl rfl rfl rfl ?_
      exact R_iret dd_goesBy_307 rfl k
    · replace k := k.2 c2
      refine R_ic dd_goesBy_210 (by decide) rfl ?_
      refine R_st (ls' := [some (.inr (.inr 182)), some (.inl v1), some (.inl v2), some (.inl v3), some (.inl v4), some (.inl (-1)), o6, o7]) dd_goesBy_211 rfl rfl rfl (Nat.le_of_ble_eq_true rfl) rfl rfl ?_
      refine R_ic dd_goesBy_213 (by decide) rfl ?_
      refine R_st (ls' := [some (.inr (.inr 182)), some (.inl v1), some (.inl v2), some (.inl v3), some (.inl v4), some (.inl (-1)), some (.inl 0), o7]) dd_goesBy_214 rfl rfl rfl (Nat.le_of_ble_eq_true rfl) rfl rfl ?_
      exact k
theorem B_goesBy_216 {xs : Nat → Int} {xl e : Nat} {h : LH} {Q : Option LV → LH → Prop} {v1 v2 v3 v4 v5 v6 : Int} {o7 : Option LV} (hF : RF h) (r_v1 : 0 ≤ v1 ∧ v1 ≤ 5) (r_v2 : 0 ≤ v2 ∧ v2 ≤ 3) (r_v4 : 0 ≤ v4 ∧ v4 ≤ 9) (r_v6 : 0 ≤ v6 ∧ v6 ≤ 14) (he : 1 ≤ e)
    (k : ((rd h 188 1) ≤ v6 →
        Rn xs xl e mm_goesBy 187 [some (.inr (.inr 182)), some (.inl v1), some (.inl v2), some (.inl v3), some (.inl v5), some (.inl v5), some (.inl v6), o7] [] h Q) ∧
      (v6 < (rd h 188 1) →
        (0 ≤ v5 →
          Rn xs xl e mm_goesBy 187 [some (.inr (.inr 182)), some (.inl v1), some (.inl v2), some (.inl v3), some (.inl v5), some (.inl v5), some (.inl v6), o7] [] h Q) ∧
        (v5 < 0 →
          (∃ c, c < e ∧ Rn xs xl c mm_leadsNow 0 [some (.inr (.inr 182)), some (.inl 0), some (.inl v6), some (.inl v2), some (.inl v4), some (.inl (rd h 198 0))] [] h (fun r h' => Rn xs xl e mm_goesBy 246 [some (.inr (.inr 182)), some (.inl v1), some (.inl v2), some (.inl v3), some (.inl v4), some (.inl v5), some (.inl v6), o7] (r.toList ++ []) h' Q))))) :
    Rn xs xl e mm_goesBy 216 [some (.inr (.inr 182)), some (.inl v1), some (.inl v2), some (.inl v3), some (.inl v4), some (.inl v5), some (.inl v6), o7] [] h Q := by
  refine R_ld (v := .inl v6) dd_goesBy_216 rfl rfl rfl rfl ?_
  refine R_ld (v := .inr (.inr 182)) dd_goesBy_218 rfl rfl rfl rfl ?_
  refine R_call (as := [.inr (.inr 182)]) (rest := [.inl v6]) (M' := mm_doors) (ls0 := [some (.inr (.inr 182))]) dd_goesBy_219 rfl rfl (cw_v cw_12_335 io_182 rfl rfl (Nat.le_of_ble_eq_true rfl) (Nat.le_of_ble_eq_true rfl)) mt_doors rfl (c := e - 1) (by omega) rfl ?_
  refine R_ld (v := .inr (.inr 182)) dd_doors_0 rfl rfl rfl rfl ?_
  refine R_gf (v := .inr (.inr 188)) dd_doors_1 fd_12_95 io_182 (congrArg (fun z : Int => (Sum.inr (Sum.inr z) : LV)) (rf_182_10 hF)) rfl ?_
  refine R_ic dd_doors_4 (by decide) rfl ?_
  refine R_iald (v := (rd h 188 1)) (n := 300) dd_doors_5 ia_188 la_188 (by decide) (rfl) rfl ?_
  refine R_iret dd_doors_6 rfl ?_
  change Rn xs xl e mm_goesBy 222 [some (.inr (.inr 182)), some (.inl v1), some (.inl v2), some (.inl v3), some (.inl v4), some (.inl v5), some (.inl v6), o7] [.inl (rd h 188 1), .inl v6] h _
  refine R_icmp dd_goesBy_222 rfl rfl (fun (c2 : (rd h 188 1) ≤ v6) => ?_) (fun (c2 : v6 < (rd h 188 1)) => ?_)
  · replace k := k.1 c2
    refine R_ld (v := .inl v5) dd_goesBy_299 rfl rfl rfl rfl ?_
    refine R_st (ls' := [some (.inr (.inr 182)), some (.inl v1), some (.inl v2), some (.inl v3), some (.inl v5), some (.inl v5), some (.inl v6), o7]) dd_goesBy_301 rfl rfl rfl (Nat.le_of_ble_eq_true rfl) rfl rfl ?_
    refine R_goto dd_goesBy_303 rfl ?_
    exact k
  · replace k := k.2 c2
    refine R_ld (v := .inl v5) dd_goesBy_225 rfl rfl rfl rfl ?_
    refine R_if dd_goesBy_227 rfl rfl (fun (c3 : 0 ≤ v5) => ?_) (fun (c3 : v5 < 0) => ?_)
    · replace k := k.1 c3
      refine R_ld (v := .inl v5) dd_goesBy_299 rfl rfl rfl rfl ?_
      refine R_st (ls' := [some (.inr (.inr 182)), some (.inl v1), some (.inl v2), some (.inl v3), some (.inl v5), some (.inl v5), some (.inl v6), o7]) dd_goesBy_301 rfl rfl rfl (Nat.le_of_ble_eq_true rfl) rfl rfl ?_
      refine R_goto dd_goesBy_303 rfl ?_
      exact k
    · replace k := k.2 c3
      refine R_ld (v := .inr (.inr 182)) dd_goesBy_230 rfl rfl rfl rfl ?_
      refine R_ic dd_goesBy_231 (by decide) rfl ?_
      refine R_ld (v := .inl v6) dd_goesBy_232 rfl rfl rfl rfl ?_
      refine R_ld (v := .inl v2) dd_goesBy_234 rfl rfl rfl rfl ?_
      refine R_ld (v := .inl v4) dd_goesBy_235 rfl rfl rfl rfl ?_
      refine R_ld (v := .inr (.inr 182)) dd_goesBy_237 rfl rfl rfl rfl ?_
      refine R_gf (v := .inr (.inr 198)) dd_goesBy_238 fd_12_125 io_182 (congrArg (fun z : Int => (Sum.inr (Sum.inr z) : LV)) (rf_182_24 hF)) rfl ?_
      refine R_ic dd_goesBy_241 (by decide) rfl ?_
      refine R_iald (v := (rd h 198 0)) (n := 1610) dd_goesBy_242 ia_198 la_198 (by decide) (rfl) rfl ?_
      obtain ⟨c, hc, k⟩ := k
      exact R_call (as := [.inr (.inr 182), .inl 0, .inl v6, .inl v2, .inl v4, .inl (rd h 198 0)]) (rest := []) (M' := mm_leadsNow) (ls0 := [some (.inr (.inr 182)), some (.inl 0), some (.inl v6), some (.inl v2), some (.inl v4), some (.inl (rd h 198 0))]) dd_goesBy_243 rfl rfl (cw_v cw_12_373 io_182 rfl rfl (Nat.le_of_ble_eq_true rfl) (Nat.le_of_ble_eq_true rfl)) mt_leadsNow rfl hc rfl k
theorem B_goesBy_246 {xs : Nat → Int} {xl e : Nat} {h : LH} {Q : Option LV → LH → Prop} {v1 v2 v3 v4 v5 v6 w0 : Int} {o7 : Option LV} (hF : RF h) (r_v1 : 0 ≤ v1 ∧ v1 ≤ 5) (r_v2 : 0 ≤ v2 ∧ v2 ≤ 3) (r_v4 : 0 ≤ v4 ∧ v4 ≤ 9) (r_v6 : 0 ≤ v6 ∧ v6 ≤ 13) (r_w0 : -1 ≤ w0 ∧ w0 ≤ 9) (he : 2 ≤ e)
    (k : (w0 < 0 →
        Rn xs xl e mm_goesBy 216 [some (.inr (.inr 182)), some (.inl v1), some (.inl v2), some (.inl v3), some (.inl v4), some (.inl v5), some (.inl (v6 + 1)), some (.inl w0)] [] h Q) ∧
      (0 ≤ w0 →
        (0 ≤ w0 ∧ w0 < 10) ∧
        (v6 ≠ (rd h 182 28) →
          (v6 ≠ (rd h 182 29) →
            (-2147483648 ≤ 100 * (rd h 188 (8 * v6 + 11)) ∧ 100 * (rd h 188 (8 * v6 + 11)) ≤ 2147483647) ∧
            (-2147483648 ≤ (rd h 210 w0) + 100 * (rd h 188 (8 * v6 + 11)) ∧ (rd h 210 w0) + 100 * (rd h 188 (8 * v6 + 11)) ≤ 2147483647) ∧
            (-2147483648 ≤ (rd h 210 w0) + 100 * (rd h 188 (8 * v6 + 11)) + 1 ∧ (rd h 210 w0) + 100 * (rd h 188 (8 * v6 + 11)) + 1 ≤ 2147483647) ∧
            (((rd h 210 w0) + 100 * (rd h 188 (8 * v6 + 11)) + 1) ≠ (rd h 210 v4) →
              Rn xs xl e mm_goesBy 216 [some (.inr (.inr 182)), some (.inl v1), some (.inl v2), some (.inl v3), some (.inl v4), some (.inl v5), some (.inl (v6 + 1)), some (.inl w0)] [] h Q) ∧
            (((rd h 210 w0) + 100 * (rd h 188 (8 * v6 + 11)) + 1) = (rd h 210 v4) →
              Rn xs xl e mm_goesBy 216 [some (.inr (.inr 182)), some (.inl v1), some (.inl v2), some (.inl (zor v3 (zshl 1 v6))), some (.inl v4), some (.inl w0), some (.inl (v6 + 1)), some (.inl w0)] [] h Q)) ∧
          (v6 = (rd h 182 29) →
            (-2147483648 ≤ 100 * (rd h 182 31) ∧ 100 * (rd h 182 31) ≤ 2147483647) ∧
            (-2147483648 ≤ (rd h 210 w0) + 100 * (rd h 182 31) ∧ (rd h 210 w0) + 100 * (rd h 182 31) ≤ 2147483647) ∧
            (-2147483648 ≤ (rd h 210 w0) + 100 * (rd h 182 31) + 1 ∧ (rd h 210 w0) + 100 * (rd h 182 31) + 1 ≤ 2147483647) ∧
            (((rd h 210 w0) + 100 * (rd h 182 31) + 1) ≠ (rd h 210 v4) →
              Rn xs xl e mm_goesBy 216 [some (.inr (.inr 182)), some (.inl v1), some (.inl v2), some (.inl v3), some (.inl v4), some (.inl v5), some (.inl (v6 + 1)), some (.inl w0)] [] h Q) ∧
            (((rd h 210 w0) + 100 * (rd h 182 31) + 1) = (rd h 210 v4) →
              Rn xs xl e mm_goesBy 216 [some (.inr (.inr 182)), some (.inl v1), some (.inl v2), some (.inl (zor v3 (zshl 1 v6))), some (.inl v4), some (.inl w0), some (.inl (v6 + 1)), some (.inl w0)] [] h Q))) ∧
        (v6 = (rd h 182 28) →
          (-2147483648 ≤ 100 * (rd h 182 30) ∧ 100 * (rd h 182 30) ≤ 2147483647) ∧
          (-2147483648 ≤ (rd h 210 w0) + 100 * (rd h 182 30) ∧ (rd h 210 w0) + 100 * (rd h 182 30) ≤ 2147483647) ∧
          (-2147483648 ≤ (rd h 210 w0) + 100 * (rd h 182 30) + 1 ∧ (rd h 210 w0) + 100 * (rd h 182 30) + 1 ≤ 2147483647) ∧
          (((rd h 210 w0) + 100 * (rd h 182 30) + 1) ≠ (rd h 210 v4) →
            Rn xs xl e mm_goesBy 216 [some (.inr (.inr 182)), some (.inl v1), some (.inl v2), some (.inl v3), some (.inl v4), some (.inl v5), some (.inl (v6 + 1)), some (.inl w0)] [] h Q) ∧
          (((rd h 210 w0) + 100 * (rd h 182 30) + 1) = (rd h 210 v4) →
            Rn xs xl e mm_goesBy 216 [some (.inr (.inr 182)), some (.inl v1), some (.inl v2), some (.inl (zor v3 (zshl 1 v6))), some (.inl v4), some (.inl w0), some (.inl (v6 + 1)), some (.inl w0)] [] h Q)))) :
    Rn xs xl e mm_goesBy 246 [some (.inr (.inr 182)), some (.inl v1), some (.inl v2), some (.inl v3), some (.inl v4), some (.inl v5), some (.inl v6), o7] [.inl w0] h Q := by
  refine R_st (ls' := [some (.inr (.inr 182)), some (.inl v1), some (.inl v2), some (.inl v3), some (.inl v4), some (.inl v5), some (.inl v6), some (.inl w0)]) dd_goesBy_246 rfl rfl rfl (Nat.le_of_ble_eq_true rfl) rfl rfl ?_
  refine R_ld (v := .inl w0) dd_goesBy_248 rfl rfl rfl rfl ?_
  refine R_if dd_goesBy_250 rfl rfl (fun (c11 : w0 < 0) => ?_) (fun (c11 : 0 ≤ w0) => ?_)
  · replace k := k.1 c11
    refine R_inc (y := v6 + 1) (ls' := [some (.inr (.inr 182)), some (.inl v1), some (.inl v2), some (.inl v3), some (.inl v4), some (.inl v5), some (.inl (v6 + 1)), some (.inl w0)]) dd_goesBy_293 rfl (by decide) (by omega) (by omega) rfl rfl ?_
    refine R_goto dd_goesBy_296 rfl ?_
    exact k
  · replace k := k.2 c11
    refine R_ld (v := .inr (.inr 182)) dd_goesBy_253 rfl rfl rfl rfl ?_
    refine R_gf (v := .inr (.inr 210)) dd_goesBy_254 fd_12_168 io_182 (congrArg (fun z : Int => (Sum.inr (Sum.inr z) : LV)) (rf_182_49 hF)) rfl ?_
    refine R_ld (v := .inl w0) dd_goesBy_257 rfl rfl rfl rfl ?_
    obtain ⟨s1, k⟩ := k
    refine R_iald (v := (rd h 210 w0)) (n := 10) dd_goesBy_259 ia_210 la_210 s1 (rfl) rfl ?_
    refine R_bi dd_goesBy_260 (by decide) rfl ?_
    refine R_ld (v := .inr (.inr 182)) dd_goesBy_262 rfl rfl rfl rfl ?_
    refine R_ld (v := .inl v6) dd_goesBy_263 rfl rfl rfl rfl ?_
    refine R_call (as := [.inr (.inr 182), .inl v6]) (rest := [.inl 100, .inl (rd h 210 w0)]) (M' := mm_priceOf) (ls0 := [some (.inr (.inr 182)), some (.inl v6)]) dd_goesBy_265 rfl rfl (cw_v cw_12_354 io_182 rfl rfl (Nat.le_of_ble_eq_true rfl) (Nat.le_of_ble_eq_true rfl)) mt_priceOf rfl (c := e - 1) (by omega) rfl ?_
    refine R_ld (v := .inl v6) dd_priceOf_0 rfl rfl rfl rfl ?_
    refine R_ld (v := .inr (.inr 182)) dd_priceOf_1 rfl rfl rfl rfl ?_
    refine R_gf (v := .inl (rd h 182 28)) dd_priceOf_2 fd_12_135 io_182 (congrArg (fun z : Int => (Sum.inl z : LV)) (rfl)) rfl ?_
    refine R_icmp dd_priceOf_5 rfl rfl (fun (c12 : v6 ≠ (rd h 182 28)) => ?_) (fun (c12 : v6 = (rd h 182 28)) => ?_)
    · replace k := k.1 c12
      refine R_ld (v := .inl v6) dd_priceOf_15 rfl rfl rfl rfl ?_
      refine R_ld (v := .inr (.inr 182)) dd_priceOf_16 rfl rfl rfl rfl ?_
      refine R_gf (v := .inl (rd h 182 29)) dd_priceOf_17 fd_12_138 io_182 (congrArg (fun z : Int => (Sum.inl z : LV)) (rfl)) rfl ?_
      refine R_icmp dd_priceOf_20 rfl rfl (fun (c13 : v6 ≠ (rd h 182 29)) => ?_) (fun (c13 : v6 = (rd h 182 29)) => ?_)
      · replace k := k.1 c13
        refine R_ld (v := .inr (.inr 182)) dd_priceOf_30 rfl rfl rfl rfl ?_
        refine R_ld (v := .inl v6) dd_priceOf_31 rfl rfl rfl rfl ?_
        refine R_bi dd_priceOf_32 (by decide) rfl ?_
        refine R_call (as := [.inr (.inr 182), .inl v6, .inl 7]) (rest := []) (M' := mm_doorOf) (ls0 := [some (.inr (.inr 182)), some (.inl v6), some (.inl 7)]) dd_priceOf_34 rfl rfl (cw_v cw_12_347 io_182 rfl rfl (Nat.le_of_ble_eq_true rfl) (Nat.le_of_ble_eq_true rfl)) mt_doorOf rfl (c := e - 2) (by omega) rfl ?_
        refine R_ld (v := .inr (.inr 182)) dd_doorOf_0 rfl rfl rfl rfl ?_
        refine R_gf (v := .inr (.inr 188)) dd_doorOf_1 fd_12_95 io_182 (congrArg (fun z : Int => (Sum.inr (Sum.inr z) : LV)) (rf_182_10 hF)) rfl ?_
        refine R_ic dd_doorOf_4 (by decide) rfl ?_
        refine R_bi dd_doorOf_5 (by decide) rfl ?_
        refine R_ld (v := .inl v6) dd_doorOf_7 rfl rfl rfl rfl ?_
        refine R_imul (c := 8 * v6) dd_doorOf_8 (by omega) (by omega) rfl ?_
        refine R_iadd (c := 8 * v6 + 4) dd_doorOf_9 (by omega) (by omega) rfl ?_
        refine R_ld (v := .inl 7) dd_doorOf_10 rfl rfl rfl rfl ?_
        refine R_iadd (c := 8 * v6 + 11) dd_doorOf_11 (by omega) (by omega) rfl ?_
        refine R_iald (v := (rd h 188 (8 * v6 + 11))) (n := 300) dd_doorOf_12 ia_188 la_188 (by omega) (rfl) rfl ?_
        refine R_iret dd_doorOf_13 rfl ?_
        change Rn xs xl (e - 1) mm_priceOf 37 [some (.inr (.inr 182)), some (.inl v6)] [.inl (rd h 188 (8 * v6 + 11))] h _
        refine R_iret dd_priceOf_37 rfl ?_
        change Rn xs xl e mm_goesBy 268 [some (.inr (.inr 182)), some (.inl v1), some (.inl v2), some (.inl v3), some (.inl v4), some (.inl v5), some (.inl v6), some (.inl w0)] [.inl (rd h 188 (8 * v6 + 11)), .inl 100, .inl (rd h 210 w0)] h _
        obtain ⟨s2, k⟩ := k
        refine R_imul (c := 100 * (rd h 188 (8 * v6 + 11))) dd_goesBy_268 (by omega) s2 rfl ?_
        obtain ⟨s3, k⟩ := k
        refine R_iadd (c := (rd h 210 w0) + 100 * (rd h 188 (8 * v6 + 11))) dd_goesBy_269 (by omega) s3 rfl ?_
        refine R_ic dd_goesBy_270 (by decide) rfl ?_
        obtain ⟨s4, k⟩ := k
        refine R_iadd (c := (rd h 210 w0) + 100 * (rd h 188 (8 * v6 + 11)) + 1) dd_goesBy_271 (by omega) s4 rfl ?_
        refine R_ld (v := .inr (.inr 182)) dd_goesBy_272 rfl rfl rfl rfl ?_
        refine R_gf (v := .inr (.inr 210)) dd_goesBy_273 fd_12_168 io_182 (congrArg (fun z : Int => (Sum.inr (Sum.inr z) : LV)) (rf_182_49 hF)) rfl ?_
        refine R_ld (v := .inl v4) dd_goesBy_276 rfl rfl rfl rfl ?_
        refine R_iald (v := (rd h 210 v4)) (n := 10) dd_goesBy_278 ia_210 la_210 (by omega) (rfl) rfl ?_
        refine R_icmp dd_goesBy_279 rfl rfl (fun (c14 : ((rd h 210 w0) + 100 * (rd h 188 (8 * v6 + 11)) + 1) ≠ (rd h 210 v4)) => ?_) (fun (c14 : ((rd h 210 w0) + 100 * (rd h 188 (8 * v6 + 11)) + 1) = (rd h 210 v4)) => ?_)
        · replace k := k.1 c14
          refine R_inc (y := v6 + 1) (ls' := [some (.inr (.inr 182)), some (.inl v1), some (.inl v2), some (.inl v3), some (.inl v4), some (.inl v5), some (.inl (v6 + 1)), some (.inl w0)]) dd_goesBy_293 rfl (by decide) (by omega) (by omega) rfl rfl ?_
          refine R_goto dd_goesBy_296 rfl ?_
          exact k
        · replace k := k.2 c14
          refine R_ld (v := .inl w0) dd_goesBy_282 rfl rfl rfl rfl ?_
          refine R_st (ls' := [some (.inr (.inr 182)), some (.inl v1), some (.inl v2), some (.inl v3), some (.inl v4), some (.inl w0), some (.inl v6), some (.inl w0)]) dd_goesBy_284 rfl rfl rfl (Nat.le_of_ble_eq_true rfl) rfl rfl ?_
          refine R_ld (v := .inl v3) dd_goesBy_286 rfl rfl rfl rfl ?_
          refine R_ic dd_goesBy_287 (by decide) rfl ?_
          refine R_ld (v := .inl v6) dd_goesBy_288 rfl rfl rfl rfl ?_
          refine R_A dd_goesBy_290 rfl rfl rfl rfl ?_
          refine R_A dd_goesBy_291 rfl rfl rfl rfl ?_
          refine R_st (ls' := [some (.inr (.inr 182)), some (.inl v1), some (.inl v2), some (.inl (zor v3 (zshl 1 v6))), some (.inl v4), some (.inl w0), some (.inl v6), some (.inl w0)]) dd_goesBy_292 rfl rfl rfl (Nat.le_of_ble_eq_true rfl) rfl rfl ?_
          refine R_inc (y := v6 + 1) (ls' := [some (.inr (.inr 182)), some (.inl v1), some (.inl v2), some (.inl (zor v3 (zshl 1 v6))), some (.inl v4), some (.inl w0), some (.inl (v6 + 1)), some (.inl w0)]) dd_goesBy_293 rfl (by decide) (by omega) (by omega) rfl rfl ?_
          refine R_goto dd_goesBy_296 rfl ?_
          exact k
      · replace k := k.2 c13
        refine R_ld (v := .inr (.inr 182)) dd_priceOf_23 rfl rfl rfl rfl ?_
        refine R_gf (v := .inl (rd h 182 31)) dd_priceOf_24 fd_12_344 io_182 (congrArg (fun z : Int => (Sum.inl z : LV)) (rfl)) rfl ?_
        refine R_goto dd_priceOf_27 rfl ?_
        refine R_iret dd_priceOf_37 rfl ?_
        change Rn xs xl e mm_goesBy 268 [some (.inr (.inr 182)), some (.inl v1), some (.inl v2), some (.inl v3), some (.inl v4), some (.inl v5), some (.inl v6), some (.inl w0)] [.inl (rd h 182 31), .inl 100, .inl (rd h 210 w0)] h _
        obtain ⟨s5, k⟩ := k
        refine R_imul (c := 100 * (rd h 182 31)) dd_goesBy_268 (by omega) s5 rfl ?_
        obtain ⟨s6, k⟩ := k
        refine R_iadd (c := (rd h 210 w0) + 100 * (rd h 182 31)) dd_goesBy_269 (by omega) s6 rfl ?_
        refine R_ic dd_goesBy_270 (by decide) rfl ?_
        obtain ⟨s7, k⟩ := k
        refine R_iadd (c := (rd h 210 w0) + 100 * (rd h 182 31) + 1) dd_goesBy_271 (by omega) s7 rfl ?_
        refine R_ld (v := .inr (.inr 182)) dd_goesBy_272 rfl rfl rfl rfl ?_
        refine R_gf (v := .inr (.inr 210)) dd_goesBy_273 fd_12_168 io_182 (congrArg (fun z : Int => (Sum.inr (Sum.inr z) : LV)) (rf_182_49 hF)) rfl ?_
        refine R_ld (v := .inl v4) dd_goesBy_276 rfl rfl rfl rfl ?_
        refine R_iald (v := (rd h 210 v4)) (n := 10) dd_goesBy_278 ia_210 la_210 (by omega) (rfl) rfl ?_
        refine R_icmp dd_goesBy_279 rfl rfl (fun (c15 : ((rd h 210 w0) + 100 * (rd h 182 31) + 1) ≠ (rd h 210 v4)) => ?_) (fun (c15 : ((rd h 210 w0) + 100 * (rd h 182 31) + 1) = (rd h 210 v4)) => ?_)
        · replace k := k.1 c15
          refine R_inc (y := v6 + 1) (ls' := [some (.inr (.inr 182)), some (.inl v1), some (.inl v2), some (.inl v3), some (.inl v4), some (.inl v5), some (.inl (v6 + 1)), some (.inl w0)]) dd_goesBy_293 rfl (by decide) (by omega) (by omega) rfl rfl ?_
          refine R_goto dd_goesBy_296 rfl ?_
          exact k
        · replace k := k.2 c15
          refine R_ld (v := .inl w0) dd_goesBy_282 rfl rfl rfl rfl ?_
          refine R_st (ls' := [some (.inr (.inr 182)), some (.inl v1), some (.inl v2), some (.inl v3), some (.inl v4), some (.inl w0), some (.inl v6), some (.inl w0)]) dd_goesBy_284 rfl rfl rfl (Nat.le_of_ble_eq_true rfl) rfl rfl ?_
          refine R_ld (v := .inl v3) dd_goesBy_286 rfl rfl rfl rfl ?_
          refine R_ic dd_goesBy_287 (by decide) rfl ?_
          refine R_ld (v := .inl v6) dd_goesBy_288 rfl rfl rfl rfl ?_
          refine R_A dd_goesBy_290 rfl rfl rfl rfl ?_
          refine R_A dd_goesBy_291 rfl rfl rfl rfl ?_
          refine R_st (ls' := [some (.inr (.inr 182)), some (.inl v1), some (.inl v2), some (.inl (zor v3 (zshl 1 v6))), some (.inl v4), some (.inl w0), some (.inl v6), some (.inl w0)]) dd_goesBy_292 rfl rfl rfl (Nat.le_of_ble_eq_true rfl) rfl rfl ?_
          refine R_inc (y := v6 + 1) (ls' := [some (.inr (.inr 182)), some (.inl v1), some (.inl v2), some (.inl (zor v3 (zshl 1 v6))), some (.inl v4), some (.inl w0), some (.inl (v6 + 1)), some (.inl w0)]) dd_goesBy_293 rfl (by decide) (by omega) (by omega) rfl rfl ?_
          refine R_goto dd_goesBy_296 rfl ?_
          exact k
    · replace k := k.2 c12
      refine R_ld (v := .inr (.inr 182)) dd_priceOf_8 rfl rfl rfl rfl ?_
      refine R_gf (v := .inl (rd h 182 30)) dd_priceOf_9 fd_12_341 io_182 (congrArg (fun z : Int => (Sum.inl z : LV)) (rfl)) rfl ?_
      refine R_goto dd_priceOf_12 rfl ?_
      refine R_iret dd_priceOf_37 rfl ?_
      change Rn xs xl e mm_goesBy 268 [some (.inr (.inr 182)), some (.inl v1), some (.inl v2), some (.inl v3), some (.inl v4), some (.inl v5), some (.inl v6), some (.inl w0)] [.inl (rd h 182 30), .inl 100, .inl (rd h 210 w0)] h _
      obtain ⟨s8, k⟩ := k
      refine R_imul (c := 100 * (rd h 182 30)) dd_goesBy_268 (by omega) s8 rfl ?_
      obtain ⟨s9, k⟩ := k
      refine R_iadd (c := (rd h 210 w0) + 100 * (rd h 182 30)) dd_goesBy_269 (by omega) s9 rfl ?_
      refine R_ic dd_goesBy_270 (by decide) rfl ?_
      obtain ⟨s10, k⟩ := k
      refine R_iadd (c := (rd h 210 w0) + 100 * (rd h 182 30) + 1) dd_goesBy_271 (by omega) s10 rfl ?_
      refine R_ld (v := .inr (.inr 182)) dd_goesBy_272 rfl rfl rfl rfl ?_
      refine R_gf (v := .inr (.inr 210)) dd_goesBy_273 fd_12_168 io_182 (congrArg (fun z : Int => (Sum.inr (Sum.inr z) : LV)) (rf_182_49 hF)) rfl ?_
      refine R_ld (v := .inl v4) dd_goesBy_276 rfl rfl rfl rfl ?_
      refine R_iald (v := (rd h 210 v4)) (n := 10) dd_goesBy_278 ia_210 la_210 (by omega) (rfl) rfl ?_
      refine R_icmp dd_goesBy_279 rfl rfl (fun (c16 : ((rd h 210 w0) + 100 * (rd h 182 30) + 1) ≠ (rd h 210 v4)) => ?_) (fun (c16 : ((rd h 210 w0) + 100 * (rd h 182 30) + 1) = (rd h 210 v4)) => ?_)
      · replace k := k.1 c16
        refine R_inc (y := v6 + 1) (ls' := [some (.inr (.inr 182)), some (.inl v1), some (.inl v2), some (.inl v3), some (.inl v4), some (.inl v5), some (.inl (v6 + 1)), some (.inl w0)]) dd_goesBy_293 rfl (by decide) (by omega) (by omega) rfl rfl ?_
        refine R_goto dd_goesBy_296 rfl ?_
        exact k
      · replace k := k.2 c16
        refine R_ld (v := .inl w0) dd_goesBy_282 rfl rfl rfl rfl ?_
        refine R_st (ls' := [some (.inr (.inr 182)), some (.inl v1), some (.inl v2), some (.inl v3), some (.inl v4), some (.inl w0), some (.inl v6), some (.inl w0)]) dd_goesBy_284 rfl rfl rfl (Nat.le_of_ble_eq_true rfl) rfl rfl ?_
        refine R_ld (v := .inl v3) dd_goesBy_286 rfl rfl rfl rfl ?_
        refine R_ic dd_goesBy_287 (by decide) rfl ?_
        refine R_ld (v := .inl v6) dd_goesBy_288 rfl rfl rfl rfl ?_
        refine R_A dd_goesBy_290 rfl rfl rfl rfl ?_
        refine R_A dd_goesBy_291 rfl rfl rfl rfl ?_
        refine R_st (ls' := [some (.inr (.inr 182)), some (.inl v1), some (.inl v2), some (.inl (zor v3 (zshl 1 v6))), some (.inl v4), some (.inl w0), some (.inl v6), some (.inl w0)]) dd_goesBy_292 rfl rfl rfl (Nat.le_of_ble_eq_true rfl) rfl rfl ?_
        refine R_inc (y := v6 + 1) (ls' := [some (.inr (.inr 182)), some (.inl v1), some (.inl v2), some (.inl (zor v3 (zshl 1 v6))), some (.inl v4), some (.inl w0), some (.inl (v6 + 1)), some (.inl w0)]) dd_goesBy_293 rfl (by decide) (by omega) (by omega) rfl rfl ?_
        refine R_goto dd_goesBy_296 rfl ?_
        exact k
end
