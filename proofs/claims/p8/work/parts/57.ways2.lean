/-! LM, part 57: the reference's ways: the soonest hour, the fewest doors -/
section C13
variable {xs : Nat → Int} {xl e : Nat} {h : LH} {Q : Option LV → LH → Prop} {K : KEY} {S : Int → Int} {b p : Int}
/-- numbers of a state -/
def SB (S : Int → Int) (b p : Int) : Prop := (0 ≤ S b ∧ S b ≤ 24) ∧ (0 ≤ S (b + p + 14) ∧ S (b + p + 14) ≤ 1) ∧ (0 ≤ S (b + p + 8) ∧ S (b + p + 8) ≤ 1) ∧ (0 ≤ S (b + p + 2) ∧ S (b + p + 2) ≤ 9)
theorem SB_of (w : WC K S h) (b0 : b % 70 = 0) (hb : 0 ≤ b ∧ b ≤ 1540) (hp : 0 ≤ p ∧ p ≤ 5) : SB S b p := by
  have e : ∀ i, rd h 198 i = S i := fun i => by rw [w.2.2]
  have a := rs_now w.1.1 (i := b) b 0 (by omega) b0 (by omega) (by omega) (by omega) (by omega)
  have c := rs_went w.1.1 (i := b + p + 14) b p (by omega) b0 (by omega) (by omega) (by omega) (by omega)
  have d := rs_done w.1.1 (i := b + p + 8) b p (by omega) b0 (by omega) (by omega) (by omega) (by omega)
  have f := rs_where w.1.1 (i := b + p + 2) b p (by omega) b0 (by omega) (by omega) (by omega) (by omega)
  rw [e] at a c d f
  exact ⟨a, c, d, f⟩
def k0F (S : Int → Int) (b p : Int) : Int := if S (b + p + 8) = 1 then S (b + p + 2) + 10 else S (b + p + 2)
theorem D_firstHour {g : Int} (he : 6 ≤ e) (w : WC K S h) (b0 : b % 70 = 0) (hb : 0 ≤ b ∧ b ≤ 1540) (hp : 0 ≤ p ∧ p ≤ 5) (hg : 0 ≤ g ∧ g ≤ 19) (k : ∀ r h', WC K S h' → frL h h' → (r = -1 ∨ (S b ≤ r ∧ r ≤ 24 ∧ (k0F S b p = g ∨ (r ≤ 23 ∧ Rch K S b p (r + 1 - (S b + S (b + p + 14))).toNat (S b + S (b + p + 14)) (k0F S b p) g)))) → Q (some (.inl r)) h') : Rn xs xl e mm_firstHour 0 [some (.inr (.inr 182)), some (.inl b), some (.inl p), some (.inl (zshl 1 g)), none, none] [] h Q := by
  have sb := SB_of w b0 hb hp
  have loop : ∀ (n : Nat) (q : LH) (set hr : Int), 24 - hr ≤ n → S b ≤ hr → hr ≤ 24 → WC K S q → frL h q → (∀ j, 0 ≤ j → j ≤ 19 → bitZ set j → Rch K S b p (hr - (S b + S (b + p + 14))).toNat (S b + S (b + p + 14)) (k0F S b p) j) → Rn xs xl e mm_firstHour 34 [some (.inr (.inr 182)), some (.inl b), some (.inl p), some (.inl (zshl 1 g)), some (.inl set), some (.inl hr)] [] q Q := by
    intro n
    induction n with
    | zero =>
      intro q set hr hn h0 h1 qw qf qi
      exact B_firstHour_34 (RF_of qw.1.1) hb hp (by have := sb.1; omega) ⟨fun _ => k (-1) q qw qf (Or.inl rfl), fun c => by omega⟩
    | succ n ih =>
      intro q set hr hn h0 h1 qw qf qi
      have s0 := sb.1
      have s1 := sb.2.1
      have e0 : rd q 198 b = S b := by rw [qw.2.2]
      have e1 : rd q 198 (b + p + 14) = S (b + p + 14) := by rw [qw.2.2]
      have t84 : ∀ (q' : LH) (set' : Int), hr < 24 → WC K S q' → frL h q' → (∀ j, 0 ≤ j → j ≤ 19 → bitZ set' j → Rch K S b p (hr + 1 - (S b + S (b + p + 14))).toNat (S b + S (b + p + 14)) (k0F S b p) j) → Rn xs xl e mm_firstHour 84 [some (.inr (.inr 182)), some (.inl b), some (.inl p), some (.inl (zshl 1 g)), some (.inl set), some (.inl hr)] [.inl set'] q' Q := by
        intro q' set' hl qw' qf' qi'
        refine B_firstHour_84 (RF_of qw'.1.1) hb hp (by omega) ⟨fun _ => ih q' set' (hr + 1) (by omega) (by omega) (by omega) qw' qf' qi', fun c => ?_⟩
        have bg := bit_and0 hg.1 (by omega) c
        exact k hr q' qw' qf' (Or.inr ⟨h0, by omega, Or.inr ⟨by omega, qi' g hg.1 hg.2 bg⟩⟩)
      have stp : hr < 24 → ¬ (hr = S b ∧ S (b + p + 14) = 1) → ∃ c, c < e ∧ Rn xs xl c mm_stepOf 0 [some (.inr (.inr 182)), some (.inl b), some (.inl p), some (.inl set), some (.inl hr), none, none, none, none, none] [] q (fun r h' => Rn xs xl e mm_firstHour 84 [some (.inr (.inr 182)), some (.inl b), some (.inl p), some (.inl (zshl 1 g)), some (.inl set), some (.inl hr)] (r.toList ++ []) h' Q) := by
        intro hl hn2
        refine ⟨5, by omega, D_stepOf (by omega) qw hb hp (by omega) (fun r q' qw' qf' hr' => t84 q' r hl qw' (qf.trans qf') (fun j j0 j1 jb => ?_))⟩
        have el : (hr + 1 - (S b + S (b + p + 14))).toNat = (hr - (S b + S (b + p + 14))).toNat + 1 := by omega
        have ec : S b + S (b + p + 14) + (((hr - (S b + S (b + p + 14))).toNat : Nat) : Int) = hr := by omega
        rw [el]
        rcases hr' j j0 j1 jb with z | ⟨x, d, x0, x1, d0, d1, z, t0, t1⟩
        · exact Rch_snoc (qi j j0 j1 z) (Or.inl rfl)
        · refine Rch_snoc (qi x x0 x1 z) (Or.inr ⟨d, d0, d1, ?_, ?_⟩)
          · rw [ec]; exact t0
          · rw [ec]; exact t1
      refine B_firstHour_34 (RF_of qw.1.1) hb hp (by omega) ⟨fun _ => k (-1) q qw qf (Or.inl rfl), fun c => ⟨fun c1 => stp c (by omega), fun c1 => ⟨fun c2 => stp c (by omega), fun c2 => t84 q set c qw qf (fun j j0 j1 jb => ?_)⟩⟩⟩
      have z := qi j j0 j1 jb
      rw [show (hr + 1 - (S b + S (b + p + 14))).toNat = (hr - (S b + S (b + p + 14))).toNat by omega]
      exact z
  have e0 : rd h 198 b = S b := by rw [w.2.2]
  have e2 : rd h 198 (b + p + 2) = S (b + p + 2) := by rw [w.2.2]
  have e8 : rd h 198 (b + p + 8) = S (b + p + 8) := by rw [w.2.2]
  obtain ⟨s0, s1, s2, s3⟩ := sb
  have strt : ∀ x : Int, 0 ≤ x → x ≤ 19 → k0F S b p = x → (zand (zshl 1 x) (zshl 1 g) = 0 → Rn xs xl e mm_firstHour 34 [some (.inr (.inr 182)), some (.inl b), some (.inl p), some (.inl (zshl 1 g)), some (.inl (zshl 1 x)), some (.inl (rd h 198 b))] [] h Q) ∧ (zand (zshl 1 x) (zshl 1 g) ≠ 0 → Q (some (.inl (rd h 198 b))) h) := by
    intro x x0 x1 hx
    rw [e0]
    refine ⟨fun _ => loop 24 h _ (S b) (by omega) (by omega) (by omega) w (frL.refl h) (fun j j0 j1 jb => ?_), fun c => ?_⟩
    · have := (bit_shl x0 (by omega) j0 (by omega)).mp jb
      rw [show (S b - (S b + S (b + p + 14))).toNat = 0 by omega, hx]
      exact this.symm
    · have bg := (bit_shl x0 (by omega) hg.1 (by omega)).mp (bit_and0 hg.1 (by omega) c)
      exact k (S b) h w (frL.refl h) (Or.inr ⟨by omega, by omega, Or.inl (by omega)⟩)
  refine B_firstHour_0 (RF_of w.1.1) hb hp (by omega) ⟨fun c => ?_, fun c => ?_⟩
  · rw [e2]
    have z := strt (S (b + p + 2)) (by omega) (by omega) (by unfold k0F; rw [if_neg (by omega)])
    exact ⟨by omega, z.1, z.2⟩
  · rw [e2]
    have z := strt (S (b + p + 2) + 10) (by omega) (by omega) (by unfold k0F; rw [if_pos (by omega)])
    exact ⟨by omega, z.1, z.2⟩
theorem D_errandHour (he : 7 ≤ e) (w : WC K S h) (b0 : b % 70 = 0) (hb : 0 ≤ b ∧ b ≤ 1540) (hp : 0 ≤ p ∧ p ≤ 5) (k : ∀ r h', WC K S h' → frL h h' → (r = -1 ∨ (S b ≤ r ∧ r ≤ 24 ∧ (k0F S b p = K.1 (4 * p + 117) + 10 ∨ (r ≤ 23 ∧ Rch K S b p (r + 1 - (S b + S (b + p + 14))).toNat (S b + S (b + p + 14)) (k0F S b p) (K.1 (4 * p + 117) + 10))))) → Q (some (.inl r)) h') : Rn xs xl e mm_errandHour 0 [some (.inr (.inr 182)), some (.inl b), some (.inl p)] [] h Q := by
  have kb := KB_of w hp
  have e1 : rd h 188 (4 * p + 117) = K.1 (4 * p + 117) := by rw [← w.2.1]; rfl
  have k4 := kb.2.2.2.1
  refine B_errandHour_0 (RF_of w.1.1) hb hp (by omega) ⟨by omega, 6, by omega, ?_⟩
  rw [e1]
  exact D_firstHour (by omega) w b0 hb hp (by omega) (fun r h' w' f' hr => B_errandHour_17 (RF_of w'.1.1) hb hp (k r h' w' f' hr))
/-- the fewest doors: a row of the table -/
def good (K : KEY) (S : Int → Int) (b p : Int) (F : Int → Int) (hr k : Int) : Prop := (0 ≤ F (20 * hr + k) ∧ F (20 * hr + k) ≤ 1000000) ∧ F (20 * hr + k) ≤ F (20 * (hr + 1) + k) ∧ (k % 10 < K.1 0 → ∀ d, 0 ≤ d → d < K.1 1 → 0 ≤ tr K S b p hr k d → F (20 * hr + k) ≤ 1 + F (20 * (hr + 1) + tr K S b p hr k d)) ∧ (F (20 * hr + k) = F (20 * (hr + 1) + k) ∨ ∃ d, 0 ≤ d ∧ d < K.1 1 ∧ 0 ≤ tr K S b p hr k d ∧ F (20 * hr + k) = 1 + F (20 * (hr + 1) + tr K S b p hr k d))
def lastR (K : KEY) (p till : Int) (F : Int → Int) : Prop := ∀ k, 0 ≤ k → k ≤ 19 → F (20 * (till + 1) + k) = if k = K.1 (4 * p + 117) + 10 then 0 else 1000000
theorem good_of {F G : Int → Int} {hr k : Int} (e : ∀ i, 20 * hr ≤ i → i < 20 * hr + 40 → G i = F i) (hk : 0 ≤ k ∧ k ≤ 19) (kb : KB K p) (hhr : 0 ≤ hr ∧ hr ≤ 25) (g : good K S b p F hr k) : good K S b p G hr k := by
  obtain ⟨g1, g2, g3, g4⟩ := g
  have a := e (20 * hr + k) (by omega) (by omega)
  have c := e (20 * (hr + 1) + k) (by omega) (by omega)
  have t : ∀ d, 0 ≤ d → d < K.1 1 → 0 ≤ tr K S b p hr k d → G (20 * (hr + 1) + tr K S b p hr k d) = F (20 * (hr + 1) + tr K S b p hr k d) := fun d d0 d1 t0 => e _ (by omega) (by have := tr_ok (S := S) (b := b) kb hk ⟨d0, d1⟩ hhr; omega)
  refine ⟨by rw [a]; exact g1, by rw [a, c]; exact g2, fun q d d0 d1 t0 => by rw [a, t d d0 d1 t0]; exact g3 q d d0 d1 t0, ?_⟩
  rcases g4 with q | ⟨d, d0, d1, t0, q⟩
  · exact Or.inl (by rw [a, c]; exact q)
  · exact Or.inr ⟨d, d0, d1, t0, by rw [a, t d d0 d1 t0]; exact q⟩
def frF (h h' : LH) : Prop := ∀ a i, a ≠ 196 → a ≠ 197 → a ≠ 201 → rd h' a i = rd h a i
theorem WC_few {i v : Int} (w : WC K S h) (hi : 0 ≤ i ∧ i < 500) (hv : i32 v) : WC K S (wr h 201 i v) := by
  refine ⟨wA_fewest w.1 hi hv.1 hv.2, ?_, ?_⟩
  · rw [← w.2.1]
    unfold key
    rw [show rd (wr h 201 i v) 188 = rd h 188 from funext (fun j => rdw_ne (by decide)), show rd (wr h 201 i v) 189 = rd h 189 from funext (fun j => rdw_ne (by decide)), show rd (wr h 201 i v) 190 = rd h 190 from funext (fun j => rdw_ne (by decide)), rdw_ne (by decide), rdw_ne (by decide), rdw_ne (by decide), rdw_ne (by decide)]
  · rw [← w.2.2]
    exact funext (fun j => rdw_ne (by decide))
set_option maxHeartbeats 2000000 in
theorem D_findFewest {till : Int} (he : 5 ≤ e) (w : WC K S h) (b0 : b % 70 = 0) (hb : 0 ≤ b ∧ b ≤ 1540) (hp : 0 ≤ p ∧ p ≤ 5) (ht : 0 ≤ till ∧ till ≤ 23) (k : ∀ h', WC K S h' → frF h h' → lastR K p till (rd h' 201) → (∀ hr q, S b ≤ hr → hr ≤ till → 0 ≤ q → q ≤ 19 → good K S b p (rd h' 201) hr q) → Q none h') : Rn xs xl e mm_findFewest 0 [some (.inr (.inr 182)), some (.inl b), some (.inl p), some (.inl till), none, none, none, none, none, none, none] [] h Q := by
  have kb := KB_of w hp
  have sb := SB_of w b0 hb hp
  have kd := kb.1
  have kh := kb.2.2.2.1
  have s0 := sb.1
  -- the rows, the last first
  have rows : ∀ (n : Nat) (g : LH) (hr : Int) (o5 o6 o7 o8 o9 o10 : Option LV), hr + 1 ≤ n → -1 ≤ hr → hr ≤ till → WC K S g → frF h g → lastR K p till (rd g 201) → (∀ x q, hr < x → S b ≤ x → x ≤ till → 0 ≤ q → q ≤ 19 → good K S b p (rd g 201) x q) → Rn xs xl e mm_findFewest 54 [some (.inr (.inr 182)), some (.inl b), some (.inl p), some (.inl till), some (.inl hr), o5, o6, o7, o8, o9, o10] [] g Q := by
    intro n
    induction n with
    | zero =>
      intro g hr o5 o6 o7 o8 o9 o10 hn h0 h1 gw gf gl gg
      have e0 : rd g 198 b = S b := by rw [gw.2.2]
      exact B_findFewest_54 (RF_of gw.1.1) hb hp (by omega) ⟨fun _ => k g gw gf gl (fun x q x0 x1 q0 q1 => gg x q (by omega) x0 x1 q0 q1), fun c => by omega⟩
    | succ n ih =>
      intro g hr o5 o6 o7 o8 o9 o10 hn h0 h1 gw gf gl gg
      have e0 : rd g 198 b = S b := by rw [gw.2.2]
      refine B_findFewest_54 (RF_of gw.1.1) hb hp (by omega) ⟨fun _ => k g gw gf gl (fun x q x0 x1 q0 q1 => gg x q (by omega) x0 x1 q0 q1), fun c => ?_⟩
      -- the states of a row
      have states : ∀ (m : Nat) (f : LH) (q : Int) (o6 o7 o8 o9 o10 : Option LV), 20 - q ≤ m → 0 ≤ q → q ≤ 20 → WC K S f → frF h f → lastR K p till (rd f 201) → (∀ x y, hr < x → S b ≤ x → x ≤ till → 0 ≤ y → y ≤ 19 → good K S b p (rd f 201) x y) → (∀ y, 0 ≤ y → y < q → good K S b p (rd f 201) hr y) → Rn xs xl e mm_findFewest 70 [some (.inr (.inr 182)), some (.inl b), some (.inl p), some (.inl till), some (.inl hr), some (.inl q), o6, o7, o8, o9, o10] [] f Q := by
        intro m
        induction m with
        | zero =>
          intro f q o6 o7 o8 o9 o10 hm q0 q1 fw ff fl fg fr
          refine B_findFewest_70 (RF_of fw.1.1) hb hp (by omega) ⟨q0, q1⟩ ⟨fun _ => ih f (hr - 1) _ _ _ _ _ _ (by omega) (by omega) (by omega) fw ff fl (fun x y x0 x1 x2 y0 y1 => ?_), fun c => by omega⟩
          by_cases hx : x = hr
          · rw [hx]; exact fr y y0 (by omega)
          · exact fg x y (by omega) x1 x2 y0 y1
        | succ m im =>
          intro f q o6 o7 o8 o9 o10 hm q0 q1 fw ff fl fg fr
          refine B_findFewest_70 (RF_of fw.1.1) hb hp (by omega) ⟨q0, q1⟩ ⟨fun _ => ih f (hr - 1) _ _ _ _ _ _ (by omega) (by omega) (by omega) fw ff fl (fun x y x0 x1 x2 y0 y1 => ?_), fun cq => ⟨by omega, ?_⟩⟩
          · by_cases hx : x = hr
            · rw [hx]; exact fr y y0 (by omega)
            · exact fg x y (by omega) x1 x2 y0 y1
          -- what the next row holds
          have nxt : ∀ y, 0 ≤ y → y ≤ 19 → 0 ≤ rd f 201 (20 * (hr + 1) + y) ∧ rd f 201 (20 * (hr + 1) + y) ≤ 1000000 := by
            intro y y0 y1
            by_cases hx : hr = till
            · have := fl y y0 y1
              rw [hx, this]
              split <;> omega
            · exact (fg (hr + 1) y (by omega) (by omega) (by omega) y0 y1).1
          have n0 := nxt q q0 (by omega)
          rw [show (20 * hr + q + 20 : Int) = 20 * (hr + 1) + q by omega]
          -- the doors of a state
          have doors : ∀ (l : Nat) (u : LH) (best d : Int) (o8 o9 o10 : Option LV), K.1 1 - d ≤ l → 0 ≤ d → d ≤ K.1 1 → WC K S u → frL f u → (0 ≤ best ∧ best ≤ 1000000) → best ≤ rd f 201 (20 * (hr + 1) + q) → (q % 10 < K.1 0 → ∀ x, 0 ≤ x → x < d → 0 ≤ tr K S b p hr q x → best ≤ 1 + rd f 201 (20 * (hr + 1) + tr K S b p hr q x)) → (best = rd f 201 (20 * (hr + 1) + q) ∨ ∃ x, 0 ≤ x ∧ x < K.1 1 ∧ 0 ≤ tr K S b p hr q x ∧ best = 1 + rd f 201 (20 * (hr + 1) + tr K S b p hr q x)) → Rn xs xl e mm_findFewest 97 [some (.inr (.inr 182)), some (.inl b), some (.inl p), some (.inl till), some (.inl hr), some (.inl q), some (.inl best), some (.inl d), o8, o9, o10] [] u Q := by
            have close : ∀ (u : LH) (best d : Int) (o8 o9 o10 : Option LV), WC K S u → frL f u → (0 ≤ best ∧ best ≤ 1000000) → best ≤ rd f 201 (20 * (hr + 1) + q) → (q % 10 < K.1 0 → ∀ x, 0 ≤ x → x < K.1 1 → 0 ≤ tr K S b p hr q x → best ≤ 1 + rd f 201 (20 * (hr + 1) + tr K S b p hr q x)) → (best = rd f 201 (20 * (hr + 1) + q) ∨ ∃ x, 0 ≤ x ∧ x < K.1 1 ∧ 0 ≤ tr K S b p hr q x ∧ best = 1 + rd f 201 (20 * (hr + 1) + tr K S b p hr q x)) → Rn xs xl e mm_findFewest 229 [some (.inr (.inr 182)), some (.inl b), some (.inl p), some (.inl till), some (.inl hr), some (.inl q), some (.inl best), some (.inl d), o8, o9, o10] [] u Q := by
              intro u best d o8 o9 o10 uw uf ub u1 u2 u3
              have eu : ∀ i, rd u 201 i = rd f 201 i := fun i => uf 201 i (by decide) (by decide)
              have w2 := WC_few uw (i := 20 * hr + q) (v := best) (by omega) ⟨by omega, by omega⟩
              have eg : ∀ i, i ≠ 20 * hr + q → rd (wr u 201 (20 * hr + q) best) 201 i = rd f 201 i := fun i hi => (rdw_nei (fun z => hi z.symm)).trans (eu i)
              have eb : rd (wr u 201 (20 * hr + q) best) 201 (20 * hr + q) = best := rdw_eq
              refine B_findFewest_229 (RF_of uw.1.1) hb hp (by omega) (by omega) (im _ (q + 1) _ _ _ _ _ (by omega) (by omega) (by omega) w2 (fun a i n1 n2 n3 => ?_) (fun y y0 y1 => ?_) (fun x y x0 x1 x2 y0 y1 => ?_) (fun y y0 y1 => ?_))
              · rw [rdw_ne (fun z => n3 z.symm), uf a i n1 n2]
                exact ff a i n1 n2 n3
              · rw [eg _ (by omega)]
                exact fl y y0 y1
              · exact good_of (F := rd f 201) (fun i i0 i1 => eg i (by omega)) ⟨y0, y1⟩ kb (by omega) (fg x y x0 x1 x2 y0 y1)
              · by_cases hy : y = q
                · subst hy
                  have tq : ∀ x, 0 ≤ x → x < K.1 1 → 0 ≤ tr K S b p hr y x → rd (wr u 201 (20 * hr + y) best) 201 (20 * (hr + 1) + tr K S b p hr y x) = rd f 201 (20 * (hr + 1) + tr K S b p hr y x) := fun x _ _ t0 => eg _ (by omega)
                  refine ⟨by rw [eb]; exact ub, by rw [eb, eg _ (by omega)]; exact u1, fun z x x0 x1 t0 => by rw [eb, tq x x0 x1 t0]; exact u2 z x x0 x1 t0, ?_⟩
                  rcases u3 with z | ⟨x, x0, x1, t0, z⟩
                  · exact Or.inl (by rw [eb, eg _ (by omega)]; exact z)
                  · exact Or.inr ⟨x, x0, x1, t0, by rw [eb, tq x x0 x1 t0]; exact z⟩
                · have g0 := fr y y0 (by omega)
                  obtain ⟨g1, g2, g3, g4⟩ := g0
                  have tq : ∀ x, 0 ≤ x → x < K.1 1 → 0 ≤ tr K S b p hr y x → rd (wr u 201 (20 * hr + q) best) 201 (20 * (hr + 1) + tr K S b p hr y x) = rd f 201 (20 * (hr + 1) + tr K S b p hr y x) := fun x _ _ t0 => eg _ (by omega)
                  have ey := eg (20 * hr + y) (by omega)
                  have ez := eg (20 * (hr + 1) + y) (by omega)
                  refine ⟨by rw [ey]; exact g1, by rw [ey, ez]; exact g2, fun z x x0 x1 t0 => by rw [ey, tq x x0 x1 t0]; exact g3 z x x0 x1 t0, ?_⟩
                  rcases g4 with z | ⟨x, x0, x1, t0, z⟩
                  · exact Or.inl (by rw [ey, ez]; exact z)
                  · exact Or.inr ⟨x, x0, x1, t0, by rw [ey, tq x x0 x1 t0]; exact z⟩
            intro l
            induction l with
            | zero =>
              intro u best d o8 o9 o10 hl d0 d1 uw uf ub u1 u2 u3
              have e1 : rd u 188 1 = K.1 1 := by rw [← uw.2.1]; rfl
              exact B_findFewest_97 (RF_of uw.1.1) hb hp (by omega) (by omega) (by omega) (by omega) ⟨fun _ => close u best d _ _ _ uw uf ub u1 (fun z x x0 x1 t0 => u2 z x x0 (by omega) t0) u3, fun c => by omega⟩
            | succ l il =>
              intro u best d o8 o9 o10 hl d0 d1 uw uf ub u1 u2 u3
              have e1 : rd u 188 1 = K.1 1 := by rw [← uw.2.1]; rfl
              have er : rd u 188 0 = K.1 0 := by rw [← uw.2.1]; rfl
              have es : rd u 188 (4 * p + 116) = K.1 (4 * p + 116) := by rw [← uw.2.1]; rfl
              refine B_findFewest_97 (RF_of uw.1.1) hb hp (by omega) (by omega) (by omega) (by omega) ⟨fun _ => close u best d _ _ _ uw uf ub u1 (fun z x x0 x1 t0 => u2 z x x0 (by omega) t0) u3, fun c => ⟨fun c2 => close u best d _ _ _ uw uf ub u1 (fun z x x0 x1 t0 => by omega) u3, fun c2 => ⟨4, by omega, ?_⟩⟩⟩
              rw [es]
              refine D_leadsNow (by omega) uw hb (by omega) kb.2.2.1 (by omega) (by omega) (fun u' uw' uf' => ?_)
              have e3 : rd u' 188 (4 * p + 118) = K.1 (4 * p + 118) := by rw [← uw'.2.1]; rfl
              have nb := NW_ok K (S (b + 1)) (s := K.1 (4 * p + 116)) (d := d) (room := q % 10) (hr := hr) (by omega) kb.2.2.1 (by omega) (by omega)
              have htr : tr K S b p hr q d = (if NW K (S (b + 1)) (K.1 (4 * p + 116)) d (q % 10) hr < 0 then -1 else NW K (S (b + 1)) (K.1 (4 * p + 116)) d (q % 10) hr + (if 10 ≤ q ∨ NW K (S (b + 1)) (K.1 (4 * p + 116)) d (q % 10) hr = K.1 (4 * p + 118) then 10 else 0)) := rfl
              generalize hx : NW K (S (b + 1)) (K.1 (4 * p + 116)) d (q % 10) hr = x at *
              have eu : ∀ i, rd u' 201 i = rd f 201 i := fun i => (uf' 201 i (by decide) (by decide)).trans (uf 201 i (by decide) (by decide))
              -- no way by this door
              have no : tr K S b p hr q d = -1 → ∀ o8 o9 o10, (best ≤ 1000000 → Rn xs xl e mm_findFewest 97 [some (.inr (.inr 182)), some (.inl b), some (.inl p), some (.inl till), some (.inl hr), some (.inl q), some (.inl best), some (.inl (d + 1)), o8, o9, o10] [] u' Q) := by
                intro ht o8 o9 o10 _
                refine il u' best (d + 1) _ _ _ (by omega) (by omega) (by omega) uw' (uf.trans uf') ub u1 (fun z y y0 y1 t0 => ?_) u3
                by_cases hy : y = d
                · subst hy; omega
                · exact u2 z y y0 (by omega) t0
              -- by this door into state y
              have yes : ∀ y i : Int, tr K S b p hr q d = y → 0 ≤ y → y ≤ 19 → i = 20 * (hr + 1) + y → ∀ o8 o9 o10 o8' o9' o10', (-2147483648 ≤ rd u' 201 i + 1 ∧ rd u' 201 i + 1 ≤ 2147483647) ∧ (best ≤ rd u' 201 i + 1 → Rn xs xl e mm_findFewest 97 [some (.inr (.inr 182)), some (.inl b), some (.inl p), some (.inl till), some (.inl hr), some (.inl q), some (.inl best), some (.inl (d + 1)), o8, o9, o10] [] u' Q) ∧ (rd u' 201 i + 1 < best → Rn xs xl e mm_findFewest 97 [some (.inr (.inr 182)), some (.inl b), some (.inl p), some (.inl till), some (.inl hr), some (.inl q), some (.inl (rd u' 201 i + 1)), some (.inl (d + 1)), o8', o9', o10'] [] u' Q) := by
                intro y i ht y0 y1 hi o8 o9 o10 o8' o9' o10'
                have ny := nxt y y0 y1
                have ei := eu i
                rw [hi] at ei
                rw [hi, ei]
                refine ⟨by omega, fun cb => il u' best (d + 1) _ _ _ (by omega) (by omega) (by omega) uw' (uf.trans uf') ub u1 (fun z x2 x0 x1 t0 => ?_) u3, fun cb => il u' _ (d + 1) _ _ _ (by omega) (by omega) (by omega) uw' (uf.trans uf') (by omega) (by omega) (fun z x2 x0 x1 t0 => ?_) (Or.inr ⟨d, d0, by omega, by omega, by rw [ht]; omega⟩)⟩
                · by_cases hy : x2 = d
                  · rw [hy, ht]; omega
                  · exact u2 z x2 x0 (by omega) t0
                · by_cases hy : x2 = d
                  · rw [hy, ht]; omega
                  · have := u2 z x2 x0 (by omega) t0
                    omega
              refine B_findFewest_138 (RF_of uw'.1.1) hb hp (by omega) (by omega) (by omega) (by omega) (by omega) ⟨fun c3 => ⟨fun c4 => yes (x + 10) _ ?_ (by omega) (by omega) (by omega) _ _ _ _ _ _, fun c4 => ⟨fun c5 => no ?_ _ _ _ c5, fun c5 => by omega⟩⟩, fun c3 => ⟨fun c6 => ⟨fun c4 => yes x _ ?_ (by omega) (by omega) (by omega) _ _ _ _ _ _, fun c4 => ⟨fun c5 => no ?_ _ _ _ c5, fun c5 => by omega⟩⟩, fun c6 => ⟨fun c4 => yes (x + 10) _ ?_ (by omega) (by omega) (by omega) _ _ _ _ _ _, fun c4 => ⟨fun c5 => no ?_ _ _ _ c5, fun c5 => by omega⟩⟩⟩⟩
              · rw [htr, if_neg (by omega), if_pos (Or.inl c3)]
              · rw [htr, if_pos c4]
              · rw [htr, if_neg (by omega), if_neg (by omega), Int.add_zero]
              · rw [htr, if_pos c4]
              · rw [htr, if_neg (by omega), if_pos (Or.inr (by omega))]
              · rw [htr, if_pos c4]
          exact doors 14 f _ 0 _ _ _ (by omega) (by omega) (by omega) fw (frL.refl f) n0 (Int.le_refl _) (fun z x x0 x1 t0 => by omega) (Or.inl rfl)
      exact states 20 g 0 _ _ _ _ _ (by omega) (by omega) (by omega) gw gf gl gg (fun y y0 y1 => by omega)
  -- the last row
  have last : ∀ (n : Nat) (g : LH) (q : Int), 20 - q ≤ n → 0 ≤ q → q ≤ 20 → WC K S g → frF h g → (∀ y, 0 ≤ y → y < q → rd g 201 (20 * (till + 1) + y) = if y = K.1 (4 * p + 117) + 10 then 0 else 1000000) → Rn xs xl e mm_findFewest 3 [some (.inr (.inr 182)), some (.inl b), some (.inl p), some (.inl till), some (.inl q), none, none, none, none, none, none] [] g Q := by
    intro n
    induction n with
    | zero =>
      intro g q hn q0 q1 gw gf gl
      exact B_findFewest_3 (RF_of gw.1.1) hb hp ht ⟨q0, q1⟩ (by omega) ⟨fun _ => rows (till + 1).toNat g till _ _ _ _ _ _ (by omega) (by omega) (by omega) gw gf (fun y y0 y1 => gl y y0 (by omega)) (fun x y x0 x1 x2 => by omega), fun c => by omega⟩
    | succ n ih =>
      intro g q hn q0 q1 gw gf gl
      have e1 : rd g 188 (4 * p + 117) = K.1 (4 * p + 117) := by rw [← gw.2.1]; rfl
      refine B_findFewest_3 (RF_of gw.1.1) hb hp ht ⟨q0, q1⟩ (by omega) ⟨fun _ => rows (till + 1).toNat g till _ _ _ _ _ _ (by omega) (by omega) (by omega) gw gf (fun y y0 y1 => gl y y0 (by omega)) (fun x y x0 x1 x2 => by omega), fun c => ⟨by omega, fun c2 => ⟨by omega, ?_⟩, fun c2 => ⟨by omega, ?_⟩⟩⟩
      · refine ih _ (q + 1) (by omega) (by omega) (by omega) (WC_few gw (by omega) (by unfold i32; omega)) (fun a i n1 n2 n3 => by rw [rdw_ne (fun z => n3 z.symm)]; exact gf a i n1 n2 n3) (fun y y0 y1 => ?_)
        by_cases hy : y = q
        · rw [hy, show (20 * (till + 1) + q : Int) = 20 * till + q + 20 by omega, rdw_eq, if_neg (by omega)]
        · rw [rdw_nei (by omega)]
          exact gl y y0 (by omega)
      · refine ih _ (q + 1) (by omega) (by omega) (by omega) (WC_few gw (by omega) (by unfold i32; omega)) (fun a i n1 n2 n3 => by rw [rdw_ne (fun z => n3 z.symm)]; exact gf a i n1 n2 n3) (fun y y0 y1 => ?_)
        by_cases hy : y = q
        · rw [hy, show (20 * (till + 1) + q : Int) = 20 * till + q + 20 by omega, rdw_eq, if_pos (by omega)]
        · rw [rdw_nei (by omega)]
          exact gl y y0 (by omega)
  exact B_findFewest_0 (RF_of w.1.1) hb hp ht (last 20 h 0 (by omega) (by omega) (by omega) w (fun _ _ _ _ _ => rfl) (fun y y0 y1 => by omega))
end C13
