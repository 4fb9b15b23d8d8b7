/-! LM, part 60: the reference's cheapest ways are settled after ten rounds -/
def PRK (K : KEY) (d : Int) : Int := if d = K.2.2.2.1 then K.2.2.2.2.2.1 else if d = K.2.2.2.2.1 then K.2.2.2.2.2.2 else K.1 (8 * d + 11)
theorem PRK_ok {K : KEY} {S : Int → Int} {h : LH} (w : WC K S h) {d : Int} (hd : 0 ≤ d ∧ d ≤ 13) : 0 ≤ PRK K d ∧ PRK K d ≤ 9 := by
  have e : rd h 182 28 = K.2.2.2.1 ∧ rd h 182 29 = K.2.2.2.2.1 ∧ rd h 182 30 = K.2.2.2.2.2.1 ∧ rd h 182 31 = K.2.2.2.2.2.2 := by rw [← w.2.1]; exact ⟨rfl, rfl, rfl, rfl⟩
  have r1 := rF_priceOne w.1.1
  have r2 := rF_priceOther w.1.1
  have r3 := rq_d7 w.1.1 (i := 8 * d + 11) (d := d) (by omega) (by omega) (by omega)
  have e3 : rd h 188 (8 * d + 11) = K.1 (8 * d + 11) := by rw [← w.2.1]; rfl
  unfold PRK
  split
  · omega
  · split <;> omega
section GB
variable {K : KEY} {N : Int → Int → Int} {wt : Int → Int} {er rms drs : Int}
/-- ways to the goal, with what they cost -/
def Walk (N : Int → Int → Int) (wt : Int → Int) (er rms drs r c : Int) : Prop := ∀ R : Int → Int → Prop, R er 0 → (∀ r d c, 0 ≤ r → r < rms → 0 ≤ d → d < drs → 0 ≤ N r d → R (N r d) c → R r (c + wt d)) → R r c
theorem Walk.nil : Walk N wt er rms drs er 0 := fun R a _ => a
theorem Walk.cons {r d c : Int} (h0 : 0 ≤ r) (h1 : r < rms) (h2 : 0 ≤ d) (h3 : d < drs) (h4 : 0 ≤ N r d) (h : Walk N wt er rms drs (N r d) c) : Walk N wt er rms drs r (c + wt d) := fun R a b => b r d c h0 h1 h2 h3 h4 (h R a b)
theorem Walk.inv {r c : Int} (h : Walk N wt er rms drs r c) : (r = er ∧ c = 0) ∨ ∃ d c', 0 ≤ r ∧ r < rms ∧ 0 ≤ d ∧ d < drs ∧ 0 ≤ N r d ∧ Walk N wt er rms drs (N r d) c' ∧ c = c' + wt d := by
  have := h (fun r c => Walk N wt er rms drs r c ∧ ((r = er ∧ c = 0) ∨ ∃ d c', 0 ≤ r ∧ r < rms ∧ 0 ≤ d ∧ d < drs ∧ 0 ≤ N r d ∧ Walk N wt er rms drs (N r d) c' ∧ c = c' + wt d)) ⟨Walk.nil, Or.inl ⟨rfl, rfl⟩⟩ (fun r d c h0 h1 h2 h3 h4 q => ⟨Walk.cons h0 h1 h2 h3 h4 q.1, Or.inr ⟨d, c, h0, h1, h2, h3, h4, q.1, rfl⟩⟩)
  exact this.2
theorem Walk.nn (hw : ∀ d, 0 ≤ d → d < drs → 1 ≤ wt d) {r c : Int} (h : Walk N wt er rms drs r c) : 0 ≤ c ∧ (c = 0 → r = er) := h (fun r c => 0 ≤ c ∧ (c = 0 → r = er)) ⟨by omega, fun _ => rfl⟩ (fun r d c _ _ h2 h3 _ q => by have := hw d h2 h3; exact ⟨by omega, fun z => by omega⟩)
/-- the least cost -/
def Dm (N : Int → Int → Int) (wt : Int → Int) (er rms drs r m : Int) : Prop := Walk N wt er rms drs r m ∧ ∀ c, Walk N wt er rms drs r c → m ≤ c
theorem Dm_ex (hw : ∀ d, 0 ≤ d → d < drs → 1 ≤ wt d) {r : Int} : ∀ (n : Nat) (c : Int), c ≤ n → Walk N wt er rms drs r c → ∃ m, Dm N wt er rms drs r m
  | 0, c, hc, h => ⟨c, h, fun c' h' => by have := (h'.nn hw).1; omega⟩
  | n + 1, c, hc, h => by
    by_cases q : ∃ c', Walk N wt er rms drs r c' ∧ c' < c
    · obtain ⟨c', h', l⟩ := q
      exact Dm_ex hw n c' (by omega) h'
    · exact ⟨c, h, fun c' h' => by
        rcases Int.lt_or_le c' c with z | z
        · exact absurd ⟨c', h', z⟩ q
        · exact z⟩
theorem Dm_u {r m m' : Int} (a : Dm N wt er rms drs r m) (b : Dm N wt er rms drs r m') : m = m' := by
  have := a.2 m' b.1
  have := b.2 m a.1
  omega
theorem Dm_next (hw : ∀ d, 0 ≤ d → d < drs → 1 ≤ wt d) {r m : Int} (h : Dm N wt er rms drs r m) (hr : r ≠ er) : ∃ d m', 0 ≤ r ∧ r < rms ∧ 0 ≤ d ∧ d < drs ∧ 0 ≤ N r d ∧ Dm N wt er rms drs (N r d) m' ∧ m = m' + wt d := by
  rcases h.1.inv with q | ⟨d, c', h0, h1, h2, h3, h4, h5, h6⟩
  · exact absurd q.1 hr
  · refine ⟨d, c', h0, h1, h2, h3, h4, ⟨h5, fun c q => ?_⟩, h6⟩
    have := h.2 _ (Walk.cons h0 h1 h2 h3 h4 q)
    omega
def lessD (N : Int → Int → Int) (wt : Int → Int) (er rms drs a r : Int) : Prop := ∃ m m', Dm N wt er rms drs a m ∧ Dm N wt er rms drs r m' ∧ m < m'
noncomputable def lessB (N : Int → Int → Int) (wt : Int → Int) (er rms drs a r : Int) : Bool := @decide (lessD N wt er rms drs a r) (Classical.propDecidable _)
theorem lessB_t {a r : Int} : lessB N wt er rms drs a r = true ↔ lessD N wt er rms drs a r := by
  unfold lessB
  exact @decide_eq_true_iff _ (Classical.propDecidable _)
theorem lessB_f {a : Int} : lessB N wt er rms drs a a = false := by
  cases h : lessB N wt er rms drs a a with
  | false => rfl
  | true =>
    obtain ⟨x, x', e1, e2, l2⟩ := lessB_t.mp h
    have := Dm_u e1 e2
    omega
noncomputable def rk (N : Int → Int → Int) (wt : Int → Int) (er rms drs r : Int) : Nat := ((List.range 10).filter (fun (i : Nat) => lessB N wt er rms drs (i : Int) r)).length
theorem filt_lt {p q : Nat → Bool} : ∀ {l : List Nat}, (∀ i ∈ l, p i = true → q i = true) → (∃ i ∈ l, q i = true ∧ p i = false) → (l.filter p).length < (l.filter q).length
  | [], _, ⟨i, hi, _⟩ => by cases hi
  | a :: l, h, ⟨i, hi, h1, h2⟩ => by
    have hl : (l.filter p).length ≤ (l.filter q).length := by
      have : ∀ {l : List Nat}, (∀ i ∈ l, p i = true → q i = true) → (l.filter p).length ≤ (l.filter q).length := by
        intro l
        induction l with
        | nil => intro _; exact Nat.le_refl _
        | cons x l ih =>
          intro hx
          have := ih (fun i hi => hx i (List.mem_cons_of_mem _ hi))
          cases hp : p x with
          | true =>
            rw [List.filter_cons_of_pos hp, List.filter_cons_of_pos (hx x List.mem_cons_self hp), List.length_cons, List.length_cons]
            omega
          | false =>
            rw [List.filter_cons_of_neg (by rw [hp]; decide)]
            cases hq : q x with
            | true =>
              rw [List.filter_cons_of_pos hq, List.length_cons]
              omega
            | false =>
              rw [List.filter_cons_of_neg (by rw [hq]; decide)]
              exact this
      exact this (fun i hi => h i (List.mem_cons_of_mem _ hi))
    rcases List.mem_cons.mp hi with rfl | hi
    · rw [List.filter_cons_of_pos h1, List.filter_cons_of_neg (by rw [h2]; decide), List.length_cons]
      omega
    · have ih := filt_lt (fun i hi => h i (List.mem_cons_of_mem _ hi)) ⟨i, hi, h1, h2⟩
      cases hp : p a with
      | true =>
        rw [List.filter_cons_of_pos hp, List.filter_cons_of_pos (h a List.mem_cons_self hp), List.length_cons, List.length_cons]
        omega
      | false =>
        rw [List.filter_cons_of_neg (by rw [hp]; decide)]
        cases hq : q a with
        | true =>
          rw [List.filter_cons_of_pos hq, List.length_cons]
          omega
        | false =>
          rw [List.filter_cons_of_neg (by rw [hq]; decide)]
          exact ih
theorem rk_lt {a r : Int} (ha : 0 ≤ a ∧ a ≤ 9) (h : lessD N wt er rms drs a r) : rk N wt er rms drs a < rk N wt er rms drs r := by
  have h' := h
  obtain ⟨m, m', d1, d2, l⟩ := h'
  refine filt_lt (fun i _ q => ?_) ⟨a.toNat, List.mem_range.mpr (by omega), ?_, ?_⟩
  · obtain ⟨x, x', e1, e2, l2⟩ := lessB_t.mp q
    have := Dm_u e2 d1
    exact lessB_t.mpr ⟨x, m', e1, d2, by omega⟩
  · rw [Int.toNat_of_nonneg ha.1]
    exact lessB_t.mpr h
  · rw [Int.toNat_of_nonneg ha.1]
    exact lessB_f
theorem rk_le {r : Int} (hr : 0 ≤ r ∧ r ≤ 9) : rk N wt er rms drs r ≤ 9 := by
  have h := filt_lt (l := List.range 10) (p := fun (i : Nat) => lessB N wt er rms drs (i : Int) r) (q := fun _ => true) (fun _ _ _ => rfl) ⟨r.toNat, List.mem_range.mpr (by omega), rfl, by
    show lessB N wt er rms drs ((r.toNat : Nat) : Int) r = false
    rw [Int.toNat_of_nonneg hr.1]
    exact lessB_f⟩
  have e : ((List.range 10).filter (fun _ => true)).length = 10 := by decide
  rw [e] at h
  unfold rk
  omega
theorem filt_nil {p : Nat → Bool} : ∀ {l : List Nat}, (∀ i ∈ l, p i = false) → (l.filter p).length = 0
  | [], _ => rfl
  | a :: l, h => by
    rw [List.filter_cons_of_neg (by rw [h a List.mem_cons_self]; decide)]
    exact filt_nil (fun i hi => h i (List.mem_cons_of_mem _ hi))
theorem rk_goal (hw : ∀ d, 0 ≤ d → d < drs → 1 ≤ wt d) {r m : Int} (hd : Dm N wt er rms drs r m) (hr : r = er) : rk N wt er rms drs r = 0 := by
  refine filt_nil (fun i _ => ?_)
  cases h : lessB N wt er rms drs (i : Int) r with
  | false => rfl
  | true =>
    obtain ⟨a, b, e1, e2, l⟩ := lessB_t.mp h
    have h1 := Dm_u e2 hd
    have h2 := (e1.1.nn hw).1
    have h3 := hd.2 0 (by rw [hr]; exact Walk.nil)
    omega
end GB
section C15
variable {xs : Nat → Int} {xl e : Nat} {h : LH} {Q : Option LV → LH → Prop} {K : KEY} {S : Int → Int} {p : Int}
def frC (h h' : LH) : Prop := ∀ a i, a ≠ 196 → a ≠ 197 → a ≠ 210 → rd h' a i = rd h a i
theorem WC_cost {i v : Int} (w : WC K S h) (hi : 0 ≤ i ∧ i < 10) (hv : i32 v) : WC K S (wr h 210 i v) := by
  refine ⟨wA_costs w.1 hi hv.1 hv.2, ?_, ?_⟩
  · rw [← w.2.1]
    unfold key
    rw [show rd (wr h 210 i v) 188 = rd h 188 from funext (fun j => rdw_ne (by decide)), show rd (wr h 210 i v) 189 = rd h 189 from funext (fun j => rdw_ne (by decide)), show rd (wr h 210 i v) 190 = rd h 190 from funext (fun j => rdw_ne (by decide)), rdw_ne (by decide), rdw_ne (by decide), rdw_ne (by decide), rdw_ne (by decide)]
  · rw [← w.2.2]
    exact funext (fun j => rdw_ne (by decide))
set_option maxHeartbeats 2000000 in
theorem D_goesBy (he : 5 ≤ e) (w : WC K S h) (hp : 0 ≤ p ∧ p ≤ 5) (k : ∀ r h', i32 r → WC K S h' → frC h h' → Q (some (.inl r)) h') : Rn xs xl e mm_goesBy 0 [some (.inr (.inr 182)), some (.inl p), none, none, none, none, none, none] [] h Q := by
  have kb := KB_of w hp
  have kd := kb.1
  have kr := kb.2.1
  have ks := kb.2.2.1
  have ke := kb.2.2.2.2.1
  have s0 : 0 ≤ S 0 ∧ S 0 ≤ 24 := by
    have a := rs_now w.1.1 (i := 0) 0 0 (by omega) (by omega) (by omega) (by omega) (by omega) (by omega)
    rw [w.2.2] at a
    exact a
  have sw : 0 ≤ S (p + 2) ∧ S (p + 2) ≤ 9 := by
    have a := rs_where w.1.1 (i := p + 2) 0 p (by omega) (by omega) (by omega) (by omega) (by omega) (by omega)
    rw [w.2.2] at a
    exact a
  have hpr : ∀ d, 0 ≤ d → d < K.1 1 → 0 ≤ PRK K d ∧ PRK K d ≤ 9 := fun d d0 d1 => PRK_ok w ⟨d0, by omega⟩
  generalize hN : (fun r d => NW K (S (0 + 1)) (K.1 (4 * p + 116)) d r (S 0)) = N
  generalize hW : (fun d => 100 * PRK K d + 1) = wt
  have eN : ∀ r d, NW K (S (0 + 1)) (K.1 (4 * p + 116)) d r (S 0) = N r d := fun r d => by rw [← hN]
  have eW : ∀ d, wt d = 100 * PRK K d + 1 := fun d => by rw [← hW]
  have nb : ∀ r d, 0 ≤ r → r ≤ 9 → 0 ≤ d → d < K.1 1 → -1 ≤ N r d ∧ N r d ≤ 9 := fun r d r0 r1 d0 d1 => by
    rw [← eN]
    exact (NW_ok K (S (0 + 1)) (s := K.1 (4 * p + 116)) (d := d) (room := r) (hr := S 0) (by omega) ks (by omega) (by omega)).1
  have hw1 : ∀ d, 0 ≤ d → d < K.1 1 → 1 ≤ wt d := fun d d0 d1 => by
    have := hpr d d0 d1
    rw [eW]
    omega
  -- what the row of costs says
  let CI : LH → Prop := fun g => ∀ r, 0 ≤ r → r ≤ 9 → (0 ≤ rd g 210 r ∧ rd g 210 r ≤ 1000000) ∧ (rd g 210 r = 1000000 ∨ Walk N wt (K.1 (4 * p + 118)) (K.1 0) (K.1 1) r (rd g 210 r))
  let LVL : Nat → LH → Prop := fun n g => ∀ r m, 0 ≤ r → r ≤ 9 → Dm N wt (K.1 (4 * p + 118)) (K.1 0) (K.1 1) r m → rk N wt (K.1 (4 * p + 118)) (K.1 0) (K.1 1) r ≤ n → rd g 210 r ≤ m
  -- the way itself
  have t187 : ∀ (n : Nat) (g : LH) (set room : Int) (o5 o6 o7 : Option LV), i32 set → WC K S g → frC h g → CI g → LVL 9 g → 0 ≤ room → room ≤ 9 → rd g 210 room ≤ n → Rn xs xl e mm_goesBy 187 [some (.inr (.inr 182)), some (.inl p), some (.inl (K.1 (4 * p + 116))), some (.inl set), some (.inl room), o5, o6, o7] [] g Q := by
    intro n
    induction n with
    | zero =>
      intro g set room o5 o6 o7 iz gw gf gc gl r0 r1 hn
      exact B_goesBy_187 (RF_of gw.1.1) hp ks ⟨r0, r1⟩ ⟨fun _ => k set g iz gw gf, fun c => by omega⟩
    | succ n ih =>
      intro g set room o5 o6 o7 iz gw gf gc gl r0 r1 hn
      refine B_goesBy_187 (RF_of gw.1.1) hp ks ⟨r0, r1⟩ ⟨fun _ => k set g iz gw gf, fun c => ⟨fun _ => k set g iz gw gf, fun c2 => ?_⟩⟩
      -- a door on the way
      obtain ⟨d0, to, dd0, dd1, dd2, dd3, dd4⟩ : ∃ d to, 0 ≤ d ∧ d < K.1 1 ∧ N room d = to ∧ 0 ≤ to ∧ rd g 210 to + wt d = rd g 210 room := by
        have wr' : Walk N wt (K.1 (4 * p + 118)) (K.1 0) (K.1 1) room (rd g 210 room) := by
          rcases (gc room r0 r1).2 with z | z
          · omega
          · exact z
        obtain ⟨m, hm⟩ := Dm_ex hw1 (rd g 210 room).toNat _ (by omega) wr'
        have em : rd g 210 room = m := by
          have a := gl room m r0 r1 hm (rk_le ⟨r0, r1⟩)
          have b := hm.2 _ wr'
          omega
        have ne : room ≠ K.1 (4 * p + 118) := by
          intro z
          have := hm.2 0 (by rw [z]; exact Walk.nil)
          omega
        obtain ⟨d, m', x0, x1, x2, x3, x4, x5, x6⟩ := Dm_next hw1 hm ne
        have nbd := nb room d r0 r1 x2 x3
        have a := gl (N room d) m' x4 nbd.2 x5 (rk_le ⟨x4, nbd.2⟩)
        have hwd := hw1 d x2 x3
        have wt' : Walk N wt (K.1 (4 * p + 118)) (K.1 0) (K.1 1) (N room d) (rd g 210 (N room d)) := by
          rcases (gc (N room d) x4 nbd.2).2 with z | z
          · omega
          · exact z
        have b := x5.2 _ wt'
        exact ⟨d, N room d, x2, x3, rfl, x4, by omega⟩
      have gr := (gc room r0 r1).1
      have l216 : ∀ (m : Nat) (u : LH) (set nx d : Int) (o7 : Option LV), i32 set → K.1 1 - d ≤ m → 0 ≤ d → d ≤ K.1 1 → WC K S u → frC h u → (∀ i, rd u 210 i = rd g 210 i) → ((nx = -1 ∧ d ≤ d0) ∨ (0 ≤ nx ∧ nx ≤ 9 ∧ rd g 210 nx < rd g 210 room)) → Rn xs xl e mm_goesBy 216 [some (.inr (.inr 182)), some (.inl p), some (.inl (K.1 (4 * p + 116))), some (.inl set), some (.inl room), some (.inl nx), some (.inl d), o7] [] u Q := by
        have done : ∀ (u : LH) (set nx d : Int) (o7 : Option LV), i32 set → WC K S u → frC h u → (∀ i, rd u 210 i = rd g 210 i) → (0 ≤ nx ∧ nx ≤ 9 ∧ rd g 210 nx < rd g 210 room) → Rn xs xl e mm_goesBy 187 [some (.inr (.inr 182)), some (.inl p), some (.inl (K.1 (4 * p + 116))), some (.inl set), some (.inl nx), some (.inl nx), some (.inl d), o7] [] u Q := by
          intro u set nx d o7 iz uw uf ue hx
          refine ih u set nx _ _ _ iz uw uf (fun r x0 x1 => ?_) (fun r m x0 x1 x2 x3 => ?_) hx.1 hx.2.1 ?_
          · rw [ue]; exact gc r x0 x1
          · rw [ue]; exact gl r m x0 x1 x2 x3
          · rw [ue]; omega
        intro m
        induction m with
        | zero =>
          intro u set nx d o7 iz hm d0' d1' uw uf ue hx
          have e1 : rd u 188 1 = K.1 1 := by rw [← uw.2.1]; rfl
          refine B_goesBy_216 (RF_of uw.1.1) hp ks ⟨r0, r1⟩ (by omega) (by omega) ⟨fun _ => done u set nx d o7 iz uw uf ue ?_, fun c => by omega⟩
          rcases hx with z | z
          · omega
          · exact z
        | succ m im =>
          intro u set nx d o7 iz hm d0' d1' uw uf ue hx
          have e1 : rd u 188 1 = K.1 1 := by rw [← uw.2.1]; rfl
          have es : rd u 198 0 = S 0 := by rw [uw.2.2]
          refine B_goesBy_216 (RF_of uw.1.1) hp ks ⟨r0, r1⟩ (by omega) (by omega) ⟨fun c3 => done u set nx d o7 iz uw uf ue ?_, fun c3 => ⟨fun c4 => done u set nx d o7 iz uw uf ue ?_, fun c4 => ⟨4, by omega, ?_⟩⟩⟩
          · rcases hx with z | z
            · omega
            · exact z
          · rcases hx with z | z
            · omega
            · exact z
          have nx1 : nx = -1 ∧ d ≤ d0 := by
            rcases hx with z | z
            · exact z
            · omega
          rw [es]
          refine D_leadsNow (by omega) uw (by omega) (by omega) ks ⟨r0, r1⟩ (by omega) (fun u' uw' uf' => ?_)
          rw [eN]
          have nbd := nb room d r0 r1 d0' (by omega)
          have ue' : ∀ i, rd u' 210 i = rd g 210 i := fun i => (uf' 210 i (by decide) (by decide)).trans (ue i)
          have uff : frC h u' := fun a i n1 n2 n3 => (uf' a i n1 n2).trans (uf a i n1 n2 n3)
          obtain ⟨y1, y2, y3, y4⟩ : rd u' 182 28 = K.2.2.2.1 ∧ rd u' 182 29 = K.2.2.2.2.1 ∧ rd u' 182 30 = K.2.2.2.2.2.1 ∧ rd u' 182 31 = K.2.2.2.2.2.2 := by rw [← uw'.2.1]; exact ⟨rfl, rfl, rfl, rfl⟩
          have y5 : rd u' 188 (8 * d + 11) = K.1 (8 * d + 11) := by rw [← uw'.2.1]; rfl
          have hprd := hpr d d0' (by omega)
          have hwd := eW d
          -- this door is on the way, or not
          have go : ∀ P : Int, P = PRK K d → 0 ≤ N room d → (-2147483648 ≤ 100 * P ∧ 100 * P ≤ 2147483647) ∧ (-2147483648 ≤ rd u' 210 (N room d) + 100 * P ∧ rd u' 210 (N room d) + 100 * P ≤ 2147483647) ∧ (-2147483648 ≤ rd u' 210 (N room d) + 100 * P + 1 ∧ rd u' 210 (N room d) + 100 * P + 1 ≤ 2147483647) ∧ ((rd u' 210 (N room d) + 100 * P + 1) ≠ rd u' 210 room → Rn xs xl e mm_goesBy 216 [some (.inr (.inr 182)), some (.inl p), some (.inl (K.1 (4 * p + 116))), some (.inl set), some (.inl room), some (.inl nx), some (.inl (d + 1)), some (.inl (N room d))] [] u' Q) ∧ ((rd u' 210 (N room d) + 100 * P + 1) = rd u' 210 room → Rn xs xl e mm_goesBy 216 [some (.inr (.inr 182)), some (.inl p), some (.inl (K.1 (4 * p + 116))), some (.inl (zor set (zshl 1 d))), some (.inl room), some (.inl (N room d)), some (.inl (d + 1)), some (.inl (N room d))] [] u' Q) := by
            intro P hP n0
            have gt := (gc (N room d) n0 nbd.2).1
            have e2 := ue' (N room d)
            have e3 := ue' room
            refine ⟨by omega, by omega, by omega, fun ne => im u' set nx (d + 1) _ iz (by omega) (by omega) (by omega) uw' uff ue' (Or.inl ⟨nx1.1, ?_⟩), fun eq => im u' _ (N room d) (d + 1) _ (x_in _) (by omega) (by omega) (by omega) uw' uff ue' (Or.inr ⟨n0, nbd.2, by omega⟩)⟩
            rcases Int.lt_or_le d d0 with z | z
            · omega
            · exfalso
              have : d = d0 := by omega
              rw [this] at e2 hwd hP ne
              rw [dd2] at e2 ne
              omega
          refine B_goesBy_246 (RF_of uw'.1.1) hp ks ⟨r0, r1⟩ (by omega) (by omega) (by omega) ⟨fun c5 => im u' set nx (d + 1) _ iz (by omega) (by omega) (by omega) uw' uff ue' (Or.inl ⟨nx1.1, ?_⟩), fun c5 => ⟨by omega, fun c6 => ⟨fun c7 => go _ ?_ c5, fun c7 => go _ ?_ c5⟩, fun c6 => go _ ?_ c5⟩⟩
          · rcases Int.lt_or_le d d0 with z | z
            · omega
            · exfalso
              have : d = d0 := by omega
              rw [this, dd2] at c5
              omega
          · unfold PRK
            rw [if_neg (by rw [← y1]; exact c6), if_neg (by rw [← y2]; exact c7)]
            exact y5
          · unfold PRK
            rw [if_neg (by rw [← y1]; exact c6), if_pos (by rw [← y2]; exact c7)]
            exact y4
          · unfold PRK
            rw [if_pos (by rw [← y1]; exact c6)]
            exact y3
      exact l216 14 g set (-1) 0 _ iz (by omega) (by omega) (by omega) gw gf (fun _ => rfl) (Or.inl ⟨rfl, dd0⟩)
  -- the rounds
  have rounds : ∀ (n : Nat) (g : LH) (rd' : Int) (o4 o5 o6 o7 : Option LV), 10 - rd' ≤ n → 0 ≤ rd' → rd' ≤ 10 → WC K S g → frC h g → CI g → LVL rd'.toNat g → Rn xs xl e mm_goesBy 46 [some (.inr (.inr 182)), some (.inl p), some (.inl (K.1 (4 * p + 116))), some (.inl rd'), o4, o5, o6, o7] [] g Q := by
    have stop : ∀ (g : LH) (o5 o6 o7 : Option LV), WC K S g → frC h g → CI g → LVL 9 g → Rn xs xl e mm_goesBy 187 [some (.inr (.inr 182)), some (.inl p), some (.inl (K.1 (4 * p + 116))), some (.inl 0), some (.inl (rd g 198 (p + 2))), o5, o6, o7] [] g Q := by
      intro g o5 o6 o7 gw gf gc gl
      have e2 : rd g 198 (p + 2) = S (p + 2) := by rw [gw.2.2]
      rw [e2]
      have := (gc (S (p + 2)) sw.1 sw.2).1
      exact t187 1000000 g 0 (S (p + 2)) _ _ _ (by unfold i32; omega) gw gf gc gl sw.1 sw.2 (by omega)
    intro n
    induction n with
    | zero =>
      intro g rd' o4 o5 o6 o7 hn x0 x1 gw gf gc gl
      exact B_goesBy_46 (RF_of gw.1.1) hp ks (by omega) ⟨fun _ => stop g _ _ _ gw gf gc (fun r m y0 y1 y2 y3 => gl r m y0 y1 y2 (by omega)), fun c => by omega⟩
    | succ n ih =>
      intro g rd' o4 o5 o6 o7 hn x0 x1 gw gf gc gl
      refine B_goesBy_46 (RF_of gw.1.1) hp ks (by omega) ⟨fun _ => stop g _ _ _ gw gf gc (fun r m y0 y1 y2 y3 => gl r m y0 y1 y2 (by omega)), fun c => ?_⟩
      -- the rooms of a round
      have rows : ∀ (m : Nat) (u : LH) (r : Int) (o5 o6 o7 : Option LV), 10 - r ≤ m → 0 ≤ r → r ≤ 10 → WC K S u → frC h u → CI u → LVL rd'.toNat u → (∀ x y, 0 ≤ x → x < r → x ≤ 9 → Dm N wt (K.1 (4 * p + 118)) (K.1 0) (K.1 1) x y → rk N wt (K.1 (4 * p + 118)) (K.1 0) (K.1 1) x ≤ rd'.toNat + 1 → rd u 210 x ≤ y) → Rn xs xl e mm_goesBy 55 [some (.inr (.inr 182)), some (.inl p), some (.inl (K.1 (4 * p + 116))), some (.inl rd'), some (.inl r), o5, o6, o7] [] u Q := by
        have next : ∀ (u : LH) (r : Int) (o5 o6 o7 : Option LV), K.1 0 ≤ r → WC K S u → frC h u → CI u → LVL rd'.toNat u → (∀ x y, 0 ≤ x → x < r → x ≤ 9 → Dm N wt (K.1 (4 * p + 118)) (K.1 0) (K.1 1) x y → rk N wt (K.1 (4 * p + 118)) (K.1 0) (K.1 1) x ≤ rd'.toNat + 1 → rd u 210 x ≤ y) → Rn xs xl e mm_goesBy 46 [some (.inr (.inr 182)), some (.inl p), some (.inl (K.1 (4 * p + 116))), some (.inl (rd' + 1)), some (.inl r), o5, o6, o7] [] u Q := by
          intro u r o5 o6 o7 hr uw uf uc ul ur
          refine ih u (rd' + 1) _ _ _ _ (by omega) (by omega) (by omega) uw uf uc (fun x y x0' x1' hd hk => ?_)
          rw [show (rd' + 1).toNat = rd'.toNat + 1 by omega] at hk
          by_cases hx : x < r
          · exact ur x y x0' hx x1' hd hk
          · -- beyond the rooms there is the goal alone
            rcases hd.1.inv with q | ⟨d, c', h0, h1, _⟩
            · have hz : Dm N wt (K.1 (4 * p + 118)) (K.1 0) (K.1 1) x y := hd
              have rk0 : rk N wt (K.1 (4 * p + 118)) (K.1 0) (K.1 1) x ≤ rd'.toNat := by
                have := rk_goal hw1 hd q.1
                omega
              exact ul x y x0' x1' hz rk0
            · omega
        intro m
        induction m with
        | zero =>
          intro u r o5 o6 o7 hm r0 r1 uw uf uc ul ur
          have er : rd u 188 0 = K.1 0 := by rw [← uw.2.1]; rfl
          exact B_goesBy_55 (RF_of uw.1.1) hp ks (by omega) ⟨r0, r1⟩ (by omega) ⟨fun c2 => next u r _ _ _ (by omega) uw uf uc ul ur, fun c2 => by omega⟩
        | succ m im =>
          intro u r o5 o6 o7 hm r0 r1 uw uf uc ul ur
          have er : rd u 188 0 = K.1 0 := by rw [← uw.2.1]; rfl
          refine B_goesBy_55 (RF_of uw.1.1) hp ks (by omega) ⟨r0, r1⟩ (by omega) ⟨fun c2 => next u r _ _ _ (by omega) uw uf uc ul ur, fun c2 => ?_⟩
          -- the doors of a room
          have doors : ∀ (l : Nat) (v : LH) (d : Int) (o6 o7 : Option LV), K.1 1 - d ≤ l → 0 ≤ d → d ≤ K.1 1 → WC K S v → frC h v → CI v → LVL rd'.toNat v → (∀ x y, 0 ≤ x → x < r → x ≤ 9 → Dm N wt (K.1 (4 * p + 118)) (K.1 0) (K.1 1) x y → rk N wt (K.1 (4 * p + 118)) (K.1 0) (K.1 1) x ≤ rd'.toNat + 1 → rd v 210 x ≤ y) → (∀ x, 0 ≤ x → x < d → 0 ≤ N r x → rd v 210 r ≤ rd v 210 (N r x) + wt x) → Rn xs xl e mm_goesBy 67 [some (.inr (.inr 182)), some (.inl p), some (.inl (K.1 (4 * p + 116))), some (.inl rd'), some (.inl r), some (.inl d), o6, o7] [] v Q := by
            have close : ∀ (v : LH) (d : Int) (o5 o6 o7 : Option LV), WC K S v → frC h v → CI v → LVL rd'.toNat v → (∀ x y, 0 ≤ x → x < r → x ≤ 9 → Dm N wt (K.1 (4 * p + 118)) (K.1 0) (K.1 1) x y → rk N wt (K.1 (4 * p + 118)) (K.1 0) (K.1 1) x ≤ rd'.toNat + 1 → rd v 210 x ≤ y) → (∀ x, 0 ≤ x → x < K.1 1 → 0 ≤ N r x → rd v 210 r ≤ rd v 210 (N r x) + wt x) → Rn xs xl e mm_goesBy 55 [some (.inr (.inr 182)), some (.inl p), some (.inl (K.1 (4 * p + 116))), some (.inl rd'), some (.inl (r + 1)), o5, o6, o7] [] v Q := by
              intro v d o5 o6 o7 vw vf vc vl vr vd
              refine im v (r + 1) _ _ _ (by omega) (by omega) (by omega) vw vf vc vl (fun x y x0' x1' x2' hd hk => ?_)
              by_cases hx : x = r
              · subst hx
                by_cases hg : x = K.1 (4 * p + 118)
                · have y0 : 0 ≤ y := (hd.1.nn hw1).1
                  have y1 := hd.2 0 (by rw [hg]; exact Walk.nil)
                  have z0 := rk_goal hw1 hd hg
                  exact vl x y x0' x2' hd (by omega)
                · obtain ⟨dd, m', h0, h1, h2, h3, h4, h5, h6⟩ := Dm_next hw1 hd hg
                  have nbd := nb x dd h0 x2' h2 h3
                  have hwd := hw1 dd h2 h3
                  have lt := rk_lt ⟨h4, nbd.2⟩ (⟨m', y, h5, hd, by omega⟩ : lessD N wt (K.1 (4 * p + 118)) (K.1 0) (K.1 1) (N x dd) x)
                  have a := vl (N x dd) m' h4 nbd.2 h5 (by omega)
                  have b := vd dd h2 h3 h4
                  omega
              · exact vr x y x0' (by omega) x2' hd hk
            intro l
            induction l with
            | zero =>
              intro v d o6 o7 hl d0 d1 vw vf vc vl vr vd
              have e1 : rd v 188 1 = K.1 1 := by rw [← vw.2.1]; rfl
              exact B_goesBy_67 (RF_of vw.1.1) hp ks (by omega) (by omega) (by omega) (by omega) ⟨fun _ => close v d _ _ _ vw vf vc vl vr (fun x y0 y1 y2 => vd x y0 (by omega) y2), fun c3 => by omega⟩
            | succ l il =>
              intro v d o6 o7 hl d0 d1 vw vf vc vl vr vd
              have e1 : rd v 188 1 = K.1 1 := by rw [← vw.2.1]; rfl
              have es : rd v 198 0 = S 0 := by rw [vw.2.2]
              refine B_goesBy_67 (RF_of vw.1.1) hp ks (by omega) (by omega) (by omega) (by omega) ⟨fun _ => close v d _ _ _ vw vf vc vl vr (fun x y0 y1 y2 => vd x y0 (by omega) y2), fun c3 => ⟨4, by omega, ?_⟩⟩
              rw [es]
              refine D_leadsNow (by omega) vw (by omega) (by omega) ks (by omega) (by omega) (fun z zw zf => ?_)
              rw [eN]
              have nbd := nb r d r0 (by omega) d0 (by omega)
              have ez : ∀ i, rd z 210 i = rd v 210 i := fun i => zf 210 i (by decide) (by decide)
              have zff : frC h z := fun a i n1 n2 n3 => (zf a i n1 n2).trans (vf a i n1 n2 n3)
              obtain ⟨y1, y2, y3, y4⟩ : rd z 182 28 = K.2.2.2.1 ∧ rd z 182 29 = K.2.2.2.2.1 ∧ rd z 182 30 = K.2.2.2.2.2.1 ∧ rd z 182 31 = K.2.2.2.2.2.2 := by rw [← zw.2.1]; exact ⟨rfl, rfl, rfl, rfl⟩
              have y5 : rd z 188 (8 * d + 11) = K.1 (8 * d + 11) := by rw [← zw.2.1]; rfl
              have hprd := hpr d d0 (by omega)
              have hwd := eW d
              have cr := (vc r r0 (by omega)).1
              -- a new cost of the room
              have upd : ∀ (x : Int) (o6 o7 : Option LV), x ≤ rd v 210 r → 0 ≤ x → (x = rd v 210 r ∨ Walk N wt (K.1 (4 * p + 118)) (K.1 0) (K.1 1) r x) → (0 ≤ N r d → x ≤ rd v 210 (N r d) + wt d) → Rn xs xl e mm_goesBy 67 [some (.inr (.inr 182)), some (.inl p), some (.inl (K.1 (4 * p + 116))), some (.inl rd'), some (.inl r), some (.inl (d + 1)), o6, o7] [] (wr z 210 r x) Q := by
                intro x o6 o7 hx x0' hxw hxd
                have w2 := WC_cost zw (i := r) (v := x) (by omega) ⟨by omega, by omega⟩
                have eo : ∀ i, i ≠ r → rd (wr z 210 r x) 210 i = rd v 210 i := fun i hi => (rdw_nei (fun q => hi q.symm)).trans (ez i)
                have ex : rd (wr z 210 r x) 210 r = x := rdw_eq
                have le : ∀ i, rd (wr z 210 r x) 210 i ≤ rd v 210 i := fun i => by
                  by_cases hi : i = r
                  · rw [hi, ex]; exact hx
                  · rw [eo i hi]; exact Int.le_refl _
                refine il _ (d + 1) _ _ (by omega) (by omega) (by omega) w2 (fun a i n1 n2 n3 => ?_) (fun i i0 i1 => ?_) (fun i y i0 i1 hd hk => ?_) (fun i y i0 i1 i2 hd hk => ?_) (fun i i0 i1 i2 => ?_)
                · rw [rdw_ne (fun q => n3 q.symm)]
                  exact zff a i n1 n2 n3
                · by_cases hi : i = r
                  · rw [hi, ex]
                    refine ⟨by omega, ?_⟩
                    rcases hxw with q | q
                    · rw [q]
                      exact (vc r r0 (by omega)).2
                    · exact Or.inr q
                  · rw [eo i hi]
                    exact vc i i0 i1
                · have := vl i y i0 i1 hd hk
                  have := le i
                  omega
                · have := vr i y i0 i1 i2 hd hk
                  have := le i
                  omega
                · have hwi := hw1 i i0 (by omega)
                  by_cases hn : N r i = r
                  · rw [hn]
                    omega
                  · rw [ex, eo _ hn]
                    by_cases hi : i = d
                    · subst hi
                      exact hxd i2
                    · have := vd i i0 (by omega) i2
                      omega
              have eR := ez r
              have go : ∀ P : Int, P = PRK K d → 0 ≤ N r d → (-2147483648 ≤ 100 * P ∧ 100 * P ≤ 2147483647) ∧ (-2147483648 ≤ rd z 210 (N r d) + 100 * P ∧ rd z 210 (N r d) + 100 * P ≤ 2147483647) ∧ (-2147483648 ≤ rd z 210 (N r d) + 100 * P + 1 ∧ rd z 210 (N r d) + 100 * P + 1 ≤ 2147483647) ∧ (rd z 210 r ≤ (rd z 210 (N r d) + 100 * P + 1) → Rn xs xl e mm_goesBy 67 [some (.inr (.inr 182)), some (.inl p), some (.inl (K.1 (4 * p + 116))), some (.inl rd'), some (.inl r), some (.inl (d + 1)), some (.inl (N r d)), some (.inl (rd z 210 (N r d) + 100 * P + 1))] [] (wr z 210 r (rd z 210 r)) Q) ∧ ((rd z 210 (N r d) + 100 * P + 1) < rd z 210 r → Rn xs xl e mm_goesBy 67 [some (.inr (.inr 182)), some (.inl p), some (.inl (K.1 (4 * p + 116))), some (.inl rd'), some (.inl r), some (.inl (d + 1)), some (.inl (N r d)), some (.inl (rd z 210 (N r d) + 100 * P + 1))] [] (wr z 210 r (rd z 210 (N r d) + 100 * P + 1)) Q) := by
                intro P hP n0
                have gt := (vc (N r d) n0 nbd.2)
                have e2 := ez (N r d)
                refine ⟨by omega, by omega, by omega, fun cc => ?_, fun cc => ?_⟩
                · exact upd _ _ _ (by omega) (by omega) (Or.inl eR) (fun _ => by omega)
                · refine upd _ _ _ (by omega) (by omega) (Or.inr ?_) (fun _ => by omega)
                  have wk : Walk N wt (K.1 (4 * p + 118)) (K.1 0) (K.1 1) (N r d) (rd v 210 (N r d)) := by
                    rcases gt.2 with q | q
                    · omega
                    · exact q
                  have := Walk.cons r0 (by omega) d0 (by omega) n0 wk
                  rw [show rd z 210 (N r d) + 100 * P + 1 = rd v 210 (N r d) + wt d by omega]
                  exact this
              refine B_goesBy_92 (RF_of zw.1.1) hp ks (by omega) (by omega) (by omega) (by omega) (by omega) ⟨fun c5 => ⟨by omega, fun c6 => ⟨fun c7 => go _ ?_ c5, fun c7 => go _ ?_ c5⟩, fun c6 => go _ ?_ c5⟩, fun c5 => ⟨fun c6 => upd _ _ _ (by omega) (by omega) (Or.inl eR) (fun q => by omega), fun c6 => by omega⟩⟩
              · unfold PRK
                rw [if_neg (by rw [← y1]; exact c6), if_neg (by rw [← y2]; exact c7)]
                exact y5
              · unfold PRK
                rw [if_neg (by rw [← y1]; exact c6), if_pos (by rw [← y2]; exact c7)]
                exact y4
              · unfold PRK
                rw [if_pos (by rw [← y1]; exact c6)]
                exact y3
          exact doors 14 u 0 _ _ (by omega) (by omega) (by omega) uw uf uc ul ur (fun x x0' x1' => by omega)
      exact rows 10 g 0 _ _ _ (by omega) (by omega) (by omega) gw gf gc gl (fun x y x0' x1' => by omega)
  -- the beginning
  have ini : ∀ (n : Nat) (g : LH) (r : Int), 10 - r ≤ n → 0 ≤ r → r ≤ 10 → WC K S g → frC h g → (∀ x, 0 ≤ x → x < r → rd g 210 x = if x = K.1 (4 * p + 118) then 0 else 1000000) → Rn xs xl e mm_goesBy 9 [some (.inr (.inr 182)), some (.inl p), some (.inl (K.1 (4 * p + 116))), some (.inl r), none, none, none, none] [] g Q := by
    have stop : ∀ g : LH, WC K S g → frC h g → (∀ x, 0 ≤ x → x < 10 → rd g 210 x = if x = K.1 (4 * p + 118) then 0 else 1000000) → Rn xs xl e mm_goesBy 46 [some (.inr (.inr 182)), some (.inl p), some (.inl (K.1 (4 * p + 116))), some (.inl 0), none, none, none, none] [] g Q := by
      intro g gw gf gi
      refine rounds 10 g 0 _ _ _ _ (by omega) (by omega) (by omega) gw gf (fun r r0 r1 => ?_) (fun r m r0 r1 hd hk => ?_)
      · rw [gi r r0 (by omega)]
        split
        · next q => exact ⟨by omega, Or.inr (by rw [q]; exact Walk.nil)⟩
        · exact ⟨by omega, Or.inl rfl⟩
      · rw [gi r r0 (by omega)]
        have m0 := (hd.1.nn hw1)
        split
        · omega
        · next q =>
          exfalso
          obtain ⟨d, m', h0, h1, h2, h3, h4, h5, h6⟩ := Dm_next hw1 hd q
          have nbd := nb r d r0 r1 h2 h3
          have hwd := hw1 d h2 h3
          have lt := rk_lt ⟨h4, nbd.2⟩ (⟨m', m, h5, hd, by omega⟩ : lessD N wt (K.1 (4 * p + 118)) (K.1 0) (K.1 1) (N r d) r)
          omega
    intro n
    induction n with
    | zero =>
      intro g r hn r0 r1 gw gf gi
      exact B_goesBy_9 (RF_of gw.1.1) hp ks ⟨r0, r1⟩ (by omega) ⟨fun _ => stop g gw gf (fun x x0 x1 => gi x x0 (by omega)), fun c => by omega⟩
    | succ n ih =>
      intro g r hn r0 r1 gw gf gi
      have e1 : rd g 188 (4 * p + 118) = K.1 (4 * p + 118) := by rw [← gw.2.1]; rfl
      have st : ∀ v : Int, r < 10 → v = (if r = K.1 (4 * p + 118) then 0 else 1000000) → Rn xs xl e mm_goesBy 9 [some (.inr (.inr 182)), some (.inl p), some (.inl (K.1 (4 * p + 116))), some (.inl (r + 1)), none, none, none, none] [] (wr g 210 r v) Q := by
        intro v rl hv
        have vb : 0 ≤ v ∧ v ≤ 1000000 := by rw [hv]; split <;> omega
        refine ih _ (r + 1) (by omega) (by omega) (by omega) (WC_cost gw (by omega) ⟨by omega, by omega⟩) (fun a i n1 n2 n3 => by rw [rdw_ne (fun q => n3 q.symm)]; exact gf a i n1 n2 n3) (fun x x0 x1 => ?_)
        by_cases hx : x = r
        · rw [hx, rdw_eq]; exact hv
        · rw [rdw_nei (fun q => hx q.symm)]
          exact gi x x0 (by omega)
      exact B_goesBy_9 (RF_of gw.1.1) hp ks ⟨r0, r1⟩ (by omega) ⟨fun _ => stop g gw gf (fun x x0 x1 => gi x x0 (by omega)), fun c => ⟨fun c2 => ⟨by omega, st _ c (by rw [if_neg (by omega)])⟩, fun c2 => ⟨by omega, st _ c (by rw [if_pos (by omega)])⟩⟩⟩
  have e0 : rd h 188 (4 * p + 116) = K.1 (4 * p + 116) := by rw [← w.2.1]; rfl
  refine B_goesBy_0 (RF_of w.1.1) hp (by omega) ?_
  rw [e0]
  exact ini 10 h 0 (by omega) (by omega) (by omega) w (fun _ _ _ _ _ => rfl) (fun x x0 x1 => by omega)
end C15
