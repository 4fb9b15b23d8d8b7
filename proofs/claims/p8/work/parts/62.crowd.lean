/-! LM, part 62: the reference's crowd comes to an end -/
def ps (f : Int → Int) : Nat → Int
  | 0 => 0
  | n + 1 => ps f n + f n
theorem ps_upd {f g : Int → Int} {a : Int} (h : ∀ i, i ≠ a → g i = f i) : ∀ n : Nat, ps g n = ps f n + (if 0 ≤ a ∧ a < n then g a - f a else 0)
  | 0 => by
    rw [if_neg (by omega)]
    rfl
  | n + 1 => by
    have ih := ps_upd h n
    show ps g n + g n = ps f n + f n + _
    by_cases c : a = n
    · subst c
      rw [if_neg (by omega)] at ih
      rw [if_pos (by omega), ih]
      omega
    · rw [h n (fun q => c q.symm), ih]
      by_cases d : 0 ≤ a ∧ a < n
      · rw [if_pos d, if_pos (by omega)]; omega
      · rw [if_neg d, if_neg (by omega)]; omega
theorem ps_le {f : Int → Int} {B : Int} (h : ∀ i : Int, 0 ≤ i → i < 336 → f i ≤ B) (hB : 0 ≤ B) : ∀ n : Nat, n ≤ 336 → ps f n ≤ B * n
  | 0, _ => by simp [ps]
  | n + 1, hn => by
    have := ps_le h hB n (by omega)
    have h2 := h n (by omega) (by omega)
    show ps f n + f n ≤ B * ((n + 1 : Nat) : Int)
    rw [show B * ((n + 1 : Nat) : Int) = B * n + B by rw [Int.natCast_add]; simp [Int.mul_add]]
    omega
section CR
variable {xs : Nat → Int} {xl e : Nat} {h : LH} {Q : Option LV → LH → Prop} {K : KEY} {S : Int → Int}
noncomputable def NT (K : KEY) (S : Int → Int) (d room hr : Int) : Int := NW K (S (0 + 1)) 0 d room hr
def sE (K : KEY) (d hr : Int) : Int := if K.1 (8 * d + 4) = 1 ∧ 12 ≤ hr then K.1 (8 * d + 6) else K.1 (8 * d + 5)
def tE (K : KEY) (d hr : Int) : Int := K.1 (8 * d + 5) + K.1 (8 * d + 6) - sE K d hr
theorem NT_ok {d room hr : Int} (hd : 0 ≤ d ∧ d ≤ 13) (hro : 0 ≤ room ∧ room ≤ 9) (hhr : 0 ≤ hr ∧ hr ≤ 25) : (-1 ≤ NT K S d room hr ∧ NT K S d room hr ≤ 9) ∧ (0 ≤ NT K S d room hr → hr ≤ 23 ∧ room = sE K d hr ∧ NT K S d room hr = tE K d hr ∧ (room = K.1 (8 * d + 5) ∨ room = K.1 (8 * d + 6))) := by
  have q := NW_ok K (S (0 + 1)) (s := 0) (d := d) (room := room) (hr := hr) hd (by omega) hro hhr
  refine ⟨q.1, fun z => ?_⟩
  have q2 := q.2 z
  have lt : hr < 24 := by
    unfold NT NW at z
    split at z
    · assumption
    · omega
  have f : room = sE K d hr := by
    have l := (LF_ok K (S (0 + 1)) 0 hd (s := 0) (by omega) hro hhr).2.2.1 (by
      unfold NT NW at z
      rw [if_pos lt] at z
      exact z) (by omega) rfl
    unfold sE
    split
    · next c => exact l.1 c
    · next c => exact l.2 c
  refine ⟨by omega, f, ?_, q2.2⟩
  unfold tE
  rw [← f]
  exact q2.1
theorem D_toOf {d room hr : Int} (he : 5 ≤ e) (w : WC K S h) (hd : 0 ≤ d ∧ d ≤ 13) (hro : 0 ≤ room ∧ room ≤ 9) (hhr : 0 ≤ hr ∧ hr ≤ 25) (k : ∀ h', WC K S h' → frL h h' → Q (some (.inl (NT K S d room hr))) h') : Rn xs xl e mm_toOf 0 [some (.inr (.inr 182)), some (.inl d), some (.inl room), some (.inl hr)] [] h Q :=
  B_toOf_0 (RF_of w.1.1) ⟨4, by omega, D_leadsNow (by omega) w (by omega) hd (by omega) hro hhr (fun h' w' f' => B_toOf_9 (RF_of w'.1.1) (k h' w' f'))⟩
/-- how a place was come to -/
def okB (K : KEY) (S fl : Int → Int) (x y : Int) : Prop := (y = 400 ∧ 10 ≤ x) ∨ (y = 1200 ∧ x ≤ 239) ∨ (0 ≤ y ∧ y < K.1 1 ∧ 10 ≤ x ∧ fl (14 * (x / 10) + y - 14) ≤ 8 ∧ (0 ≤ K.1 (8 * y + 5) + K.1 (8 * y + 6) - x % 10 ∧ K.1 (8 * y + 5) + K.1 (8 * y + 6) - x % 10 ≤ 9) ∧ NT K S y (K.1 (8 * y + 5) + K.1 (8 * y + 6) - x % 10) (x / 10 - 1) = x % 10) ∨ (0 ≤ y - 800 ∧ y - 800 < K.1 1 ∧ x ≤ 239 ∧ 1 ≤ fl (14 * (x / 10) + y - 800) ∧ 0 ≤ NT K S (y - 800) (x % 10) (x / 10))
noncomputable def par (K : KEY) (S : Int → Int) (x y : Int) : Int := if y = 400 then x - 10 else if y = 1200 then x + 10 else if y < 400 then 10 * (x / 10 - 1) + (K.1 (8 * y + 5) + K.1 (8 * y + 6) - x % 10) else 10 * (x / 10 + 1) + NT K S (y - 800) (x % 10) (x / 10)
def cnt (c : Int → Int) : Nat := ((List.range 250).filter (fun (i : Nat) => decide (c (i : Int) ≠ -1))).length
theorem cnt_lt {c : Int → Int} {x : Int} (hx : 0 ≤ x ∧ x ≤ 249) (h : c x = -1) : cnt c < 250 := by
  have q := filt_lt (l := List.range 250) (p := fun (i : Nat) => decide (c (i : Int) ≠ -1)) (q := fun _ => true) (fun _ _ _ => rfl) ⟨x.toNat, List.mem_range.mpr (by omega), rfl, by
    rw [Int.toNat_of_nonneg hx.1]
    exact decide_eq_false (fun z => z h)⟩
  have e : ((List.range 250).filter (fun _ => true)).length = 250 := by decide +kernel
  rw [e] at q
  exact q
theorem cnt_up {c c' : Int → Int} {x : Int} (hx : 0 ≤ x ∧ x ≤ 249) (h : c x = -1) (h' : c' x ≠ -1) (e : ∀ i, i ≠ x → c' i = c i) : cnt c < cnt c' := by
  refine filt_lt (fun i _ q => ?_) ⟨x.toNat, List.mem_range.mpr (by omega), ?_, ?_⟩
  · have q := of_decide_eq_true q
    refine decide_eq_true ?_
    by_cases z : (i : Int) = x
    · rw [z]; exact h'
    · rw [e _ z]; exact q
  · rw [Int.toNat_of_nonneg hx.1]
    exact decide_eq_true h'
  · rw [Int.toNat_of_nonneg hx.1]
    exact decide_eq_false (fun z => z h)
/-- the search as it stands -/
def BI (K : KEY) (S fl : Int → Int) (src : Int) (g : LH) : Prop := rd g 182 42 ≤ cnt (rd g 206) ∧ (∀ j, 0 ≤ j → j < rd g 182 42 → rd g 206 (rd g 207 j) ≠ -1 ∧ ((j = 0 ∧ rd g 207 j = src) ∨ (okB K S fl (rd g 207 j) (rd g 206 (rd g 207 j)) ∧ ∃ i, 0 ≤ i ∧ i < j ∧ rd g 207 i = par K S (rd g 207 j) (rd g 206 (rd g 207 j))))) ∧ ∀ x, 0 ≤ x → x ≤ 249 → rd g 206 x ≠ -1 → ∃ j, 0 ≤ j ∧ j < rd g 182 42 ∧ rd g 207 j = x
def frB (h h' : LH) : Prop := ∀ a i, a ≠ 196 → a ≠ 197 → a ≠ 206 → a ≠ 207 → ¬ (a = 182 ∧ i = 42) → rd h' a i = rd h a i
theorem frB.trans {h h1 h2 : LH} (a : frB h h1) (b : frB h1 h2) : frB h h2 := fun x i n1 n2 n3 n4 n5 => (b x i n1 n2 n3 n4 n5).trans (a x i n1 n2 n3 n4 n5)
theorem frB_L {h h1 : LH} (a : frL h h1) : frB h h1 := fun x i n1 n2 _ _ _ => a x i n1 n2
theorem WC_same {h h' : LH} (w : WC K S h) (hI : INV h') (f : ∀ a i, (a = 188 ∨ a = 189 ∨ a = 190 ∨ a = 198 ∨ (a = 182 ∧ (i = 28 ∨ i = 29 ∨ i = 30 ∨ i = 31))) → rd h' a i = rd h a i) : WC K S h' := by
  refine ⟨hI, ?_, ?_⟩
  · rw [← w.2.1]
    unfold key
    rw [show rd h' 188 = rd h 188 from funext (fun j => f 188 j (by omega)), show rd h' 189 = rd h 189 from funext (fun j => f 189 j (by omega)), show rd h' 190 = rd h 190 from funext (fun j => f 190 j (by omega)), f 182 28 (by omega), f 182 29 (by omega), f 182 30 (by omega), f 182 31 (by omega)]
  · rw [← w.2.2]
    exact funext (fun j => f 198 j (by omega))
theorem BI_L {fl : Int → Int} {src : Int} {g g' : LH} (f : frL g g') (b : BI K S fl src g) : BI K S fl src g' := by
  have e1 : rd g' 206 = rd g 206 := funext (fun j => f 206 j (by decide) (by decide))
  have e2 : rd g' 207 = rd g 207 := funext (fun j => f 207 j (by decide) (by decide))
  have e3 : rd g' 182 42 = rd g 182 42 := f 182 42 (by decide) (by decide)
  unfold BI
  rw [e1, e2, e3]
  exact b
/-- a place more -/
theorem D_comes {fl : Int → Int} {src x y head x0 : Int} (w : WC K S h) (b : BI K S fl src h) (hx : 0 ≤ x ∧ x ≤ 249) (hy : 0 ≤ y ∧ y ≤ 2000) (h0 : 0 ≤ head ∧ head < rd h 182 42 ∧ rd h 207 head = x0) (ok : okB K S fl x y) (hp : par K S x y = x0) (k : ∀ g, WC K S g → frB h g → BI K S fl src g → (0 ≤ head ∧ head < rd g 182 42 ∧ rd g 207 head = x0) → Q none g) : Rn xs xl e mm_comes 0 [some (.inr (.inr 182)), some (.inl x), some (.inl y)] [] h Q := by
  refine B_comes_0 (RF_of w.1.1) hx ⟨fun _ => k h w (fun _ _ _ _ _ _ _ => rfl) b h0, fun c => ?_⟩
  have lt := cnt_lt hx c
  have t0 := rF_tail0 w.1.1
  have b1 := b.1
  refine ⟨by omega, by omega, ?_⟩
  have i1 := wA_cameBy w.1 (i := x) (v := y) (by omega) (by omega) (by omega)
  have i2 := wA_queue i1 (i := rd h 182 42) (v := x) (by omega) (by omega) (by omega)
  have i3 := wF_tail0 i2 (v := rd h 182 42 + 1) (by omega) (by omega)
  generalize hg : wr (wr (wr h 206 x y) 207 (rd h 182 42) x) 182 42 (rd h 182 42 + 1) = g at *
  have e6 : ∀ i, i ≠ x → rd g 206 i = rd h 206 i := fun i hi => by rw [← hg, rdw_ne (by decide), rdw_ne (by decide), rdw_nei (fun q => hi q.symm)]
  have e6x : rd g 206 x = y := by rw [← hg, rdw_ne (by decide), rdw_ne (by decide), rdw_eq]
  have e7 : ∀ i, i ≠ rd h 182 42 → rd g 207 i = rd h 207 i := fun i hi => by rw [← hg, rdw_ne (by decide), rdw_nei (fun q => hi q.symm), rdw_ne (by decide)]
  have e7t : rd g 207 (rd h 182 42) = x := by rw [← hg, rdw_ne (by decide), rdw_eq]
  have et : rd g 182 42 = rd h 182 42 + 1 := by rw [← hg, rdw_eq]
  have fr : frB h g := by
    intro a i n1 n2 n3 n4 n5
    rw [← hg, rd_wr, if_neg (by rintro ⟨rfl, rfl⟩; exact n5 ⟨rfl, rfl⟩), rdw_ne (fun q => n4 q.symm), rdw_ne (fun q => n3 q.symm)]
  have up := cnt_up (c := rd h 206) (c' := rd g 206) hx c (by rw [e6x]; omega) e6
  have b2 := b.2.1
  have b3 := b.2.2
  clear b
  refine k g (WC_same w i3 (fun a i ha => fr a i (by omega) (by omega) (by omega) (by omega) (by omega))) fr ⟨?_, ?_, ?_⟩ ⟨h0.1, ?_, ?_⟩
  · clear b2 b3
    omega
  · intro j j0 j1
    by_cases hj : j = rd h 182 42
    · rw [hj, e7t, e6x]
      refine ⟨by clear b2 b3; omega, Or.inr ⟨ok, head, h0.1, h0.2.1, ?_⟩⟩
      rw [hp, e7 head (by clear b2 b3; omega)]
      exact h0.2.2
    · obtain ⟨q1, q2⟩ := b2 j j0 (by clear b2 b3; omega)
      have n : rd h 207 j ≠ x := fun z => q1 (by rw [z]; exact c)
      rw [e7 j hj, e6 _ n]
      refine ⟨q1, ?_⟩
      rcases q2 with q | ⟨q2, i, i0, i1', i2'⟩
      · exact Or.inl q
      · exact Or.inr ⟨q2, i, i0, i1', by rw [e7 i (by clear b2 b3; omega)]; exact i2'⟩
  · intro z z0 z1 zc
    by_cases hz : z = x
    · exact ⟨rd h 182 42, by clear b2 b3; omega, by clear b2 b3; omega, by rw [hz]; exact e7t⟩
    · rw [e6 z hz] at zc
      obtain ⟨j, j0, j1, j2⟩ := b3 z z0 z1 zc
      exact ⟨j, j0, by clear b2 b3; omega, by rw [e7 j (by clear b2 b3; omega)]; exact j2⟩
  · clear b2 b3
    omega
  · rw [e7 head (by clear b2 b3; omega)]
    exact h0.2.2
/-- from a place on -/
theorem D_spreads {fl : Int → Int} {src x0 first last head : Int} (he : 6 ≤ e) (w : WC K S h) (b : BI K S fl src h) (efl : ∀ i, rd h 204 i = fl i) (hx : 0 ≤ x0 ∧ x0 ≤ 249) (hf : 0 ≤ first ∧ first ≤ 24) (hl : 0 ≤ last ∧ last ≤ 23) (h0 : 0 ≤ head ∧ head < rd h 182 42 ∧ rd h 207 head = x0) (k : ∀ g, WC K S g → frB h g → BI K S fl src g → Q none g) : Rn xs xl e mm_spreads 0 [some (.inr (.inr 182)), some (.inl x0), some (.inl first), some (.inl last), none, none, none, none] [] h Q := by
  have kb := KB_of w (p := 0) (by omega)
  have kd := kb.1
  have kr := kb.2.1
  have dE : ∀ d, 0 ≤ d → d < K.1 1 → (0 ≤ K.1 (8 * d + 5) ∧ K.1 (8 * d + 5) ≤ 9) ∧ (0 ≤ K.1 (8 * d + 6) ∧ K.1 (8 * d + 6) ≤ 9) := fun d d0 d1 => by have := kb.2.2.2.2.2 d d0 d1; omega
  -- who may come fewer
  have l142 : ∀ (n : Nat) (g : LH) (d : Int) (o7 : Option LV), K.1 1 - d ≤ n → 0 ≤ d → d ≤ K.1 1 → WC K S g → frB h g → BI K S fl src g → (0 ≤ head ∧ head < rd g 182 42 ∧ rd g 207 head = x0) → Rn xs xl e mm_spreads 142 [some (.inr (.inr 182)), some (.inl x0), some (.inl first), some (.inl last), some (.inl (x0 % 10)), some (.inl (x0 / 10)), some (.inl d), o7] [] g Q := by
    intro n
    induction n with
    | zero =>
      intro g d o7 hn d0 d1 gw gf gb gh
      have e1 : rd g 188 1 = K.1 1 := by rw [← gw.2.1]; rfl
      exact B_spreads_142 (RF_of gw.1.1) hx hf hl (by omega) (by omega) (by omega) (by omega) ⟨fun _ => k g gw gf gb, fun c => by omega⟩
    | succ n ih =>
      intro g d o7 hn d0 d1 gw gf gb gh
      have e1 : rd g 188 1 = K.1 1 := by rw [← gw.2.1]; rfl
      have e5 : rd g 188 (8 * d + 5) = K.1 (8 * d + 5) := by rw [← gw.2.1]; rfl
      have e6 : rd g 188 (8 * d + 6) = K.1 (8 * d + 6) := by rw [← gw.2.1]; rfl
      have ef : ∀ i, rd g 204 i = fl i := fun i => (gf 204 i (by decide) (by decide) (by decide) (by decide) (by omega)).trans (efl i)
      have t243 : ∀ (g' : LH) (o7 : Option LV), d < K.1 1 → WC K S g' → frB h g' → BI K S fl src g' → (0 ≤ head ∧ head < rd g' 182 42 ∧ rd g' 207 head = x0) → Rn xs xl e mm_spreads 243 [some (.inr (.inr 182)), some (.inl x0), some (.inl first), some (.inl last), some (.inl (x0 % 10)), some (.inl (x0 / 10)), some (.inl d), o7] [] g' Q := fun g' o7 hd w' f' b' h' => B_spreads_243 (RF_of w'.1.1) hx hf hl (by omega) (ih g' (d + 1) o7 (by omega) (by omega) (by omega) w' f' b' h')
      have go : ∀ o : Int, 0 ≤ o → o ≤ 9 → d < K.1 1 → 1 ≤ x0 / 10 → 0 < rd g 204 (14 * (x0 / 10) + d - 14) → ∃ c, c < e ∧ Rn xs xl c mm_toOf 0 [some (.inr (.inr 182)), some (.inl d), some (.inl o), some (.inl (x0 / 10 - 1))] [] g (fun r h' => Rn xs xl e mm_spreads 218 [some (.inr (.inr 182)), some (.inl x0), some (.inl first), some (.inl last), some (.inl (x0 % 10)), some (.inl (x0 / 10)), some (.inl d), some (.inl o)] (r.toList ++ []) h' Q) := by
        intro o o0 o1 hd h1 hfl
        refine ⟨5, by omega, D_toOf (by omega) gw (by omega) ⟨o0, o1⟩ (by omega) (fun u uw uf => ?_)⟩
        have nt := NT_ok (K := K) (S := S) (d := d) (room := o) (hr := x0 / 10 - 1) (by omega) ⟨o0, o1⟩ (by omega)
        have ub := BI_L uf gb
        have uh : 0 ≤ head ∧ head < rd u 182 42 ∧ rd u 207 head = x0 := by rw [uf 182 42 (by decide) (by decide), uf 207 head (by decide) (by decide)]; exact gh
        refine B_spreads_218 (RF_of uw.1.1) hx hf hl (by omega) (by omega) (by omega) ⟨o0, o1⟩ (by omega) ⟨fun _ => t243 u _ hd uw (gf.trans (frB_L uf)) ub uh, fun c => ⟨0, by omega, ?_⟩⟩
        have p1 : (10 * (x0 / 10) + o - 10) / 10 = x0 / 10 - 1 := by omega
        have p2 : (10 * (x0 / 10) + o - 10) % 10 = o := by omega
        refine D_comes uw ub (by omega) (by omega) uh (Or.inr (Or.inr (Or.inr ?_))) ?_ (fun v vw vf vb vh => t243 v _ hd vw ((gf.trans (frB_L uf)).trans vf) vb vh)
        · rw [p1, p2, show d + 800 - 800 = d by omega, show 14 * (x0 / 10 - 1) + (d + 800) - 800 = 14 * (x0 / 10) + d - 14 by omega, ← ef]
          exact ⟨by omega, by omega, by omega, by omega, by omega⟩
        · unfold par
          rw [if_neg (by omega), if_neg (by omega), if_neg (by omega), p1, p2, show d + 800 - 800 = d by omega, c]
          omega
      refine B_spreads_142 (RF_of gw.1.1) hx hf hl (by omega) (by omega) (by omega) (by omega) ⟨fun _ => k g gw gf gb, fun c => ⟨fun _ => k g gw gf gb, fun c2 => ⟨fun c3 => ⟨by omega, fun _ => t243 g _ (by omega) gw gf gb gh, fun c4 => ?_⟩, fun c3 => ⟨by omega, fun _ => t243 g _ (by omega) gw gf gb gh, fun c4 => ?_⟩⟩⟩⟩
      · have := dE d d0 (by omega)
        exact go _ (by omega) (by omega) (by omega) (by omega) c4
      · have := dE d d0 (by omega)
        exact go _ (by omega) (by omega) (by omega) (by omega) c4
  have t110 : ∀ (g : LH) (o6 o7 : Option LV), WC K S g → frB h g → BI K S fl src g → (0 ≤ head ∧ head < rd g 182 42 ∧ rd g 207 head = x0) → Rn xs xl e mm_spreads 110 [some (.inr (.inr 182)), some (.inl x0), some (.inl first), some (.inl last), some (.inl (x0 % 10)), some (.inl (x0 / 10)), o6, o7] [] g Q := by
    intro g o6 o7 gw gf gb gh
    refine B_spreads_110 (RF_of gw.1.1) hx hf hl (by omega) (by omega) ⟨fun _ => l142 14 g 0 _ (by omega) (by omega) (by omega) gw gf gb gh, fun c => ⟨by omega, fun _ => l142 14 g 0 _ (by omega) (by omega) (by omega) gw gf gb gh, fun c2 => ⟨0, by omega, ?_⟩⟩⟩
    refine D_comes gw gb (by omega) (by omega) gh (Or.inr (Or.inl ⟨rfl, by omega⟩)) ?_ (fun v vw vf vb vh => B_spreads_139 (RF_of vw.1.1) hx hf hl (l142 14 v 0 _ (by omega) (by omega) (by omega) vw (gf.trans vf) vb vh))
    unfold par
    rw [if_neg (by omega), if_pos rfl]
    omega
  -- who may go
  have l32 : ∀ (n : Nat) (g : LH) (d : Int) (o7 : Option LV), K.1 1 - d ≤ n → 0 ≤ d → d ≤ K.1 1 → WC K S g → frB h g → BI K S fl src g → (0 ≤ head ∧ head < rd g 182 42 ∧ rd g 207 head = x0) → Rn xs xl e mm_spreads 32 [some (.inr (.inr 182)), some (.inl x0), some (.inl first), some (.inl last), some (.inl (x0 % 10)), some (.inl (x0 / 10)), some (.inl d), o7] [] g Q := by
    intro n
    induction n with
    | zero =>
      intro g d o7 hn d0 d1 gw gf gb gh
      have e1 : rd g 188 1 = K.1 1 := by rw [← gw.2.1]; rfl
      exact B_spreads_32 (RF_of gw.1.1) hx hf hl (by omega) (by omega) (by omega) (by omega) ⟨fun _ => t110 g _ _ gw gf gb gh, fun c => by omega⟩
    | succ n ih =>
      intro g d o7 hn d0 d1 gw gf gb gh
      have e1 : rd g 188 1 = K.1 1 := by rw [← gw.2.1]; rfl
      refine B_spreads_32 (RF_of gw.1.1) hx hf hl (by omega) (by omega) (by omega) (by omega) ⟨fun _ => t110 g _ _ gw gf gb gh, fun c => ⟨fun _ => t110 g _ _ gw gf gb gh, fun c2 => ⟨5, by omega, ?_⟩⟩⟩
      refine D_toOf (by omega) gw (by omega) (by omega) (by omega) (fun u uw uf => ?_)
      have nt := NT_ok (K := K) (S := S) (d := d) (room := x0 % 10) (hr := x0 / 10) (by omega) (by omega) (by omega)
      have ub := BI_L uf gb
      have uh : 0 ≤ head ∧ head < rd u 182 42 ∧ rd u 207 head = x0 := by rw [uf 182 42 (by decide) (by decide), uf 207 head (by decide) (by decide)]; exact gh
      have ef : ∀ i, rd u 204 i = fl i := fun i => ((gf.trans (frB_L uf)) 204 i (by decide) (by decide) (by decide) (by decide) (by omega)).trans (efl i)
      have eh := rq_d6 uw.1.1 (i := 8 * d + 10) (d := d) (by omega) (by omega) (by omega)
      have t104 : ∀ (g' : LH) (o7 : Option LV), WC K S g' → frB h g' → BI K S fl src g' → (0 ≤ head ∧ head < rd g' 182 42 ∧ rd g' 207 head = x0) → Rn xs xl e mm_spreads 104 [some (.inr (.inr 182)), some (.inl x0), some (.inl first), some (.inl last), some (.inl (x0 % 10)), some (.inl (x0 / 10)), some (.inl d), o7] [] g' Q := fun g' o7 w' f' b' h' => B_spreads_104 (RF_of w'.1.1) hx hf hl (by omega) (ih g' (d + 1) o7 (by omega) (by omega) (by omega) w' f' b' h')
      refine B_spreads_57 (RF_of uw.1.1) hx hf hl (by omega) (by omega) (by omega) (by omega) (by omega) ⟨fun _ => t104 u _ uw (gf.trans (frB_L uf)) ub uh, fun c3 => ⟨fun _ => t104 u _ uw (gf.trans (frB_L uf)) ub uh, fun c4 => ⟨0, by omega, ?_⟩⟩⟩
      have n2 := nt.2 c3
      have p1 : (10 * (x0 / 10) + NT K S d (x0 % 10) (x0 / 10) + 10) / 10 = x0 / 10 + 1 := by omega
      have p2 : (10 * (x0 / 10) + NT K S d (x0 % 10) (x0 / 10) + 10) % 10 = NT K S d (x0 % 10) (x0 / 10) := by omega
      have tE' : NT K S d (x0 % 10) (x0 / 10) = K.1 (8 * d + 5) + K.1 (8 * d + 6) - x0 % 10 := by
        have a := n2.2.2.1
        unfold tE at a
        rw [← n2.2.1] at a
        exact a
      have e4 := ef (14 * (x0 / 10) + d)
      refine D_comes uw ub (by omega) (by omega) uh (Or.inr (Or.inr (Or.inl ?_))) ?_ (fun v vw vf vb vh => t104 v _ vw ((gf.trans (frB_L uf)).trans vf) vb vh)
      · rw [p1, p2, show 14 * (x0 / 10 + 1) + d - 14 = 14 * (x0 / 10) + d by omega, show K.1 (8 * d + 5) + K.1 (8 * d + 6) - NT K S d (x0 % 10) (x0 / 10) = x0 % 10 by omega, show x0 / 10 + 1 - 1 = x0 / 10 by omega]
        exact ⟨d0, by omega, by omega, by omega, by omega, rfl⟩
      · unfold par
        rw [if_neg (by omega), if_neg (by omega), if_pos (by omega), p1, p2]
        omega
  refine B_spreads_0 (RF_of w.1.1) hx hf hl ⟨fun _ => l32 14 h 0 _ (by omega) (by omega) (by omega) w (fun _ _ _ _ _ _ _ => rfl) b h0, fun c => ⟨0, by omega, ?_⟩⟩
  refine D_comes w b (by omega) (by omega) h0 (Or.inl ⟨rfl, by omega⟩) ?_ (fun v vw vf vb vh => B_spreads_29 (RF_of vw.1.1) hx hf hl (l32 14 v 0 _ (by omega) (by omega) (by omega) vw vf vb vh))
  unfold par
  rw [if_pos rfl]
  omega
end CR
