section
/-! LM, part 63: the reference's crowd comes to an end, the way back -/
theorem ps_zero {f : Int → Int} (h : ∀ i : Int, 0 ≤ i → i < 336 → f i = 0) : ∀ n : Nat, n ≤ 336 → ps f n = 0
  | 0, _ => rfl
  | n + 1, hn => by
    show ps f n + f n = 0
    rw [ps_zero h n (by omega), h n (by omega) (by omega)]
    rfl
def sd (to r : Int) : Int := if r = to then 1 else 0
theorem sd_b (to r : Int) : 0 ≤ sd to r ∧ sd to r ≤ 1 := by unfold sd; split <;> omega
def cf (K : KEY) (to i : Int) : Int := sd to (tE K (i % 14) (i / 14)) - sd to (sE K (i % 14) (i / 14))
def PH (K : KEY) (to : Int) (g : LH) : Int := ps (fun i => rd g 204 i * cf K to i) 336
theorem PH_same {K : KEY} {to : Int} {g h : LH} (e : ∀ i, rd g 204 i = rd h 204 i) : PH K to g = PH K to h := by
  unfold PH
  rw [show (fun i => rd g 204 i * cf K to i) = (fun i => rd h 204 i * cf K to i) from funext (fun i => by rw [e])]
theorem PH_wr {K : KEY} {to i v : Int} {h : LH} (hi : 0 ≤ i ∧ i < 336) : PH K to (wr h 204 i v) = PH K to h + (v * cf K to i - rd h 204 i * cf K to i) := by
  unfold PH
  rw [ps_upd (f := fun j => rd h 204 j * cf K to j) (g := fun j => rd (wr h 204 i v) 204 j * cf K to j) (a := i) (fun j hj => by
    show rd (wr h 204 i v) 204 j * cf K to j = rd h 204 j * cf K to j
    rw [rdw_nei (fun q => hj q.symm)])]
  rw [if_pos (by omega), rdw_eq]
theorem PH_add {K : KEY} {to i : Int} {h : LH} (hi : 0 ≤ i ∧ i < 336) : PH K to (wr h 204 i (rd h 204 i + 1)) = PH K to h + cf K to i := by
  rw [PH_wr hi, Int.add_mul]
  omega
theorem PH_sub {K : KEY} {to i : Int} {h : LH} (hi : 0 ≤ i ∧ i < 336) : PH K to (wr h 204 i (rd h 204 i - 1)) = PH K to h - cf K to i := by
  rw [PH_wr hi, Int.sub_mul]
  omega
def FBd (g : LH) : Prop := ∀ i, 0 ≤ i → i < 336 → -249 ≤ rd g 204 i ∧ rd g 204 i ≤ 258
def FB (fl : Int → Int) (w : Int) (g : LH) : Prop := ∀ i, 0 ≤ i → i < 336 → (rd g 204 i ≤ fl i ∨ rd g 204 i ≤ 8 + w) ∧ (fl i ≤ rd g 204 i ∨ 1 - w ≤ rd g 204 i)
theorem PH_le {K : KEY} {to : Int} {g : LH} (b : FBd g) : PH K to g ≤ 86688 := by
  have q := ps_le (f := fun i => rd g 204 i * cf K to i) (B := 258) (fun i i0 i1 => by
    have z := b i i0 i1
    have s1 := sd_b to (tE K (i % 14) (i / 14))
    have s2 := sd_b to (sE K (i % 14) (i / 14))
    show rd g 204 i * cf K to i ≤ 258
    have c : cf K to i = -1 ∨ cf K to i = 0 ∨ cf K to i = 1 := by unfold cf; omega
    rcases c with c | c | c <;> rw [c] <;> omega) (by omega) 336 (by omega)
  unfold PH
  omega
def frBk (h h' : LH) : Prop := ∀ a i, a ≠ 196 → a ≠ 197 → a ≠ 204 → a ≠ 205 → rd h' a i = rd h a i
def frCr (h h' : LH) : Prop := ∀ a i, a ≠ 196 → a ≠ 197 → a ≠ 204 → a ≠ 205 → a ≠ 206 → a ≠ 207 → ¬ (a = 182 ∧ i = 42) → rd h' a i = rd h a i
section CR2
variable {xs : Nat → Int} {xl e : Nat} {h : LH} {Q : Option LV → LH → Prop} {K : KEY} {S : Int → Int}
/-- a step back -/
theorem D_goesBack {fl : Int → Int} {to x y w : Int} (he : 6 ≤ e) (wc : WC K S h) (hx : 0 ≤ x ∧ x ≤ 249) (hy : rd h 206 x = y) (ok : okB K S fl x y) (hf : ∀ i, 0 ≤ i → i < 336 → -249 ≤ fl i ∧ fl i ≤ 258) (fb : FB fl w h) (hw : 0 ≤ w ∧ w ≤ 249) (k : ∀ g, WC K S g → frBk h g → FB fl (w + 1) g → PH K to g + sd to (par K S x y % 10) = PH K to h + sd to (x % 10) → Q (some (.inl (par K S x y))) g) : Rn xs xl e mm_goesBack 0 [some (.inr (.inr 182)), some (.inl x), none, none, none, none] [] h Q := by
  have kb := KB_of wc (p := 0) (by omega)
  have kd := kb.1
  have kr := kb.2.1
  have dE : ∀ d, 0 ≤ d → d < K.1 1 → (0 ≤ K.1 (8 * d + 5) ∧ K.1 (8 * d + 5) ≤ 9) ∧ (0 ≤ K.1 (8 * d + 6) ∧ K.1 (8 * d + 6) ≤ 9) := fun d d0 d1 => by have := kb.2.2.2.2.2 d d0 d1; omega
  clear kb
  have e5 : rd h 188 (8 * y + 5) = K.1 (8 * y + 5) := by rw [← wc.2.1]; rfl
  have e6 : rd h 188 (8 * y + 6) = K.1 (8 * y + 6) := by rw [← wc.2.1]; rfl
  have upd : ∀ i v, (v ≤ fl i ∨ v ≤ 9 + w) ∧ (fl i ≤ v ∨ - w ≤ v) → FB fl (w + 1) (wr h 204 i v) := by
    intro i v hv j j0 j1
    by_cases c : i = j
    · subst c
      rw [rdw_eq]
      omega
    · rw [rdw_nei c]
      have := fb j j0 j1
      omega
  have upw : ∀ i v, FB fl (w + 1) (wr h 205 i v) := by
    intro i v j j0 j1
    rw [rdw_ne (by decide)]
    have := fb j j0 j1
    omega
  have B := B_goesBack_0 (xs := xs) (xl := xl) (e := e) (Q := Q) (RF_of wc.1.1) hx (by omega)
  rw [hy, e5, e6] at B
  refine B ⟨fun c1 => ⟨fun c2 => ⟨fun c3 => ?_, fun c3 => ?_⟩, fun c2 => ?_⟩, fun c1 => ?_⟩
  · clear B
    rcases ok with q | q | q | ⟨a0, a1, a2, a3, a4⟩
    · exact absurd q.1 c1
    · exact absurd q.1 c2
    · exfalso
      have := q.2.1
      clear q
      omega
    have nt := NT_ok (K := K) (S := S) (d := y - 800) (room := x % 10) (hr := x / 10) (by omega) (by omega) (by omega)
    have n2 := nt.2 a4
    have nt1 := nt.1
    have f1 := fb (14 * (x / 10) + y - 800) (by omega) (by omega)
    have f2 := hf (14 * (x / 10) + y - 800) (by omega) (by omega)
    clear nt
    refine ⟨by omega, by omega, by omega, by omega, by omega, by omega, by omega, by omega, 5, by omega, ?_⟩
    have i1 := wA_flow wc.1 (i := 14 * (x / 10) + y - 800) (v := rd h 204 (14 * (x / 10) + y - 800) - 1) (by omega) (by omega) (by omega)
    have w1 : WC K S (wr h 204 (14 * (x / 10) + y - 800) (rd h 204 (14 * (x / 10) + y - 800) - 1)) := WC_same wc i1 (fun a i ha => rdw_ne (by omega))
    refine D_toOf (by omega) w1 (by omega) (by omega) (by omega) (fun u uw uf => ?_)
    refine B_goesBack_164 (RF_of uw.1.1) (by omega) nt1 ?_
    have pe : par K S x y = 10 * (x / 10) + 10 + NT K S (y - 800) (x % 10) (x / 10) := by
      unfold par
      rw [if_neg c1, if_neg c2, if_neg (by omega)]
      omega
    rw [← pe]
    have F := upd (14 * (x / 10) + y - 800) (rd h 204 (14 * (x / 10) + y - 800) - 1) (by omega)
    refine k u uw (fun a i n1 n2 n3 n4 => (uf a i n1 n2).trans (rdw_ne (fun q => n3 q.symm))) (fun i i0 i1 => by rw [uf 204 i (by decide) (by decide)]; exact F i i0 i1) ?_
    rw [PH_same (fun i => uf 204 i (by decide) (by decide)), PH_sub (by omega), pe, show (10 * (x / 10) + 10 + NT K S (y - 800) (x % 10) (x / 10)) % 10 = NT K S (y - 800) (x % 10) (x / 10) by omega]
    have cE : cf K to (14 * (x / 10) + y - 800) = sd to (NT K S (y - 800) (x % 10) (x / 10)) - sd to (x % 10) := by
      unfold cf
      rw [show (14 * (x / 10) + y - 800) % 14 = y - 800 by omega, show (14 * (x / 10) + y - 800) / 14 = x / 10 by omega, n2.2.2.1, ← n2.2.1]
    omega
  · clear B
    rcases ok with q | q | ⟨a0, a1, a2, a3, a4, a5⟩ | q
    · exact absurd q.1 c1
    · exact absurd q.1 c2
    · have nt := NT_ok (K := K) (S := S) (d := y) (room := K.1 (8 * y + 5) + K.1 (8 * y + 6) - x % 10) (hr := x / 10 - 1) (by omega) a4 (by omega)
      have n2 := nt.2 (by rw [a5]; omega)
      have nt1 := nt.1
      clear nt
      have f1 := fb (14 * (x / 10) + y - 14) (by omega) (by omega)
      have f2 := hf (14 * (x / 10) + y - 14) (by omega) (by omega)
      have dy := dE y a0 a1
      have i1 := wA_flow wc.1 (i := 14 * (x / 10) + y - 14) (v := rd h 204 (14 * (x / 10) + y - 14) + 1) (by omega) (by omega) (by omega)
      have pe : par K S x y = 10 * (x / 10 - 1) + (K.1 (8 * y + 5) + K.1 (8 * y + 6) - x % 10) := by
        unfold par
        rw [if_neg c1, if_neg c2, if_pos c3]
      have fin : ∀ v : Int, v = par K S x y → Q (some (.inl v)) (wr h 204 (14 * (x / 10) + y - 14) (rd h 204 (14 * (x / 10) + y - 14) + 1)) := by
        intro v hv
        rw [hv]
        refine k _ (WC_same wc i1 (fun a i ha => rdw_ne (by omega))) (fun a i n1 n2 n3 n4 => rdw_ne (fun q => n3 q.symm)) (upd _ _ (by omega)) ?_
        rw [PH_add (by omega), pe, show (10 * (x / 10 - 1) + (K.1 (8 * y + 5) + K.1 (8 * y + 6) - x % 10)) % 10 = K.1 (8 * y + 5) + K.1 (8 * y + 6) - x % 10 by omega]
        have cE : cf K to (14 * (x / 10) + y - 14) = sd to (x % 10) - sd to (K.1 (8 * y + 5) + K.1 (8 * y + 6) - x % 10) := by
          unfold cf
          rw [show (14 * (x / 10) + y - 14) % 14 = y by omega, show (14 * (x / 10) + y - 14) / 14 = x / 10 - 1 by omega, ← n2.2.2.1, a5, ← n2.2.1]
        omega
      have n3 := n2.2.2.2
      clear n2
      refine ⟨by omega, by omega, by omega, by omega, by omega, by omega, by omega, by omega, by omega, by omega, by omega, by omega, fun c4 => ?_, fun c4 => ?_⟩
      · exact ⟨by omega, by omega, by omega, by omega, by omega, fin _ (by omega)⟩
      · exact ⟨by omega, by omega, by omega, by omega, by omega, fin _ (by omega)⟩
    · exfalso
      have := q.1
      clear q
      omega
  · clear B
    have x2 : x ≤ 239 := by
      rcases ok with q | q | q | q
      · have := q.1
        omega
      · exact q.2
      · have := q.2.1
        clear q
        omega
      · have := q.2.1
        clear q
        omega
    have i1 := wA_waits wc.1 (i := x) (v := w32 (rd h 205 x - 1)) (by omega) (w32_in _).1 (w32_in _).2
    have pe : par K S x y = x + 10 := by
      unfold par
      rw [if_neg c1, if_pos c2]
    rw [← pe]
    refine k _ (WC_same wc i1 (fun a i ha => rdw_ne (by omega))) (fun a i n1 n2 n3 n4 => rdw_ne (fun q => n4 q.symm)) (upw _ _) ?_
    rw [PH_same (fun i => rdw_ne (by decide)), pe, show (x + 10) % 10 = x % 10 by omega]
  · clear B
    have x2 : 10 ≤ x := by
      rcases ok with q | q | q | q
      · exact q.2
      · have := q.1
        omega
      · have := q.2.1
        clear q
        omega
      · have := q.1
        clear q
        omega
    have i1 := wA_waits wc.1 (i := x - 10) (v := w32 (rd h 205 (x - 10) + 1)) (by omega) (w32_in _).1 (w32_in _).2
    have pe : par K S x y = x - 10 := by
      unfold par
      rw [if_pos c1]
    refine ⟨by omega, by omega, ?_⟩
    rw [← pe]
    refine k _ (WC_same wc (by rw [pe]; exact i1) (fun a i ha => rdw_ne (by omega))) (fun a i n1 n2 n3 n4 => rdw_ne (fun q => n4 q.symm)) (upw _ _) ?_
    rw [PH_same (fun i => rdw_ne (by decide)), pe, show (x - 10) % 10 = x % 10 by omega]
/-- one more who comes -/
theorem D_isMore {src tgt last to : Int} (he : 7 ≤ e) (w : WC K S h) (hb : FBd h) (hs : 0 ≤ src ∧ src ≤ 249) (ht : 0 ≤ tgt ∧ tgt ≤ 249) (hl : 0 ≤ last ∧ last ≤ 23) (hto : tgt % 10 = to) (hne : src % 10 ≠ to) (k : ∀ g r, WC K S g → frCr h g → FBd g → (r = 0 ∨ (r = 1 ∧ PH K to g = PH K to h + 1)) → Q (some (.inl r)) g) : Rn xs xl e mm_isMore 0 [some (.inr (.inr 182)), some (.inl src), some (.inl tgt), some (.inl last), none] [] h Q := by
  have l97 : ∀ (n : Nat) (g : LH) (j ww : Int), j < n → 0 ≤ j → j < rd g 182 42 → 0 ≤ ww → ww + j ≤ 249 → WC K S g → frCr h g → BI K S (rd h 204) src g → FB (rd h 204) ww g → PH K to g + sd to (rd g 207 j % 10) = PH K to h + 1 → Rn xs xl e mm_isMore 97 [some (.inr (.inr 182)), some (.inl src), some (.inl tgt), some (.inl last), some (.inl (rd g 207 j))] [] g Q := by
    intro n
    induction n with
    | zero =>
      intro g j ww hn j0
      omega
    | succ n ih =>
      intro g j ww hn j0 j1 w0 wj gw gf gb gfb gp
      refine B_isMore_97 (RF_of gw.1.1) ⟨fun c => ?_, fun c => ⟨6, by omega, ?_⟩⟩
      · refine k g 1 gw gf ?_ (Or.inr ⟨rfl, ?_⟩)
        · intro i i0 i1
          have a1 := gfb i i0 i1
          have a2 := hb i i0 i1
          omega
        · rw [c] at gp
          unfold sd at gp
          rw [if_neg hne] at gp
          omega
      · rcases (gb.2.1 j j0 j1).2 with q2 | ⟨q2, i, i0, i1, i2⟩
        · exact absurd q2.2 c
        have t0 := rF_tail0 gw.1.1
        have rq := rA_queue gw.1.1 (i := j) ⟨j0, by omega⟩
        refine D_goesBack (fl := rd h 204) (to := to) (w := ww) (by omega) gw rq rfl q2 hb gfb (by omega) (fun u uw uf ufb up => ?_)
        have f6 : rd u 206 = rd g 206 := funext (fun i => uf 206 i (by decide) (by decide) (by decide) (by decide))
        have f7 : rd u 207 = rd g 207 := funext (fun i => uf 207 i (by decide) (by decide) (by decide) (by decide))
        have f8 : rd u 182 42 = rd g 182 42 := uf 182 42 (by decide) (by decide) (by decide) (by decide)
        have ub : BI K S (rd h 204) src u := by
          unfold BI
          rw [f6, f7, f8]
          exact gb
        refine B_isMore_109 (RF_of uw.1.1) ?_
        have z := ih u i (ww + 1) (by omega) i0 (by omega) (by omega) (by omega) uw (fun a i n1 n2 n3 n4 n5 n6 n7 => (uf a i n1 n2 n3 n4).trans (gf a i n1 n2 n3 n4 n5 n6 n7)) ub ufb (by rw [f7, i2, up]; exact gp)
        rw [f7, i2] at z
        exact z
  have t82 : ∀ (g : LH) (v4 : Int), WC K S g → frB h g → BI K S (rd h 204) src g → Rn xs xl e mm_isMore 82 [some (.inr (.inr 182)), some (.inl src), some (.inl tgt), some (.inl last), some (.inl v4)] [] g Q := by
    intro g v4 gw gf gb
    have f4 : ∀ i, rd g 204 i = rd h 204 i := fun i => gf 204 i (by decide) (by decide) (by decide) (by decide) (fun q => absurd q.1 (by decide))
    have gc : frCr h g := fun a i n1 n2 n3 n4 n5 n6 n7 => gf a i n1 n2 n5 n6 n7
    refine B_isMore_82 (RF_of gw.1.1) hs ht hl ⟨fun c => ?_, fun c => k g 0 gw gc (fun i i0 i1 => by rw [f4]; exact hb i i0 i1) (Or.inl rfl)⟩
    obtain ⟨j, j0, j1, j2⟩ := gb.2.2 tgt ht.1 ht.2 c
    have t0 := rF_tail0 gw.1.1
    have z := l97 251 g j 0 (by omega) j0 j1 (by omega) (by omega) gw gc gb (fun i i0 i1 => by rw [f4]; omega) (by
      rw [PH_same f4, j2]
      unfold sd
      rw [if_pos hto])
    rw [j2] at z
    exact z
  have l41 : ∀ (n : Nat) (g : LH) (v4 : Int), 250 - v4 < n → 0 ≤ v4 → v4 ≤ 250 → WC K S g → frB h g → BI K S (rd h 204) src g → Rn xs xl e mm_isMore 41 [some (.inr (.inr 182)), some (.inl src), some (.inl tgt), some (.inl last), some (.inl v4)] [] g Q := by
    intro n
    induction n with
    | zero =>
      intro g v4 hn v0 v1
      omega
    | succ n ih =>
      intro g v4 hn v0 v1 gw gf gb
      have t0 := rF_tail0 gw.1.1
      refine B_isMore_41 (RF_of gw.1.1) hs ht hl ⟨v0, v1⟩ ⟨fun _ => t82 g _ gw gf gb, fun c => ⟨fun _ => t82 g _ gw gf gb, fun c2 => ⟨by omega, 6, by omega, ?_⟩⟩⟩
      have rq := rA_queue gw.1.1 (i := v4) (by omega)
      refine D_spreads (fl := rd h 204) (src := src) (head := v4) (by omega) gw gb (fun i => gf 204 i (by decide) (by decide) (by decide) (by decide) (fun q => absurd q.1 (by decide))) rq (by omega) hl ⟨v0, c, rfl⟩ (fun u uw uf ub => B_isMore_76 (RF_of uw.1.1) (by omega) (ih u (v4 + 1) (by omega) (by omega) (by omega) uw (gf.trans uf) ub))
  have l3 : ∀ (n : Nat) (g : LH) (v4 : Int), 250 - v4 < n → 0 ≤ v4 → v4 ≤ 250 → WC K S g → frB h g → (∀ i, 0 ≤ i → i < v4 → rd g 206 i = -1) → Rn xs xl e mm_isMore 3 [some (.inr (.inr 182)), some (.inl src), some (.inl tgt), some (.inl last), some (.inl v4)] [] g Q := by
    intro n
    induction n with
    | zero =>
      intro g v4 hn v0 v1
      omega
    | succ n ih =>
      intro g v4 hn v0 v1 gw gf gm
      refine B_isMore_3 (RF_of gw.1.1) hs ht hl ⟨v0, v1⟩ ⟨fun c => ⟨0, by omega, ?_⟩, fun c => ⟨by omega, ?_⟩⟩
      · have i1 := wF_tail0 gw.1 (v := 0) (by omega) (by omega)
        have B := B_comes_0 (xs := xs) (xl := xl) (e := 0) (v1 := src) (v2 := 2000) (Q := fun r h' => Rn xs xl e mm_isMore 38 [some (.inr (.inr 182)), some (.inl src), some (.inl tgt), some (.inl last), some (.inl v4)] (r.toList ++ []) h' Q) (RF_of i1.1) hs
        have m : ∀ i, 0 ≤ i → i < 250 → rd (wr g 182 42 0) 206 i = -1 := fun i i0 i2 => by rw [rdw_ne (by decide)]; exact gm i i0 (by omega)
        rw [show rd (wr g 182 42 0) 182 42 = 0 from rdw_eq, m src hs.1 (by omega)] at B
        refine B ⟨fun q => absurd rfl q, fun _ => ⟨by omega, by omega, ?_⟩⟩
        clear B
        have i2 := wA_cameBy i1 (i := src) (v := 2000) (by omega) (by omega) (by omega)
        have i3 := wA_queue i2 (i := 0) (v := src) (by omega) (by omega) (by omega)
        have i4 := wF_tail0 i3 (v := 0 + 1) (by omega) (by omega)
        have up := cnt_up (c := rd (wr g 182 42 0) 206) (c' := rd (wr (wr (wr (wr g 182 42 0) 206 src 2000) 207 0 src) 182 42 (0 + 1)) 206) hs (m src hs.1 (by omega)) (by
          rw [rdw_ne (by decide), rdw_ne (by decide), rdw_eq]
          decide) (fun i hi => by rw [rdw_ne (by decide), rdw_ne (by decide), rdw_nei (fun q => hi q.symm)])
        have e6 : ∀ i, i ≠ src → rd (wr (wr (wr (wr g 182 42 0) 206 src 2000) 207 0 src) 182 42 (0 + 1)) 206 i = rd (wr g 182 42 0) 206 i := fun i hi => by rw [rdw_ne (by decide), rdw_ne (by decide), rdw_nei (fun q => hi q.symm)]
        have e6x : rd (wr (wr (wr (wr g 182 42 0) 206 src 2000) 207 0 src) 182 42 (0 + 1)) 206 src = 2000 := by rw [rdw_ne (by decide), rdw_ne (by decide), rdw_eq]
        have e7 : rd (wr (wr (wr (wr g 182 42 0) 206 src 2000) 207 0 src) 182 42 (0 + 1)) 207 0 = src := by rw [rdw_ne (by decide), rdw_eq]
        have et : rd (wr (wr (wr (wr g 182 42 0) 206 src 2000) 207 0 src) 182 42 (0 + 1)) 182 42 = 1 := by rw [rdw_eq]; rfl
        have fr : frB g (wr (wr (wr (wr g 182 42 0) 206 src 2000) 207 0 src) 182 42 (0 + 1)) := by
          intro a i n1 n2 n3 n4 n5
          have n6 : ¬ ((182 : Int) = a ∧ (42 : Int) = i) := by rintro ⟨rfl, rfl⟩; exact n5 ⟨rfl, rfl⟩
          rw [rd_wr, if_neg n6, rdw_ne (fun q => n4 q.symm), rdw_ne (fun q => n3 q.symm), rd_wr, if_neg n6]
        generalize wr (wr (wr (wr g 182 42 0) 206 src 2000) 207 0 src) 182 42 (0 + 1) = G at *
        refine B_isMore_38 (RF_of i4.1) (l41 251 G 0 (by omega) (by omega) (by omega) (WC_same gw i4 (fun a i ha => fr a i (by omega) (by omega) (by omega) (by omega) (by omega))) (gf.trans fr) ⟨by omega, ?_, ?_⟩)
        · intro j j0 j1
          have jz : j = 0 := by omega
          rw [jz, e7, e6x]
          exact ⟨by decide, Or.inl ⟨rfl, rfl⟩⟩
        · intro x x0 x1 xc
          refine ⟨0, by omega, by omega, ?_⟩
          rw [e7]
          refine Classical.byContradiction (fun q => xc ?_)
          rw [e6 x (fun z => q z.symm)]
          exact m x x0 (by omega)
      · have i1 := wA_cameBy gw.1 (i := v4) (v := -1) (by omega) (by omega) (by omega)
        have fr : frB g (wr g 206 v4 (-1)) := fun a i n1 n2 n3 n4 n5 => rdw_ne (fun q => n3 q.symm)
        refine ih _ (v4 + 1) (by omega) (by omega) (by omega) (WC_same gw i1 (fun a i ha => fr a i (by omega) (by omega) (by omega) (by omega) (by omega))) (gf.trans fr) (fun i i0 i2 => ?_)
        by_cases z : v4 = i
        · rw [z, rdw_eq]
        · rw [rdw_nei z]
          exact gm i i0 (by omega)
  exact B_isMore_0 (RF_of w.1.1) hs ht hl (l3 251 h 0 (by omega) (by omega) (by omega) w (fun _ _ _ _ _ _ _ => rfl) (fun i i0 i1 => by omega))
/-- crowd, a root -/
theorem D_crowd {v1 v2 v3 : Int} (he : 8 ≤ e) (hI : INV h) (k : ∀ r g, INV g → (∀ a i, ¬ (a = 182 ∧ i = 0) → a ≠ 196 → a ≠ 197 → a ≠ 204 → a ≠ 205 → a ≠ 206 → a ≠ 207 → ¬ (a = 182 ∧ i = 42) → rd g a i = rd h a i) → Q (some (.inl r)) g) : Rn xs xl e mm_crowd 0 [some (.inr (.inr 182)), some (.inl v1), some (.inl v2), some (.inl v3), none] [] h Q := by
  have i0 : INV (wr h 182 0 0) := wF_thrown hI (by omega) (by omega)
  have f0 : ∀ a i, ¬ (a = 182 ∧ i = 0) → rd (wr h 182 0 0) a i = rd h a i := fun a i n => by
    rw [rd_wr, if_neg (fun q => n ⟨q.1.symm, q.2.symm⟩)]
  have wrong : Q (some (.inl (-1))) (wr h 182 0 0) := k _ _ i0 (fun a i n _ _ _ _ _ _ _ => f0 a i n)
  refine B_crowd_0 (RF_of hI.1) (by omega) ⟨fun _ => wrong, fun c1 => ⟨fun _ => wrong, fun c2 => ⟨fun _ => wrong, fun c3 => ⟨fun _ => wrong, fun c4 => ⟨fun _ => wrong, fun c5 => ⟨fun _ => wrong, fun c6 => ⟨fun _ => wrong, fun c7 => ?_⟩⟩⟩⟩⟩⟩⟩
  have r0 := rq_rooms hI.1
  have sn := rs_now hI.1 (i := 0) 0 0 rfl (by decide) (by omega) (by omega) (by omega) (by omega)
  have wc : WC (key (wr h 182 0 0)) (rd (wr h 182 0 0) 198) (wr h 182 0 0) := ⟨i0, rfl, rfl⟩
  have s0 : rd (wr h 182 0 0) 198 0 = rd h 198 0 := rdw_ne (by decide)
  generalize wr h 182 0 0 = h1 at *
  generalize key h1 = K at *
  generalize hS : rd h1 198 = S at *
  -- the search again and again
  have l96 : ∀ (n : Nat) (g : LH) (v4 : Int), 86688 - v4 < n → 0 ≤ v4 → v4 = PH K v2 g → WC K S g → frCr h1 g → FBd g → Rn xs xl e mm_crowd 96 [some (.inr (.inr 182)), some (.inl v1), some (.inl v2), some (.inl v3), some (.inl v4)] [] g Q := by
    intro n
    induction n with
    | zero =>
      intro g v4 hn v0 ve gw gf gb
      have := PH_le (K := K) (to := v2) gb
      omega
    | succ n ih =>
      intro g v4 hn v0 ve gw gf gb
      have pl := PH_le (K := K) (to := v2) gb
      have gs : rd g 198 0 = rd h 198 0 := by rw [gw.2.2]; exact s0
      refine B_crowd_96 (RF_of gw.1.1) (by omega) (by omega) (by omega) ⟨by omega, by omega, 7, by omega, ?_⟩
      refine D_isMore (to := v2) (by omega) gw gb (by omega) (by omega) (by omega) (by omega) (by omega) (fun u r uw uf ub ur => ?_)
      have fr : frCr h1 u := fun a i n1 n2 n3 n4 n5 n6 n7 => (uf a i n1 n2 n3 n4 n5 n6 n7).trans (gf a i n1 n2 n3 n4 n5 n6 n7)
      rcases ur with rfl | ⟨rfl, up⟩
      · exact B_crowd_120_0 (RF_of uw.1.1) (k _ _ uw.1 (fun a i n0 n1 n2 n3 n4 n5 n6 n7 => (fr a i n1 n2 n3 n4 n5 n6 n7).trans (f0 a i n0)))
      · exact B_crowd_120_1 (RF_of uw.1.1) ⟨by omega, ih u (v4 + 1) (by omega) (by omega) (by omega) uw fr ub⟩
  have l71 : ∀ (n : Nat) (g : LH) (v4 : Int), 250 - v4 < n → 0 ≤ v4 → v4 ≤ 250 → WC K S g → frCr h1 g → (∀ i, 0 ≤ i → i < 336 → rd g 204 i = 0) → Rn xs xl e mm_crowd 71 [some (.inr (.inr 182)), some (.inl v1), some (.inl v2), some (.inl v3), some (.inl v4)] [] g Q := by
    intro n
    induction n with
    | zero =>
      intro g v4 hn v0 v1
      omega
    | succ n ih =>
      intro g v4 hn v0 v1' gw gf gz
      refine B_crowd_71 (RF_of gw.1.1) ⟨v0, v1'⟩ ⟨fun c => ?_, fun c => ⟨by omega, ?_⟩⟩
      · refine l96 86689 g 0 (by omega) (by omega) ?_ gw gf (fun i i0 i1 => by rw [gz i i0 i1]; omega)
        unfold PH
        rw [ps_zero (fun i i0 i1 => by
          show rd g 204 i * cf K v2 i = 0
          rw [gz i i0 i1, Int.zero_mul]) 336 (by omega)]
      · have i1 := wA_waits gw.1 (i := v4) (v := 0) (by omega) (by omega) (by omega)
        exact ih _ (v4 + 1) (by omega) (by omega) (by omega) (WC_same gw i1 (fun a i ha => rdw_ne (by omega))) (fun a i n1 n2 n3 n4 n5 n6 n7 => (rdw_ne (fun q => n4 q.symm)).trans (gf a i n1 n2 n3 n4 n5 n6 n7)) (fun i i0 i1 => by rw [rdw_ne (by decide)]; exact gz i i0 i1)
  have l46 : ∀ (n : Nat) (g : LH) (v4 : Int), 336 - v4 < n → 0 ≤ v4 → v4 ≤ 336 → WC K S g → frCr h1 g → (∀ i, 0 ≤ i → i < v4 → rd g 204 i = 0) → Rn xs xl e mm_crowd 46 [some (.inr (.inr 182)), some (.inl v1), some (.inl v2), some (.inl v3), some (.inl v4)] [] g Q := by
    intro n
    induction n with
    | zero =>
      intro g v4 hn v0 v1
      omega
    | succ n ih =>
      intro g v4 hn v0 v1' gw gf gz
      refine B_crowd_46 (RF_of gw.1.1) ⟨v0, v1'⟩ ⟨fun c => l71 251 g 0 (by omega) (by omega) (by omega) gw gf (fun i i0 i1 => gz i i0 (by omega)), fun c => ⟨by omega, ?_⟩⟩
      have i1 := wA_flow gw.1 (i := v4) (v := 0) (by omega) (by omega) (by omega)
      refine ih _ (v4 + 1) (by omega) (by omega) (by omega) (WC_same gw i1 (fun a i ha => rdw_ne (by omega))) (fun a i n1 n2 n3 n4 n5 n6 n7 => (rdw_ne (fun q => n3 q.symm)).trans (gf a i n1 n2 n3 n4 n5 n6 n7)) (fun i i0 i2 => ?_)
      by_cases z : v4 = i
      · rw [z, rdw_eq]
      · rw [rdw_nei z]
        exact gz i i0 (by omega)
  exact l46 337 h1 0 (by omega) (by omega) (by omega) wc (fun _ _ _ _ _ _ _ _ _ => rfl) (fun i i0 i1 => by omega)
end CR2
end
section
/-! LM, by program (wip/p2/hand.py): rows of keeps, undo, mark, goes -/
def mm_keeps : LM_M := (⟨"OneSidedModel", "keeps", "()V"⟩, prog_14_method_45_code, 2, none, 12, 1, 0, 1625, 1624, 1000105)
def mm_undo : LM_M := (⟨"OneSidedModel", "undo", "()Z"⟩, prog_14_method_66_code, 1, (some .boolean), 12, 1, 0, 1641, 1639, 1640)
def mm_mark : LM_M := (⟨"OneSidedModel", "mark", "(IZ)Z"⟩, prog_14_method_109_code, 4, (some .boolean), 12, 3, 0, 1817, 1815, 1816)
def mm_goes : LM_M := (⟨"OneSidedModel", "goes", "(III)I"⟩, prog_14_method_61_code, 5, (some .int), 12, 4, 0, 1621, 1620, 1000104)
theorem dd_keeps_0 : decode mm_keeps.2.1 0 = .ok (.aload_n 0, 1) := by decide +kernel
theorem dd_keeps_1 : decode mm_keeps.2.1 1 = .ok (.getfield 322, 3) := by decide +kernel
theorem dd_keeps_4 : decode mm_keeps.2.1 4 = .ok (.bipush 16, 2) := by decide +kernel
theorem dd_keeps_6 : decode mm_keeps.2.1 6 = .ok (.if_icmp .ne (47), 3) := by decide +kernel
theorem dd_keeps_9 : decode mm_keeps.2.1 9 = .ok (.iconst 1, 1) := by decide +kernel
theorem dd_keeps_10 : decode mm_keeps.2.1 10 = .ok (.istore_n 1, 1) := by decide +kernel
theorem dd_keeps_11 : decode mm_keeps.2.1 11 = .ok (.iload_n 1, 1) := by decide +kernel
theorem dd_keeps_12 : decode mm_keeps.2.1 12 = .ok (.bipush 16, 2) := by decide +kernel
theorem dd_keeps_14 : decode mm_keeps.2.1 14 = .ok (.if_icmp .ge (29), 3) := by decide +kernel
theorem dd_keeps_43 : decode mm_keeps.2.1 43 = .ok (.aload_n 0, 1) := by decide +kernel
theorem dd_keeps_44 : decode mm_keeps.2.1 44 = .ok (.dup, 1) := by decide +kernel
theorem dd_keeps_45 : decode mm_keeps.2.1 45 = .ok (.getfield 322, 3) := by decide +kernel
theorem dd_keeps_48 : decode mm_keeps.2.1 48 = .ok (.iconst 1, 1) := by decide +kernel
theorem dd_keeps_49 : decode mm_keeps.2.1 49 = .ok (.isub, 1) := by decide +kernel
theorem dd_keeps_50 : decode mm_keeps.2.1 50 = .ok (.putfield 322, 3) := by decide +kernel
theorem dd_keeps_17 : decode mm_keeps.2.1 17 = .ok (.aload_n 0, 1) := by decide +kernel
theorem dd_keeps_18 : decode mm_keeps.2.1 18 = .ok (.bipush 70, 2) := by decide +kernel
theorem dd_keeps_20 : decode mm_keeps.2.1 20 = .ok (.iconst 5, 1) := by decide +kernel
theorem dd_keeps_21 : decode mm_keeps.2.1 21 = .ok (.iload_n 1, 1) := by decide +kernel
theorem dd_keeps_22 : decode mm_keeps.2.1 22 = .ok (.iadd, 1) := by decide +kernel
theorem dd_keeps_23 : decode mm_keeps.2.1 23 = .ok (.imul, 1) := by decide +kernel
theorem dd_keeps_24 : decode mm_keeps.2.1 24 = .ok (.bipush 70, 2) := by decide +kernel
theorem dd_keeps_26 : decode mm_keeps.2.1 26 = .ok (.iconst 5, 1) := by decide +kernel
theorem dd_keeps_27 : decode mm_keeps.2.1 27 = .ok (.iload_n 1, 1) := by decide +kernel
theorem dd_keeps_28 : decode mm_keeps.2.1 28 = .ok (.iadd, 1) := by decide +kernel
theorem dd_keeps_29 : decode mm_keeps.2.1 29 = .ok (.iconst 1, 1) := by decide +kernel
theorem dd_keeps_30 : decode mm_keeps.2.1 30 = .ok (.isub, 1) := by decide +kernel
theorem dd_keeps_31 : decode mm_keeps.2.1 31 = .ok (.imul, 1) := by decide +kernel
theorem dd_keeps_32 : decode mm_keeps.2.1 32 = .ok (.bipush 34, 2) := by decide +kernel
theorem dd_keeps_34 : decode mm_keeps.2.1 34 = .ok (.invokevirtual 328, 3) := by decide +kernel
theorem cw_12_328 : cwOk 12 328 0 213 4 5 12 = true := by decide +kernel
theorem mt_copies : MTB 213 = some mm_copies := rfl
theorem dd_keeps_37 : decode mm_keeps.2.1 37 = .ok (.iinc 1 1, 3) := by decide +kernel
theorem dd_keeps_40 : decode mm_keeps.2.1 40 = .ok (.goto (-29), 3) := by decide +kernel
theorem dd_keeps_53 : decode mm_keeps.2.1 53 = .ok (.aload_n 0, 1) := by decide +kernel
theorem dd_keeps_54 : decode mm_keeps.2.1 54 = .ok (.iconst 0, 1) := by decide +kernel
theorem dd_keeps_55 : decode mm_keeps.2.1 55 = .ok (.bipush 70, 2) := by decide +kernel
theorem dd_keeps_57 : decode mm_keeps.2.1 57 = .ok (.iconst 5, 1) := by decide +kernel
theorem dd_keeps_58 : decode mm_keeps.2.1 58 = .ok (.aload_n 0, 1) := by decide +kernel
theorem dd_keeps_59 : decode mm_keeps.2.1 59 = .ok (.getfield 322, 3) := by decide +kernel
theorem dd_keeps_62 : decode mm_keeps.2.1 62 = .ok (.iadd, 1) := by decide +kernel
theorem dd_keeps_63 : decode mm_keeps.2.1 63 = .ok (.imul, 1) := by decide +kernel
theorem dd_keeps_64 : decode mm_keeps.2.1 64 = .ok (.bipush 34, 2) := by decide +kernel
theorem dd_keeps_66 : decode mm_keeps.2.1 66 = .ok (.invokevirtual 328, 3) := by decide +kernel
theorem dd_keeps_69 : decode mm_keeps.2.1 69 = .ok (.aload_n 0, 1) := by decide +kernel
theorem dd_keeps_70 : decode mm_keeps.2.1 70 = .ok (.dup, 1) := by decide +kernel
theorem dd_keeps_71 : decode mm_keeps.2.1 71 = .ok (.getfield 322, 3) := by decide +kernel
theorem dd_keeps_74 : decode mm_keeps.2.1 74 = .ok (.iconst 1, 1) := by decide +kernel
theorem dd_keeps_75 : decode mm_keeps.2.1 75 = .ok (.iadd, 1) := by decide +kernel
theorem dd_keeps_76 : decode mm_keeps.2.1 76 = .ok (.putfield 322, 3) := by decide +kernel
theorem dd_keeps_79 : decode mm_keeps.2.1 79 = .ok (.return_, 1) := by decide +kernel
theorem dd_undo_0 : decode mm_undo.2.1 0 = .ok (.aload_n 0, 1) := by decide +kernel
theorem dd_undo_1 : decode mm_undo.2.1 1 = .ok (.iconst 0, 1) := by decide +kernel
theorem dd_undo_2 : decode mm_undo.2.1 2 = .ok (.putfield 1, 3) := by decide +kernel
theorem dd_undo_5 : decode mm_undo.2.1 5 = .ok (.aload_n 0, 1) := by decide +kernel
theorem dd_undo_6 : decode mm_undo.2.1 6 = .ok (.getfield 322, 3) := by decide +kernel
theorem dd_undo_9 : decode mm_undo.2.1 9 = .ok (.ifCond .ne (5), 3) := by decide +kernel
theorem dd_undo_14 : decode mm_undo.2.1 14 = .ok (.aload_n 0, 1) := by decide +kernel
theorem dd_undo_15 : decode mm_undo.2.1 15 = .ok (.dup, 1) := by decide +kernel
theorem dd_undo_16 : decode mm_undo.2.1 16 = .ok (.getfield 322, 3) := by decide +kernel
theorem dd_undo_19 : decode mm_undo.2.1 19 = .ok (.iconst 1, 1) := by decide +kernel
theorem dd_undo_20 : decode mm_undo.2.1 20 = .ok (.isub, 1) := by decide +kernel
theorem dd_undo_21 : decode mm_undo.2.1 21 = .ok (.putfield 322, 3) := by decide +kernel
theorem dd_undo_24 : decode mm_undo.2.1 24 = .ok (.aload_n 0, 1) := by decide +kernel
theorem dd_undo_25 : decode mm_undo.2.1 25 = .ok (.bipush 70, 2) := by decide +kernel
theorem dd_undo_27 : decode mm_undo.2.1 27 = .ok (.iconst 5, 1) := by decide +kernel
theorem dd_undo_28 : decode mm_undo.2.1 28 = .ok (.aload_n 0, 1) := by decide +kernel
theorem dd_undo_29 : decode mm_undo.2.1 29 = .ok (.getfield 322, 3) := by decide +kernel
theorem dd_undo_32 : decode mm_undo.2.1 32 = .ok (.iadd, 1) := by decide +kernel
theorem dd_undo_33 : decode mm_undo.2.1 33 = .ok (.imul, 1) := by decide +kernel
theorem dd_undo_34 : decode mm_undo.2.1 34 = .ok (.iconst 0, 1) := by decide +kernel
theorem dd_undo_35 : decode mm_undo.2.1 35 = .ok (.bipush 34, 2) := by decide +kernel
theorem dd_undo_37 : decode mm_undo.2.1 37 = .ok (.invokevirtual 328, 3) := by decide +kernel
theorem dd_undo_12 : decode mm_undo.2.1 12 = .ok (.iconst 0, 1) := by decide +kernel
theorem dd_undo_13 : decode mm_undo.2.1 13 = .ok (.ireturn, 1) := by decide +kernel
theorem dd_undo_40 : decode mm_undo.2.1 40 = .ok (.iconst 1, 1) := by decide +kernel
theorem dd_undo_41 : decode mm_undo.2.1 41 = .ok (.ireturn, 1) := by decide +kernel
theorem dd_mark_0 : decode mm_mark.2.1 0 = .ok (.aload_n 0, 1) := by decide +kernel
theorem dd_mark_1 : decode mm_mark.2.1 1 = .ok (.iconst 0, 1) := by decide +kernel
theorem dd_mark_2 : decode mm_mark.2.1 2 = .ok (.putfield 1, 3) := by decide +kernel
theorem dd_mark_5 : decode mm_mark.2.1 5 = .ok (.iload_n 1, 1) := by decide +kernel
theorem dd_mark_6 : decode mm_mark.2.1 6 = .ok (.iconst 0, 1) := by decide +kernel
theorem dd_mark_7 : decode mm_mark.2.1 7 = .ok (.iconst 3, 1) := by decide +kernel
theorem dd_mark_8 : decode mm_mark.2.1 8 = .ok (.invokestatic 297, 3) := by decide +kernel
theorem dd_mark_11 : decode mm_mark.2.1 11 = .ok (.ifCond .eq (16), 3) := by decide +kernel
theorem dd_mark_27 : decode mm_mark.2.1 27 = .ok (.iconst 0, 1) := by decide +kernel
theorem dd_mark_28 : decode mm_mark.2.1 28 = .ok (.ireturn, 1) := by decide +kernel
theorem dd_mark_14 : decode mm_mark.2.1 14 = .ok (.iload_n 2, 1) := by decide +kernel
theorem dd_mark_15 : decode mm_mark.2.1 15 = .ok (.ifCond .eq (14), 3) := by decide +kernel
theorem dd_mark_29 : decode mm_mark.2.1 29 = .ok (.aload_n 0, 1) := by decide +kernel
theorem dd_mark_30 : decode mm_mark.2.1 30 = .ok (.getfield 128, 3) := by decide +kernel
theorem dd_mark_33 : decode mm_mark.2.1 33 = .ok (.iload_n 1, 1) := by decide +kernel
theorem dd_mark_34 : decode mm_mark.2.1 34 = .ok (.iconst 1, 1) := by decide +kernel
theorem dd_mark_35 : decode mm_mark.2.1 35 = .ok (.bastore, 1) := by decide +kernel
theorem dd_mark_36 : decode mm_mark.2.1 36 = .ok (.aload_n 0, 1) := by decide +kernel
theorem dd_mark_37 : decode mm_mark.2.1 37 = .ok (.iload_n 2, 1) := by decide +kernel
theorem dd_mark_38 : decode mm_mark.2.1 38 = .ok (.ifCond .eq (12), 3) := by decide +kernel
theorem dd_mark_50 : decode mm_mark.2.1 50 = .ok (.iconst 0, 1) := by decide +kernel
theorem dd_mark_51 : decode mm_mark.2.1 51 = .ok (.iload_n 2, 1) := by decide +kernel
theorem dd_mark_52 : decode mm_mark.2.1 52 = .ok (.ifCond .eq (7), 3) := by decide +kernel
theorem dd_mark_59 : decode mm_mark.2.1 59 = .ok (.bipush 70, 2) := by decide +kernel
theorem dd_mark_61 : decode mm_mark.2.1 61 = .ok (.iconst 1, 1) := by decide +kernel
theorem dd_mark_62 : decode mm_mark.2.1 62 = .ok (.iload_n 1, 1) := by decide +kernel
theorem dd_mark_63 : decode mm_mark.2.1 63 = .ok (.iadd, 1) := by decide +kernel
theorem dd_mark_64 : decode mm_mark.2.1 64 = .ok (.imul, 1) := by decide +kernel
theorem dd_mark_65 : decode mm_mark.2.1 65 = .ok (.bipush 70, 2) := by decide +kernel
theorem dd_mark_67 : decode mm_mark.2.1 67 = .ok (.invokevirtual 328, 3) := by decide +kernel
theorem dd_mark_18 : decode mm_mark.2.1 18 = .ok (.aload_n 0, 1) := by decide +kernel
theorem dd_mark_19 : decode mm_mark.2.1 19 = .ok (.getfield 128, 3) := by decide +kernel
theorem dd_mark_22 : decode mm_mark.2.1 22 = .ok (.iload_n 1, 1) := by decide +kernel
theorem dd_mark_23 : decode mm_mark.2.1 23 = .ok (.baload, 1) := by decide +kernel
theorem dd_mark_24 : decode mm_mark.2.1 24 = .ok (.ifCond .ne (5), 3) := by decide +kernel
theorem dd_mark_41 : decode mm_mark.2.1 41 = .ok (.bipush 70, 2) := by decide +kernel
theorem dd_mark_43 : decode mm_mark.2.1 43 = .ok (.iconst 1, 1) := by decide +kernel
theorem dd_mark_44 : decode mm_mark.2.1 44 = .ok (.iload_n 1, 1) := by decide +kernel
theorem dd_mark_45 : decode mm_mark.2.1 45 = .ok (.iadd, 1) := by decide +kernel
theorem dd_mark_46 : decode mm_mark.2.1 46 = .ok (.imul, 1) := by decide +kernel
theorem dd_mark_47 : decode mm_mark.2.1 47 = .ok (.goto 4, 3) := by decide +kernel
theorem dd_mark_55 : decode mm_mark.2.1 55 = .ok (.iconst 0, 1) := by decide +kernel
theorem dd_mark_56 : decode mm_mark.2.1 56 = .ok (.goto 9, 3) := by decide +kernel
theorem dd_mark_70 : decode mm_mark.2.1 70 = .ok (.iconst 0, 1) := by decide +kernel
theorem dd_mark_71 : decode mm_mark.2.1 71 = .ok (.istore_n 3, 1) := by decide +kernel
theorem dd_mark_72 : decode mm_mark.2.1 72 = .ok (.iload_n 3, 1) := by decide +kernel
theorem dd_mark_73 : decode mm_mark.2.1 73 = .ok (.bipush 50, 2) := by decide +kernel
theorem dd_mark_75 : decode mm_mark.2.1 75 = .ok (.if_icmp .ge (50), 3) := by decide +kernel
theorem dd_mark_125 : decode mm_mark.2.1 125 = .ok (.aload_n 0, 1) := by decide +kernel
theorem dd_mark_126 : decode mm_mark.2.1 126 = .ok (.iload_n 2, 1) := by decide +kernel
theorem dd_mark_127 : decode mm_mark.2.1 127 = .ok (.ifCond .eq (7), 3) := by decide +kernel
theorem dd_mark_134 : decode mm_mark.2.1 134 = .ok (.aload_n 0, 1) := by decide +kernel
theorem dd_mark_135 : decode mm_mark.2.1 135 = .ok (.getfield 322, 3) := by decide +kernel
theorem dd_mark_138 : decode mm_mark.2.1 138 = .ok (.putfield 322, 3) := by decide +kernel
theorem dd_mark_141 : decode mm_mark.2.1 141 = .ok (.iconst 1, 1) := by decide +kernel
theorem dd_mark_142 : decode mm_mark.2.1 142 = .ok (.ireturn, 1) := by decide +kernel
theorem dd_mark_130 : decode mm_mark.2.1 130 = .ok (.iconst 0, 1) := by decide +kernel
theorem dd_mark_131 : decode mm_mark.2.1 131 = .ok (.goto 7, 3) := by decide +kernel
theorem dd_mark_78 : decode mm_mark.2.1 78 = .ok (.iload_n 2, 1) := by decide +kernel
theorem dd_mark_79 : decode mm_mark.2.1 79 = .ok (.ifCond .eq (23), 3) := by decide +kernel
theorem dd_mark_102 : decode mm_mark.2.1 102 = .ok (.aload_n 0, 1) := by decide +kernel
theorem dd_mark_103 : decode mm_mark.2.1 103 = .ok (.getfield 132, 3) := by decide +kernel
theorem fd_12_132 : fld 12 132 = some (12, 27) := by decide +kernel
theorem rf_182_27 {h : LH} (hF : RF h) : rd h 182 27 = 200 := hF 182 27 200 (by decide +kernel) (by decide +kernel)
theorem dd_mark_106 : decode mm_mark.2.1 106 = .ok (.bipush 50, 2) := by decide +kernel
theorem dd_mark_108 : decode mm_mark.2.1 108 = .ok (.iload_n 1, 1) := by decide +kernel
theorem dd_mark_109 : decode mm_mark.2.1 109 = .ok (.imul, 1) := by decide +kernel
theorem dd_mark_110 : decode mm_mark.2.1 110 = .ok (.iload_n 3, 1) := by decide +kernel
theorem dd_mark_111 : decode mm_mark.2.1 111 = .ok (.iadd, 1) := by decide +kernel
theorem dd_mark_112 : decode mm_mark.2.1 112 = .ok (.aload_n 0, 1) := by decide +kernel
theorem dd_mark_113 : decode mm_mark.2.1 113 = .ok (.getfield 116, 3) := by decide +kernel
theorem dd_mark_116 : decode mm_mark.2.1 116 = .ok (.iload_n 3, 1) := by decide +kernel
theorem dd_mark_117 : decode mm_mark.2.1 117 = .ok (.iaload, 1) := by decide +kernel
theorem dd_mark_118 : decode mm_mark.2.1 118 = .ok (.iastore, 1) := by decide +kernel
theorem ia_200 : isA NC 200 1 = true := by decide +kernel
theorem la_200 : (lay (200 : Int).toNat).2.2 = 200 := by decide +kernel
theorem dd_mark_119 : decode mm_mark.2.1 119 = .ok (.iinc 3 1, 3) := by decide +kernel
theorem dd_mark_122 : decode mm_mark.2.1 122 = .ok (.goto (-50), 3) := by decide +kernel
theorem dd_mark_82 : decode mm_mark.2.1 82 = .ok (.aload_n 0, 1) := by decide +kernel
theorem dd_mark_83 : decode mm_mark.2.1 83 = .ok (.getfield 116, 3) := by decide +kernel
theorem dd_mark_86 : decode mm_mark.2.1 86 = .ok (.iload_n 3, 1) := by decide +kernel
theorem dd_mark_87 : decode mm_mark.2.1 87 = .ok (.aload_n 0, 1) := by decide +kernel
theorem dd_mark_88 : decode mm_mark.2.1 88 = .ok (.getfield 132, 3) := by decide +kernel
theorem dd_mark_91 : decode mm_mark.2.1 91 = .ok (.bipush 50, 2) := by decide +kernel
theorem dd_mark_93 : decode mm_mark.2.1 93 = .ok (.iload_n 1, 1) := by decide +kernel
theorem dd_mark_94 : decode mm_mark.2.1 94 = .ok (.imul, 1) := by decide +kernel
theorem dd_mark_95 : decode mm_mark.2.1 95 = .ok (.iload_n 3, 1) := by decide +kernel
theorem dd_mark_96 : decode mm_mark.2.1 96 = .ok (.iadd, 1) := by decide +kernel
theorem dd_mark_97 : decode mm_mark.2.1 97 = .ok (.iaload, 1) := by decide +kernel
theorem dd_mark_98 : decode mm_mark.2.1 98 = .ok (.iastore, 1) := by decide +kernel
theorem dd_mark_99 : decode mm_mark.2.1 99 = .ok (.goto 20, 3) := by decide +kernel
theorem dd_goes_0 : decode mm_goes.2.1 0 = .ok (.aload_n 0, 1) := by decide +kernel
theorem dd_goes_1 : decode mm_goes.2.1 1 = .ok (.getfield 125, 3) := by decide +kernel
theorem dd_goes_4 : decode mm_goes.2.1 4 = .ok (.iload_n 1, 1) := by decide +kernel
theorem dd_goes_5 : decode mm_goes.2.1 5 = .ok (.bipush 14, 2) := by decide +kernel
theorem dd_goes_7 : decode mm_goes.2.1 7 = .ok (.iadd, 1) := by decide +kernel
theorem dd_goes_8 : decode mm_goes.2.1 8 = .ok (.iload_n 2, 1) := by decide +kernel
theorem dd_goes_9 : decode mm_goes.2.1 9 = .ok (.iadd, 1) := by decide +kernel
theorem dd_goes_10 : decode mm_goes.2.1 10 = .ok (.iaload, 1) := by decide +kernel
theorem dd_goes_11 : decode mm_goes.2.1 11 = .ok (.iconst 1, 1) := by decide +kernel
theorem dd_goes_12 : decode mm_goes.2.1 12 = .ok (.if_icmp .eq (24), 3) := by decide +kernel
theorem dd_goes_36 : decode mm_goes.2.1 36 = .ok (.iconst (-1), 1) := by decide +kernel
theorem dd_goes_37 : decode mm_goes.2.1 37 = .ok (.goto 33, 3) := by decide +kernel
theorem dd_goes_15 : decode mm_goes.2.1 15 = .ok (.aload_n 0, 1) := by decide +kernel
theorem dd_goes_16 : decode mm_goes.2.1 16 = .ok (.getfield 125, 3) := by decide +kernel
theorem dd_goes_19 : decode mm_goes.2.1 19 = .ok (.iload_n 1, 1) := by decide +kernel
theorem dd_goes_20 : decode mm_goes.2.1 20 = .ok (.bipush 20, 2) := by decide +kernel
theorem dd_goes_22 : decode mm_goes.2.1 22 = .ok (.iadd, 1) := by decide +kernel
theorem dd_goes_23 : decode mm_goes.2.1 23 = .ok (.iload_n 3, 1) := by decide +kernel
theorem dd_goes_24 : decode mm_goes.2.1 24 = .ok (.iadd, 1) := by decide +kernel
theorem dd_goes_25 : decode mm_goes.2.1 25 = .ok (.iaload, 1) := by decide +kernel
theorem dd_goes_26 : decode mm_goes.2.1 26 = .ok (.aload_n 0, 1) := by decide +kernel
theorem dd_goes_27 : decode mm_goes.2.1 27 = .ok (.iload_n 3, 1) := by decide +kernel
theorem dd_goes_28 : decode mm_goes.2.1 28 = .ok (.bipush 6, 2) := by decide +kernel
theorem dd_goes_30 : decode mm_goes.2.1 30 = .ok (.invokevirtual 347, 3) := by decide +kernel
theorem dd_goes_33 : decode mm_goes.2.1 33 = .ok (.if_icmp .lt (7), 3) := by decide +kernel
theorem dd_goes_40 : decode mm_goes.2.1 40 = .ok (.aload_n 0, 1) := by decide +kernel
theorem dd_goes_41 : decode mm_goes.2.1 41 = .ok (.iload_n 1, 1) := by decide +kernel
theorem dd_goes_42 : decode mm_goes.2.1 42 = .ok (.iload_n 3, 1) := by decide +kernel
theorem dd_goes_43 : decode mm_goes.2.1 43 = .ok (.aload_n 0, 1) := by decide +kernel
theorem dd_goes_44 : decode mm_goes.2.1 44 = .ok (.iload_n 2, 1) := by decide +kernel
theorem dd_goes_45 : decode mm_goes.2.1 45 = .ok (.iconst 0, 1) := by decide +kernel
theorem dd_goes_46 : decode mm_goes.2.1 46 = .ok (.invokevirtual 325, 3) := by decide +kernel
theorem dd_goes_49 : decode mm_goes.2.1 49 = .ok (.aload_n 0, 1) := by decide +kernel
theorem dd_goes_50 : decode mm_goes.2.1 50 = .ok (.getfield 125, 3) := by decide +kernel
theorem dd_goes_53 : decode mm_goes.2.1 53 = .ok (.iload_n 1, 1) := by decide +kernel
theorem dd_goes_54 : decode mm_goes.2.1 54 = .ok (.iconst 2, 1) := by decide +kernel
theorem dd_goes_55 : decode mm_goes.2.1 55 = .ok (.iadd, 1) := by decide +kernel
theorem dd_goes_56 : decode mm_goes.2.1 56 = .ok (.iload_n 2, 1) := by decide +kernel
theorem dd_goes_57 : decode mm_goes.2.1 57 = .ok (.iadd, 1) := by decide +kernel
theorem dd_goes_58 : decode mm_goes.2.1 58 = .ok (.iaload, 1) := by decide +kernel
theorem dd_goes_59 : decode mm_goes.2.1 59 = .ok (.aload_n 0, 1) := by decide +kernel
theorem dd_goes_60 : decode mm_goes.2.1 60 = .ok (.getfield 125, 3) := by decide +kernel
theorem dd_goes_63 : decode mm_goes.2.1 63 = .ok (.iload_n 1, 1) := by decide +kernel
theorem dd_goes_64 : decode mm_goes.2.1 64 = .ok (.iconst 0, 1) := by decide +kernel
theorem dd_goes_65 : decode mm_goes.2.1 65 = .ok (.iadd, 1) := by decide +kernel
theorem dd_goes_66 : decode mm_goes.2.1 66 = .ok (.iaload, 1) := by decide +kernel
theorem dd_goes_67 : decode mm_goes.2.1 67 = .ok (.invokevirtual 373, 3) := by decide +kernel
theorem dd_goes_70 : decode mm_goes.2.1 70 = .ok (.istore 4, 2) := by decide +kernel
theorem dd_goes_72 : decode mm_goes.2.1 72 = .ok (.iload 4, 2) := by decide +kernel
theorem dd_goes_74 : decode mm_goes.2.1 74 = .ok (.ifCond .lt (79), 3) := by decide +kernel
theorem dd_goes_153 : decode mm_goes.2.1 153 = .ok (.iload 4, 2) := by decide +kernel
theorem dd_goes_155 : decode mm_goes.2.1 155 = .ok (.ireturn, 1) := by decide +kernel
theorem dd_goes_77 : decode mm_goes.2.1 77 = .ok (.aload_n 0, 1) := by decide +kernel
theorem dd_goes_78 : decode mm_goes.2.1 78 = .ok (.getfield 125, 3) := by decide +kernel
theorem dd_goes_81 : decode mm_goes.2.1 81 = .ok (.iload_n 1, 1) := by decide +kernel
theorem dd_goes_82 : decode mm_goes.2.1 82 = .ok (.iconst 2, 1) := by decide +kernel
theorem dd_goes_83 : decode mm_goes.2.1 83 = .ok (.iadd, 1) := by decide +kernel
theorem dd_goes_84 : decode mm_goes.2.1 84 = .ok (.iload_n 2, 1) := by decide +kernel
theorem dd_goes_85 : decode mm_goes.2.1 85 = .ok (.iadd, 1) := by decide +kernel
theorem dd_goes_86 : decode mm_goes.2.1 86 = .ok (.iload 4, 2) := by decide +kernel
theorem dd_goes_88 : decode mm_goes.2.1 88 = .ok (.iastore, 1) := by decide +kernel
theorem dd_goes_89 : decode mm_goes.2.1 89 = .ok (.aload_n 0, 1) := by decide +kernel
theorem dd_goes_90 : decode mm_goes.2.1 90 = .ok (.getfield 125, 3) := by decide +kernel
theorem dd_goes_93 : decode mm_goes.2.1 93 = .ok (.iload_n 1, 1) := by decide +kernel
theorem dd_goes_94 : decode mm_goes.2.1 94 = .ok (.bipush 14, 2) := by decide +kernel
theorem dd_goes_96 : decode mm_goes.2.1 96 = .ok (.iadd, 1) := by decide +kernel
theorem dd_goes_97 : decode mm_goes.2.1 97 = .ok (.iload_n 2, 1) := by decide +kernel
theorem dd_goes_98 : decode mm_goes.2.1 98 = .ok (.iadd, 1) := by decide +kernel
theorem dd_goes_99 : decode mm_goes.2.1 99 = .ok (.iconst 1, 1) := by decide +kernel
theorem dd_goes_100 : decode mm_goes.2.1 100 = .ok (.iastore, 1) := by decide +kernel
theorem dd_goes_101 : decode mm_goes.2.1 101 = .ok (.aload_n 0, 1) := by decide +kernel
theorem dd_goes_102 : decode mm_goes.2.1 102 = .ok (.getfield 125, 3) := by decide +kernel
theorem dd_goes_105 : decode mm_goes.2.1 105 = .ok (.iload_n 1, 1) := by decide +kernel
theorem dd_goes_106 : decode mm_goes.2.1 106 = .ok (.bipush 20, 2) := by decide +kernel
theorem dd_goes_108 : decode mm_goes.2.1 108 = .ok (.iadd, 1) := by decide +kernel
theorem dd_goes_109 : decode mm_goes.2.1 109 = .ok (.iload_n 3, 1) := by decide +kernel
theorem dd_goes_110 : decode mm_goes.2.1 110 = .ok (.iadd, 1) := by decide +kernel
theorem dd_goes_111 : decode mm_goes.2.1 111 = .ok (.dup2, 1) := by decide +kernel
theorem dd_goes_112 : decode mm_goes.2.1 112 = .ok (.iaload, 1) := by decide +kernel
theorem dd_goes_113 : decode mm_goes.2.1 113 = .ok (.iconst 1, 1) := by decide +kernel
theorem dd_goes_114 : decode mm_goes.2.1 114 = .ok (.iadd, 1) := by decide +kernel
theorem dd_goes_115 : decode mm_goes.2.1 115 = .ok (.iastore, 1) := by decide +kernel
theorem dd_goes_116 : decode mm_goes.2.1 116 = .ok (.aload_n 0, 1) := by decide +kernel
theorem dd_goes_117 : decode mm_goes.2.1 117 = .ok (.getfield 125, 3) := by decide +kernel
theorem dd_goes_120 : decode mm_goes.2.1 120 = .ok (.iload_n 1, 1) := by decide +kernel
theorem dd_goes_121 : decode mm_goes.2.1 121 = .ok (.bipush 8, 2) := by decide +kernel
theorem dd_goes_123 : decode mm_goes.2.1 123 = .ok (.iadd, 1) := by decide +kernel
theorem dd_goes_124 : decode mm_goes.2.1 124 = .ok (.iload_n 2, 1) := by decide +kernel
theorem dd_goes_125 : decode mm_goes.2.1 125 = .ok (.iadd, 1) := by decide +kernel
theorem dd_goes_126 : decode mm_goes.2.1 126 = .ok (.iload 4, 2) := by decide +kernel
theorem dd_goes_128 : decode mm_goes.2.1 128 = .ok (.aload_n 0, 1) := by decide +kernel
theorem dd_goes_129 : decode mm_goes.2.1 129 = .ok (.iload_n 2, 1) := by decide +kernel
theorem dd_goes_130 : decode mm_goes.2.1 130 = .ok (.iconst 2, 1) := by decide +kernel
theorem dd_goes_131 : decode mm_goes.2.1 131 = .ok (.invokevirtual 325, 3) := by decide +kernel
theorem dd_goes_134 : decode mm_goes.2.1 134 = .ok (.if_icmp .ne (7), 3) := by decide +kernel
theorem dd_goes_141 : decode mm_goes.2.1 141 = .ok (.aload_n 0, 1) := by decide +kernel
theorem dd_goes_142 : decode mm_goes.2.1 142 = .ok (.getfield 125, 3) := by decide +kernel
theorem dd_goes_145 : decode mm_goes.2.1 145 = .ok (.iload_n 1, 1) := by decide +kernel
theorem dd_goes_146 : decode mm_goes.2.1 146 = .ok (.bipush 8, 2) := by decide +kernel
theorem dd_goes_148 : decode mm_goes.2.1 148 = .ok (.iadd, 1) := by decide +kernel
theorem dd_goes_149 : decode mm_goes.2.1 149 = .ok (.iload_n 2, 1) := by decide +kernel
theorem dd_goes_150 : decode mm_goes.2.1 150 = .ok (.iadd, 1) := by decide +kernel
theorem dd_goes_151 : decode mm_goes.2.1 151 = .ok (.iaload, 1) := by decide +kernel
theorem dd_goes_152 : decode mm_goes.2.1 152 = .ok (.iastore, 1) := by decide +kernel
theorem dd_goes_137 : decode mm_goes.2.1 137 = .ok (.iconst 1, 1) := by decide +kernel
theorem dd_goes_138 : decode mm_goes.2.1 138 = .ok (.goto 14, 3) := by decide +kernel
theorem B_keeps_0 {xs : Nat → Int} {xl e : Nat} {h : LH} {Q : Option LV → LH → Prop} (hF : RF h)
    (k : ((rd h 182 25) ≠ 16 →
        Rn xs xl e mm_keeps 53 [some (.inr (.inr 182)), none] [] h Q) ∧
      ((rd h 182 25) = 16 →
        Rn xs xl e mm_keeps 11 [some (.inr (.inr 182)), some (.inl 1)] [] h Q)) :
    Rn xs xl e mm_keeps 0 [some (.inr (.inr 182)), none] [] h Q := by
  refine R_ld (v := .inr (.inr 182)) dd_keeps_0 rfl rfl rfl rfl ?_
  refine R_gf (v := .inl (rd h 182 25)) dd_keeps_1 fd_12_322 io_182 (congrArg (fun z : Int => (Sum.inl z : LV)) (rfl)) rfl ?_
  refine R_bi dd_keeps_4 (by decide) rfl ?_
  refine R_icmp dd_keeps_6 rfl rfl (fun (c1 : (rd h 182 25) ≠ 16) => ?_) (fun (c1 : (rd h 182 25) = 16) => ?_)
  · replace k := k.1 c1
    exact k
  · replace k := k.2 c1
    refine R_ic dd_keeps_9 (by decide) rfl ?_
    refine R_st (ls' := [some (.inr (.inr 182)), some (.inl 1)]) dd_keeps_10 rfl rfl rfl (Nat.le_of_ble_eq_true rfl) rfl rfl ?_
    exact k
theorem B_keeps_11 {xs : Nat → Int} {xl e : Nat} {h : LH} {Q : Option LV → LH → Prop} {v1 : Int} (hF : RF h) (r_v1 : 1 ≤ v1 ∧ v1 ≤ 16)
    (k : (16 ≤ v1 →
        (-2147483648 ≤ (rd h 182 25) - 1 ∧ (rd h 182 25) - 1 ≤ 2147483647) ∧
        Rn xs xl e mm_keeps 53 [some (.inr (.inr 182)), some (.inl v1)] [] (wr h 182 25 ((rd h 182 25) - 1)) Q) ∧
      (v1 < 16 →
        (∃ c, c < e ∧ Rn xs xl c mm_copies 0 [some (.inr (.inr 182)), some (.inl (70 * v1 + 350)), some (.inl (70 * v1 + 280)), some (.inl 34), none] [] h (fun r h' => Rn xs xl e mm_keeps 37 [some (.inr (.inr 182)), some (.inl v1)] (r.toList ++ []) h' Q)))) :
    Rn xs xl e mm_keeps 11 [some (.inr (.inr 182)), some (.inl v1)] [] h Q := by
  refine R_ld (v := .inl v1) dd_keeps_11 rfl rfl rfl rfl ?_
  refine R_bi dd_keeps_12 (by decide) rfl ?_
  refine R_icmp dd_keeps_14 rfl rfl (fun (c3 : 16 ≤ v1) => ?_) (fun (c3 : v1 < 16) => ?_)
  · replace k := k.1 c3
    refine R_ld (v := .inr (.inr 182)) dd_keeps_43 rfl rfl rfl rfl ?_
    refine R_A dd_keeps_44 rfl rfl rfl rfl ?_
    refine R_gf (v := .inl (rd h 182 25)) dd_keeps_45 fd_12_322 io_182 (congrArg (fun z : Int => (Sum.inl z : LV)) (rfl)) rfl ?_
    refine R_ic dd_keeps_48 (by decide) rfl ?_
    obtain ⟨s1, k⟩ := k
    refine R_isub (c := (rd h 182 25) - 1) dd_keeps_49 (by omega) s1 rfl ?_
    refine R_pf (z := ((rd h 182 25) - 1)) dd_keeps_50 fd_12_322 io_182 fn_12_25 rfl rfl ?_
    exact k
  · replace k := k.2 c3
    refine R_ld (v := .inr (.inr 182)) dd_keeps_17 rfl rfl rfl rfl ?_
    refine R_bi dd_keeps_18 (by decide) rfl ?_
    refine R_ic dd_keeps_20 (by decide) rfl ?_
    refine R_ld (v := .inl v1) dd_keeps_21 rfl rfl rfl rfl ?_
    refine R_iadd (c := v1 + 5) dd_keeps_22 (by omega) (by omega) rfl ?_
    refine R_imul (c := 70 * v1 + 350) dd_keeps_23 (by omega) (by omega) rfl ?_
    refine R_bi dd_keeps_24 (by decide) rfl ?_
    refine R_ic dd_keeps_26 (by decide) rfl ?_
    refine R_ld (v := .inl v1) dd_keeps_27 rfl rfl rfl rfl ?_
    refine R_iadd (c := v1 + 5) dd_keeps_28 (by omega) (by omega) rfl ?_
    refine R_ic dd_keeps_29 (by decide) rfl ?_
    refine R_isub (c := v1 + 4) dd_keeps_30 (by omega) (by omega) rfl ?_
    refine R_imul (c := 70 * v1 + 280) dd_keeps_31 (by omega) (by omega) rfl ?_
    refine R_bi dd_keeps_32 (by decide) rfl ?_
    obtain ⟨c, hc, k⟩ := k
    exact R_call (as := [.inr (.inr 182), .inl (70 * v1 + 350), .inl (70 * v1 + 280), .inl 34]) (rest := []) (M' := mm_copies) (ls0 := [some (.inr (.inr 182)), some (.inl (70 * v1 + 350)), some (.inl (70 * v1 + 280)), some (.inl 34), none]) dd_keeps_34 rfl rfl (cw_v cw_12_328 io_182 rfl rfl (Nat.le_of_ble_eq_true rfl) (Nat.le_of_ble_eq_true rfl)) mt_copies rfl hc rfl k
theorem B_keeps_37 {xs : Nat → Int} {xl e : Nat} {h : LH} {Q : Option LV → LH → Prop} {v1 : Int} (hF : RF h) (r_v1 : 1 ≤ v1 ∧ v1 ≤ 15)
    (k : Rn xs xl e mm_keeps 11 [some (.inr (.inr 182)), some (.inl (v1 + 1))] [] h Q) :
    Rn xs xl e mm_keeps 37 [some (.inr (.inr 182)), some (.inl v1)] [] h Q := by
  refine R_inc (y := v1 + 1) (ls' := [some (.inr (.inr 182)), some (.inl (v1 + 1))]) dd_keeps_37 rfl (by decide) (by omega) (by omega) rfl rfl ?_
  refine R_goto dd_keeps_40 rfl ?_
  exact k
theorem B_keeps_43 {xs : Nat → Int} {xl e : Nat} {h : LH} {Q : Option LV → LH → Prop} {v1 : Int} (hF : RF h)
    (k : (-2147483648 ≤ (rd h 182 25) - 1 ∧ (rd h 182 25) - 1 ≤ 2147483647) ∧
      Rn xs xl e mm_keeps 53 [some (.inr (.inr 182)), some (.inl v1)] [] (wr h 182 25 ((rd h 182 25) - 1)) Q) :
    Rn xs xl e mm_keeps 43 [some (.inr (.inr 182)), some (.inl v1)] [] h Q := by
  refine R_ld (v := .inr (.inr 182)) dd_keeps_43 rfl rfl rfl rfl ?_
  refine R_A dd_keeps_44 rfl rfl rfl rfl ?_
  refine R_gf (v := .inl (rd h 182 25)) dd_keeps_45 fd_12_322 io_182 (congrArg (fun z : Int => (Sum.inl z : LV)) (rfl)) rfl ?_
  refine R_ic dd_keeps_48 (by decide) rfl ?_
  obtain ⟨s1, k⟩ := k
  refine R_isub (c := (rd h 182 25) - 1) dd_keeps_49 (by omega) s1 rfl ?_
  refine R_pf (z := ((rd h 182 25) - 1)) dd_keeps_50 fd_12_322 io_182 fn_12_25 rfl rfl ?_
  exact k
theorem B_keeps_53 {xs : Nat → Int} {xl e : Nat} {h : LH} {Q : Option LV → LH → Prop} {o1 : Option LV} (hF : RF h)
    (k : (-2147483648 ≤ (rd h 182 25) + 5 ∧ (rd h 182 25) + 5 ≤ 2147483647) ∧
      (-2147483648 ≤ 70 * (rd h 182 25) + 350 ∧ 70 * (rd h 182 25) + 350 ≤ 2147483647) ∧
      (∃ c, c < e ∧ Rn xs xl c mm_copies 0 [some (.inr (.inr 182)), some (.inl 0), some (.inl (70 * (rd h 182 25) + 350)), some (.inl 34), none] [] h (fun r h' => Rn xs xl e mm_keeps 69 [some (.inr (.inr 182)), o1] (r.toList ++ []) h' Q))) :
    Rn xs xl e mm_keeps 53 [some (.inr (.inr 182)), o1] [] h Q := by
  refine R_ld (v := .inr (.inr 182)) dd_keeps_53 rfl rfl rfl rfl ?_
  refine R_ic dd_keeps_54 (by decide) rfl ?_
  refine R_bi dd_keeps_55 (by decide) rfl ?_
  refine R_ic dd_keeps_57 (by decide) rfl ?_
  refine R_ld (v := .inr (.inr 182)) dd_keeps_58 rfl rfl rfl rfl ?_
  refine R_gf (v := .inl (rd h 182 25)) dd_keeps_59 fd_12_322 io_182 (congrArg (fun z : Int => (Sum.inl z : LV)) (rfl)) rfl ?_
  obtain ⟨s1, k⟩ := k
  refine R_iadd (c := (rd h 182 25) + 5) dd_keeps_62 (by omega) s1 rfl ?_
  obtain ⟨s2, k⟩ := k
  refine R_imul (c := 70 * (rd h 182 25) + 350) dd_keeps_63 (by omega) s2 rfl ?_
  refine R_bi dd_keeps_64 (by decide) rfl ?_
  obtain ⟨c, hc, k⟩ := k
  exact R_call (as := [.inr (.inr 182), .inl 0, .inl (70 * (rd h 182 25) + 350), .inl 34]) (rest := []) (M' := mm_copies) (ls0 := [some (.inr (.inr 182)), some (.inl 0), some (.inl (70 * (rd h 182 25) + 350)), some (.inl 34), none]) dd_keeps_66 rfl rfl (cw_v cw_12_328 io_182 rfl rfl (Nat.le_of_ble_eq_true rfl) (Nat.le_of_ble_eq_true rfl)) mt_copies rfl hc rfl k
theorem B_keeps_69 {xs : Nat → Int} {xl e : Nat} {h : LH} {Q : Option LV → LH → Prop} {o1 : Option LV} (hF : RF h)
    (k : (-2147483648 ≤ (rd h 182 25) + 1 ∧ (rd h 182 25) + 1 ≤ 2147483647) ∧
      Q none (wr h 182 25 ((rd h 182 25) + 1))) :
    Rn xs xl e mm_keeps 69 [some (.inr (.inr 182)), o1] [] h Q := by
  refine R_ld (v := .inr (.inr 182)) dd_keeps_69 rfl rfl rfl rfl ?_
  refine R_A dd_keeps_70 rfl rfl rfl rfl ?_
  refine R_gf (v := .inl (rd h 182 25)) dd_keeps_71 fd_12_322 io_182 (congrArg (fun z : Int => (Sum.inl z : LV)) (rfl)) rfl ?_
  refine R_ic dd_keeps_74 (by decide) rfl ?_
  obtain ⟨s1, k⟩ := k
  refine R_iadd (c := (rd h 182 25) + 1) dd_keeps_75 (by omega) s1 rfl ?_
  refine R_pf (z := ((rd h 182 25) + 1)) dd_keeps_76 fd_12_322 io_182 fn_12_25 rfl rfl ?_
  exact R_vret dd_keeps_79 rfl k
theorem B_undo_0 {xs : Nat → Int} {xl e : Nat} {h : LH} {Q : Option LV → LH → Prop} (hF : RF h)
    (k : ((rd h 182 25) ≠ 0 →
        (-2147483648 ≤ (rd h 182 25) - 1 ∧ (rd h 182 25) - 1 ≤ 2147483647) ∧
        (-2147483648 ≤ ((rd h 182 25) - 1) + 5 ∧ ((rd h 182 25) - 1) + 5 ≤ 2147483647) ∧
        (-2147483648 ≤ 70 * ((rd h 182 25) - 1) + 350 ∧ 70 * ((rd h 182 25) - 1) + 350 ≤ 2147483647) ∧
        (∃ c, c < e ∧ Rn xs xl c mm_copies 0 [some (.inr (.inr 182)), some (.inl (70 * ((rd h 182 25) - 1) + 350)), some (.inl 0), some (.inl 34), none] [] (wr (wr h 182 0 0) 182 25 ((rd h 182 25) - 1)) (fun r h' => Rn xs xl e mm_undo 40 [some (.inr (.inr 182))] (r.toList ++ []) h' Q))) ∧
      ((rd h 182 25) = 0 →
        Q (some (.inl 0)) (wr h 182 0 0))) :
    Rn xs xl e mm_undo 0 [some (.inr (.inr 182))] [] h Q := by
  refine R_ld (v := .inr (.inr 182)) dd_undo_0 rfl rfl rfl rfl ?_
  refine R_ic dd_undo_1 (by decide) rfl ?_
  refine R_pf (z := 0) dd_undo_2 fd_12_1 io_182 fn_12_0 rfl rfl ?_
  refine R_ld (v := .inr (.inr 182)) dd_undo_5 rfl rfl rfl rfl ?_
  refine R_gf (v := .inl (rd h 182 25)) dd_undo_6 fd_12_322 io_182 (congrArg (fun z : Int => (Sum.inl z : LV)) (rdw_nei (by omega))) rfl ?_
  refine R_if dd_undo_9 rfl rfl (fun (c5 : (rd h 182 25) ≠ 0) => ?_) (fun (c5 : (rd h 182 25) = 0) => ?_)
  · replace k := k.1 c5
    refine R_ld (v := .inr (.inr 182)) dd_undo_14 rfl rfl rfl rfl ?_
    refine R_A dd_undo_15 rfl rfl rfl rfl ?_
    refine R_gf (v := .inl (rd h 182 25)) dd_undo_16 fd_12_322 io_182 (congrArg (fun z : Int => (Sum.inl z : LV)) (rdw_nei (by omega))) rfl ?_
    refine R_ic dd_undo_19 (by decide) rfl ?_
    obtain ⟨s1, k⟩ := k
    refine R_isub (c := (rd h 182 25) - 1) dd_undo_20 (by omega) s1 rfl ?_
    refine R_pf (z := ((rd h 182 25) - 1)) dd_undo_21 fd_12_322 io_182 fn_12_25 rfl rfl ?_
    refine R_ld (v := .inr (.inr 182)) dd_undo_24 rfl rfl rfl rfl ?_
    refine R_bi dd_undo_25 (by decide) rfl ?_
    refine R_ic dd_undo_27 (by decide) rfl ?_
    refine R_ld (v := .inr (.inr 182)) dd_undo_28 rfl rfl rfl rfl ?_
    refine R_gf (v := .inl ((rd h 182 25) - 1)) dd_undo_29 fd_12_322 io_182 (congrArg (fun z : Int => (Sum.inl z : LV)) (rdw_eq)) rfl ?_
    obtain ⟨s2, k⟩ := k
    refine R_iadd (c := ((rd h 182 25) - 1) + 5) dd_undo_32 (by omega) s2 rfl ?_
    obtain ⟨s3, k⟩ := k
    refine R_imul (c := 70 * ((rd h 182 25) - 1) + 350) dd_undo_33 (by omega) s3 rfl ?_
    refine R_ic dd_undo_34 (by decide) rfl ?_
    refine R_bi dd_undo_35 (by decide) rfl ?_
    obtain ⟨c, hc, k⟩ := k
    exact R_call (as := [.inr (.inr 182), .inl (70 * ((rd h 182 25) - 1) + 350), .inl 0, .inl 34]) (rest := []) (M' := mm_copies) (ls0 := [some (.inr (.inr 182)), some (.inl (70 * ((rd h 182 25) - 1) + 350)), some (.inl 0), some (.inl 34), none]) dd_undo_37 rfl rfl (cw_v cw_12_328 io_182 rfl rfl (Nat.le_of_ble_eq_true rfl) (Nat.le_of_ble_eq_true rfl)) mt_copies rfl hc rfl k
  · replace k := k.2 c5
    refine R_ic dd_undo_12 (by decide) rfl ?_
    exact R_zret dd_undo_13 rfl (by decide) k
theorem B_undo_40 {xs : Nat → Int} {xl e : Nat} {h : LH} {Q : Option LV → LH → Prop} (hF : RF h)
    (k : Q (some (.inl 1)) h) :
    Rn xs xl e mm_undo 40 [some (.inr (.inr 182))] [] h Q := by
  refine R_ic dd_undo_40 (by decide) rfl ?_
  exact R_zret dd_undo_41 rfl (by decide) k
theorem B_mark_0 {xs : Nat → Int} {xl e : Nat} {h : LH} {Q : Option LV → LH → Prop} {v1 v2 : Int} (hF : RF h) (he : 1 ≤ e)
    (k : (v1 < 0 →
        Q (some (.inl 0)) (wr h 182 0 0)) ∧
      (0 ≤ v1 →
        (3 < v1 →
          Q (some (.inl 0)) (wr h 182 0 0)) ∧
        (v1 ≤ 3 →
          (v2 = 0 →
            (0 ≤ v1 ∧ v1 < 4) ∧
            (-2147483648 ≤ v1 + 1 ∧ v1 + 1 ≤ 2147483647) ∧
            (-2147483648 ≤ 70 * v1 + 70 ∧ 70 * v1 + 70 ≤ 2147483647) ∧
            (∃ c, c < e ∧ Rn xs xl c mm_copies 0 [some (.inr (.inr 182)), some (.inl 0), some (.inl (70 * v1 + 70)), some (.inl 70), none] [] (wr (wr h 182 0 0) 199 v1 1) (fun r h' => Rn xs xl e mm_mark 70 [some (.inr (.inr 182)), some (.inl v1), some (.inl v2), none] (r.toList ++ []) h' Q))) ∧
          (v2 ≠ 0 →
            (0 ≤ v1 ∧ v1 < 4) ∧
            ((rd h 199 v1) ≠ 0 →
              (0 ≤ v1 ∧ v1 < 4) ∧
              (-2147483648 ≤ v1 + 1 ∧ v1 + 1 ≤ 2147483647) ∧
              (-2147483648 ≤ 70 * v1 + 70 ∧ 70 * v1 + 70 ≤ 2147483647) ∧
              (∃ c, c < e ∧ Rn xs xl c mm_copies 0 [some (.inr (.inr 182)), some (.inl (70 * v1 + 70)), some (.inl 0), some (.inl 70), none] [] (wr (wr h 182 0 0) 199 v1 1) (fun r h' => Rn xs xl e mm_mark 70 [some (.inr (.inr 182)), some (.inl v1), some (.inl v2), none] (r.toList ++ []) h' Q))) ∧
            ((rd h 199 v1) = 0 →
              Q (some (.inl 0)) (wr h 182 0 0)))))) :
    Rn xs xl e mm_mark 0 [some (.inr (.inr 182)), some (.inl v1), some (.inl v2), none] [] h Q := by
  refine R_ld (v := .inr (.inr 182)) dd_mark_0 rfl rfl rfl rfl ?_
  refine R_ic dd_mark_1 (by decide) rfl ?_
  refine R_pf (z := 0) dd_mark_2 fd_12_1 io_182 fn_12_0 rfl rfl ?_
  refine R_ld (v := .inl v1) dd_mark_5 rfl rfl rfl rfl ?_
  refine R_ic dd_mark_6 (by decide) rfl ?_
  refine R_ic dd_mark_7 (by decide) rfl ?_
  refine R_call (as := [.inl v1, .inl 0, .inl 3]) (rest := []) (M' := mm_within) (ls0 := [some (.inl v1), some (.inl 0), some (.inl 3)]) dd_mark_8 rfl rfl (cw_s cw_12_297 rfl rfl (Nat.le_of_ble_eq_true rfl) (Nat.le_of_ble_eq_true rfl)) mt_within rfl (c := e - 1) (by omega) rfl ?_
  refine R_ld (v := .inl v1) dd_within_0 rfl rfl rfl rfl ?_
  refine R_ld (v := .inl 0) dd_within_1 rfl rfl rfl rfl ?_
  refine R_icmp dd_within_2 rfl rfl (fun (c10 : v1 < 0) => ?_) (fun (c10 : 0 ≤ v1) => ?_)
  · replace k := k.1 c10
    refine R_ic dd_within_14 (by decide) rfl ?_
    refine R_zret dd_within_15 rfl (by decide) ?_
    change Rn xs xl e mm_mark 11 [some (.inr (.inr 182)), some (.inl v1), some (.inl v2), none] [.inl 0] (wr h 182 0 0) _
    refine R_if dd_mark_11 rfl rfl (fun (c11 : 0 = 0) => ?_) (fun (c11 : 0 ≠ 0) => ?_)
    · skip
      refine R_ic dd_mark_27 (by decide) rfl ?_
      exact R_zret dd_mark_28 rfl (by decide) k
    · exact absurd c11 (by omega)
  · replace k := k.2 c10
    refine R_ld (v := .inl v1) dd_within_5 rfl rfl rfl rfl ?_
    refine R_ld (v := .inl 3) dd_within_6 rfl rfl rfl rfl ?_
    refine R_icmp dd_within_7 rfl rfl (fun (c12 : 3 < v1) => ?_) (fun (c12 : v1 ≤ 3) => ?_)
    · replace k := k.1 c12
      refine R_ic dd_within_14 (by decide) rfl ?_
      refine R_zret dd_within_15 rfl (by decide) ?_
      change Rn xs xl e mm_mark 11 [some (.inr (.inr 182)), some (.inl v1), some (.inl v2), none] [.inl 0] (wr h 182 0 0) _
      refine R_if dd_mark_11 rfl rfl (fun (c13 : 0 = 0) => ?_) (fun (c13 : 0 ≠ 0) => ?_)
      · skip
        refine R_ic dd_mark_27 (by decide) rfl ?_
        exact R_zret dd_mark_28 rfl (by decide) k
      · exact absurd c13 (by omega)
    · replace k := k.2 c12
      refine R_ic dd_within_10 (by decide) rfl ?_
      refine R_goto dd_within_11 rfl ?_
      refine R_zret dd_within_15 rfl (by decide) ?_
      change Rn xs xl e mm_mark 11 [some (.inr (.inr 182)), some (.inl v1), some (.inl v2), none] [.inl 1] (wr h 182 0 0) _
      refine R_if dd_mark_11 rfl rfl (fun (c14 : 1 = 0) => ?_) (fun (c14 : 1 ≠ 0) => ?_)
      · exact absurd c14 (by omega)
      · skip
        refine R_ld (v := .inl v2) dd_mark_14 rfl rfl rfl rfl ?_
        refine R_if dd_mark_15 rfl rfl (fun (c15 : v2 = 0) => ?_) (fun (c15 : v2 ≠ 0) => ?_)
        · replace k := k.1 c15
          refine R_ld (v := .inr (.inr 182)) dd_mark_29 rfl rfl rfl rfl ?_
          refine R_gf (v := .inr (.inr 199)) dd_mark_30 fd_12_128 io_182 (congrArg (fun z : Int => (Sum.inr (Sum.inr z) : LV)) ((rdw_nei (by omega)).trans (rf_182_26 hF))) rfl ?_
          refine R_ld (v := .inl v1) dd_mark_33 rfl rfl rfl rfl ?_
          refine R_ic dd_mark_34 (by decide) rfl ?_
          obtain ⟨s1, k⟩ := k
          refine R_zast (n := 4) dd_mark_35 ia_199 la_199 s1 (by decide) rfl ?_
          refine R_ld (v := .inr (.inr 182)) dd_mark_36 rfl rfl rfl rfl ?_
          refine R_ld (v := .inl v2) dd_mark_37 rfl rfl rfl rfl ?_
          refine R_if dd_mark_38 rfl rfl (fun (c16 : v2 = 0) => ?_) (fun (c16 : v2 ≠ 0) => ?_)
          · skip
            refine R_ic dd_mark_50 (by decide) rfl ?_
            refine R_ld (v := .inl v2) dd_mark_51 rfl rfl rfl rfl ?_
            refine R_if dd_mark_52 rfl rfl (fun (c17 : v2 = 0) => ?_) (fun (c17 : v2 ≠ 0) => ?_)
            · skip
              refine R_bi dd_mark_59 (by decide) rfl ?_
              refine R_ic dd_mark_61 (by decide) rfl ?_
              refine R_ld (v := .inl v1) dd_mark_62 rfl rfl rfl rfl ?_
              obtain ⟨s2, k⟩ := k
              refine R_iadd (c := v1 + 1) dd_mark_63 (by omega) s2 rfl ?_
              obtain ⟨s3, k⟩ := k
              refine R_imul (c := 70 * v1 + 70) dd_mark_64 (by omega) s3 rfl ?_
              refine R_bi dd_mark_65 (by decide) rfl ?_
              obtain ⟨c, hc, k⟩ := k
              exact R_call (as := [.inr (.inr 182), .inl 0, .inl (70 * v1 + 70), .inl 70]) (rest := []) (M' := mm_copies) (ls0 := [some (.inr (.inr 182)), some (.inl 0), some (.inl (70 * v1 + 70)), some (.inl 70), none]) dd_mark_67 rfl rfl (cw_v cw_12_328 io_182 rfl rfl (Nat.le_of_ble_eq_true rfl) (Nat.le_of_ble_eq_true rfl)) mt_copies rfl hc rfl k
            · exact absurd c17 (by omega)
          · exact absurd c16 (by omega)
        · replace k := k.2 c15
          refine R_ld (v := .inr (.inr 182)) dd_mark_18 rfl rfl rfl rfl ?_
          refine R_gf (v := .inr (.inr 199)) dd_mark_19 fd_12_128 io_182 (congrArg (fun z : Int => (Sum.inr (Sum.inr z) : LV)) ((rdw_nei (by omega)).trans (rf_182_26 hF))) rfl ?_
          refine R_ld (v := .inl v1) dd_mark_22 rfl rfl rfl rfl ?_
          obtain ⟨s5, k⟩ := k
          refine R_zald (v := (rd h 199 v1)) (n := 4) dd_mark_23 ia_199 la_199 s5 (rdw_ne (by decide)) rfl ?_
          refine R_if dd_mark_24 rfl rfl (fun (c18 : (rd h 199 v1) ≠ 0) => ?_) (fun (c18 : (rd h 199 v1) = 0) => ?_)
          · replace k := k.1 c18
            refine R_ld (v := .inr (.inr 182)) dd_mark_29 rfl rfl rfl rfl ?_
            refine R_gf (v := .inr (.inr 199)) dd_mark_30 fd_12_128 io_182 (congrArg (fun z : Int => (Sum.inr (Sum.inr z) : LV)) ((rdw_nei (by omega)).trans (rf_182_26 hF))) rfl ?_
            refine R_ld (v := .inl v1) dd_mark_33 rfl rfl rfl rfl ?_
            refine R_ic dd_mark_34 (by decide) rfl ?_
            obtain ⟨s6, k⟩ := k
            refine R_zast (n := 4) dd_mark_35 ia_199 la_199 s6 (by decide) rfl ?_
            refine R_ld (v := .inr (.inr 182)) dd_mark_36 rfl rfl rfl rfl ?_
            refine R_ld (v := .inl v2) dd_mark_37 rfl rfl rfl rfl ?_
            refine R_if dd_mark_38 rfl rfl (fun (c19 : v2 = 0) => ?_) (fun (c19 : v2 ≠ 0) => ?_)
            · exact absurd c19 (by omega)
            · skip
              refine R_bi dd_mark_41 (by decide) rfl ?_
              refine R_ic dd_mark_43 (by decide) rfl ?_
              refine R_ld (v := .inl v1) dd_mark_44 rfl rfl rfl rfl ?_
              obtain ⟨s7, k⟩ := k
              refine R_iadd (c := v1 + 1) dd_mark_45 (by omega) s7 rfl ?_
              obtain ⟨s8, k⟩ := k
              refine R_imul (c := 70 * v1 + 70) dd_mark_46 (by omega) s8 rfl ?_
              refine R_goto dd_mark_47 rfl ?_
              refine R_ld (v := .inl v2) dd_mark_51 rfl rfl rfl rfl ?_
              refine R_if dd_mark_52 rfl rfl (fun (c20 : v2 = 0) => ?_) (fun (c20 : v2 ≠ 0) => ?_)
              · exact absurd c20 (by omega)
              · skip
                refine R_ic dd_mark_55 (by decide) rfl ?_
                refine R_goto dd_mark_56 rfl ?_
                refine R_bi dd_mark_65 (by decide) rfl ?_
                obtain ⟨c, hc, k⟩ := k
                exact R_call (as := [.inr (.inr 182), .inl (70 * v1 + 70), .inl 0, .inl 70]) (rest := []) (M' := mm_copies) (ls0 := [some (.inr (.inr 182)), some (.inl (70 * v1 + 70)), some (.inl 0), some (.inl 70), none]) dd_mark_67 rfl rfl (cw_v cw_12_328 io_182 rfl rfl (Nat.le_of_ble_eq_true rfl) (Nat.le_of_ble_eq_true rfl)) mt_copies rfl hc rfl k
          · replace k := k.2 c18
            refine R_ic dd_mark_27 (by decide) rfl ?_
            exact R_zret dd_mark_28 rfl (by decide) k
theorem B_mark_70 {xs : Nat → Int} {xl e : Nat} {h : LH} {Q : Option LV → LH → Prop} {v1 v2 : Int} (hF : RF h)
    (k : Rn xs xl e mm_mark 72 [some (.inr (.inr 182)), some (.inl v1), some (.inl v2), some (.inl 0)] [] h Q) :
    Rn xs xl e mm_mark 70 [some (.inr (.inr 182)), some (.inl v1), some (.inl v2), none] [] h Q := by
  refine R_ic dd_mark_70 (by decide) rfl ?_
  refine R_st (ls' := [some (.inr (.inr 182)), some (.inl v1), some (.inl v2), some (.inl 0)]) dd_mark_71 rfl rfl rfl (Nat.le_of_ble_eq_true rfl) rfl rfl ?_
  exact k
theorem B_mark_72 {xs : Nat → Int} {xl e : Nat} {h : LH} {Q : Option LV → LH → Prop} {v1 v2 v3 : Int} (hF : RF h) (r_v1 : 0 ≤ v1 ∧ v1 ≤ 3) (r_v3 : 0 ≤ v3 ∧ v3 ≤ 50)
    (k : (50 ≤ v3 →
        (v2 = 0 →
          Q (some (.inl 1)) (wr h 182 25 (rd h 182 25))) ∧
        (v2 ≠ 0 →
          Q (some (.inl 1)) (wr h 182 25 0))) ∧
      (v3 < 50 →
        (v2 = 0 →
          (0 ≤ 50 * v1 + v3 ∧ 50 * v1 + v3 < 200) ∧
          Rn xs xl e mm_mark 72 [some (.inr (.inr 182)), some (.inl v1), some (.inl v2), some (.inl (v3 + 1))] [] (wr h 200 (50 * v1 + v3) (rd h 195 v3)) Q) ∧
        (v2 ≠ 0 →
          (0 ≤ 50 * v1 + v3 ∧ 50 * v1 + v3 < 200) ∧
          Rn xs xl e mm_mark 72 [some (.inr (.inr 182)), some (.inl v1), some (.inl v2), some (.inl (v3 + 1))] [] (wr h 195 v3 (rd h 200 (50 * v1 + v3))) Q))) :
    Rn xs xl e mm_mark 72 [some (.inr (.inr 182)), some (.inl v1), some (.inl v2), some (.inl v3)] [] h Q := by
  refine R_ld (v := .inl v3) dd_mark_72 rfl rfl rfl rfl ?_
  refine R_bi dd_mark_73 (by decide) rfl ?_
  refine R_icmp dd_mark_75 rfl rfl (fun (c3 : 50 ≤ v3) => ?_) (fun (c3 : v3 < 50) => ?_)
  · replace k := k.1 c3
    refine R_ld (v := .inr (.inr 182)) dd_mark_125 rfl rfl rfl rfl ?_
    refine R_ld (v := .inl v2) dd_mark_126 rfl rfl rfl rfl ?_
    refine R_if dd_mark_127 rfl rfl (fun (c4 : v2 = 0) => ?_) (fun (c4 : v2 ≠ 0) => ?_)
    · replace k := k.1 c4
      refine R_ld (v := .inr (.inr 182)) dd_mark_134 rfl rfl rfl rfl ?_
      refine R_gf (v := .inl (rd h 182 25)) dd_mark_135 fd_12_322 io_182 (congrArg (fun z : Int => (Sum.inl z : LV)) (rfl)) rfl ?_
      refine R_pf (z := (rd h 182 25)) dd_mark_138 fd_12_322 io_182 fn_12_25 rfl rfl ?_
      refine R_ic dd_mark_141 (by decide) rfl ?_
      exact R_zret dd_mark_142 rfl (by decide) k
    · replace k := k.2 c4
      refine R_ic dd_mark_130 (by decide) rfl ?_
      refine R_goto dd_mark_131 rfl ?_
      refine R_pf (z := 0) dd_mark_138 fd_12_322 io_182 fn_12_25 rfl rfl ?_
      refine R_ic dd_mark_141 (by decide) rfl ?_
      exact R_zret dd_mark_142 rfl (by decide) k
  · replace k := k.2 c3
    refine R_ld (v := .inl v2) dd_mark_78 rfl rfl rfl rfl ?_
    refine R_if dd_mark_79 rfl rfl (fun (c5 : v2 = 0) => ?_) (fun (c5 : v2 ≠ 0) => ?_)
    · replace k := k.1 c5
      refine R_ld (v := .inr (.inr 182)) dd_mark_102 rfl rfl rfl rfl ?_
      refine R_gf (v := .inr (.inr 200)) dd_mark_103 fd_12_132 io_182 (congrArg (fun z : Int => (Sum.inr (Sum.inr z) : LV)) (rf_182_27 hF)) rfl ?_
      refine R_bi dd_mark_106 (by decide) rfl ?_
      refine R_ld (v := .inl v1) dd_mark_108 rfl rfl rfl rfl ?_
      refine R_imul (c := 50 * v1) dd_mark_109 (by omega) (by omega) rfl ?_
      refine R_ld (v := .inl v3) dd_mark_110 rfl rfl rfl rfl ?_
      refine R_iadd (c := 50 * v1 + v3) dd_mark_111 (by omega) (by omega) rfl ?_
      refine R_ld (v := .inr (.inr 182)) dd_mark_112 rfl rfl rfl rfl ?_
      refine R_gf (v := .inr (.inr 195)) dd_mark_113 fd_12_116 io_182 (congrArg (fun z : Int => (Sum.inr (Sum.inr z) : LV)) (rf_182_20 hF)) rfl ?_
      refine R_ld (v := .inl v3) dd_mark_116 rfl rfl rfl rfl ?_
      refine R_iald (v := (rd h 195 v3)) (n := 100) dd_mark_117 ia_195 la_195 (by omega) (rfl) rfl ?_
      obtain ⟨s1, k⟩ := k
      refine R_iast (n := 200) dd_mark_118 ia_200 la_200 s1 rfl ?_
      refine R_inc (y := v3 + 1) (ls' := [some (.inr (.inr 182)), some (.inl v1), some (.inl v2), some (.inl (v3 + 1))]) dd_mark_119 rfl (by decide) (by omega) (by omega) rfl rfl ?_
      refine R_goto dd_mark_122 rfl ?_
      exact k
    · replace k := k.2 c5
      refine R_ld (v := .inr (.inr 182)) dd_mark_82 rfl rfl rfl rfl ?_
      refine R_gf (v := .inr (.inr 195)) dd_mark_83 fd_12_116 io_182 (congrArg (fun z : Int => (Sum.inr (Sum.inr z) : LV)) (rf_182_20 hF)) rfl ?_
      refine R_ld (v := .inl v3) dd_mark_86 rfl rfl rfl rfl ?_
      refine R_ld (v := .inr (.inr 182)) dd_mark_87 rfl rfl rfl rfl ?_
      refine R_gf (v := .inr (.inr 200)) dd_mark_88 fd_12_132 io_182 (congrArg (fun z : Int => (Sum.inr (Sum.inr z) : LV)) (rf_182_27 hF)) rfl ?_
      refine R_bi dd_mark_91 (by decide) rfl ?_
      refine R_ld (v := .inl v1) dd_mark_93 rfl rfl rfl rfl ?_
      refine R_imul (c := 50 * v1) dd_mark_94 (by omega) (by omega) rfl ?_
      refine R_ld (v := .inl v3) dd_mark_95 rfl rfl rfl rfl ?_
      refine R_iadd (c := 50 * v1 + v3) dd_mark_96 (by omega) (by omega) rfl ?_
      obtain ⟨s2, k⟩ := k
      refine R_iald (v := (rd h 200 (50 * v1 + v3))) (n := 200) dd_mark_97 ia_200 la_200 s2 (rfl) rfl ?_
      refine R_iast (n := 100) dd_mark_98 ia_195 la_195 (by omega) rfl ?_
      refine R_goto dd_mark_99 rfl ?_
      refine R_inc (y := v3 + 1) (ls' := [some (.inr (.inr 182)), some (.inl v1), some (.inl v2), some (.inl (v3 + 1))]) dd_mark_119 rfl (by decide) (by omega) (by omega) rfl rfl ?_
      refine R_goto dd_mark_122 rfl ?_
      exact k
theorem B_goes_0 {xs : Nat → Int} {xl e : Nat} {h : LH} {Q : Option LV → LH → Prop} {v1 v2 v3 : Int} (hF : RF h) (r_v1 : 0 ≤ v1 ∧ v1 ≤ 1540) (r_v2 : 0 ≤ v2 ∧ v2 ≤ 5) (r_v3 : 0 ≤ v3 ∧ v3 ≤ 13) (he : 1 ≤ e)
    (k : ((rd h 198 (v1 + v2 + 14)) = 1 →
        Rn xs xl e mm_goes 70 [some (.inr (.inr 182)), some (.inl v1), some (.inl v2), some (.inl v3), none] [.inl (-1)] h Q) ∧
      ((rd h 198 (v1 + v2 + 14)) ≠ 1 →
        ((rd h 198 (v1 + v3 + 20)) < (rd h 188 (8 * v3 + 10)) →
          (∃ c, c < e ∧ Rn xs xl c mm_leadsNow 0 [some (.inr (.inr 182)), some (.inl v1), some (.inl v3), some (.inl (rd h 188 (4 * v2 + 116))), some (.inl (rd h 198 (v1 + v2 + 2))), some (.inl (rd h 198 v1))] [] h (fun r h' => Rn xs xl e mm_goes 70 [some (.inr (.inr 182)), some (.inl v1), some (.inl v2), some (.inl v3), none] (r.toList ++ []) h' Q))) ∧
        ((rd h 188 (8 * v3 + 10)) ≤ (rd h 198 (v1 + v3 + 20)) →
          Rn xs xl e mm_goes 70 [some (.inr (.inr 182)), some (.inl v1), some (.inl v2), some (.inl v3), none] [.inl (-1)] h Q))) :
    Rn xs xl e mm_goes 0 [some (.inr (.inr 182)), some (.inl v1), some (.inl v2), some (.inl v3), none] [] h Q := by
  refine R_ld (v := .inr (.inr 182)) dd_goes_0 rfl rfl rfl rfl ?_
  refine R_gf (v := .inr (.inr 198)) dd_goes_1 fd_12_125 io_182 (congrArg (fun z : Int => (Sum.inr (Sum.inr z) : LV)) (rf_182_24 hF)) rfl ?_
  refine R_ld (v := .inl v1) dd_goes_4 rfl rfl rfl rfl ?_
  refine R_bi dd_goes_5 (by decide) rfl ?_
  refine R_iadd (c := v1 + 14) dd_goes_7 (by omega) (by omega) rfl ?_
  refine R_ld (v := .inl v2) dd_goes_8 rfl rfl rfl rfl ?_
  refine R_iadd (c := v1 + v2 + 14) dd_goes_9 (by omega) (by omega) rfl ?_
  refine R_iald (v := (rd h 198 (v1 + v2 + 14))) (n := 1610) dd_goes_10 ia_198 la_198 (by omega) (rfl) rfl ?_
  refine R_ic dd_goes_11 (by decide) rfl ?_
  refine R_icmp dd_goes_12 rfl rfl (fun (c2 : (rd h 198 (v1 + v2 + 14)) = 1) => ?_) (fun (c2 : (rd h 198 (v1 + v2 + 14)) ≠ 1) => ?_)
  · replace k := k.1 c2
    refine R_ic dd_goes_36 (by decide) rfl ?_
    refine R_goto dd_goes_37 rfl ?_
    exact k
  · replace k := k.2 c2
    refine R_ld (v := .inr (.inr 182)) dd_goes_15 rfl rfl rfl rfl ?_
    refine R_gf (v := .inr (.inr 198)) dd_goes_16 fd_12_125 io_182 (congrArg (fun z : Int => (Sum.inr (Sum.inr z) : LV)) (rf_182_24 hF)) rfl ?_
    refine R_ld (v := .inl v1) dd_goes_19 rfl rfl rfl rfl ?_
    refine R_bi dd_goes_20 (by decide) rfl ?_
    refine R_iadd (c := v1 + 20) dd_goes_22 (by omega) (by omega) rfl ?_
    refine R_ld (v := .inl v3) dd_goes_23 rfl rfl rfl rfl ?_
    refine R_iadd (c := v1 + v3 + 20) dd_goes_24 (by omega) (by omega) rfl ?_
    refine R_iald (v := (rd h 198 (v1 + v3 + 20))) (n := 1610) dd_goes_25 ia_198 la_198 (by omega) (rfl) rfl ?_
    refine R_ld (v := .inr (.inr 182)) dd_goes_26 rfl rfl rfl rfl ?_
    refine R_ld (v := .inl v3) dd_goes_27 rfl rfl rfl rfl ?_
    refine R_bi dd_goes_28 (by decide) rfl ?_
    refine R_call (as := [.inr (.inr 182), .inl v3, .inl 6]) (rest := [.inl (rd h 198 (v1 + v3 + 20))]) (M' := mm_doorOf) (ls0 := [some (.inr (.inr 182)), some (.inl v3), some (.inl 6)]) dd_goes_30 rfl rfl (cw_v cw_12_347 io_182 rfl rfl (Nat.le_of_ble_eq_true rfl) (Nat.le_of_ble_eq_true rfl)) mt_doorOf rfl (c := e - 1) (by omega) rfl ?_
    refine R_ld (v := .inr (.inr 182)) dd_doorOf_0 rfl rfl rfl rfl ?_
    refine R_gf (v := .inr (.inr 188)) dd_doorOf_1 fd_12_95 io_182 (congrArg (fun z : Int => (Sum.inr (Sum.inr z) : LV)) (rf_182_10 hF)) rfl ?_
    refine R_ic dd_doorOf_4 (by decide) rfl ?_
    refine R_bi dd_doorOf_5 (by decide) rfl ?_
    refine R_ld (v := .inl v3) dd_doorOf_7 rfl rfl rfl rfl ?_
    refine R_imul (c := 8 * v3) dd_doorOf_8 (by omega) (by omega) rfl ?_
    refine R_iadd (c := 8 * v3 + 4) dd_doorOf_9 (by omega) (by omega) rfl ?_
    refine R_ld (v := .inl 6) dd_doorOf_10 rfl rfl rfl rfl ?_
    refine R_iadd (c := 8 * v3 + 10) dd_doorOf_11 (by omega) (by omega) rfl ?_
    refine R_iald (v := (rd h 188 (8 * v3 + 10))) (n := 300) dd_doorOf_12 ia_188 la_188 (by omega) (rfl) rfl ?_
    refine R_iret dd_doorOf_13 rfl ?_
    change Rn xs xl e mm_goes 33 [some (.inr (.inr 182)), some (.inl v1), some (.inl v2), some (.inl v3), none] [.inl (rd h 188 (8 * v3 + 10)), .inl (rd h 198 (v1 + v3 + 20))] h _
    refine R_icmp dd_goes_33 rfl rfl (fun (c3 : (rd h 198 (v1 + v3 + 20)) < (rd h 188 (8 * v3 + 10))) => ?_) (fun (c3 : (rd h 188 (8 * v3 + 10)) ≤ (rd h 198 (v1 + v3 + 20))) => ?_)
    · replace k := k.1 c3
      refine R_ld (v := .inr (.inr 182)) dd_goes_40 rfl rfl rfl rfl ?_
      refine R_ld (v := .inl v1) dd_goes_41 rfl rfl rfl rfl ?_
      refine R_ld (v := .inl v3) dd_goes_42 rfl rfl rfl rfl ?_
      refine R_ld (v := .inr (.inr 182)) dd_goes_43 rfl rfl rfl rfl ?_
      refine R_ld (v := .inl v2) dd_goes_44 rfl rfl rfl rfl ?_
      refine R_ic dd_goes_45 (by decide) rfl ?_
      refine R_call (as := [.inr (.inr 182), .inl v2, .inl 0]) (rest := [.inl v3, .inl v1, .inr (.inr 182)]) (M' := mm_personOf) (ls0 := [some (.inr (.inr 182)), some (.inl v2), some (.inl 0)]) dd_goes_46 rfl rfl (cw_v cw_12_325 io_182 rfl rfl (Nat.le_of_ble_eq_true rfl) (Nat.le_of_ble_eq_true rfl)) mt_personOf rfl (c := e - 1) (by omega) rfl ?_
      refine R_ld (v := .inr (.inr 182)) dd_personOf_0 rfl rfl rfl rfl ?_
      refine R_gf (v := .inr (.inr 188)) dd_personOf_1 fd_12_95 io_182 (congrArg (fun z : Int => (Sum.inr (Sum.inr z) : LV)) (rf_182_10 hF)) rfl ?_
      refine R_bi dd_personOf_4 (by decide) rfl ?_
      refine R_ic dd_personOf_6 (by decide) rfl ?_
      refine R_ld (v := .inl v2) dd_personOf_7 rfl rfl rfl rfl ?_
      refine R_imul (c := 4 * v2) dd_personOf_8 (by omega) (by omega) rfl ?_
      refine R_iadd (c := 4 * v2 + 116) dd_personOf_9 (by omega) (by omega) rfl ?_
      refine R_ld (v := .inl 0) dd_personOf_10 rfl rfl rfl rfl ?_
      refine R_iadd (c := 4 * v2 + 116) dd_personOf_11 (by omega) (by omega) rfl ?_
      refine R_iald (v := (rd h 188 (4 * v2 + 116))) (n := 300) dd_personOf_12 ia_188 la_188 (by omega) (rfl) rfl ?_
      refine R_iret dd_personOf_13 rfl ?_
      change Rn xs xl e mm_goes 49 [some (.inr (.inr 182)), some (.inl v1), some (.inl v2), some (.inl v3), none] [.inl (rd h 188 (4 * v2 + 116)), .inl v3, .inl v1, .inr (.inr 182)] h _
      refine R_ld (v := .inr (.inr 182)) dd_goes_49 rfl rfl rfl rfl ?_
      refine R_gf (v := .inr (.inr 198)) dd_goes_50 fd_12_125 io_182 (congrArg (fun z : Int => (Sum.inr (Sum.inr z) : LV)) (rf_182_24 hF)) rfl ?_
      refine R_ld (v := .inl v1) dd_goes_53 rfl rfl rfl rfl ?_
      refine R_ic dd_goes_54 (by decide) rfl ?_
      refine R_iadd (c := v1 + 2) dd_goes_55 (by omega) (by omega) rfl ?_
      refine R_ld (v := .inl v2) dd_goes_56 rfl rfl rfl rfl ?_
      refine R_iadd (c := v1 + v2 + 2) dd_goes_57 (by omega) (by omega) rfl ?_
      refine R_iald (v := (rd h 198 (v1 + v2 + 2))) (n := 1610) dd_goes_58 ia_198 la_198 (by omega) (rfl) rfl ?_
      refine R_ld (v := .inr (.inr 182)) dd_goes_59 rfl rfl rfl rfl ?_
      refine R_gf (v := .inr (.inr 198)) dd_goes_60 fd_12_125 io_182 (congrArg (fun z : Int => (Sum.inr (Sum.inr z) : LV)) (rf_182_24 hF)) rfl ?_
      refine R_ld (v := .inl v1) dd_goes_63 rfl rfl rfl rfl ?_
      refine R_ic dd_goes_64 (by decide) rfl ?_
      refine R_iadd (c := v1) dd_goes_65 (by omega) (by omega) rfl ?_
      refine R_iald (v := (rd h 198 v1)) (n := 1610) dd_goes_66 ia_198 la_198 (by omega) (rfl) rfl ?_
      obtain ⟨c, hc, k⟩ := k
      exact R_call (as := [.inr (.inr 182), .inl v1, .inl v3, .inl (rd h 188 (4 * v2 + 116)), .inl (rd h 198 (v1 + v2 + 2)), .inl (rd h 198 v1)]) (rest := []) (M' := mm_leadsNow) (ls0 := [some (.inr (.inr 182)), some (.inl v1), some (.inl v3), some (.inl (rd h 188 (4 * v2 + 116))), some (.inl (rd h 198 (v1 + v2 + 2))), some (.inl (rd h 198 v1))]) dd_goes_67 rfl rfl (cw_v cw_12_373 io_182 rfl rfl (Nat.le_of_ble_eq_true rfl) (Nat.le_of_ble_eq_true rfl)) mt_leadsNow rfl hc rfl k
    · replace k := k.2 c3
      refine R_ic dd_goes_36 (by decide) rfl ?_
      refine R_goto dd_goes_37 rfl ?_
      exact k
theorem B_goes_70 {xs : Nat → Int} {xl e : Nat} {h : LH} {Q : Option LV → LH → Prop} {v1 v2 v3 w0 : Int} (hF : RF h) (r_v1 : 0 ≤ v1 ∧ v1 ≤ 1540) (r_v2 : 0 ≤ v2 ∧ v2 ≤ 5) (r_v3 : 0 ≤ v3 ∧ v3 ≤ 13) (r_w0 : -1 ≤ w0 ∧ w0 ≤ 9) (he : 1 ≤ e)
    (k : (w0 < 0 →
        Q (some (.inl w0)) h) ∧
      (0 ≤ w0 →
        (-2147483648 ≤ (rd (wr (wr h 198 (v1 + v2 + 2) w0) 198 (v1 + v2 + 14) 1) 198 (v1 + v3 + 20)) + 1 ∧ (rd (wr (wr h 198 (v1 + v2 + 2) w0) 198 (v1 + v2 + 14) 1) 198 (v1 + v3 + 20)) + 1 ≤ 2147483647) ∧
        (w0 ≠ (rd h 188 (4 * v2 + 118)) →
          Q (some (.inl w0)) (wr (wr (wr (wr h 198 (v1 + v2 + 2) w0) 198 (v1 + v2 + 14) 1) 198 (v1 + v3 + 20) ((rd (wr (wr h 198 (v1 + v2 + 2) w0) 198 (v1 + v2 + 14) 1) 198 (v1 + v3 + 20)) + 1)) 198 (v1 + v2 + 8) (rd (wr (wr (wr h 198 (v1 + v2 + 2) w0) 198 (v1 + v2 + 14) 1) 198 (v1 + v3 + 20) ((rd (wr (wr h 198 (v1 + v2 + 2) w0) 198 (v1 + v2 + 14) 1) 198 (v1 + v3 + 20)) + 1)) 198 (v1 + v2 + 8)))) ∧
        (w0 = (rd h 188 (4 * v2 + 118)) →
          Q (some (.inl w0)) (wr (wr (wr (wr h 198 (v1 + v2 + 2) w0) 198 (v1 + v2 + 14) 1) 198 (v1 + v3 + 20) ((rd (wr (wr h 198 (v1 + v2 + 2) w0) 198 (v1 + v2 + 14) 1) 198 (v1 + v3 + 20)) + 1)) 198 (v1 + v2 + 8) 1)))) :
    Rn xs xl e mm_goes 70 [some (.inr (.inr 182)), some (.inl v1), some (.inl v2), some (.inl v3), none] [.inl w0] h Q := by
  refine R_st (ls' := [some (.inr (.inr 182)), some (.inl v1), some (.inl v2), some (.inl v3), some (.inl w0)]) dd_goes_70 rfl rfl rfl (Nat.le_of_ble_eq_true rfl) rfl rfl ?_
  refine R_ld (v := .inl w0) dd_goes_72 rfl rfl rfl rfl ?_
  refine R_if dd_goes_74 rfl rfl (fun (c2 : w0 < 0) => ?_) (fun (c2 : 0 ≤ w0) => ?_)
  · replace k := k.1 c2
    refine R_ld (v := .inl w0) dd_goes_153 rfl rfl rfl rfl ?_
    exact R_iret dd_goes_155 rfl k
  · replace k := k.2 c2
    refine R_ld (v := .inr (.inr 182)) dd_goes_77 rfl rfl rfl rfl ?_
    refine R_gf (v := .inr (.inr 198)) dd_goes_78 fd_12_125 io_182 (congrArg (fun z : Int => (Sum.inr (Sum.inr z) : LV)) (rf_182_24 hF)) rfl ?_
    refine R_ld (v := .inl v1) dd_goes_81 rfl rfl rfl rfl ?_
    refine R_ic dd_goes_82 (by decide) rfl ?_
    refine R_iadd (c := v1 + 2) dd_goes_83 (by omega) (by omega) rfl ?_
    refine R_ld (v := .inl v2) dd_goes_84 rfl rfl rfl rfl ?_
    refine R_iadd (c := v1 + v2 + 2) dd_goes_85 (by omega) (by omega) rfl ?_
    refine R_ld (v := .inl w0) dd_goes_86 rfl rfl rfl rfl ?_
    refine R_iast (n := 1610) dd_goes_88 ia_198 la_198 (by omega) rfl ?_
    refine R_ld (v := .inr (.inr 182)) dd_goes_89 rfl rfl rfl rfl ?_
    refine R_gf (v := .inr (.inr 198)) dd_goes_90 fd_12_125 io_182 (congrArg (fun z : Int => (Sum.inr (Sum.inr z) : LV)) ((rdw_ne (by decide)).trans (rf_182_24 hF))) rfl ?_
    refine R_ld (v := .inl v1) dd_goes_93 rfl rfl rfl rfl ?_
    refine R_bi dd_goes_94 (by decide) rfl ?_
    refine R_iadd (c := v1 + 14) dd_goes_96 (by omega) (by omega) rfl ?_
    refine R_ld (v := .inl v2) dd_goes_97 rfl rfl rfl rfl ?_
    refine R_iadd (c := v1 + v2 + 14) dd_goes_98 (by omega) (by omega) rfl ?_
    refine R_ic dd_goes_99 (by decide) rfl ?_
    refine R_iast (n := 1610) dd_goes_100 ia_198 la_198 (by omega) rfl ?_
    refine R_ld (v := .inr (.inr 182)) dd_goes_101 rfl rfl rfl rfl ?_
    refine R_gf (v := .inr (.inr 198)) dd_goes_102 fd_12_125 io_182 (congrArg (fun z : Int => (Sum.inr (Sum.inr z) : LV)) ((rdw_ne (by decide)).trans ((rdw_ne (by decide)).trans (rf_182_24 hF)))) rfl ?_
    refine R_ld (v := .inl v1) dd_goes_105 rfl rfl rfl rfl ?_
    refine R_bi dd_goes_106 (by decide) rfl ?_
    refine R_iadd (c := v1 + 20) dd_goes_108 (by omega) (by omega) rfl ?_
    refine R_ld (v := .inl v3) dd_goes_109 rfl rfl rfl rfl ?_
    refine R_iadd (c := v1 + v3 + 20) dd_goes_110 (by omega) (by omega) rfl ?_
    refine R_A dd_goes_111 rfl rfl rfl rfl ?_
    refine R_iald (v := (rd (wr (wr h 198 (v1 + v2 + 2) w0) 198 (v1 + v2 + 14) 1) 198 (v1 + v3 + 20))) (n := 1610) dd_goes_112 ia_198 la_198 (by omega) (rfl) rfl ?_
    refine R_ic dd_goes_113 (by decide) rfl ?_
    obtain ⟨s1, k⟩ := k
    refine R_iadd (c := (rd (wr (wr h 198 (v1 + v2 + 2) w0) 198 (v1 + v2 + 14) 1) 198 (v1 + v3 + 20)) + 1) dd_goes_114 (by omega) s1 rfl ?_
    refine R_iast (n := 1610) dd_goes_115 ia_198 la_198 (by omega) rfl ?_
    refine R_ld (v := .inr (.inr 182)) dd_goes_116 rfl rfl rfl rfl ?_
    refine R_gf (v := .inr (.inr 198)) dd_goes_117 fd_12_125 io_182 (congrArg (fun z : Int => (Sum.inr (Sum.inr z) : LV)) ((rdw_ne (by decide)).trans ((rdw_ne (by decide)).trans ((rdw_ne (by decide)).trans (rf_182_24 hF))))) rfl ?_
    refine R_ld (v := .inl v1) dd_goes_120 rfl rfl rfl rfl ?_
    refine R_bi dd_goes_121 (by decide) rfl ?_
    refine R_iadd (c := v1 + 8) dd_goes_123 (by omega) (by omega) rfl ?_
    refine R_ld (v := .inl v2) dd_goes_124 rfl rfl rfl rfl ?_
    refine R_iadd (c := v1 + v2 + 8) dd_goes_125 (by omega) (by omega) rfl ?_
    refine R_ld (v := .inl w0) dd_goes_126 rfl rfl rfl rfl ?_
    refine R_ld (v := .inr (.inr 182)) dd_goes_128 rfl rfl rfl rfl ?_
    refine R_ld (v := .inl v2) dd_goes_129 rfl rfl rfl rfl ?_
    refine R_ic dd_goes_130 (by decide) rfl ?_
    refine R_call (as := [.inr (.inr 182), .inl v2, .inl 2]) (rest := [.inl w0, .inl (v1 + v2 + 8), .inr (.inr 198)]) (M' := mm_personOf) (ls0 := [some (.inr (.inr 182)), some (.inl v2), some (.inl 2)]) dd_goes_131 rfl rfl (cw_v cw_12_325 io_182 rfl rfl (Nat.le_of_ble_eq_true rfl) (Nat.le_of_ble_eq_true rfl)) mt_personOf rfl (c := e - 1) (by omega) rfl ?_
    refine R_ld (v := .inr (.inr 182)) dd_personOf_0 rfl rfl rfl rfl ?_
    refine R_gf (v := .inr (.inr 188)) dd_personOf_1 fd_12_95 io_182 (congrArg (fun z : Int => (Sum.inr (Sum.inr z) : LV)) ((rdw_ne (by decide)).trans ((rdw_ne (by decide)).trans ((rdw_ne (by decide)).trans (rf_182_10 hF))))) rfl ?_
    refine R_bi dd_personOf_4 (by decide) rfl ?_
    refine R_ic dd_personOf_6 (by decide) rfl ?_
    refine R_ld (v := .inl v2) dd_personOf_7 rfl rfl rfl rfl ?_
    refine R_imul (c := 4 * v2) dd_personOf_8 (by omega) (by omega) rfl ?_
    refine R_iadd (c := 4 * v2 + 116) dd_personOf_9 (by omega) (by omega) rfl ?_
    refine R_ld (v := .inl 2) dd_personOf_10 rfl rfl rfl rfl ?_
    refine R_iadd (c := 4 * v2 + 118) dd_personOf_11 (by omega) (by omega) rfl ?_
    refine R_iald (v := (rd h 188 (4 * v2 + 118))) (n := 300) dd_personOf_12 ia_188 la_188 (by omega) ((rdw_ne (by decide)).trans ((rdw_ne (by decide)).trans (rdw_ne (by decide)))) rfl ?_
    refine R_iret dd_personOf_13 rfl ?_
    change Rn xs xl e mm_goes 134 [some (.inr (.inr 182)), some (.inl v1), some (.inl v2), some (.inl v3), some (.inl w0)] [.inl (rd h 188 (4 * v2 + 118)), .inl w0, .inl (v1 + v2 + 8), .inr (.inr 198)] (wr (wr (wr h 198 (v1 + v2 + 2) w0) 198 (v1 + v2 + 14) 1) 198 (v1 + v3 + 20) ((rd (wr (wr h 198 (v1 + v2 + 2) w0) 198 (v1 + v2 + 14) 1) 198 (v1 + v3 + 20)) + 1)) _
    refine R_icmp dd_goes_134 rfl rfl (fun (c3 : w0 ≠ (rd h 188 (4 * v2 + 118))) => ?_) (fun (c3 : w0 = (rd h 188 (4 * v2 + 118))) => ?_)
    · replace k := k.1 c3
      refine R_ld (v := .inr (.inr 182)) dd_goes_141 rfl rfl rfl rfl ?_
      refine R_gf (v := .inr (.inr 198)) dd_goes_142 fd_12_125 io_182 (congrArg (fun z : Int => (Sum.inr (Sum.inr z) : LV)) ((rdw_ne (by decide)).trans ((rdw_ne (by decide)).trans ((rdw_ne (by decide)).trans (rf_182_24 hF))))) rfl ?_
      refine R_ld (v := .inl v1) dd_goes_145 rfl rfl rfl rfl ?_
      refine R_bi dd_goes_146 (by decide) rfl ?_
      refine R_iadd (c := v1 + 8) dd_goes_148 (by omega) (by omega) rfl ?_
      refine R_ld (v := .inl v2) dd_goes_149 rfl rfl rfl rfl ?_
      refine R_iadd (c := v1 + v2 + 8) dd_goes_150 (by omega) (by omega) rfl ?_
      refine R_iald (v := (rd (wr (wr (wr h 198 (v1 + v2 + 2) w0) 198 (v1 + v2 + 14) 1) 198 (v1 + v3 + 20) ((rd (wr (wr h 198 (v1 + v2 + 2) w0) 198 (v1 + v2 + 14) 1) 198 (v1 + v3 + 20)) + 1)) 198 (v1 + v2 + 8))) (n := 1610) dd_goes_151 ia_198 la_198 (by omega) (rfl) rfl ?_
      refine R_iast (n := 1610) dd_goes_152 ia_198 la_198 (by omega) rfl ?_
      refine R_ld (v := .inl w0) dd_goes_153 rfl rfl rfl rfl ?_
      exact R_iret dd_goes_155 rfl k
    · replace k := k.2 c3
      refine R_ic dd_goes_137 (by decide) rfl ?_
      refine R_goto dd_goes_138 rfl ?_
      refine R_iast (n := 1610) dd_goes_152 ia_198 la_198 (by omega) rfl ?_
      refine R_ld (v := .inl w0) dd_goes_153 rfl rfl rfl rfl ?_
      exact R_iret dd_goes_155 rfl k
end
section
/-! LM, part 65: the reference's closure and copies -/
theorem zor_ge10 {a b : Int} (a0 : 0 ≤ a) (a1 : a ≤ 1023) (b0 : 0 ≤ b) (b1 : b ≤ 1023) : a ≤ zor a b ∧ zor a b ≤ 1023 := by
  unfold zor
  obtain ⟨m, rfl⟩ : ∃ m : Nat, a = m := ⟨a.toNat, by omega⟩
  obtain ⟨n, rfl⟩ : ∃ n : Nat, b = n := ⟨b.toNat, by omega⟩
  have l1 : m ≤ m ||| n := Nat.left_le_or
  have l2 : m ||| n < 2 ^ 10 := Nat.or_lt_two_pow (by omega) (by omega)
  have e : (Int32.ofInt (m : Int) ||| Int32.ofInt (n : Int)) = Int32.ofInt ((m ||| n : Nat) : Int) := by
    rw [← Int32.toBitVec_inj, Int32.toBitVec_or, Int32.toBitVec_ofInt, Int32.toBitVec_ofInt, Int32.toBitVec_ofInt]
    rw [BitVec.ofInt_natCast, BitVec.ofInt_natCast, BitVec.ofInt_natCast]
    apply BitVec.eq_of_toNat_eq
    rw [BitVec.toNat_or, BitVec.toNat_ofNat, BitVec.toNat_ofNat, BitVec.toNat_ofNat, Nat.mod_eq_of_lt (by omega), Nat.mod_eq_of_lt (by omega), Nat.mod_eq_of_lt (by omega)]
  rw [e, x_of (by unfold i32; omega)]
  omega
theorem zshl_b : ∀ n : Nat, n < 10 → 1 ≤ zshl 1 (n : Int) ∧ zshl 1 (n : Int) ≤ 1023 := by decide +kernel
section CS
variable {xs : Nat → Int} {xl e : Nat} {h : LH} {Q : Option LV → LH → Prop}
/-- closure -/
theorem D_closure {v1 : Int} (he : 1 ≤ e) (hI : INV h) (hv : 0 ≤ v1 ∧ v1 ≤ 9) (k : ∀ r, 1 ≤ r → r ≤ 1023 → Q (some (.inl r)) h) : Rn xs xl e mm_closure 0 [some (.inr (.inr 182)), some (.inl v1), none, none, none] [] h Q := by
  have r0 := rq_rooms hI.1
  have l6 : ∀ (n : Nat) (v2 v3 : Int) (o4 : Option LV), nL o4 → 1023 - v3 < n → 0 ≤ v3 → v3 ≤ v2 → 1 ≤ v2 → v2 ≤ 1023 → Rn xs xl e mm_closure 6 [some (.inr (.inr 182)), some (.inl v1), some (.inl v2), some (.inl v3), o4] [] h Q := by
    intro n
    induction n with
    | zero =>
      intro v2 v3 o4 _ hn
      omega
    | succ n ih =>
      intro v2 v3 o4 no hn a0 a1 a2 a3
      refine B_closure_6 no (RF_of hI.1) ⟨fun _ => k v2 a2 a3, fun c => ?_⟩
      have l16 : ∀ (m : Nat) (w v4 : Int), rd h 188 0 - v4 < m → 0 ≤ v4 → v4 ≤ rd h 188 0 → v2 ≤ w → w ≤ 1023 → Rn xs xl e mm_closure 16 [some (.inr (.inr 182)), some (.inl v1), some (.inl w), some (.inl v2), some (.inl v4)] [] h Q := by
        intro m
        induction m with
        | zero =>
          intro w v4 hm
          omega
        | succ m im =>
          intro w v4 hm b0 b1 b2 b3
          have z0 := zor_ge10 (a := w) (b := 0) (by omega) b3 (by omega) (by omega)
          refine B_closure_16 (RF_of hI.1) he ⟨fun _ => ih w v2 _ (fun u hu => by cases hu; rfl) (by omega) (by omega) b2 (by omega) b3, fun c2 => ⟨fun _ => ⟨by omega, im _ _ (by omega) (by omega) (by omega) (by omega) (by omega)⟩, fun _ => ⟨by omega, by omega, ?_⟩⟩⟩
          have q := rA_into hI.1 (i := v4) (by omega)
          have z1 := zor_ge10 (a := w) (b := rd h 203 v4) (by omega) b3 q.1 q.2
          exact im _ _ (by omega) (by omega) (by omega) (by omega) (by omega)
      exact l16 11 v2 0 (by omega) (by omega) (by omega) (by omega) a3
  have z := zshl_b v1.toNat (by omega)
  rw [Int.toNat_of_nonneg hv.1] at z
  exact B_closure_0 (RF_of hI.1) (l6 1024 _ 0 none (fun _ hu => by cases hu) (by omega) (by omega) (by omega) z.1 z.2)
theorem hav_198 {i j : Int} (h : i.toNat % 70 = j.toNat % 70) : hav 198 i = hav 198 j := by
  rw [havM (a := 198) (i := i) (L := RGr63) (n := 70) (r := i.toNat % 70) (by decide +kernel) (by decide +kernel) rfl, havM (a := 198) (i := j) (L := RGr63) (n := 70) (r := i.toNat % 70) (by decide +kernel) (by decide +kernel) h.symm]
/-- copies: a block for a block -/
theorem D_copies {v1 v2 v3 : Int} (hr : RNG h) (h1 : v1 % 70 = 0 ∧ 0 ≤ v1 ∧ v1 ≤ 1540) (h2 : v2 % 70 = 0 ∧ 0 ≤ v2 ∧ v2 ≤ 1540) (h3 : 0 ≤ v3 ∧ v3 ≤ 70) (k : ∀ g, RNG g → (∀ a i, ¬ (a = 198 ∧ v2 ≤ i ∧ i < v2 + v3) → rd g a i = rd h a i) → (∀ i, 0 ≤ i → i < v3 → rd g 198 (v2 + i) = rd h 198 (v1 + i)) → Q none g) : Rn xs xl e mm_copies 0 [some (.inr (.inr 182)), some (.inl v1), some (.inl v2), some (.inl v3), none] [] h Q := by
  have l3 : ∀ (n : Nat) (g : LH) (v4 : Int), v3 - v4 < n → 0 ≤ v4 → v4 ≤ v3 → RNG g → (∀ a i, ¬ (a = 198 ∧ v2 ≤ i ∧ i < v2 + v4) → rd g a i = rd h a i) → (∀ i, 0 ≤ i → i < v4 → rd g 198 (v2 + i) = rd h 198 (v1 + i)) → Rn xs xl e mm_copies 3 [some (.inr (.inr 182)), some (.inl v1), some (.inl v2), some (.inl v3), some (.inl v4)] [] g Q := by
    intro n
    induction n with
    | zero =>
      intro g v4 hn
      omega
    | succ n ih =>
      intro g v4 hn a0 a1 gr gf gc
      refine B_copies_3 (RF_of gr) ⟨fun c => ?_, fun c => ⟨by omega, by omega, by omega, by omega, by omega, ?_⟩⟩
      · have : v4 = v3 := by omega
        subst this
        exact k g gr gf gc
      · have hv := gr 198 (v1 + v4) (vldA (n := 1610) (k := 1) (by decide +kernel) (by decide +kernel) (by omega))
        have kk : ∀ i : Int, lkd 198 i = lkd 198 0 := fun i => by
          rw [lkd_1 (by decide +kernel), lkd_1 (by decide +kernel)]
        have r1 : RNG (wr g 198 (v2 + v4) (rd g 198 (v1 + v4))) := by
          refine RNG_wr gr ?_
          unfold hval at hv
          rw [hav_198 (i := v2 + v4) (j := v1 + v4) (by omega), kk, ← kk (v1 + v4)]
          exact hv
        have same : rd g 198 (v1 + v4) = rd h 198 (v1 + v4) := gf _ _ (by omega)
        refine ih _ (v4 + 1) (by omega) (by omega) (by omega) r1 (fun a i n => ?_) (fun i i0 i1 => ?_)
        · rw [rd_wr, if_neg (by omega)]
          exact gf a i (by omega)
        · by_cases z : v4 = i
          · rw [← z, rdw_eq, same]
          · rw [rdw_nei (by omega)]
            exact gc i i0 (by omega)
  exact B_copies_0 (RF_of hr) (l3 71 h 0 (by omega) (by omega) (by omega) hr (fun _ _ _ => rfl) (fun i i0 i1 => by omega))
end CS
end
section
/-! LM, part 66: the reference's keeps and undo -/
def CP (h g : LH) (v1 v2 v3 : Int) : Prop := (∀ a i, ¬ (a = 198 ∧ v2 ≤ i ∧ i < v2 + v3) → rd g a i = rd h a i) ∧ ∀ i, 0 ≤ i → i < v3 → rd g 198 (v2 + i) = rd h 198 (v1 + i)
theorem wOk_of {h g : LH} {b c : Int} (e2 : rd g 188 2 = rd h 188 2) (e0 : rd g 188 0 = rd h 188 0) (e : ∀ p, 0 ≤ p → p ≤ 5 → rd g 198 (c + 2 + p) = rd h 198 (b + 2 + p)) (w : wOk h b) : wOk g c := by
  intro p p0 p1 p2
  rw [e2] at p2
  rw [e0, e p p0 p1]
  exact w p p0 p1 p2
theorem wOk_cp1 {h g : LH} {v1 v2 v3 : Int} (c : CP h g v1 v2 v3) (h3 : 8 ≤ v3) (w : wOk h v1) : wOk g v2 := by
  refine wOk_of (c.1 188 2 (by omega)) (c.1 188 0 (by omega)) (fun p p0 p1 => ?_) w
  rw [show v2 + 2 + p = v2 + (2 + p) by omega, c.2 (2 + p) (by omega) (by omega), show v1 + (2 + p) = v1 + 2 + p by omega]
theorem wOk_cp2 {h g : LH} {v1 v2 v3 b : Int} (c : CP h g v1 v2 v3) (hb : b % 70 = 0) (h2 : v2 % 70 = 0) (h3 : v3 ≤ 70) (n : b ≠ v2) (w : wOk h b) : wOk g b :=
  wOk_of (c.1 188 2 (by omega)) (c.1 188 0 (by omega)) (fun p p0 p1 => c.1 198 _ (by omega)) w
theorem INV4 {h : LH} (hI : INV h) : SP4 h := ⟨hI.2.1, hI.2.2.1, hI.2.2.2.1, hI.2.2.2.2.1⟩
theorem INVw {h : LH} (hI : INV h) : SPw h := hI.2.2.2.2.2
theorem INV_of {h : LH} (hr : RNG h) (s : SP4 h) (w : SPw h) : INV h := ⟨hr, s.1, s.2.1, s.2.2.1, s.2.2.2, w⟩
section KU
variable {xs : Nat → Int} {xl e : Nat} {h : LH} {Q : Option LV → LH → Prop}
/-- keeps -/
theorem D_keeps (he : 1 ≤ e) (hI : INV h) (k : ∀ g, INV g → (∀ a i, ¬ (a = 198 ∧ 350 ≤ i ∧ i < 1434) → ¬ (a = 182 ∧ i = 25) → rd g a i = rd h a i) → Q none g) : Rn xs xl e mm_keeps 0 [some (.inr (.inr 182)), none] [] h Q := by
  have hw := INVw hI
  have t53 : ∀ (g : LH) (o1 : Option LV), RNG g → (∀ a i, ¬ (a = 198 ∧ 350 ≤ i ∧ i < 1434) → ¬ (a = 182 ∧ i = 25) → rd g a i = rd h a i) → rd g 182 25 ≤ 15 → (∀ j, 0 ≤ j → j < rd g 182 25 → wOk g (70 * (5 + j))) → Rn xs xl e mm_keeps 53 [some (.inr (.inr 182)), o1] [] g Q := by
    intro g o1 gr gf n1 gw
    have n0 := rF_undos gr
    refine B_keeps_53 (RF_of gr) ⟨by omega, by omega, 0, by omega, D_copies gr (by omega) (by omega) (by omega) (fun u ur uf uc => ?_)⟩
    have cp : CP g u 0 (70 * rd g 182 25 + 350) 34 := ⟨uf, uc⟩
    have un : rd u 182 25 = rd g 182 25 := uf 182 25 (by omega)
    have r1 := wu ur (v := rd u 182 25 + 1) (by omega) (by omega)
    have fr : ∀ a i, ¬ (a = 198 ∧ 350 ≤ i ∧ i < 1434) → ¬ (a = 182 ∧ i = 25) → rd (wr u 182 25 (rd u 182 25 + 1)) a i = rd h a i := by
      intro a i m1 m2
      rw [rd_wr, if_neg (fun q => m2 ⟨q.1.symm, q.2.symm⟩), uf a i (by omega)]
      exact gf a i m1 m2
    refine B_keeps_69 (RF_of ur) ⟨by omega, k _ (INV_of r1 (SP4_of (fun b j _ m1 _ m3 => fr b j (fun q => m1 q.1) (fun q => m3 q.1)) (INV4 hI)) ⟨?_, ?_, ?_⟩) fr⟩
    · exact wOk_of (fr 188 2 (by omega) (by omega)) (fr 188 0 (by omega) (by omega)) (fun p p0 p1 => fr 198 _ (by omega) (by omega)) hw.1
    · intro m m0 m1 q
      rw [fr 199 m (by omega) (by omega)] at q
      exact wOk_of (fr 188 2 (by omega) (by omega)) (fr 188 0 (by omega) (by omega)) (fun p p0 p1 => fr 198 _ (by omega) (by omega)) (hw.2.1 m m0 m1 q)
    · intro j j0 j1 q
      rw [rdw_eq, un] at q
      have step : wOk u (70 * (5 + j)) := by
        by_cases z : j = rd g 182 25
        · have w1 := wOk_cp1 cp (by omega) (wOk_of (gf 188 2 (by omega) (by omega)) (gf 188 0 (by omega) (by omega)) (fun p p0 p1 => gf 198 _ (by omega) (by omega)) hw.1)
          rw [show 70 * (5 + j) = 70 * rd g 182 25 + 350 by omega]
          exact w1
        · exact wOk_cp2 cp (by omega) (by omega) (by omega) (by omega) (gw j j0 (by omega))
      exact wOk_of (rdw_ne (by decide)) (rdw_ne (by decide)) (fun p _ _ => rdw_ne (by decide)) step
  have l11 : ∀ (n : Nat) (g : LH) (v1 : Int), 16 - v1 < n → 1 ≤ v1 → v1 ≤ 16 → RNG g → (∀ a i, ¬ (a = 198 ∧ 350 ≤ i ∧ i < 1434) → rd g a i = rd h a i) → rd h 182 25 = 16 → (∀ j, 0 ≤ j → j ≤ 15 → wOk g (70 * (5 + j))) → Rn xs xl e mm_keeps 11 [some (.inr (.inr 182)), some (.inl v1)] [] g Q := by
    intro n
    induction n with
    | zero =>
      intro g v1 hn
      omega
    | succ n ih =>
      intro g v1 hn a0 a1 gr gf h16 gw
      have g16 : rd g 182 25 = 16 := (gf 182 25 (by omega)).trans h16
      refine B_keeps_11 (RF_of gr) ⟨a0, a1⟩ ⟨fun c => ⟨by omega, ?_⟩, fun c => ⟨0, by omega, D_copies gr (by omega) (by omega) (by omega) (fun u ur uf uc => B_keeps_37 (RF_of ur) (by omega) (ih u (v1 + 1) (by omega) (by omega) (by omega) ur (fun a i m => (uf a i (by omega)).trans (gf a i m)) h16 (fun j j0 j1 => ?_)))⟩⟩
      · have r1 := wu gr (v := rd g 182 25 - 1) (by omega) (by omega)
        refine t53 _ _ r1 (fun a i m1 m2 => ?_) (by rw [rdw_eq]; omega) (fun j j0 j1 => ?_)
        · rw [rd_wr, if_neg (fun q => m2 ⟨q.1.symm, q.2.symm⟩)]
          exact gf a i m1
        · rw [rdw_eq] at j1
          exact wOk_of (rdw_ne (by decide)) (rdw_ne (by decide)) (fun p _ _ => rdw_ne (by decide)) (gw j j0 (by omega))
      · have cp : CP g u (70 * v1 + 350) (70 * v1 + 280) 34 := ⟨uf, uc⟩
        by_cases z : j = v1 - 1
        · have w0 := gw v1 (by omega) (by omega)
          rw [show 70 * (5 + v1) = 70 * v1 + 350 by omega] at w0
          have w1 := wOk_cp1 cp (by omega) w0
          rw [show 70 * (5 + j) = 70 * v1 + 280 by omega]
          exact w1
        · exact wOk_cp2 cp (by omega) (by omega) (by omega) (by omega) (gw j j0 j1)
  have n0 := rF_undos hI.1
  exact B_keeps_0 (RF_of hI.1) ⟨fun c => t53 h _ hI.1 (fun _ _ _ _ => rfl) (by omega) (fun j j0 j1 => hw.2.2 j j0 (by omega) j1), fun c => l11 16 h 1 (by omega) (by omega) (by omega) hI.1 (fun _ _ _ => rfl) c (fun j j0 j1 => hw.2.2 j j0 j1 (by omega))⟩
/-- undo, a root -/
theorem D_undo (he : 1 ≤ e) (hI : INV h) (k : ∀ r g, INV g → (∀ a i, ¬ (a = 198 ∧ 0 ≤ i ∧ i < 34) → ¬ (a = 182 ∧ (i = 25 ∨ i = 0)) → rd g a i = rd h a i) → Q (some (.inl r)) g) : Rn xs xl e mm_undo 0 [some (.inr (.inr 182))] [] h Q := by
  have i0 : INV (wr h 182 0 0) := wF_thrown hI (by omega) (by omega)
  have f0 : ∀ a i, ¬ (a = 182 ∧ (i = 25 ∨ i = 0)) → rd (wr h 182 0 0) a i = rd h a i := fun a i n => by
    rw [rd_wr, if_neg (by omega)]
  have n0 := rF_undos hI.1
  refine B_undo_0 (RF_of hI.1) ⟨fun c => ⟨by omega, by omega, by omega, 0, by omega, ?_⟩, fun _ => k _ _ i0 (fun a i _ n => f0 a i n)⟩
  have r1 := wu i0.1 (v := rd h 182 25 - 1) (by omega) (by omega)
  have f1 : ∀ a i, ¬ (a = 182 ∧ (i = 25 ∨ i = 0)) → rd (wr (wr h 182 0 0) 182 25 (rd h 182 25 - 1)) a i = rd h a i := fun a i n => by
    rw [rd_wr, if_neg (by omega)]
    exact f0 a i n
  have e1 : rd (wr (wr h 182 0 0) 182 25 (rd h 182 25 - 1)) 182 25 = rd h 182 25 - 1 := rdw_eq
  generalize wr (wr h 182 0 0) 182 25 (rd h 182 25 - 1) = g at *
  have hw := INVw hI
  have gw : ∀ b, wOk h b → wOk g b := fun b w => wOk_of (f1 188 2 (by omega)) (f1 188 0 (by omega)) (fun p _ _ => f1 198 _ (by omega)) w
  refine D_copies r1 (by omega) (by omega) (by omega) (fun u ur uf uc => B_undo_40 (RF_of ur) (k _ _ (INV_of ur (SP4_of (fun b j _ m1 _ m3 => (uf b j (by omega)).trans (f1 b j (by omega))) (INV4 hI)) ⟨?_, ?_, ?_⟩) (fun a i m1 m2 => (uf a i (by omega)).trans (f1 a i m2))))
  · have cp : CP g u (70 * (rd h 182 25 - 1) + 350) 0 34 := ⟨uf, uc⟩
    have w0 := gw _ (hw.2.2 (rd h 182 25 - 1) (by omega) (by omega) (by omega))
    rw [show 70 * (5 + (rd h 182 25 - 1)) = 70 * (rd h 182 25 - 1) + 350 by omega] at w0
    exact wOk_cp1 cp (by omega) w0
  · intro m m0 m1 q
    have cp : CP g u (70 * (rd h 182 25 - 1) + 350) 0 34 := ⟨uf, uc⟩
    rw [uf 199 m (by omega), f1 199 m (by omega)] at q
    exact wOk_cp2 cp (by omega) (by omega) (by omega) (by omega) (gw _ (hw.2.1 m m0 m1 q))
  · intro j j0 j1 q
    have cp : CP g u (70 * (rd h 182 25 - 1) + 350) 0 34 := ⟨uf, uc⟩
    rw [uf 182 25 (by omega), e1] at q
    exact wOk_cp2 cp (by omega) (by omega) (by omega) (by omega) (gw _ (hw.2.2 j j0 j1 (by omega)))
end KU
end
section
/-! LM, part 67: the reference's mark -/
theorem SP3_of {h h' : LH} (e : ∀ b j, sens b j → b ≠ 195 → b ≠ 198 → b ≠ 199 → b ≠ 200 → b ≠ 182 → rd h' b j = rd h b j) (p1 : pairsOk h' 195 1) (p2 : ∀ m : Int, 0 ≤ m → m < 4 → pairsOk h' 200 (50 * m + 1)) (hs : SP4 h) : SP4 h' := by
  obtain ⟨⟨h1, h2, h3, h4, h5, h6, h7, h8⟩, hl, ht, hq⟩ := hs
  have c : ∀ b j, (b = 63 ∨ b = 64 ∨ b = 71 ∨ b = 72 ∨ b = 106 ∨ b = 107 ∨ b = 114 ∨ b = 115 ∨ b = 122 ∨ b = 123 ∨ b = 130 ∨ b = 131) → rd h' b j = rd h b j := fun b j hb => e b j (sens_c (by omega)) (by rintro rfl; revert hb; decide) (by rintro rfl; revert hb; decide) (by rintro rfl; revert hb; decide) (by rintro rfl; revert hb; decide) (by rintro rfl; revert hb; decide)
  have e0 : ∀ j, 0 ≤ j → j < 150 → rd h' 188 j = rd h 188 j := fun j j0 j1 => e 188 j (by unfold sens; omega) (by decide) (by decide) (by decide) (by decide) (by decide)
  refine ⟨⟨lines_same (fun j => c _ j (by omega)) (fun j => c _ j (by omega)) h1, lines_same (fun j => c _ j (by omega)) (fun j => c _ j (by omega)) h2, lines_same (fun j => c _ j (by omega)) (fun j => c _ j (by omega)) h3, lines_same (fun j => c _ j (by omega)) (fun j => c _ j (by omega)) h4, lines_same (fun j => c _ j (by omega)) (fun j => c _ j (by omega)) h5, lines_same (fun j => c _ j (by omega)) (fun j => c _ j (by omega)) h6, p1, p2⟩, ?_, ?_, ?_⟩
  · intro q
    rw [e0 3 (by decide) (by decide)] at q
    obtain ⟨n, n1, n2, n3⟩ := hl q
    exact ⟨n, n1, seg_same n2 (fun k k1 k2 => ⟨e 189 k (by unfold sens; omega) (by decide) (by decide) (by decide) (by decide) (by decide), e 190 k (by unfold sens; omega) (by decide) (by decide) (by decide) (by decide) (by decide)⟩), by rw [e 189 n (by unfold sens; omega) (by decide) (by decide) (by decide) (by decide) (by decide)]; exact n3⟩
  · unfold SPtok
    rw [e 184 1000 (by unfold sens; omega) (by decide) (by decide) (by decide) (by decide) (by decide)]
    exact ht
  · refine ⟨fun d d0 d1 d2 => ?_, fun p p0 p1 p2 => ?_⟩
    · rw [e0 1 (by decide) (by decide)] at d2
      rw [e0 (5 + 8 * d) (by omega) (by omega), e0 (6 + 8 * d) (by omega) (by omega), e0 0 (by decide) (by decide)]
      exact hq.1 d d0 d1 d2
    · rw [e0 2 (by decide) (by decide)] at p2
      rw [e0 (117 + 4 * p) (by omega) (by omega), e0 0 (by decide) (by decide)]
      exact hq.2 p p0 p1 p2
theorem hav_lines {v1 v3 : Int} (h1 : 0 ≤ v1 ∧ v1 ≤ 3) (h3 : 0 ≤ v3 ∧ v3 < 50) : hav 200 (50 * v1 + v3) = hav 195 v3 := by
  rw [havM (a := 200) (i := 50 * v1 + v3) (L := RGr65) (n := 50) (r := v3.toNat) (by decide +kernel) (by decide +kernel) (by omega), havM (a := 195) (i := v3) (L := RGr62) (n := 100) (r := v3.toNat) (by decide +kernel) (by decide +kernel) (by omega)]
  have a : ((List.range 50).all (fun r => decide (RGr65.getD r top0 = RGr62.getD r top0))) = true := by decide +kernel
  exact of_decide_eq_true (List.all_eq_true.mp a v3.toNat (List.mem_range.mpr (by omega)))
section MK
variable {xs : Nat → Int} {xl e : Nat} {h : LH} {Q : Option LV → LH → Prop}
/-- mark, a root -/
theorem D_mark {v1 v2 : Int} (he : 1 ≤ e) (hI : INV h) (k : ∀ r g, INV g → (∀ a i, a ≠ 195 → a ≠ 198 → a ≠ 199 → a ≠ 200 → ¬ (a = 182 ∧ (i = 0 ∨ i = 25)) → rd g a i = rd h a i) → Q (some (.inl r)) g) : Rn xs xl e mm_mark 0 [some (.inr (.inr 182)), some (.inl v1), some (.inl v2), none] [] h Q := by
  have i0 : INV (wr h 182 0 0) := wF_thrown hI (by omega) (by omega)
  have f0 : ∀ a i, ¬ (a = 182 ∧ i = 0) → rd (wr h 182 0 0) a i = rd h a i := fun a i n => by
    rw [rd_wr, if_neg (by omega)]
  have wrong : Q (some (.inl 0)) (wr h 182 0 0) := k _ _ i0 (fun a i _ _ _ _ n => f0 a i (by omega))
  have hw := INVw hI
  have h4 := INV4 hI
  have hl := h4.1.2.2.2.2.2.2
  have lk : ∀ i j : Int, lkd 200 i = lkd 195 j := fun i j => by
    rw [lkd_1 (by decide +kernel), lkd_1 (by decide +kernel)]
  have f2 : ∀ a i, ¬ (a = 182 ∧ i = 0) → a ≠ 199 → rd (wr (wr h 182 0 0) 199 v1 1) a i = rd h a i := fun a i n1 n2 => by
    rw [rdw_ne (fun q => n2 q.symm)]
    exact f0 a i n1
  have m2 : ∀ i, i ≠ v1 → rd (wr (wr h 182 0 0) 199 v1 1) 199 i = rd h 199 i := fun i n => by
    rw [rdw_nei (fun q => n q.symm)]
    exact f0 199 i (by omega)
  have r2 : RNG (wr (wr h 182 0 0) 199 v1 1) := wR_isMarked i0.1 (by omega) (by omega)
  have gw : ∀ b, wOk h b → wOk (wr (wr h 182 0 0) 199 v1 1) b := fun b w => wOk_of (f2 188 2 (by omega) (by decide)) (f2 188 0 (by omega) (by decide)) (fun p _ _ => f2 198 _ (by omega) (by decide)) w
  have n0 := rF_undos hI.1
  -- the lines go to the mark
  have la : ∀ (n : Nat) (g : LH) (v3 : Int), 0 ≤ v1 ∧ v1 ≤ 3 → v2 = 0 → 50 - v3 < n → 0 ≤ v3 → v3 ≤ 50 → RNG g → SPw g → (∀ a i, a ≠ 198 → a ≠ 199 → a ≠ 200 → ¬ (a = 182 ∧ i = 0) → rd g a i = rd h a i) → (∀ i, ¬ (50 * v1 ≤ i ∧ i < 50 * v1 + v3) → rd g 200 i = rd h 200 i) → (∀ i, 0 ≤ i → i < v3 → rd g 200 (50 * v1 + i) = rd h 195 i) → Rn xs xl e mm_mark 72 [some (.inr (.inr 182)), some (.inl v1), some (.inl v2), some (.inl v3)] [] g Q := by
    intro n
    induction n with
    | zero =>
      intro g v3 hv hz hn
      omega
    | succ n ih =>
      intro g v3 hv hz hn a0 a1 gr gs gf g2 gc
      refine B_mark_72 (RF_of gr) hv ⟨a0, a1⟩ ⟨fun c => ⟨fun _ => ?_, fun q => absurd hz q⟩, fun c => ⟨fun _ => ⟨by omega, ?_⟩, fun q => absurd hz q⟩⟩
      · have e25 : rd g 182 25 = rd h 182 25 := gf 182 25 (by decide) (by decide) (by decide) (by omega)
        have r3 := wu gr (v := rd g 182 25) (by omega) (by omega)
        have same : ∀ a i, rd (wr g 182 25 (rd g 182 25)) a i = rd g a i := fun a i => by
          rw [rd_wr]
          split
          · next q => rw [← q.1, ← q.2]
          · rfl
        have fr : ∀ a i, a ≠ 198 → a ≠ 199 → a ≠ 200 → ¬ (a = 182 ∧ i = 0) → rd (wr g 182 25 (rd g 182 25)) a i = rd h a i := fun a i n1 n2 n3 n4 => (same a i).trans (gf a i n1 n2 n3 n4)
        refine k _ _ (INV_of r3 (SP3_of (fun b j _ _ m1 m2 m3 m4 => fr b j m1 m2 m3 (fun q => m4 q.1)) ?_ ?_ h4) ⟨?_, ?_, ?_⟩) (fun a i m0 m1 m2 m3 m4 => fr a i m1 m2 m3 (by omega))
        · intro j j0 j1 q
          rw [fr 195 _ (by decide) (by decide) (by decide) (by omega)] at q ⊢
          exact hl.1 j j0 j1 q
        · intro m m0 m1 j j0 j1 q
          rw [same] at q ⊢
          by_cases z : m = v1
          · subst z
            rw [show 50 * m + 1 + 2 * j = 50 * m + (1 + 2 * j) by omega, gc _ (by omega) (by omega)] at q
            rw [show 50 * m + 1 + 2 * j + 1 = 50 * m + (1 + 2 * j + 1) by omega, gc _ (by omega) (by omega)]
            exact hl.1 j j0 j1 q
          · rw [g2 _ (by omega)] at q ⊢
            exact hl.2 m m0 m1 j j0 j1 q
        · exact wOk_of (same _ _) (same _ _) (fun p _ _ => same _ _) gs.1
        · intro m m0 m1 q
          rw [same] at q
          exact wOk_of (same _ _) (same _ _) (fun p _ _ => same _ _) (gs.2.1 m m0 m1 q)
        · intro j j0 j1 q
          rw [same] at q
          exact wOk_of (same _ _) (same _ _) (fun p _ _ => same _ _) (gs.2.2 j j0 j1 q)
      · have hv2 := gr 195 v3 (vldA (n := 100) (k := 1) (by decide +kernel) (by decide +kernel) (by omega))
        have r3 : RNG (wr g 200 (50 * v1 + v3) (rd g 195 v3)) := by
          refine RNG_wr gr ?_
          unfold hval at hv2
          rw [hav_lines hv (by omega), lk _ v3]
          exact hv2
        have s3 : SPw (wr g 200 (50 * v1 + v3) (rd g 195 v3)) := by
          have w : ∀ b, wOk g b → wOk (wr g 200 (50 * v1 + v3) (rd g 195 v3)) b := fun b w => wOk_of (rdw_ne (by decide)) (rdw_ne (by decide)) (fun p _ _ => rdw_ne (by decide)) w
          refine ⟨w _ gs.1, fun m m0 m1 q => ?_, fun j j0 j1 q => ?_⟩
          · rw [rdw_ne (by decide)] at q
            exact w _ (gs.2.1 m m0 m1 q)
          · rw [rdw_ne (by decide)] at q
            exact w _ (gs.2.2 j j0 j1 q)
        have e5 : rd g 195 v3 = rd h 195 v3 := gf 195 v3 (by decide) (by decide) (by decide) (by omega)
        refine ih _ (v3 + 1) hv hz (by omega) (by omega) (by omega) r3 s3 (fun a i n1 n2 n3 n4 => ?_) (fun i q => ?_) (fun i i0 i1 => ?_)
        · rw [rdw_ne (fun q => n3 q.symm)]
          exact gf a i n1 n2 n3 n4
        · rw [rdw_nei (by omega)]
          exact g2 i (by omega)
        · by_cases z : v3 = i
          · rw [← z, rdw_eq, e5]
          · rw [rdw_nei (by omega)]
            exact gc i i0 (by omega)
  -- the lines come back
  have lb : ∀ (n : Nat) (g : LH) (v3 : Int), 0 ≤ v1 ∧ v1 ≤ 3 → v2 ≠ 0 → 50 - v3 < n → 0 ≤ v3 → v3 ≤ 50 → RNG g → SPw g → (∀ a i, a ≠ 195 → a ≠ 198 → a ≠ 199 → ¬ (a = 182 ∧ i = 0) → rd g a i = rd h a i) → (∀ i, 0 ≤ i → i < v3 → rd g 195 i = rd h 200 (50 * v1 + i)) → Rn xs xl e mm_mark 72 [some (.inr (.inr 182)), some (.inl v1), some (.inl v2), some (.inl v3)] [] g Q := by
    intro n
    induction n with
    | zero =>
      intro g v3 hv hz hn
      omega
    | succ n ih =>
      intro g v3 hv hz hn a0 a1 gr gs gf gc
      refine B_mark_72 (RF_of gr) hv ⟨a0, a1⟩ ⟨fun c => ⟨fun q => absurd q hz, fun _ => ?_⟩, fun c => ⟨fun q => absurd q hz, fun _ => ⟨by omega, ?_⟩⟩⟩
      · have r3 := wu gr (v := 0) (by omega) (by omega)
        have same : ∀ a i, a ≠ 182 → rd (wr g 182 25 0) a i = rd g a i := fun a i n => rdw_ne (fun q => n q.symm)
        have fr : ∀ a i, a ≠ 195 → a ≠ 198 → a ≠ 199 → ¬ (a = 182 ∧ (i = 0 ∨ i = 25)) → rd (wr g 182 25 0) a i = rd h a i := fun a i n1 n2 n3 n4 => by
          rw [rd_wr, if_neg (by omega)]
          exact gf a i n1 n2 n3 (by omega)
        refine k _ _ (INV_of r3 (SP3_of (fun b j _ m0 m1 m2 m3 m4 => fr b j m0 m1 m2 (fun q => m4 q.1)) ?_ ?_ h4) ⟨?_, ?_, ?_⟩) (fun a i m0 m1 m2 m3 m4 => fr a i m0 m1 m2 (by omega))
        · intro j j0 j1 q
          rw [same _ _ (by decide), gc _ (by omega) (by omega), show 50 * v1 + (1 + 2 * j) = 50 * v1 + 1 + 2 * j by omega] at q
          rw [same _ _ (by decide), gc _ (by omega) (by omega), show 50 * v1 + (1 + 2 * j + 1) = 50 * v1 + 1 + 2 * j + 1 by omega]
          exact hl.2 v1 (by omega) (by omega) j j0 j1 q
        · intro m m0 m1 j j0 j1 q
          rw [fr 200 _ (by decide) (by decide) (by decide) (by omega)] at q ⊢
          exact hl.2 m m0 m1 j j0 j1 q
        · exact wOk_of (same _ _ (by decide)) (same _ _ (by decide)) (fun p _ _ => same _ _ (by decide)) gs.1
        · intro m m0 m1 q
          rw [same _ _ (by decide)] at q
          exact wOk_of (same _ _ (by decide)) (same _ _ (by decide)) (fun p _ _ => same _ _ (by decide)) (gs.2.1 m m0 m1 q)
        · intro j j0 j1 q
          rw [rdw_eq] at q
          omega
      · have hv2 := gr 200 (50 * v1 + v3) (vldA (n := 200) (k := 1) (by decide +kernel) (by decide +kernel) (by omega))
        have r3 : RNG (wr g 195 v3 (rd g 200 (50 * v1 + v3))) := by
          refine RNG_wr gr ?_
          unfold hval at hv2
          rw [← hav_lines hv (by omega), ← lk (50 * v1 + v3) v3]
          exact hv2
        have s3 : SPw (wr g 195 v3 (rd g 200 (50 * v1 + v3))) := by
          have w : ∀ b, wOk g b → wOk (wr g 195 v3 (rd g 200 (50 * v1 + v3))) b := fun b w => wOk_of (rdw_ne (by decide)) (rdw_ne (by decide)) (fun p _ _ => rdw_ne (by decide)) w
          refine ⟨w _ gs.1, fun m m0 m1 q => ?_, fun j j0 j1 q => ?_⟩
          · rw [rdw_ne (by decide)] at q
            exact w _ (gs.2.1 m m0 m1 q)
          · rw [rdw_ne (by decide)] at q
            exact w _ (gs.2.2 j j0 j1 q)
        have e5 : rd g 200 (50 * v1 + v3) = rd h 200 (50 * v1 + v3) := gf 200 _ (by decide) (by decide) (by decide) (by omega)
        refine ih _ (v3 + 1) hv hz (by omega) (by omega) (by omega) r3 s3 (fun a i n1 n2 n3 n4 => ?_) (fun i i0 i1 => ?_)
        · rw [rdw_ne (fun q => n1 q.symm)]
          exact gf a i n1 n2 n3 n4
        · by_cases z : v3 = i
          · rw [← z, rdw_eq, e5]
          · rw [rdw_nei (by omega)]
            exact gc i i0 (by omega)
  refine B_mark_0 (RF_of hI.1) he ⟨fun _ => wrong, fun c1 => ⟨fun _ => wrong, fun c2 => ⟨fun c3 => ⟨by omega, by omega, by omega, 0, by omega, ?_⟩, fun c3 => ⟨by omega, fun c4 => ⟨by omega, by omega, by omega, 0, by omega, ?_⟩, fun _ => wrong⟩⟩⟩⟩
  · refine D_copies r2 (by omega) (by omega) (by omega) (fun u ur uf uc => B_mark_70 (RF_of ur) (la 51 u 0 ⟨c1, c2⟩ c3 (by omega) (by omega) (by omega) ur ⟨?_, ?_, ?_⟩ (fun a i n1 n2 n3 n4 => (uf a i (by omega)).trans (f2 a i n4 n2)) (fun i _ => (uf 200 i (by omega)).trans (f2 200 i (by omega) (by decide))) (fun i i0 i1 => by omega)))
    · exact wOk_cp2 ⟨uf, uc⟩ (by omega) (by omega) (by omega) (by omega) (gw _ hw.1)
    · intro m m0 m1 q
      by_cases z : m = v1
      · have w1 := wOk_cp1 ⟨uf, uc⟩ (by omega) (gw _ hw.1)
        rw [show 70 * (1 + m) = 70 * v1 + 70 by omega]
        exact w1
      · rw [uf 199 m (by omega), m2 m z] at q
        exact wOk_cp2 ⟨uf, uc⟩ (by omega) (by omega) (by omega) (by omega) (gw _ (hw.2.1 m m0 m1 q))
    · intro j j0 j1 q
      rw [uf 182 25 (by omega), f2 182 25 (by omega) (by decide)] at q
      exact wOk_cp2 ⟨uf, uc⟩ (by omega) (by omega) (by omega) (by omega) (gw _ (hw.2.2 j j0 j1 q))
  · have mk := rA_isMarked hI.1 (i := v1) (by omega)
    have wm := hw.2.1 v1 c1 (by omega) (by omega)
    refine D_copies r2 (by omega) (by omega) (by omega) (fun u ur uf uc => B_mark_70 (RF_of ur) (lb 51 u 0 ⟨c1, c2⟩ c3 (by omega) (by omega) (by omega) ur ⟨?_, ?_, ?_⟩ (fun a i n1 n2 n3 n4 => (uf a i (by omega)).trans (f2 a i n4 n3)) (fun i i0 i1 => by omega)))
    · rw [show 70 * (1 + v1) = 70 * v1 + 70 by omega] at wm
      exact wOk_cp1 ⟨uf, uc⟩ (by omega) (gw _ wm)
    · intro m m0 m1 q
      refine wOk_cp2 ⟨uf, uc⟩ (by omega) (by omega) (by omega) (by omega) (gw _ ?_)
      by_cases z : m = v1
      · rw [z]
        exact wm
      · rw [uf 199 m (by omega), m2 m z] at q
        exact hw.2.1 m m0 m1 q
    · intro j j0 j1 q
      rw [uf 182 25 (by omega), f2 182 25 (by omega) (by decide)] at q
      exact wOk_cp2 ⟨uf, uc⟩ (by omega) (by omega) (by omega) (by omega) (gw _ (hw.2.2 j j0 j1 q))
end MK
end
section
/-! LM, part 68: the reference's goes -/
def frG (b p d r : Int) (h g : LH) : Prop := (∀ a i, a ≠ 196 → a ≠ 197 → ¬ (a = 198 ∧ (i = b + p + 2 ∨ i = b + p + 14 ∨ i = b + d + 20 ∨ i = b + p + 8)) → rd g a i = rd h a i) ∧ (rd g 198 (b + p + 2) = rd h 198 (b + p + 2) ∨ rd g 198 (b + p + 2) = r)
section GO
variable {xs : Nat → Int} {xl e : Nat} {h : LH} {Q : Option LV → LH → Prop}
theorem D_goes {b p d : Int} (he : 5 ≤ e) (hI : INV h) (hb : b = 0 ∨ b = 1470 ∨ b = 1540) (hp : 0 ≤ p ∧ p ≤ 5) (hd : 0 ≤ d ∧ d ≤ 13) (hdoor : b = 0 → d < rd h 188 1) (k : ∀ r g, INV g → -1 ≤ r → r ≤ 9 → (d < rd h 188 1 → 0 ≤ r → r < rd h 188 0) → frG b p d r h g → Q (some (.inl r)) g) : Rn xs xl e mm_goes 0 [some (.inr (.inr 182)), some (.inl b), some (.inl p), some (.inl d), none] [] h Q := by
  have rr := rq_rooms hI.1
  have none1 : Rn xs xl e mm_goes 70 [some (.inr (.inr 182)), some (.inl b), some (.inl p), some (.inl d), none] [.inl (-1)] h Q := B_goes_70 (RF_of hI.1) (by omega) hp hd (by omega) (by omega) ⟨fun _ => k _ _ hI (by omega) (by omega) (fun _ q => by omega) ⟨fun _ _ _ _ _ => rfl, Or.inl rfl⟩, fun q => by omega⟩
  refine B_goes_0 (RF_of hI.1) (by omega) hp hd (by omega) ⟨fun _ => none1, fun c1 => ⟨fun c2 => ⟨4, by omega, ?_⟩, fun _ => none1⟩⟩
  have qs := rq_p0 hI.1 (i := 4 * p + 116) (d := p) (by omega) (by omega) (by omega)
  have qr := rs_where hI.1 (i := b + p + 2) b p (by omega) (by omega) (by omega) (by omega) (by omega) (by omega)
  have qh := rs_now hI.1 (i := b) b 0 (by omega) (by omega) (by omega) (by omega) (by omega) (by omega)
  have cap := rq_d6 hI.1 (i := 8 * d + 10) (d := d) (by omega) (by omega) (by omega)
  refine D_leadsNow (K := key h) (S := rd h 198) (by omega) ⟨hI, rfl, rfl⟩ (by omega) hd qs qr (by omega) (fun u uw uf => ?_)
  have nw := NW_ok (key h) (rd h 198 (b + 1)) (s := rd h 188 (4 * p + 116)) (d := d) (room := rd h 198 (b + p + 2)) (hr := rd h 198 b) hd qs qr (by omega)
  generalize NW (key h) (rd h 198 (b + 1)) (rd h 188 (4 * p + 116)) d (rd h 198 (b + p + 2)) (rd h 198 b) = r at *
  have lt : d < rd h 188 1 → 0 ≤ r → r < rd h 188 0 := by
    intro q1 q2
    obtain ⟨a1, a2⟩ := nw.2 q2
    have sq := (INV4 hI).2.2.2.1 d hd.1 hd.2 q1
    rw [show 5 + 8 * d = 8 * d + 5 by omega, show 6 + 8 * d = 8 * d + 6 by omega] at sq
    have a1' : r = rd h 188 (8 * d + 5) + rd h 188 (8 * d + 6) - rd h 198 (b + p + 2) := a1
    have a2' : rd h 198 (b + p + 2) = rd h 188 (8 * d + 5) ∨ rd h 198 (b + p + 2) = rd h 188 (8 * d + 6) := a2
    clear a1 a2
    omega
  have nw1 := nw.1
  clear nw
  have u8 : ∀ i, rd u 198 i = rd h 198 i := fun i => uf 198 i (by decide) (by decide)
  have fin : ∀ N V : Int, 0 ≤ r → i32 N → 0 ≤ V → V ≤ 1 → Q (some (.inl r)) (wr (wr (wr (wr u 198 (b + p + 2) r) 198 (b + p + 14) 1) 198 (b + d + 20) N) 198 (b + p + 8) V) := by
    intro N V r0 iN v0 v1
    have r1 := ws uw.1.1 (i := b + p + 2) (v := r) 2 7 0 9 (by omega) (by omega) (by omega) (by decide +kernel) (by omega) (by omega) (by unfold i32; omega)
    have r2 := ws r1 (i := b + p + 14) (v := 1) 14 19 0 1 (by omega) (by omega) (by omega) (by decide +kernel) (by omega) (by omega) (by unfold i32; omega)
    have r3 := ws r2 (i := b + d + 20) (v := N) 20 33 (-2147483648) 2147483647 (by omega) (by omega) (by omega) (by decide +kernel) iN.1 iN.2 iN
    have r4 := ws r3 (i := b + p + 8) (v := V) 8 13 0 1 (by omega) (by omega) (by omega) (by decide +kernel) v0 v1 (by unfold i32; omega)
    have fr : ∀ a i, ¬ (a = 198 ∧ (i = b + p + 2 ∨ i = b + p + 14 ∨ i = b + d + 20 ∨ i = b + p + 8)) → rd (wr (wr (wr (wr u 198 (b + p + 2) r) 198 (b + p + 14) 1) 198 (b + d + 20) N) 198 (b + p + 8) V) a i = rd u a i := by
      intro a i n
      rw [rd_wr, if_neg (by omega), rd_wr, if_neg (by omega), rd_wr, if_neg (by omega), rd_wr, if_neg (by omega)]
    have wx : rd (wr (wr (wr (wr u 198 (b + p + 2) r) 198 (b + p + 14) 1) 198 (b + d + 20) N) 198 (b + p + 8) V) 198 (b + p + 2) = r := by
      rw [rdw_nei (by omega), rdw_nei (by omega), rdw_nei (by omega), rdw_eq]
    generalize wr (wr (wr (wr u 198 (b + p + 2) r) 198 (b + p + 14) 1) 198 (b + d + 20) N) 198 (b + p + 8) V = G at *
    have w := INVw uw.1
    have far : ∀ c, (∀ x, 0 ≤ x → x ≤ 5 → ¬ (c + 2 + x = b + p + 2 ∨ c + 2 + x = b + p + 14 ∨ c + 2 + x = b + d + 20 ∨ c + 2 + x = b + p + 8)) → wOk u c → wOk G c := fun c n z => wOk_of (fr 188 2 (by omega)) (fr 188 0 (by omega)) (fun x x0 x1 => fr 198 _ (fun q => n x x0 x1 q.2)) z
    refine k _ _ (INV_of r4 (SP4_of (fun b' j _ m1 _ _ => fr b' j (fun q => m1 q.1)) (INV4 uw.1)) ⟨?_, ?_, ?_⟩) nw1.1 nw1.2 lt ⟨fun a i n1 n2 n3 => (fr a i n3).trans (uf a i n1 n2), Or.inr wx⟩
    · by_cases z : b = 0
      · intro x x0 x1 x2
        rw [fr 188 2 (by omega)] at x2
        rw [fr 188 0 (by omega)]
        by_cases y : x = p
        · rw [y, show 0 + 2 + p = b + p + 2 by omega, wx, uf 188 0 (by decide) (by decide)]
          exact lt (hdoor z) r0
        · rw [fr 198 (0 + 2 + x) (by omega)]
          exact w.1 x x0 x1 x2
      · exact far 0 (fun x x0 x1 => by omega) w.1
    · intro m m0 m1 q
      rw [fr 199 m (by omega)] at q
      exact far _ (fun x x0 x1 => by omega) (w.2.1 m m0 m1 q)
    · intro j j0 j1 q
      rw [fr 182 25 (by omega)] at q
      exact far _ (fun x x0 x1 => by omega) (w.2.2 j j0 j1 q)
  refine B_goes_70 (RF_of uw.1.1) (by omega) hp hd nw1 (by omega) ⟨fun q => k _ _ uw.1 nw1.1 nw1.2 lt ⟨fun a i n1 n2 _ => uf a i n1 n2, Or.inl (u8 _)⟩, fun q => ?_⟩
  have e20 : rd (wr (wr u 198 (b + p + 2) r) 198 (b + p + 14) 1) 198 (b + d + 20) = rd h 198 (b + d + 20) := by
    rw [rdw_nei (by omega), rdw_nei (by omega)]
    exact u8 _
  have l20 := rX_state hI.1 (i := b + d + 20) (by omega) (ix := (0, 0, 1609, 1)) (lo := -2147483648) (hi := 2147483647) (st := 1) (by decide +kernel) (invs (s := 1) (k := b + d + 20) (by omega) (by omega) (by omega))
  rw [e20]
  refine ⟨by omega, fun _ => fin _ _ q (by unfold i32; omega) ?_ ?_, fun _ => fin _ _ q (by unfold i32; omega) (by omega) (by omega)⟩
  all_goals
    rw [rdw_nei (by omega), rdw_nei (by omega), rdw_nei (by omega), u8]
    have z := rs_done hI.1 (i := b + p + 8) b p (by omega) (by omega) (by omega) (by omega) (by omega) (by omega)
    omega
end GO
end
