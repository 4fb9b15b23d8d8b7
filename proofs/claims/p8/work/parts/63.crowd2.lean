/-! LM, part 63: the reference's crowd comes to an end, the way back -/
theorem ps_zero {f : Int → Int} (h : ∀ i : Int, 0 ≤ i → i < 336 → f i = 0) : ∀ n : Nat, n ≤ 336 → ps f n = 0
  | 0, _ => rfl
  | n + 1, hn => by
    show ps f n + f n = 0
    rw [ps_zero h n (by omega), h n (by omega) (by omega)]
    rfl
def sd (to r : Int) : Int := if r = to then 1 else 0
theorem sd_b (to r : Int) : 0 ≤ sd to r ∧ sd to r ≤ 1 := by unfold sd; split <;> omega
def cf (K : KEY) (to i : Int) : Int := sd to (tE K (i % 14) (i / 14)) - sd to (sE K (i % 14) (i / 14))
def PH (K : KEY) (to : Int) (g : LH) : Int := ps (fun i => rd g 204 i * cf K to i) 336
theorem PH_same {K : KEY} {to : Int} {g h : LH} (e : ∀ i, rd g 204 i = rd h 204 i) : PH K to g = PH K to h := by
  unfold PH
  rw [show (fun i => rd g 204 i * cf K to i) = (fun i => rd h 204 i * cf K to i) from funext (fun i => by rw [e])]
theorem PH_wr {K : KEY} {to i v : Int} {h : LH} (hi : 0 ≤ i ∧ i < 336) : PH K to (wr h 204 i v) = PH K to h + (v * cf K to i - rd h 204 i * cf K to i) := by
  unfold PH
  rw [ps_upd (f := fun j => rd h 204 j * cf K to j) (g := fun j => rd (wr h 204 i v) 204 j * cf K to j) (a := i) (fun j hj => by
    show rd (wr h 204 i v) 204 j * cf K to j = rd h 204 j * cf K to j
    rw [rdw_nei (fun q => hj q.symm)])]
  rw [if_pos (by omega), rdw_eq]
theorem PH_add {K : KEY} {to i : Int} {h : LH} (hi : 0 ≤ i ∧ i < 336) : PH K to (wr h 204 i (rd h 204 i + 1)) = PH K to h + cf K to i := by
  rw [PH_wr hi, Int.add_mul]
  omega
theorem PH_sub {K : KEY} {to i : Int} {h : LH} (hi : 0 ≤ i ∧ i < 336) : PH K to (wr h 204 i (rd h 204 i - 1)) = PH K to h - cf K to i := by
  rw [PH_wr hi, Int.sub_mul]
  omega
def FBd (g : LH) : Prop := ∀ i, 0 ≤ i → i < 336 → -249 ≤ rd g 204 i ∧ rd g 204 i ≤ 258
def FB (fl : Int → Int) (w : Int) (g : LH) : Prop := ∀ i, 0 ≤ i → i < 336 → (rd g 204 i ≤ fl i ∨ rd g 204 i ≤ 8 + w) ∧ (fl i ≤ rd g 204 i ∨ 1 - w ≤ rd g 204 i)
theorem PH_le {K : KEY} {to : Int} {g : LH} (b : FBd g) : PH K to g ≤ 86688 := by
  have q := ps_le (f := fun i => rd g 204 i * cf K to i) (B := 258) (fun i i0 i1 => by
    have z := b i i0 i1
    have s1 := sd_b to (tE K (i % 14) (i / 14))
    have s2 := sd_b to (sE K (i % 14) (i / 14))
    show rd g 204 i * cf K to i ≤ 258
    have c : cf K to i = -1 ∨ cf K to i = 0 ∨ cf K to i = 1 := by unfold cf; omega
    rcases c with c | c | c <;> rw [c] <;> omega) (by omega) 336 (by omega)
  unfold PH
  omega
def frBk (h h' : LH) : Prop := ∀ a i, a ≠ 196 → a ≠ 197 → a ≠ 204 → a ≠ 205 → rd h' a i = rd h a i
def frCr (h h' : LH) : Prop := ∀ a i, a ≠ 196 → a ≠ 197 → a ≠ 204 → a ≠ 205 → a ≠ 206 → a ≠ 207 → ¬ (a = 182 ∧ i = 42) → rd h' a i = rd h a i
section CR2
variable {xs : Nat → Int} {xl e : Nat} {h : LH} {Q : Option LV → LH → Prop} {K : KEY} {S : Int → Int}
/-- a step back -/
theorem D_goesBack {fl : Int → Int} {to x y w : Int} (he : 6 ≤ e) (wc : WC K S h) (hx : 0 ≤ x ∧ x ≤ 249) (hy : rd h 206 x = y) (ok : okB K S fl x y) (hf : ∀ i, 0 ≤ i → i < 336 → -249 ≤ fl i ∧ fl i ≤ 258) (fb : FB fl w h) (hw : 0 ≤ w ∧ w ≤ 249) (k : ∀ g, WC K S g → frBk h g → FB fl (w + 1) g → PH K to g + sd to (par K S x y % 10) = PH K to h + sd to (x % 10) → Q (some (.inl (par K S x y))) g) : Rn xs xl e mm_goesBack 0 [some (.inr (.inr 182)), some (.inl x), none, none, none, none] [] h Q := by
  have kb := KB_of wc (p := 0) (by omega)
  have kd := kb.1
  have kr := kb.2.1
  have dE : ∀ d, 0 ≤ d → d < K.1 1 → (0 ≤ K.1 (8 * d + 5) ∧ K.1 (8 * d + 5) ≤ 9) ∧ (0 ≤ K.1 (8 * d + 6) ∧ K.1 (8 * d + 6) ≤ 9) := fun d d0 d1 => by have := kb.2.2.2.2.2 d d0 d1; omega
  clear kb
  have e5 : rd h 188 (8 * y + 5) = K.1 (8 * y + 5) := by rw [← wc.2.1]; rfl
  have e6 : rd h 188 (8 * y + 6) = K.1 (8 * y + 6) := by rw [← wc.2.1]; rfl
  have upd : ∀ i v, (v ≤ fl i ∨ v ≤ 9 + w) ∧ (fl i ≤ v ∨ - w ≤ v) → FB fl (w + 1) (wr h 204 i v) := by
    intro i v hv j j0 j1
    by_cases c : i = j
    · subst c
      rw [rdw_eq]
      omega
    · rw [rdw_nei c]
      have := fb j j0 j1
      omega
  have upw : ∀ i v, FB fl (w + 1) (wr h 205 i v) := by
    intro i v j j0 j1
    rw [rdw_ne (by decide)]
    have := fb j j0 j1
    omega
  have B := B_goesBack_0 (xs := xs) (xl := xl) (e := e) (Q := Q) (RF_of wc.1.1) hx (by omega)
  rw [hy, e5, e6] at B
  refine B ⟨fun c1 => ⟨fun c2 => ⟨fun c3 => ?_, fun c3 => ?_⟩, fun c2 => ?_⟩, fun c1 => ?_⟩
  · clear B
    rcases ok with q | q | q | ⟨a0, a1, a2, a3, a4⟩
    · exact absurd q.1 c1
    · exact absurd q.1 c2
    · exfalso
      have := q.2.1
      clear q
      omega
    have nt := NT_ok (K := K) (S := S) (d := y - 800) (room := x % 10) (hr := x / 10) (by omega) (by omega) (by omega)
    have n2 := nt.2 a4
    have nt1 := nt.1
    have f1 := fb (14 * (x / 10) + y - 800) (by omega) (by omega)
    have f2 := hf (14 * (x / 10) + y - 800) (by omega) (by omega)
    clear nt
    refine ⟨by omega, by omega, by omega, by omega, by omega, by omega, by omega, by omega, 5, by omega, ?_⟩
    have i1 := wA_flow wc.1 (i := 14 * (x / 10) + y - 800) (v := rd h 204 (14 * (x / 10) + y - 800) - 1) (by omega) (by omega) (by omega)
    have w1 : WC K S (wr h 204 (14 * (x / 10) + y - 800) (rd h 204 (14 * (x / 10) + y - 800) - 1)) := WC_same wc i1 (fun a i ha => rdw_ne (by omega))
    refine D_toOf (by omega) w1 (by omega) (by omega) (by omega) (fun u uw uf => ?_)
    refine B_goesBack_164 (RF_of uw.1.1) (by omega) nt1 ?_
    have pe : par K S x y = 10 * (x / 10) + 10 + NT K S (y - 800) (x % 10) (x / 10) := by
      unfold par
      rw [if_neg c1, if_neg c2, if_neg (by omega)]
      omega
    rw [← pe]
    have F := upd (14 * (x / 10) + y - 800) (rd h 204 (14 * (x / 10) + y - 800) - 1) (by omega)
    refine k u uw (fun a i n1 n2 n3 n4 => (uf a i n1 n2).trans (rdw_ne (fun q => n3 q.symm))) (fun i i0 i1 => by rw [uf 204 i (by decide) (by decide)]; exact F i i0 i1) ?_
    rw [PH_same (fun i => uf 204 i (by decide) (by decide)), PH_sub (by omega), pe, show (10 * (x / 10) + 10 + NT K S (y - 800) (x % 10) (x / 10)) % 10 = NT K S (y - 800) (x % 10) (x / 10) by omega]
    have cE : cf K to (14 * (x / 10) + y - 800) = sd to (NT K S (y - 800) (x % 10) (x / 10)) - sd to (x % 10) := by
      unfold cf
      rw [show (14 * (x / 10) + y - 800) % 14 = y - 800 by omega, show (14 * (x / 10) + y - 800) / 14 = x / 10 by omega, n2.2.2.1, ← n2.2.1]
    omega
  · clear B
    rcases ok with q | q | ⟨a0, a1, a2, a3, a4, a5⟩ | q
    · exact absurd q.1 c1
    · exact absurd q.1 c2
    · have nt := NT_ok (K := K) (S := S) (d := y) (room := K.1 (8 * y + 5) + K.1 (8 * y + 6) - x % 10) (hr := x / 10 - 1) (by omega) a4 (by omega)
      have n2 := nt.2 (by rw [a5]; omega)
      have nt1 := nt.1
      clear nt
      have f1 := fb (14 * (x / 10) + y - 14) (by omega) (by omega)
      have f2 := hf (14 * (x / 10) + y - 14) (by omega) (by omega)
      have dy := dE y a0 a1
      have i1 := wA_flow wc.1 (i := 14 * (x / 10) + y - 14) (v := rd h 204 (14 * (x / 10) + y - 14) + 1) (by omega) (by omega) (by omega)
      have pe : par K S x y = 10 * (x / 10 - 1) + (K.1 (8 * y + 5) + K.1 (8 * y + 6) - x % 10) := by
        unfold par
        rw [if_neg c1, if_neg c2, if_pos c3]
      have fin : ∀ v : Int, v = par K S x y → Q (some (.inl v)) (wr h 204 (14 * (x / 10) + y - 14) (rd h 204 (14 * (x / 10) + y - 14) + 1)) := by
        intro v hv
        rw [hv]
        refine k _ (WC_same wc i1 (fun a i ha => rdw_ne (by omega))) (fun a i n1 n2 n3 n4 => rdw_ne (fun q => n3 q.symm)) (upd _ _ (by omega)) ?_
        rw [PH_add (by omega), pe, show (10 * (x / 10 - 1) + (K.1 (8 * y + 5) + K.1 (8 * y + 6) - x % 10)) % 10 = K.1 (8 * y + 5) + K.1 (8 * y + 6) - x % 10 by omega]
        have cE : cf K to (14 * (x / 10) + y - 14) = sd to (x % 10) - sd to (K.1 (8 * y + 5) + K.1 (8 * y + 6) - x % 10) := by
          unfold cf
          rw [show (14 * (x / 10) + y - 14) % 14 = y by omega, show (14 * (x / 10) + y - 14) / 14 = x / 10 - 1 by omega, ← n2.2.2.1, a5, ← n2.2.1]
        omega
      have n3 := n2.2.2.2
      clear n2
      refine ⟨by omega, by omega, by omega, by omega, by omega, by omega, by omega, by omega, by omega, by omega, by omega, by omega, fun c4 => ?_, fun c4 => ?_⟩
      · exact ⟨by omega, by omega, by omega, by omega, by omega, fin _ (by omega)⟩
      · exact ⟨by omega, by omega, by omega, by omega, by omega, fin _ (by omega)⟩
    · exfalso
      have := q.1
      clear q
      omega
  · clear B
    have x2 : x ≤ 239 := by
      rcases ok with q | q | q | q
      · have := q.1
        omega
      · exact q.2
      · have := q.2.1
        clear q
        omega
      · have := q.2.1
        clear q
        omega
    have i1 := wA_waits wc.1 (i := x) (v := w32 (rd h 205 x - 1)) (by omega) (w32_in _).1 (w32_in _).2
    have pe : par K S x y = x + 10 := by
      unfold par
      rw [if_neg c1, if_pos c2]
    rw [← pe]
    refine k _ (WC_same wc i1 (fun a i ha => rdw_ne (by omega))) (fun a i n1 n2 n3 n4 => rdw_ne (fun q => n4 q.symm)) (upw _ _) ?_
    rw [PH_same (fun i => rdw_ne (by decide)), pe, show (x + 10) % 10 = x % 10 by omega]
  · clear B
    have x2 : 10 ≤ x := by
      rcases ok with q | q | q | q
      · exact q.2
      · have := q.1
        omega
      · have := q.2.1
        clear q
        omega
      · have := q.1
        clear q
        omega
    have i1 := wA_waits wc.1 (i := x - 10) (v := w32 (rd h 205 (x - 10) + 1)) (by omega) (w32_in _).1 (w32_in _).2
    have pe : par K S x y = x - 10 := by
      unfold par
      rw [if_pos c1]
    refine ⟨by omega, by omega, ?_⟩
    rw [← pe]
    refine k _ (WC_same wc (by rw [pe]; exact i1) (fun a i ha => rdw_ne (by omega))) (fun a i n1 n2 n3 n4 => rdw_ne (fun q => n4 q.symm)) (upw _ _) ?_
    rw [PH_same (fun i => rdw_ne (by decide)), pe, show (x - 10) % 10 = x % 10 by omega]
/-- one more who comes -/
theorem D_isMore {src tgt last to : Int} (he : 7 ≤ e) (w : WC K S h) (hb : FBd h) (hs : 0 ≤ src ∧ src ≤ 249) (ht : 0 ≤ tgt ∧ tgt ≤ 249) (hl : 0 ≤ last ∧ last ≤ 23) (hto : tgt % 10 = to) (hne : src % 10 ≠ to) (k : ∀ g r, WC K S g → frCr h g → FBd g → (r = 0 ∨ (r = 1 ∧ PH K to g = PH K to h + 1)) → Q (some (.inl r)) g) : Rn xs xl e mm_isMore 0 [some (.inr (.inr 182)), some (.inl src), some (.inl tgt), some (.inl last), none] [] h Q := by
  have l97 : ∀ (n : Nat) (g : LH) (j ww : Int), j < n → 0 ≤ j → j < rd g 182 42 → 0 ≤ ww → ww + j ≤ 249 → WC K S g → frCr h g → BI K S (rd h 204) src g → FB (rd h 204) ww g → PH K to g + sd to (rd g 207 j % 10) = PH K to h + 1 → Rn xs xl e mm_isMore 97 [some (.inr (.inr 182)), some (.inl src), some (.inl tgt), some (.inl last), some (.inl (rd g 207 j))] [] g Q := by
    intro n
    induction n with
    | zero =>
      intro g j ww hn j0
      omega
    | succ n ih =>
      intro g j ww hn j0 j1 w0 wj gw gf gb gfb gp
      refine B_isMore_97 (RF_of gw.1.1) ⟨fun c => ?_, fun c => ⟨6, by omega, ?_⟩⟩
      · refine k g 1 gw gf ?_ (Or.inr ⟨rfl, ?_⟩)
        · intro i i0 i1
          have a1 := gfb i i0 i1
          have a2 := hb i i0 i1
          omega
        · rw [c] at gp
          unfold sd at gp
          rw [if_neg hne] at gp
          omega
      · rcases (gb.2.1 j j0 j1).2 with q2 | ⟨q2, i, i0, i1, i2⟩
        · exact absurd q2.2 c
        have t0 := rF_tail0 gw.1.1
        have rq := rA_queue gw.1.1 (i := j) ⟨j0, by omega⟩
        refine D_goesBack (fl := rd h 204) (to := to) (w := ww) (by omega) gw rq rfl q2 hb gfb (by omega) (fun u uw uf ufb up => ?_)
        have f6 : rd u 206 = rd g 206 := funext (fun i => uf 206 i (by decide) (by decide) (by decide) (by decide))
        have f7 : rd u 207 = rd g 207 := funext (fun i => uf 207 i (by decide) (by decide) (by decide) (by decide))
        have f8 : rd u 182 42 = rd g 182 42 := uf 182 42 (by decide) (by decide) (by decide) (by decide)
        have ub : BI K S (rd h 204) src u := by
          unfold BI
          rw [f6, f7, f8]
          exact gb
        refine B_isMore_109 (RF_of uw.1.1) ?_
        have z := ih u i (ww + 1) (by omega) i0 (by omega) (by omega) (by omega) uw (fun a i n1 n2 n3 n4 n5 n6 n7 => (uf a i n1 n2 n3 n4).trans (gf a i n1 n2 n3 n4 n5 n6 n7)) ub ufb (by rw [f7, i2, up]; exact gp)
        rw [f7, i2] at z
        exact z
  have t82 : ∀ (g : LH) (v4 : Int), WC K S g → frB h g → BI K S (rd h 204) src g → Rn xs xl e mm_isMore 82 [some (.inr (.inr 182)), some (.inl src), some (.inl tgt), some (.inl last), some (.inl v4)] [] g Q := by
    intro g v4 gw gf gb
    have f4 : ∀ i, rd g 204 i = rd h 204 i := fun i => gf 204 i (by decide) (by decide) (by decide) (by decide) (fun q => absurd q.1 (by decide))
    have gc : frCr h g := fun a i n1 n2 n3 n4 n5 n6 n7 => gf a i n1 n2 n5 n6 n7
    refine B_isMore_82 (RF_of gw.1.1) hs ht hl ⟨fun c => ?_, fun c => k g 0 gw gc (fun i i0 i1 => by rw [f4]; exact hb i i0 i1) (Or.inl rfl)⟩
    obtain ⟨j, j0, j1, j2⟩ := gb.2.2 tgt ht.1 ht.2 c
    have t0 := rF_tail0 gw.1.1
    have z := l97 251 g j 0 (by omega) j0 j1 (by omega) (by omega) gw gc gb (fun i i0 i1 => by rw [f4]; omega) (by
      rw [PH_same f4, j2]
      unfold sd
      rw [if_pos hto])
    rw [j2] at z
    exact z
  have l41 : ∀ (n : Nat) (g : LH) (v4 : Int), 250 - v4 < n → 0 ≤ v4 → v4 ≤ 250 → WC K S g → frB h g → BI K S (rd h 204) src g → Rn xs xl e mm_isMore 41 [some (.inr (.inr 182)), some (.inl src), some (.inl tgt), some (.inl last), some (.inl v4)] [] g Q := by
    intro n
    induction n with
    | zero =>
      intro g v4 hn v0 v1
      omega
    | succ n ih =>
      intro g v4 hn v0 v1 gw gf gb
      have t0 := rF_tail0 gw.1.1
      refine B_isMore_41 (RF_of gw.1.1) hs ht hl ⟨v0, v1⟩ ⟨fun _ => t82 g _ gw gf gb, fun c => ⟨fun _ => t82 g _ gw gf gb, fun c2 => ⟨by omega, 6, by omega, ?_⟩⟩⟩
      have rq := rA_queue gw.1.1 (i := v4) (by omega)
      refine D_spreads (fl := rd h 204) (src := src) (head := v4) (by omega) gw gb (fun i => gf 204 i (by decide) (by decide) (by decide) (by decide) (fun q => absurd q.1 (by decide))) rq (by omega) hl ⟨v0, c, rfl⟩ (fun u uw uf ub => B_isMore_76 (RF_of uw.1.1) (by omega) (ih u (v4 + 1) (by omega) (by omega) (by omega) uw (gf.trans uf) ub))
  have l3 : ∀ (n : Nat) (g : LH) (v4 : Int), 250 - v4 < n → 0 ≤ v4 → v4 ≤ 250 → WC K S g → frB h g → (∀ i, 0 ≤ i → i < v4 → rd g 206 i = -1) → Rn xs xl e mm_isMore 3 [some (.inr (.inr 182)), some (.inl src), some (.inl tgt), some (.inl last), some (.inl v4)] [] g Q := by
    intro n
    induction n with
    | zero =>
      intro g v4 hn v0 v1
      omega
    | succ n ih =>
      intro g v4 hn v0 v1 gw gf gm
      refine B_isMore_3 (RF_of gw.1.1) hs ht hl ⟨v0, v1⟩ ⟨fun c => ⟨0, by omega, ?_⟩, fun c => ⟨by omega, ?_⟩⟩
      · have i1 := wF_tail0 gw.1 (v := 0) (by omega) (by omega)
        have B := B_comes_0 (xs := xs) (xl := xl) (e := 0) (v1 := src) (v2 := 2000) (Q := fun r h' => Rn xs xl e mm_isMore 38 [some (.inr (.inr 182)), some (.inl src), some (.inl tgt), some (.inl last), some (.inl v4)] (r.toList ++ []) h' Q) (RF_of i1.1) hs
        have m : ∀ i, 0 ≤ i → i < 250 → rd (wr g 182 42 0) 206 i = -1 := fun i i0 i2 => by rw [rdw_ne (by decide)]; exact gm i i0 (by omega)
        rw [show rd (wr g 182 42 0) 182 42 = 0 from rdw_eq, m src hs.1 (by omega)] at B
        refine B ⟨fun q => absurd rfl q, fun _ => ⟨by omega, by omega, ?_⟩⟩
        clear B
        have i2 := wA_cameBy i1 (i := src) (v := 2000) (by omega) (by omega) (by omega)
        have i3 := wA_queue i2 (i := 0) (v := src) (by omega) (by omega) (by omega)
        have i4 := wF_tail0 i3 (v := 0 + 1) (by omega) (by omega)
        have up := cnt_up (c := rd (wr g 182 42 0) 206) (c' := rd (wr (wr (wr (wr g 182 42 0) 206 src 2000) 207 0 src) 182 42 (0 + 1)) 206) hs (m src hs.1 (by omega)) (by
          rw [rdw_ne (by decide), rdw_ne (by decide), rdw_eq]
          decide) (fun i hi => by rw [rdw_ne (by decide), rdw_ne (by decide), rdw_nei (fun q => hi q.symm)])
        have e6 : ∀ i, i ≠ src → rd (wr (wr (wr (wr g 182 42 0) 206 src 2000) 207 0 src) 182 42 (0 + 1)) 206 i = rd (wr g 182 42 0) 206 i := fun i hi => by rw [rdw_ne (by decide), rdw_ne (by decide), rdw_nei (fun q => hi q.symm)]
        have e6x : rd (wr (wr (wr (wr g 182 42 0) 206 src 2000) 207 0 src) 182 42 (0 + 1)) 206 src = 2000 := by rw [rdw_ne (by decide), rdw_ne (by decide), rdw_eq]
        have e7 : rd (wr (wr (wr (wr g 182 42 0) 206 src 2000) 207 0 src) 182 42 (0 + 1)) 207 0 = src := by rw [rdw_ne (by decide), rdw_eq]
        have et : rd (wr (wr (wr (wr g 182 42 0) 206 src 2000) 207 0 src) 182 42 (0 + 1)) 182 42 = 1 := by rw [rdw_eq]; rfl
        have fr : frB g (wr (wr (wr (wr g 182 42 0) 206 src 2000) 207 0 src) 182 42 (0 + 1)) := by
          intro a i n1 n2 n3 n4 n5
          have n6 : ¬ ((182 : Int) = a ∧ (42 : Int) = i) := by rintro ⟨rfl, rfl⟩; exact n5 ⟨rfl, rfl⟩
          rw [rd_wr, if_neg n6, rdw_ne (fun q => n4 q.symm), rdw_ne (fun q => n3 q.symm), rd_wr, if_neg n6]
        generalize wr (wr (wr (wr g 182 42 0) 206 src 2000) 207 0 src) 182 42 (0 + 1) = G at *
        refine B_isMore_38 (RF_of i4.1) (l41 251 G 0 (by omega) (by omega) (by omega) (WC_same gw i4 (fun a i ha => fr a i (by omega) (by omega) (by omega) (by omega) (by omega))) (gf.trans fr) ⟨by omega, ?_, ?_⟩)
        · intro j j0 j1
          have jz : j = 0 := by omega
          rw [jz, e7, e6x]
          exact ⟨by decide, Or.inl ⟨rfl, rfl⟩⟩
        · intro x x0 x1 xc
          refine ⟨0, by omega, by omega, ?_⟩
          rw [e7]
          refine Classical.byContradiction (fun q => xc ?_)
          rw [e6 x (fun z => q z.symm)]
          exact m x x0 (by omega)
      · have i1 := wA_cameBy gw.1 (i := v4) (v := -1) (by omega) (by omega) (by omega)
        have fr : frB g (wr g 206 v4 (-1)) := fun a i n1 n2 n3 n4 n5 => rdw_ne (fun q => n3 q.symm)
        refine ih _ (v4 + 1) (by omega) (by omega) (by omega) (WC_same gw i1 (fun a i ha => fr a i (by omega) (by omega) (by omega) (by omega) (by omega))) (gf.trans fr) (fun i i0 i2 => ?_)
        by_cases z : v4 = i
        · rw [z, rdw_eq]
        · rw [rdw_nei z]
          exact gm i i0 (by omega)
  exact B_isMore_0 (RF_of w.1.1) hs ht hl (l3 251 h 0 (by omega) (by omega) (by omega) w (fun _ _ _ _ _ _ _ => rfl) (fun i i0 i1 => by omega))
/-- crowd, a root -/
theorem D_crowd {v1 v2 v3 : Int} (he : 8 ≤ e) (hI : INV h) (k : ∀ r g, INV g → (∀ a i, ¬ (a = 182 ∧ i = 0) → a ≠ 196 → a ≠ 197 → a ≠ 204 → a ≠ 205 → a ≠ 206 → a ≠ 207 → ¬ (a = 182 ∧ i = 42) → rd g a i = rd h a i) → Q (some (.inl r)) g) : Rn xs xl e mm_crowd 0 [some (.inr (.inr 182)), some (.inl v1), some (.inl v2), some (.inl v3), none] [] h Q := by
  have i0 : INV (wr h 182 0 0) := wF_thrown hI (by omega) (by omega)
  have f0 : ∀ a i, ¬ (a = 182 ∧ i = 0) → rd (wr h 182 0 0) a i = rd h a i := fun a i n => by
    rw [rd_wr, if_neg (fun q => n ⟨q.1.symm, q.2.symm⟩)]
  have wrong : Q (some (.inl (-1))) (wr h 182 0 0) := k _ _ i0 (fun a i n _ _ _ _ _ _ _ => f0 a i n)
  refine B_crowd_0 (RF_of hI.1) (by omega) ⟨fun _ => wrong, fun c1 => ⟨fun _ => wrong, fun c2 => ⟨fun _ => wrong, fun c3 => ⟨fun _ => wrong, fun c4 => ⟨fun _ => wrong, fun c5 => ⟨fun _ => wrong, fun c6 => ⟨fun _ => wrong, fun c7 => ?_⟩⟩⟩⟩⟩⟩⟩
  have r0 := rq_rooms hI.1
  have sn := rs_now hI.1 (i := 0) 0 0 rfl (by decide) (by omega) (by omega) (by omega) (by omega)
  have wc : WC (key (wr h 182 0 0)) (rd (wr h 182 0 0) 198) (wr h 182 0 0) := ⟨i0, rfl, rfl⟩
  have s0 : rd (wr h 182 0 0) 198 0 = rd h 198 0 := rdw_ne (by decide)
  generalize wr h 182 0 0 = h1 at *
  generalize key h1 = K at *
  generalize hS : rd h1 198 = S at *
  -- the search again and again
  have l96 : ∀ (n : Nat) (g : LH) (v4 : Int), 86688 - v4 < n → 0 ≤ v4 → v4 = PH K v2 g → WC K S g → frCr h1 g → FBd g → Rn xs xl e mm_crowd 96 [some (.inr (.inr 182)), some (.inl v1), some (.inl v2), some (.inl v3), some (.inl v4)] [] g Q := by
    intro n
    induction n with
    | zero =>
      intro g v4 hn v0 ve gw gf gb
      have := PH_le (K := K) (to := v2) gb
      omega
    | succ n ih =>
      intro g v4 hn v0 ve gw gf gb
      have pl := PH_le (K := K) (to := v2) gb
      have gs : rd g 198 0 = rd h 198 0 := by rw [gw.2.2]; exact s0
      refine B_crowd_96 (RF_of gw.1.1) (by omega) (by omega) (by omega) ⟨by omega, by omega, 7, by omega, ?_⟩
      refine D_isMore (to := v2) (by omega) gw gb (by omega) (by omega) (by omega) (by omega) (by omega) (fun u r uw uf ub ur => ?_)
      have fr : frCr h1 u := fun a i n1 n2 n3 n4 n5 n6 n7 => (uf a i n1 n2 n3 n4 n5 n6 n7).trans (gf a i n1 n2 n3 n4 n5 n6 n7)
      rcases ur with rfl | ⟨rfl, up⟩
      · exact B_crowd_120_0 (RF_of uw.1.1) (k _ _ uw.1 (fun a i n0 n1 n2 n3 n4 n5 n6 n7 => (fr a i n1 n2 n3 n4 n5 n6 n7).trans (f0 a i n0)))
      · exact B_crowd_120_1 (RF_of uw.1.1) ⟨by omega, ih u (v4 + 1) (by omega) (by omega) (by omega) uw fr ub⟩
  have l71 : ∀ (n : Nat) (g : LH) (v4 : Int), 250 - v4 < n → 0 ≤ v4 → v4 ≤ 250 → WC K S g → frCr h1 g → (∀ i, 0 ≤ i → i < 336 → rd g 204 i = 0) → Rn xs xl e mm_crowd 71 [some (.inr (.inr 182)), some (.inl v1), some (.inl v2), some (.inl v3), some (.inl v4)] [] g Q := by
    intro n
    induction n with
    | zero =>
      intro g v4 hn v0 v1
      omega
    | succ n ih =>
      intro g v4 hn v0 v1' gw gf gz
      refine B_crowd_71 (RF_of gw.1.1) ⟨v0, v1'⟩ ⟨fun c => ?_, fun c => ⟨by omega, ?_⟩⟩
      · refine l96 86689 g 0 (by omega) (by omega) ?_ gw gf (fun i i0 i1 => by rw [gz i i0 i1]; omega)
        unfold PH
        rw [ps_zero (fun i i0 i1 => by
          show rd g 204 i * cf K v2 i = 0
          rw [gz i i0 i1, Int.zero_mul]) 336 (by omega)]
      · have i1 := wA_waits gw.1 (i := v4) (v := 0) (by omega) (by omega) (by omega)
        exact ih _ (v4 + 1) (by omega) (by omega) (by omega) (WC_same gw i1 (fun a i ha => rdw_ne (by omega))) (fun a i n1 n2 n3 n4 n5 n6 n7 => (rdw_ne (fun q => n4 q.symm)).trans (gf a i n1 n2 n3 n4 n5 n6 n7)) (fun i i0 i1 => by rw [rdw_ne (by decide)]; exact gz i i0 i1)
  have l46 : ∀ (n : Nat) (g : LH) (v4 : Int), 336 - v4 < n → 0 ≤ v4 → v4 ≤ 336 → WC K S g → frCr h1 g → (∀ i, 0 ≤ i → i < v4 → rd g 204 i = 0) → Rn xs xl e mm_crowd 46 [some (.inr (.inr 182)), some (.inl v1), some (.inl v2), some (.inl v3), some (.inl v4)] [] g Q := by
    intro n
    induction n with
    | zero =>
      intro g v4 hn v0 v1
      omega
    | succ n ih =>
      intro g v4 hn v0 v1' gw gf gz
      refine B_crowd_46 (RF_of gw.1.1) ⟨v0, v1'⟩ ⟨fun c => l71 251 g 0 (by omega) (by omega) (by omega) gw gf (fun i i0 i1 => gz i i0 (by omega)), fun c => ⟨by omega, ?_⟩⟩
      have i1 := wA_flow gw.1 (i := v4) (v := 0) (by omega) (by omega) (by omega)
      refine ih _ (v4 + 1) (by omega) (by omega) (by omega) (WC_same gw i1 (fun a i ha => rdw_ne (by omega))) (fun a i n1 n2 n3 n4 n5 n6 n7 => (rdw_ne (fun q => n3 q.symm)).trans (gf a i n1 n2 n3 n4 n5 n6 n7)) (fun i i0 i2 => ?_)
      by_cases z : v4 = i
      · rw [z, rdw_eq]
      · rw [rdw_nei z]
        exact gz i i0 (by omega)
  exact l46 337 h1 0 (by omega) (by omega) (by omega) wc (fun _ _ _ _ _ _ _ _ _ => rfl) (fun i i0 i1 => by omega)
end CR2
