/-! p3, part b3: the reference reads the law's text -/
section MON
variable {o v w p : Nat → Int} {s : Int × Nat}
theorem tkA_2 : s.2 ≤ (tkA s).2 := by unfold tkA; split <;> simp
theorem tkE_2 {c : Int} : (tkE p c s).2 = s.2 := by unfold tkE; split <;> rfl
theorem tkS_2 {c : Int} : s.2 ≤ (tkS o v p c s).2 := by
  unfold tkS
  split
  · exact tkA_2
  · rw [tkE_2]; exact Nat.le_refl _
theorem exL_mono {f : (Int × Nat) × List Int → (Int × Nat) × List Int} (hf : ∀ x, x.1.2 ≤ (f x).1.2) {lv : Nat} : ∀ (m : Nat) (x : (Int × Nat) × List Int), x.1.2 ≤ (exL o v w f lv m x).1.2
  | 0, x => Nat.le_refl _
  | m + 1, x => by
    unfold exL
    split
    · refine Nat.le_trans (Nat.le_trans (tkA_2 (s := x.1)) (hf (tkA x.1, x.2))) ?_
      exact exL_mono hf m (exA _ (f (tkA x.1, x.2)))
    · exact Nat.le_refl _
theorem exX_mono {P : (Int × Nat) × List Int → (Int × Nat) × List Int} (hf : ∀ x, x.1.2 ≤ (P x).1.2) : ∀ (j : Nat) (x : (Int × Nat) × List Int), x.1.2 ≤ (exX o v w P j x).1.2
  | 0, x => hf x
  | j + 1, x => Nat.le_trans (exX_mono hf j x) (exL_mono (exX_mono hf j) _ _)
theorem exP_mono : ∀ (r : Nat) (x : (Int × Nat) × List Int), x.1.2 ≤ (exP o v w p r x).1.2
  | 0, x => by
    unfold exP
    show x.1.2 ≤ (if exK o v w x.1.2 = true then tkE p 5 x.1 else tkE p 1 x.1).2
    split <;> (rw [tkE_2]; exact Nat.le_refl _)
  | r + 1, x => by
    unfold exP
    split
    · exact tkA_2
    · split
      · exact tkA_2
      · split
        · exact Nat.le_trans (Nat.le_trans tkA_2 (exX_mono (exP_mono r) 4 (tkA x.1, x.2))) tkS_2
        · split
          · exact Nat.le_trans tkA_2 (exP_mono r (tkA x.1, x.2))
          · show x.1.2 ≤ (tkE p 1 x.1).2
            rw [tkE_2]; exact Nat.le_refl _
theorem exL_stop {f : (Int × Nat) × List Int → (Int × Nat) × List Int} {lv : Nat} {x : (Int × Nat) × List Int} (hc : ¬ (x.1.1 = 0 ∧ exO o v w lv x.1.2 ≠ -1)) : ∀ m : Nat, exL o v w f lv m x = x
  | 0 => rfl
  | m + 1 => by unfold exL; rw [if_neg hc]
theorem exL_go {f : (Int × Nat) × List Int → (Int × Nat) × List Int} {lv : Nat} {x : (Int × Nat) × List Int} (hz : x.1.1 = 0) (hc : exO o v w lv x.1.2 ≠ -1) {m : Nat} : exL o v w f lv (m + 1) x = exL o v w f lv m (exA (exO o v w lv x.1.2) (f (tkA x.1, x.2))) := by
  show (if x.1.1 = 0 ∧ exO o v w lv x.1.2 ≠ -1 then _ else x) = _
  rw [if_pos ⟨hz, hc⟩]
end MON
def cdO (c : Int) : Int := if c < 10000 then 1 else if c < 10004 then 2 else if c = 10004 then 3 else if c = 10005 then 9 else if c = 10006 then 10 else if c = 10007 then 7 else if c = 10008 then 8 else if c = 10009 then 4 else if c = 10010 then 5 else 6
def cdA (c : Int) : Int := if c < 10000 then c else if c < 10004 then c - 10000 else 0
/-- the reference's codes so far -/
def LRK (h : LH) (L : List Int) : Prop := rd h 182 13 = L.length ∧ ∀ i : Nat, i < L.length → rd h 189 (1100 + i) = cdO (L.getD i 0) ∧ rd h 190 (1100 + i) = cdA (L.getD i 0)
def muLK (a i : Int) : Prop := (a = 182 ∧ (i = 7 ∨ i = 8 ∨ i = 13)) ∨ ((a = 189 ∨ a = 190) ∧ 1100 ≤ i)
def frLK (h h' : LH) : Prop := ∀ a i, ¬ muLK a i → rd h' a i = rd h a i
theorem frLK.refl {h : LH} : frLK h h := fun _ _ _ => rfl
theorem frLK.trans {h h1 h2 : LH} (a : frLK h h1) (b : frLK h1 h2) : frLK h h2 := fun x i hn => (b x i hn).trans (a x i hn)
theorem frT.L {h h' : LH} (f : frT h h') : frLK h h' := fun a i hn => f a i (fun z => hn (by unfold muTK at z; unfold muLK; omega))
theorem RF_fl {h h' : LH} (hF : RF h) (hf : frLK h h') : RF h' := by
  intro a j c hv he
  by_cases z : muLK a j
  · exfalso
    rcases z with ⟨rfl, z⟩ | ⟨rfl | rfl, z⟩
    · have key : (hav 182 (j : Int)).1 ≠ 2 := by
        rcases (show j = 7 ∨ j = 8 ∨ j = 13 by omega) with rfl | rfl | rfl <;> decide +kernel
      rw [he] at key
      exact absurd rfl key
    · rw [hA_op] at he
      injection he with h1
      exact absurd h1 (by decide)
    · rw [hA_arg] at he
      injection he with h1
      exact absurd h1 (by decide)
  · rw [hf a j z]
    exact hF a j c hv he
def REK (T : Int → Int) (n : Int) (V : Int → Int) (m : Nat) (g : Int) (h : LH) (x : (Int × Nat) × List Int) : Prop := RSK T n V m h x.1 ∧ 0 ≤ rd h 182 13 ∧ rd h 182 13 + g ≤ x.1.2 ∧ x.1.2 ≤ 1000 ∧ (x.1.1 = 0 → LRK h x.2)
section CE
variable {xs : Nat → Int} {xl e : Nat} {h : LH} {Q : Option LV → LH → Prop} {v1 v2 v3 : Int} {T : Int → Int} {n : Int} {V : Int → Int} {m : Nat} {s : Int × Nat} {x : (Int × Nat) × List Int} {g : Int}
theorem REK_fr {h' : LH} {s' : Int × Nat} {g' : Int} (hx : REK T n V m g h x) (hs : RSK T n V m h' s') (hf : frT h h') (hk : (x.1.2 : Int) + (g' - g) ≤ s'.2) (hk2 : s'.2 ≤ 1000) (h0 : s'.1 = 0 → x.1.1 = 0) : REK T n V m g' h' (s', x.2) := by
  obtain ⟨c1, c2, c3, c4, c5⟩ := hx
  have e13 : rd h' 182 13 = rd h 182 13 := hf _ _ (by unfold muTK; omega)
  refine ⟨hs, by rw [e13]; exact c2, by rw [e13]; show rd h 182 13 + g' ≤ (s'.2 : Int); omega, hk2, fun hz => ?_⟩
  obtain ⟨l1, l2⟩ := c5 (h0 hz)
  refine ⟨e13.trans l1, fun i hi => ?_⟩
  rw [hf _ _ (by unfold muTK; omega), hf _ _ (by unfold muTK; omega)]
  exact l2 i hi
theorem REK_adv (hx : REK T n V m g h x) (hz : x.1.1 = 0) (ho : tO T n x.1.2 ≠ 0) : REK T n V m (g + 1) (wr h 182 7 (rd h 182 7 + 1)) (tkA x.1, x.2) := by
  have lt := RS_lt hx.1 hz ho
  have m1 := hx.1.1.2.2.2.2.1
  refine REK_fr hx (RS_adv hx.1 hz ho) fr7 ?_ ?_ (fun _ => hz)
  · rw [tkA_0 hz]; show (x.1.2 : Int) + (g + 1 - g) ≤ ((x.1.2 + 1 : Nat) : Int); omega
  · rw [tkA_0 hz]; show x.1.2 + 1 ≤ 1000; omega
theorem REK_advT {h' : LH} (hx : REK T n V m g h x) (hz : x.1.1 = 0) (ho : tO T n x.1.2 ≠ 0) (hs : RSK T n V m h' (tkA x.1)) (hf : frT h h') : REK T n V m (g + 1) h' (tkA x.1, x.2) := by
  have lt := RS_lt hx.1 hz ho
  have m1 := hx.1.1.2.2.2.2.1
  refine REK_fr hx hs hf ?_ ?_ (fun _ => hz)
  · rw [tkA_0 hz]; show (x.1.2 : Int) + (g + 1 - g) ≤ ((x.1.2 + 1 : Nat) : Int); omega
  · rw [tkA_0 hz]; show x.1.2 + 1 ≤ 1000; omega
theorem REK_same {h' : LH} (hx : REK T n V m g h x) (hs : RSK T n V m h' x.1) (hf : frT h h') : REK T n V m g h' x := REK_fr hx hs hf (by omega) hx.2.2.2.1 (fun z => z)
theorem G_emit (hg : 0 ≤ g) (hx : REK T n V m g h x) {c : Int} (e1 : v1 = cdO c) (e2 : v2 = cdA c) (k : ∀ h', REK T n V m (g - 1) h' (exA c x) → frLK h h' → Q none h') : Rn xs xl e mm_emit 0 [some (.inr (.inr 182)), some (.inl v1), some (.inl v2)] [] h Q := by
  obtain ⟨c1, c2, c3, c4, c5⟩ := hx
  refine B_emit_0 c1.1.1 ⟨by omega, by omega, by omega, by omega, by omega, ?_⟩
  have f1 : frLK h (wr (wr (wr h 189 (rd h 182 13 + 1100) v1) 190 (rd h 182 13 + 1100) v2) 182 13 (rd h 182 13 + 1)) := by
    intro a i hn
    unfold muLK at hn
    rw [rd_wr, if_neg (fun z => hn (by omega)), rd_wr, if_neg (fun z => hn (by omega)), rd_wr, if_neg (fun z => hn (by omega))]
  have e7 : rd (wr (wr (wr h 189 (rd h 182 13 + 1100) v1) 190 (rd h 182 13 + 1100) v2) 182 13 (rd h 182 13 + 1)) 182 7 = rd h 182 7 := (rdw_nei (by decide)).trans ((rdw_ne (by decide)).trans (rdw_ne (by decide)))
  have e8 : rd (wr (wr (wr h 189 (rd h 182 13 + 1100) v1) 190 (rd h 182 13 + 1100) v2) 182 13 (rd h 182 13 + 1)) 182 8 = rd h 182 8 := (rdw_nei (by decide)).trans ((rdw_ne (by decide)).trans (rdw_ne (by decide)))
  have r1 : RSK T n V m (wr (wr (wr h 189 (rd h 182 13 + 1100) v1) 190 (rd h 182 13 + 1100) v2) 182 13 (rd h 182 13 + 1)) x.1 := by
    refine ⟨RXK_fr c1.1 (RF_fl c1.1.1 f1) (fun a i ha => f1 a i (by unfold muLK; omega)), e8.trans c1.2.1, c1.2.2.1, by rw [e7]; exact c1.2.2.2.1, by rw [e7]; exact c1.2.2.2.2⟩
  refine k _ ⟨r1, by rw [rdw_eq]; omega, by rw [rdw_eq]; show rd h 182 13 + 1 + (g - 1) ≤ (x.1.2 : Int); omega, c4, fun hz => ?_⟩ f1
  obtain ⟨l1, l2⟩ := c5 hz
  refine ⟨?_, fun i hi => ?_⟩
  · rw [rdw_eq, l1]
    show _ = (((x.2 ++ [c]).length : Nat) : Int)
    rw [List.length_append, List.length_singleton]
    omega
  · have hi' := hi
    change i < (x.2 ++ [c]).length at hi'
    show _ = cdO ((x.2 ++ [c]).getD i 0) ∧ _ = cdA ((x.2 ++ [c]).getD i 0)
    have a1 : rd (wr (wr (wr h 189 (rd h 182 13 + 1100) v1) 190 (rd h 182 13 + 1100) v2) 182 13 (rd h 182 13 + 1)) 189 (1100 + i) = rd (wr h 189 (rd h 182 13 + 1100) v1) 189 (1100 + i) := (rdw_ne (by decide)).trans (rdw_ne (by decide))
    have a2 : rd (wr (wr (wr h 189 (rd h 182 13 + 1100) v1) 190 (rd h 182 13 + 1100) v2) 182 13 (rd h 182 13 + 1)) 190 (1100 + i) = rd (wr (wr h 189 (rd h 182 13 + 1100) v1) 190 (rd h 182 13 + 1100) v2) 190 (1100 + i) := rdw_ne (by decide)
    rw [getD_app hi', a1, a2]
    rw [List.length_append, List.length_singleton] at hi'
    by_cases z2 : i < x.2.length
    · rw [if_pos z2, rdw_nei (by omega), rdw_nei (by omega), rdw_ne (by decide)]; exact l2 i z2
    · rw [if_neg z2, show (1100 : Int) + i = rd h 182 13 + 1100 by omega, rdw_eq, rdw_eq]; exact ⟨e1, e2⟩
end CE
def PartR (T : Int → Int) (n : Int) (V : Int → Int) (m : Nat) (r : Nat) : Prop := ∀ (xs : Nat → Int) (xl e : Nat) (g : Int) (h : LH) (x : (Int × Nat) × List Int) (Q : Option LV → LH → Prop) (d : Int), d = 5 - (r : Int) → 3 + 6 * r ≤ e → 0 ≤ g → REK T n V m g h x → x.1.1 = 0 → (∀ h', REK T n V m g h' (exP (tO T n) (tV T n 37) (tW T n 37 V) (tP T n) r x) → frLK h h' → Q none h') → Rn xs xl e mm_takePart 0 [some (.inr (.inr 182)), some (.inl d), none, none] [] h Q
section CF
variable {T : Int → Int} {n : Int} {V : Int → Int} {m : Nat} {r : Nat} {xs : Nat → Int} {xl : Nat}
theorem exO3 {k : Nat} : exO (tO T n) (tV T n 37) (tW T n 37 V) 3 k = if tO T n k = 3 ∧ tV T n 37 k = 42 then 10011 else -1 := by
  unfold exO
  rw [if_neg (by decide), if_neg (by decide), if_neg (by decide)]
theorem G_products (hP : PartR T n V m r) {e : Nat} {g : Int} {h : LH} {x : (Int × Nat) × List Int} {Q : Option LV → LH → Prop} {d : Int} (hd : d = 5 - (r : Int)) (he : 4 + 6 * r ≤ e) (hg : 0 ≤ g) (hx : REK T n V m g h x) (hz : x.1.1 = 0) (k : ∀ h', REK T n V m g h' (exX (tO T n) (tV T n 37) (tW T n 37 V) (exP (tO T n) (tV T n 37) (tW T n 37 V) (tP T n) r) 1 x) → frLK h h' → Q none h') :
    Rn xs xl e mm_products 0 [some (.inr (.inr 182)), some (.inl d)] [] h Q := by
  have loop : ∀ (c : Nat) (h1 : LH) (y : (Int × Nat) × List Int), REK T n V m g h1 y → frLK h h1 → (y.1.1 = 0 → 1000 ≤ y.1.2 + c) → (∀ h', REK T n V m g h' (exL (tO T n) (tV T n 37) (tW T n 37 V) (exP (tO T n) (tV T n 37) (tW T n 37 V) (tP T n) r) 3 c y) → frLK h h' → Q none h') → Rn xs xl e mm_products 5 [some (.inr (.inr 182)), some (.inl d)] [] h1 Q := by
    intro c
    induction c with
    | zero =>
      intro h1 y hy f1 hc kk
      refine B_products_5 hy.1.1.1 ⟨1, by omega, G_hasSign (by omega) hy.1 (fun h2 yz o3 ev s2 f2 => ?_) (fun h2 no s2 f2 => ?_)⟩
      · have lt := tO_lt (T := T) (n := n) (k := y.1.2) hy.1.1.2.2.2.2.2.2.1 hy.1.1.2.2.2.2.2.1 (by omega)
        have := hc yz
        omega
      · exact B_products_11_0 s2.1.1 (kk h2 (REK_same hy s2 f2) (f1.trans f2.L))
    | succ c ic =>
      intro h1 y hy f1 hc kk
      refine B_products_5 hy.1.1.1 ⟨1, by omega, G_hasSign (by omega) hy.1 (fun h2 yz o3 ev s2 f2 => ?_) (fun h2 no s2 f2 => ?_)⟩
      · have eo : exO (tO T n) (tV T n 37) (tW T n 37 V) 3 y.1.2 = 10011 := by rw [exO3, if_pos ⟨o3, ev⟩]
        have y2 := REK_advT hy yz (by omega) s2 f2
        rw [exL_go yz (by rw [eo]; decide), eo] at kk
        refine B_products_11_1 s2.1.1 ⟨3 + 6 * r, by omega, hP xs xl _ (g + 1) h2 _ _ d hd (Nat.le_refl _) (by omega) y2 (by rw [tkA_0 yz]) (fun h3 c3 f3 => ?_)⟩
        refine B_products_19 c3.1.1.1 ⟨0, by omega, G_emit (by omega) c3 (c := 10011) rfl rfl (fun h4 c4 f4 => ?_)⟩
        rw [show g + 1 - 1 = g by omega] at c4
        refine B_products_26 c4.1.1.1 (ic h4 _ c4 (((f1.trans f2.L).trans f3).trans f4) (fun z => ?_) kk)
        have mo := exP_mono (o := tO T n) (v := tV T n 37) (w := tW T n 37 V) (p := tP T n) r (tkA y.1, y.2)
        rw [tkA_0 yz] at mo
        have := hc yz
        change 1000 ≤ (exP (tO T n) (tV T n 37) (tW T n 37 V) (tP T n) r (tkA y.1, y.2)).1.2 + c
        rw [tkA_0 yz]
        have mo' : y.1.2 + 1 ≤ (exP (tO T n) (tV T n 37) (tW T n 37 V) (tP T n) r ((0, y.1.2 + 1), y.2)).1.2 := mo
        omega
      · rw [exL_stop (fun z => by rw [exO3, if_neg (no z.1)] at z; exact z.2 rfl)] at kk
        exact B_products_11_0 s2.1.1 (kk h2 (REK_same hy s2 f2) (f1.trans f2.L))
  refine B_products_0 hx.1.1.1 ⟨3 + 6 * r, by omega, hP xs xl _ g h x _ d hd (Nat.le_refl _) hg hx hz (fun h1 c1 f1 => loop 1000 h1 _ c1 f1 (fun _ => by omega) k)⟩
end CF
