/-! p3, part c1: the line of the law, as the reference reads it -/
section CM
variable {xs : Nat → Int} {xl e : Nat} {h : LH} {Q : Option LV → LH → Prop} {T : Int → Int} {n : Int} {V : Int → Int} {m : Nat} {s : Int × Nat}
def muLL (a i : Int) : Prop := muLK a i ∨ (a = 188 ∧ i = 153)
theorem G_readLet (he : 38 ≤ e) (hs : RSK T n V m h s) (hz : s.1 = 0)
    (k1 : ¬ tW T n 37 V s.2 = 11 → ∀ h', RSK T n V m h' (tkE (tP T n) 1 s) → frT h h' → Q none h')
    (k2 : tW T n 37 V s.2 = 11 → 0 ≤ rd h 188 153 → ∀ h', RSK T n V m h' (tkE (tP T n) 3 s) → frT h h' → Q none h')
    (h13 : rd h 188 153 < 0 → rd h 182 13 = 0)
    (k3 : tW T n 37 V s.2 = 11 → rd h 188 153 < 0 → ∀ h', RSK T n V m h' (exX (tO T n) (tV T n 37) (tW T n 37 V) (exP (tO T n) (tV T n 37) (tW T n 37 V) (tP T n) 5) 4 (tkA s, [])).1 → rd h' 188 153 = 0 → ((exX (tO T n) (tV T n 37) (tW T n 37 V) (exP (tO T n) (tV T n 37) (tW T n 37 V) (tP T n) 5) 4 (tkA s, [])).1.1 = 0 → rd h' 182 13 = (exX (tO T n) (tV T n 37) (tW T n 37 V) (exP (tO T n) (tV T n 37) (tW T n 37 V) (tP T n) 5) 4 (tkA s, [])).2.length + 1 ∧ rd h' 189 (1100 + ((exX (tO T n) (tV T n 37) (tW T n 37 V) (exP (tO T n) (tV T n 37) (tW T n 37 V) (tP T n) 5) 4 (tkA s, [])).2.length : Int)) = 0 ∧ ∀ i : Nat, i < (exX (tO T n) (tV T n 37) (tW T n 37 V) (exP (tO T n) (tV T n 37) (tW T n 37 V) (tP T n) 5) 4 (tkA s, [])).2.length → rd h' 189 (1100 + i) = cdO ((exX (tO T n) (tV T n 37) (tW T n 37 V) (exP (tO T n) (tV T n 37) (tW T n 37 V) (tP T n) 5) 4 (tkA s, [])).2.getD i 0) ∧ rd h' 190 (1100 + i) = cdA ((exX (tO T n) (tV T n 37) (tW T n 37 V) (exP (tO T n) (tV T n 37) (tW T n 37 V) (tP T n) 5) 4 (tkA s, [])).2.getD i 0)) → (∀ a i, ¬ muLL a i → rd h' a i = rd h a i) → Q none h') :
    Rn xs xl e mm_readLet 0 [some (.inr (.inr 182))] [] h Q := by
  have a7 := hs.2.2.2.1
  have bad : ∀ {c : Int}, 1 ≤ c → (∀ h', RSK T n V m h' (tkE (tP T n) c s) → frT h h' → Q none h') → ∀ h', RSK T n V m h' (tkE (tP T n) c s) → frT h h' → Rn xs xl e mm_readLet 33 [some (.inr (.inr 182))] [] h' Q := by
    intro c hc kk h' c1 f1
    have ne := tkE_ne' hs hc
    have p0 := c1.2.2.1
    have p1 := c1.2.1
    exact B_readLet_33 c1.1.1 ⟨fun q => by omega, fun _ => kk h' c1 f1⟩
  refine B_readLet_0 hs.1.1 ⟨0, by omega, G_isWord hs (by omega) (fun _ ew => ?_) (fun no => ?_)⟩
  · refine B_readLet_6_1 hs.1.1 ⟨fun c => ?_, fun c => ⟨0, by omega, G_wrong hs (by omega) (fun h' c1 f1 => bad (by decide) (k2 ew c) h' c1 f1)⟩⟩
    have e13 := h13 c
    have o1 := tW_o (T := T) (n := n) (b := 37) (W := V) (k := s.2) (by omega)
    have e8 := hs.2.1
    have lt := RS_lt hs hz (by omega)
    have m1 := hs.1.2.2.2.2.1
    have x0 : REK T n V m 0 h (s, []) := ⟨hs, by omega, by show rd h 182 13 + 0 ≤ (s.2 : Int); omega, by show s.2 ≤ 1000; omega, fun _ => ⟨e13, fun i hi => absurd hi (Nat.not_lt_zero i)⟩⟩
    have x1 := REK_adv x0 hz (by show tO T n s.2 ≠ 0; omega)
    have x2 : REK T n V m 1 (wr (wr h 182 7 (rd h 182 7 + 1)) 188 153 (rd h 182 13)) (tkA s, []) := by
      obtain ⟨c1, c2, c3, c4, c5⟩ := x1
      have q13 : rd (wr (wr h 182 7 (rd h 182 7 + 1)) 188 153 (rd h 182 13)) 182 13 = rd (wr h 182 7 (rd h 182 7 + 1)) 182 13 := rdw_ne (by decide)
      refine ⟨RSK_w c1, by rw [q13]; exact c2, by rw [q13]; exact c3, c4, fun z => ⟨q13.trans (c5 z).1, fun i hi => absurd hi (Nat.not_lt_zero i)⟩⟩
    refine B_readLet_33 hs.1.1 ⟨fun _ => ⟨by omega, 37, by omega, G_all (G_part 5 (by omega)) (d := 0) (by decide) (by omega) (by decide) x2 (by show (tkA s).1 = 0; rw [tkA_0 hz]) (fun h2 c2 f2 => ?_)⟩, fun q => by omega⟩
    have k3' := k3 ew c
    clear k1 k2 k3
    generalize exX (tO T n) (tV T n 37) (tW T n 37 V) (exP (tO T n) (tV T n 37) (tW T n 37 V) (tP T n) 5) 4 (tkA s, []) = y at c2 k3'
    obtain ⟨r1, r2, r3, r4, r5⟩ := c2
    refine B_readLet_68 r1.1.1 ⟨0, by omega, B_emit_0 r1.1.1 ⟨by omega, by omega, by omega, by omega, by omega, ?_⟩⟩
    have f3 : frLK h2 (wr (wr (wr h2 189 (rd h2 182 13 + 1100) 0) 190 (rd h2 182 13 + 1100) 0) 182 13 (rd h2 182 13 + 1)) := by
      intro a i hn
      unfold muLK at hn
      rw [rd_wr, if_neg (fun z => hn (by omega)), rd_wr, if_neg (fun z => hn (by omega)), rd_wr, if_neg (fun z => hn (by omega))]
    have e7 : rd (wr (wr (wr h2 189 (rd h2 182 13 + 1100) 0) 190 (rd h2 182 13 + 1100) 0) 182 13 (rd h2 182 13 + 1)) 182 7 = rd h2 182 7 := (rdw_nei (by decide)).trans ((rdw_ne (by decide)).trans (rdw_ne (by decide)))
    have e8' : rd (wr (wr (wr h2 189 (rd h2 182 13 + 1100) 0) 190 (rd h2 182 13 + 1100) 0) 182 13 (rd h2 182 13 + 1)) 182 8 = rd h2 182 8 := (rdw_nei (by decide)).trans ((rdw_ne (by decide)).trans (rdw_ne (by decide)))
    have s3 : RSK T n V m (wr (wr (wr h2 189 (rd h2 182 13 + 1100) 0) 190 (rd h2 182 13 + 1100) 0) 182 13 (rd h2 182 13 + 1)) y.1 := ⟨RXK_fr r1.1 (RF_fl r1.1.1 f3) (fun a i ha => f3 a i (by unfold muLK; omega)), e8'.trans r1.2.1, r1.2.2.1, by rw [e7]; exact r1.2.2.2.1, by rw [e7]; exact r1.2.2.2.2⟩
    refine B_readLet_74 s3.1.1 (k3' _ s3 ?_ (fun z => ?_) (fun a i hn => ?_))
    · rw [f3 _ _ (by unfold muLK; omega), f2 _ _ (by unfold muLK; omega), rdw_eq, e13]
    · obtain ⟨l1, l2⟩ := r5 z
      refine ⟨by rw [rdw_eq, l1], ?_, fun i hi => ?_⟩
      · rw [rdw_ne (by decide), rdw_ne (by decide), show (1100 : Int) + (y.2.length : Int) = rd h2 182 13 + 1100 by omega, rdw_eq]
      · have a1 : rd (wr (wr (wr h2 189 (rd h2 182 13 + 1100) 0) 190 (rd h2 182 13 + 1100) 0) 182 13 (rd h2 182 13 + 1)) 189 (1100 + i) = rd h2 189 (1100 + i) := (rdw_ne (by decide)).trans ((rdw_ne (by decide)).trans (rdw_nei (by omega)))
        have a2 : rd (wr (wr (wr h2 189 (rd h2 182 13 + 1100) 0) 190 (rd h2 182 13 + 1100) 0) 182 13 (rd h2 182 13 + 1)) 190 (1100 + i) = rd h2 190 (1100 + i) := (rdw_ne (by decide)).trans ((rdw_nei (by omega)).trans (rdw_ne (by decide)))
        rw [a1, a2]
        exact l2 i hi
    · unfold muLL at hn
      have n1 : ¬ muLK a i := fun z => hn (Or.inl z)
      rw [f3 a i n1, f2 a i n1, rd_wr, if_neg (fun z => hn (Or.inr (by omega))), rd_wr, if_neg (fun z => n1 (by unfold muLK; omega))]
  · exact B_readLet_6_0 hs.1.1 ⟨0, by omega, G_wrong hs (by omega) (fun h' c1 f1 => B_readLet_14 c1.1.1 (bad (by decide) (k1 (no hz)) h' c1 f1))⟩
end CM
