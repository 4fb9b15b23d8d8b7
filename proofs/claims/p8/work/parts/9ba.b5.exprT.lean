/-! p3, part b5: the reference's parts -/
section CH
variable {T : Int → Int} {n : Int} {V : Int → Int} {m : Nat} {xs : Nat → Int} {xl : Nat}
theorem G_part0 {e : Nat} {g : Int} {h : LH} {x : (Int × Nat) × List Int} {Q : Option LV → LH → Prop} {d : Int} (he : 2 ≤ e) (hx : REK T n V m g h x) (hz : x.1.1 = 0)
    (k69 : exK (tO T n) (tV T n 37) (tW T n 37 V) x.1.2 = true → ∀ v2 w0 : Int, (v2 ≠ 0 ↔ tO T n x.1.2 = 2) → (25 ≤ tW T n 37 V x.1.2 → w0 = tW T n 37 V x.1.2 - 25) → Rn xs xl e mm_takePart 69 [some (.inr (.inr 182)), some (.inl d), some (.inl v2), some (.inl w0)] [] h Q)
    (kbad : ¬ exK (tO T n) (tV T n 37) (tW T n 37 V) x.1.2 = true → ∀ h', REK T n V m g h' (tkE (tP T n) 1 x.1, x.2) → frLK h h' → Q none h') :
    Rn xs xl e mm_takePart 0 [some (.inr (.inr 182)), some (.inl d), none, none] [] h Q := by
  have hF := hx.1.1.1
  have a7 := hx.1.2.2.2.1
  have e8 := hx.1.2.1
  have eo := RS_o hx.1 hz
  have win := tW_in (T := T) (n := n) (b := 37) (W := V) x.1.2
  have okd : ∀ (z : tO T n x.1.2 = 2 ∨ 25 ≤ tW T n 37 V x.1.2 ∨ (tO T n x.1.2 = 3 ∧ tV T n 37 x.1.2 = 40) ∨ tW T n 37 V x.1.2 = 22), exK (tO T n) (tV T n 37) (tW T n 37 V) x.1.2 = true := by
    intro z; unfold exK; rw [decide_eq_true_iff]; exact z
  have st : ∀ v2 : Int, (v2 ≠ 0 ↔ tO T n x.1.2 = 2) → (∃ c, c < e ∧ Rn xs xl c mm_wordHere 0 [some (.inr (.inr 182)), some (.inl 25), some (.inl 4), none, none] [] h (fun r h' => Rn xs xl e mm_takePart 34 [some (.inr (.inr 182)), some (.inl d), some (.inl v2), none] (r.toList ++ []) h' Q)) := by
    intro v2 a2
    refine ⟨1, by omega, G_wordHere (by omega) hx.1 (by omega) ?_⟩
    have hw : 25 ≤ tW T n 37 V x.1.2 → whr (tW T n 37 V) x.1 25 4 = tW T n 37 V x.1.2 - 25 := by
      intro z; unfold whr; rw [if_pos ⟨hz, z, by omega⟩]
    have hn : ¬ 25 ≤ tW T n 37 V x.1.2 → whr (tW T n 37 V) x.1 25 4 = -1 := by
      intro z; unfold whr; rw [if_neg (fun y => z y.2.1)]
    refine B_takePart_34 hF ⟨fun p => k69 (okd ?_) v2 _ a2 hw, fun p => ⟨fun z => k69 (okd (Or.inl (a2.mp z))) v2 _ a2 hw, fun z => ⟨0, by omega, G_isSign hx.1 (fun _ o3 ev => B_takePart_49_1 hF (k69 (okd (Or.inr (Or.inr (Or.inl ⟨o3, ev⟩)))) v2 _ a2 hw)) (fun ns => B_takePart_49_0 hF ⟨0, by omega, G_isWord hx.1 (by omega) (fun _ ew => B_takePart_58_1 hF (k69 (okd (Or.inr (Or.inr (Or.inr ew)))) v2 _ a2 hw)) (fun nw => B_takePart_58_0 hF ⟨0, by omega, G_wrong hx.1 (by omega) (fun h' c1 f1 => B_takePart_66 c1.1.1 (B_takePart_79 c1.1.1 ⟨fun c => ?_, fun _ => kbad ?_ h' (REK_fr hx c1 f1 ?_ ?_ (fun _ => hz)) f1.L⟩))⟩)⟩)⟩⟩⟩
    · by_cases c : 25 ≤ tW T n 37 V x.1.2
      · exact Or.inr (Or.inl c)
      · rw [hn c] at p; omega
    · have h1 := tkE_ne' hx.1 (v1 := 1) (by decide)
      have h2 := c1.2.1
      have h3 := c1.2.2.1
      omega
    · unfold exK
      rw [decide_eq_true_iff]
      rintro (y | y | y | y)
      · exact a2.mpr y z
      · rw [hw y] at p; omega
      · exact ns hz y
      · exact nw hz y
    · rw [tkE_2]; omega
    · rw [tkE_2]; exact hx.2.2.2.1
  refine B_takePart_0 hF ⟨fun _ => ⟨by omega, fun c => st 0 ?_, fun c => st 1 ?_⟩, fun c => by omega⟩
  · rw [← eo]; omega
  · rw [← eo]; omega
theorem G_part : ∀ r : Nat, r ≤ 5 → PartR T n V m r
  | 0, _ => by
    intro xs xl e g h x Q d hd he hg hx hz k
    have hF := hx.1.1.1
    refine G_part0 (by omega) hx hz (fun ok v2 w0 _ _ => ?_) (fun no h' c1 f1 => k h' ?_ f1)
    · refine B_takePart_69 hF ⟨fun c => by omega, fun _ => ⟨0, by omega, G_wrong hx.1 (by omega) (fun h' c1 f1 => B_takePart_79 c1.1.1 ⟨fun c => ?_, fun _ => k h' ?_ f1.L⟩)⟩⟩
      · have h1 := tkE_ne' hx.1 (v1 := 5) (by decide)
        have h2 := c1.2.1
        have h3 := c1.2.2.1
        omega
      · unfold exP
        rw [if_pos ok]
        exact REK_fr hx c1 f1 (by rw [tkE_2]; omega) (by rw [tkE_2]; exact hx.2.2.2.1) (fun _ => hz)
    · unfold exP
      rw [if_neg no]
      exact c1
  | r + 1, hr => by
    have ihP := G_part r (by omega)
    intro xs xl e g h x Q d hd he hg hx hz k
    have hF := hx.1.1.1
    have e8 := hx.1.2.1
    have t4 := hx.1.1.2.2.2.2.2.2.1
    have t3 := hx.1.1.2.2.2.2.2.1
    have win := tW_in (T := T) (n := n) (b := 37) (W := V) x.1.2
    refine G_part0 (by omega) hx hz (fun ok v2 w0 a2 aw => ?_) (fun no h' c1 f1 => k h' ?_ f1)
    · unfold exK at ok
      rw [decide_eq_true_iff] at ok
      refine B_takePart_69 hF ⟨fun _ => B_takePart_79 hF ⟨fun _ => ⟨1, by omega, G_hasWord (by omega) hx.1 (by omega) (fun h2 s2 f2 => ?_)⟩, fun c => by omega⟩, fun c => by omega⟩
      by_cases b : tkB (tW T n 37 V) 22 x.1 = true
      · rw [if_pos b] at s2 ⊢
        have b' := b
        unfold tkB at b'
        rw [decide_eq_true_iff] at b'
        have o1 := tW_o (T := T) (n := n) (b := 37) (W := V) (k := x.1.2) (by omega)
        have ex : exP (tO T n) (tV T n 37) (tW T n 37 V) (tP T n) (r + 1) x = exA 10004 (exP (tO T n) (tV T n 37) (tW T n 37 V) (tP T n) r (tkA x.1, x.2)) := by
          show (if tO T n x.1.2 = 2 then _ else if 25 ≤ tW T n 37 V x.1.2 then _ else if tO T n x.1.2 = 3 ∧ tV T n 37 x.1.2 = 40 then _ else if tW T n 37 V x.1.2 = 22 then _ else _) = _
          rw [if_neg (by omega), if_neg (by omega), if_neg (fun z => by omega), if_pos b'.2]
        rw [ex] at k
        refine B_takePart_93_1 s2.1.1 ⟨by omega, 3 + 6 * r, by omega, ihP xs xl _ (g + 1) h2 _ _ (d + 1) (by omega) (Nat.le_refl _) (by omega) (REK_advT hx hz (by omega) s2 f2) (by rw [tkA_0 hz]) (fun h3 c3 f3 => ?_)⟩
        refine B_takePart_103 c3.1.1.1 ⟨0, by omega, G_emit (by omega) c3 (c := 10004) rfl rfl (fun h4 c4 f4 => ?_)⟩
        rw [show g + 1 - 1 = g by omega] at c4
        exact B_takePart_109 c4.1.1.1 (k h4 c4 ((f2.L.trans f3).trans f4))
      · rw [if_neg b] at s2 ⊢
        have n22 : ¬ tW T n 37 V x.1.2 = 22 := by
          intro z
          apply b
          unfold tkB
          rw [decide_eq_true_iff]
          exact ⟨hz, z⟩
        have x2 := REK_same hx s2 f2
        refine B_takePart_93_0 s2.1.1 ⟨1, by omega, G_hasSign (by omega) s2 (fun h3 _ o3 ev s3 f3 => ?_) (fun h3 ns s3 f3 => ?_)⟩
        · have w1 : tW T n 37 V x.1.2 = -1 := by unfold tW; rw [if_neg (by omega)]
          have ex : exP (tO T n) (tV T n 37) (tW T n 37 V) (tP T n) (r + 1) x = (tkS (tO T n) (tV T n 37) (tP T n) 41 (exX (tO T n) (tV T n 37) (tW T n 37 V) (exP (tO T n) (tV T n 37) (tW T n 37 V) (tP T n) r) 4 (tkA x.1, x.2)).1, (exX (tO T n) (tV T n 37) (tW T n 37 V) (exP (tO T n) (tV T n 37) (tW T n 37 V) (tP T n) r) 4 (tkA x.1, x.2)).2) := by
            show (if tO T n x.1.2 = 2 then _ else if 25 ≤ tW T n 37 V x.1.2 then _ else if tO T n x.1.2 = 3 ∧ tV T n 37 x.1.2 = 40 then _ else _) = _
            rw [if_neg (by omega), if_neg (by omega), if_pos ⟨o3, ev⟩]
          rw [ex] at k
          refine B_takePart_118_1 s3.1.1 ⟨by omega, 7 + 6 * r, by omega, G_all ihP (d := d + 1) (by omega) (Nat.le_refl _) (by omega) (REK_advT x2 hz (by omega) s3 f3) (by rw [tkA_0 hz]) (fun h4 c4 f4 => ?_)⟩
          generalize exX (tO T n) (tV T n 37) (tW T n 37 V) (exP (tO T n) (tV T n 37) (tW T n 37 V) (tP T n) r) 4 (tkA x.1, x.2) = y at c4 k
          refine B_takePart_128 c4.1.1.1 ⟨1, by omega, G_takeSign (by omega) c4.1 (fun h5 c5 f5 => B_takePart_134 c5.1.1 (k h5 (REK_fr c4 c5 f5 ?_ ?_ (fun z => ?_)) (((f2.L.trans f3.L).trans f4).trans f5.L)))⟩
          · have := tkS_2 (o := tO T n) (v := tV T n 37) (p := tP T n) (s := y.1) (c := 41)
            omega
          · unfold tkS
            split
            · next q =>
              have lt := tO_lt (T := T) (n := n) (k := y.1.2) t4 t3 (by omega)
              unfold tkA
              split
              · show y.1.2 + 1 ≤ 1000; omega
              · exact c4.2.2.2.1
            · rw [tkE_2]; exact c4.2.2.2.1
          · by_cases yy : y.1.1 = 0
            · exact yy
            · rw [tkS_f yy] at z; exact z
        · have ns' := ns hz
          have x3 := REK_same x2 s3 f3
          have a7 := s3.2.2.2.1
          have atom : ∀ (op ar c : Int), op = cdO c → ar = cdA c → tO T n x.1.2 ≠ 0 → exP (tO T n) (tV T n 37) (tW T n 37 V) (tP T n) (r + 1) x = (tkA x.1, x.2 ++ [c]) → (∃ b, b < e ∧ Rn xs xl b mm_emit 0 [some (.inr (.inr 182)), some (.inl op), some (.inl ar)] [] h3 (fun r h' => Rn xs xl e mm_takePart 168 [some (.inr (.inr 182)), some (.inl d), some (.inl v2), some (.inl w0)] (r.toList ++ []) h' Q)) := by
            intro op ar c e1 e2 on ex
            rw [ex] at k
            refine ⟨0, by omega, G_emit hg x3 (c := c) e1 e2 (fun h4 c4 f4 => B_takePart_168 c4.1.1.1 ⟨?_, k _ ?_ (((f2.L.trans f3.L).trans f4).trans fr7.L)⟩)⟩
            · have := c4.1.2.2.2.1
              omega
            · have := REK_adv c4 hz on
              rw [show g - 1 + 1 = g by omega] at this
              exact this
          refine B_takePart_118_0 s3.1.1 ⟨fun z => ⟨fun _ => ?_, fun y => absurd z y⟩, fun z => ⟨fun y => absurd y z, fun _ => ⟨by omega, ?_⟩⟩⟩
          · have n2 : ¬ tO T n x.1.2 = 2 := fun y => a2.mpr y z
            have w25 : 25 ≤ tW T n 37 V x.1.2 := by
              rcases ok with y | y | y | y
              · exact absurd y n2
              · exact y
              · exact absurd y ns'
              · exact absurd y n22
            have ew0 := aw w25
            refine atom 2 w0 (tW T n 37 V x.1.2 + 9975) ?_ ?_ (by rw [tW_o (W := V) (b := 37) (by omega)]; decide) ?_
            · unfold cdO; rw [if_neg (by omega), if_pos (by omega)]
            · unfold cdA; rw [if_neg (by omega), if_pos (by omega), ew0]; omega
            · show (if tO T n x.1.2 = 2 then _ else if 25 ≤ tW T n 37 V x.1.2 then _ else _) = _
              rw [if_neg n2, if_pos w25]
          · have o2 := a2.mp z
            have ev := RS_v s3 hz (by omega) (by omega)
            have bd := tV_num (T := T) (n := n) (b := 37) t4 t3 o2
            rw [ev, w32_id (by unfold i32; omega)]
            refine atom 1 _ (tV T n 37 x.1.2) ?_ ?_ (by omega) ?_
            · unfold cdO; rw [if_pos (by omega)]
            · unfold cdA; rw [if_pos (by omega)]
            · show (if tO T n x.1.2 = 2 then _ else _) = _
              rw [if_pos o2]
    · have no' := no
      unfold exK at no'
      rw [decide_eq_true_iff] at no'
      have ex : exP (tO T n) (tV T n 37) (tW T n 37 V) (tP T n) (r + 1) x = (tkE (tP T n) 1 x.1, x.2) := by
        show (if tO T n x.1.2 = 2 then _ else if 25 ≤ tW T n 37 V x.1.2 then _ else if tO T n x.1.2 = 3 ∧ tV T n 37 x.1.2 = 40 then _ else if tW T n 37 V x.1.2 = 22 then _ else _) = _
        rw [if_neg (fun z => no' (Or.inl z)), if_neg (fun z => no' (Or.inr (Or.inl z))), if_neg (fun z => no' (Or.inr (Or.inr (Or.inl z)))), if_neg (fun z => no' (Or.inr (Or.inr (Or.inr z))))]
      rw [ex]
      exact c1
end CH
