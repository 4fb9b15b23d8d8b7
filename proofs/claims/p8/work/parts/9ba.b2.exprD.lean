/-! p3, part b2: the class reads the law's text -/
theorem tV_num {T : Int → Int} {n b : Int} {k : Nat} (h1 : n ≤ 1000) (h2 : 0 ≤ n) (ho : tO T n k = 2) : 0 ≤ tV T n b k ∧ tV T n b k ≤ 9999 := by
  have pin := tP_in (T := T) h1 h2 k
  have s0 := tS_in (T := T) h1 h2 k
  have pn : tP T n k < n := by
    rcases Int.lt_or_le (tP T n k) n with z | z
    · exact z
    · have := tO_0.mpr z; omega
  by_cases c1 : isLt (T (tP T n k)) = true
  · have := (tk_w pn c1).2
    split at this <;> omega
  by_cases c2 : isDg (T (tP T n k)) = true
  · obtain ⟨e1, e2⟩ := tk_n pn c1 c2
    have l : ¬ 4 < fw T n isDg (tP T n k) - tP T n k := fun z => by rw [if_pos z] at e2; omega
    have fo := fw_ok (T := T) (n := n) (P := isDg) (p := tP T n k) (by omega) h1
    have bd := num_bd (T := T) (p := tP T n k) (tN T n k) (fun r r0 r1 => isDg_iff.mp (fo.2.1 r r0 (by unfold tN at r1; rw [e1] at r1; omega)).2)
    have pw := pow_le8 (b := 10) (m := tN T n k) (k := 4) (by decide) (by unfold tN; rw [e1]; omega)
    have pw2 : (10 : Int) ^ 4 = 10000 := by decide
    unfold tV
    rw [if_neg (by omega), if_pos ho]
    omega
  · have := (tk_s pn c1 c2).2
    split at this <;> omega
def PartC (T : Int → Int) (n : Int) (W : Int → Int) (q : Int) (r : Nat) : Prop := ∀ (xs : Nat → Int) (xl e : Nat) (g : Int) (h : LH) (x : (Int × Nat) × List Int) (Q : Option LV → LH → Prop) (d : Int), d = 5 - (r : Int) → 4 + 6 * r ≤ e → 0 ≤ g → CEK T n W q g h x → x.1.1 = 0 → (∀ h', CEK T n W q g h' (exP (tO T n) (tV T n 32) (tW T n 32 W) (tP T n) r x) → frE q h h' → Q none h') → Rn xs xl e mm_Reader_part 0 [some (.inr (.inr 2)), some (.inr (.inr q)), some (.inl d), none, none, none] [] h Q
def ExprC (T : Int → Int) (n : Int) (W : Int → Int) (q : Int) (r j : Nat) : Prop := ∀ (xs : Nat → Int) (xl e : Nat) (g : Int) (h : LH) (x : (Int × Nat) × List Int) (Q : Option LV → LH → Prop) (l d : Int), l = 4 - (j : Int) → d = 5 - (r : Int) → 5 + 6 * r + j ≤ e → 0 ≤ g → CEK T n W q g h x → x.1.1 = 0 → (∀ h', CEK T n W q g h' (exX (tO T n) (tV T n 32) (tW T n 32 W) (exP (tO T n) (tV T n 32) (tW T n 32 W) (tP T n) r) j x) → frE q h h' → Q none h') → Rn xs xl e mm_Reader_expression 0 [some (.inr (.inr 2)), some (.inr (.inr q)), some (.inl l), some (.inl d), none, none] [] h Q
section CD
variable {T : Int → Int} {n : Int} {W : Int → Int} {q : Int}
theorem CEK_stp (hq : q = 5 ∨ q = 32) {xs : Nat → Int} {xl e : Nat} {h : LH} {Q : Option LV → LH → Prop} {g : Int} {x : (Int × Nat) × List Int} (he : 2 ≤ e) (hx : CEK T n W q g h x) (hz : x.1.1 = 0) (ho : tO T n x.1.2 ≠ 0) (k : ∀ h', CEK T n W q (g + 1) h' (tkA x.1, x.2) → frE q h h' → Q none h') : Rn xs xl e mm_Reader_step 0 [some (.inr (.inr 2)), none] [] h Q := by
  have lt := tO_lt (T := T) hx.1.1.2.1.2.2.2 hx.1.1.2.1.2.2.1 ho
  refine F_stp he hx.1 (fun _ => ho) (fun h' c1 f1 => k h' (CEK_fr hq hx c1 f1 (fun _ => ⟨hz, ?_⟩)) f1.E)
  rw [tkA_0 hz]
  have := (hx.2.2 hz).2.1
  show (x.2.length : Int) + (g + 1) ≤ ((x.1.2 + 1 : Nat) : Int) ∧ x.1.2 + 1 ≤ 1000
  omega
theorem F_expr (hq : q = 5 ∨ q = 32) {r : Nat} (hr : r ≤ 5) (hP : PartC T n W q r) : ∀ j : Nat, j ≤ 4 → ExprC T n W q r j
  | 0, _ => by
    intro xs xl e g h x Q l d hl hd he hg hx hz k
    refine B_Reader_expression_0 hq hx.1.1.1 ⟨fun c => by omega, fun _ => ⟨4 + 6 * r, by omega, hP xs xl _ g h x _ d hd (Nat.le_refl _) hg hx hz (fun h' c1 f1 => B_Reader_expression_11 hq c1.1.1.1 (k h' c1 f1))⟩⟩
  | j + 1, hj => by
    have ih := F_expr hq hr hP j (by omega)
    intro xs xl e g h x Q l d hl hd he hg hx hz k
    have el : l = ((3 - j : Nat) : Int) := by omega
    have loop : ∀ (m : Nat) (i : Int) (o5 : Option LV) (h1 : LH) (y : (Int × Nat) × List Int), (j ≠ 2 → (m : Int) + i = 1000 ∧ 0 ≤ i) → (j = 2 → m = 1 ∧ i = 0) → CEK T n W q g h1 y → frE q h h1 → (∀ h', CEK T n W q g h' (exL (tO T n) (tV T n 32) (tW T n 32 W) (exX (tO T n) (tV T n 32) (tW T n 32 W) (exP (tO T n) (tV T n 32) (tW T n 32 W) (tP T n) r) j) (3 - j) m y) → frE q h h' → Q none h') → Rn xs xl e mm_Reader_expression 24 [some (.inr (.inr 2)), some (.inr (.inr q)), some (.inl l), some (.inl d), some (.inl i), o5] [] h1 Q := by
      intro m
      induction m with
      | zero =>
        intro i o5 h1 y hm1 hm2 hy f1 kk
        have j2 : j ≠ 2 := fun z => by have := hm2 z; omega
        have hi := hm1 j2
        exact B_Reader_expression_24 hq hy.1.1.1 (by omega) ⟨fun _ => kk h1 hy f1, fun c => by omega⟩
      | succ m im =>
        intro i o5 h1 y hm1 hm2 hy f1 kk
        have hi : 0 ≤ i ∧ i < 1000 := by
          by_cases z : j = 2
          · have := hm2 z; omega
          · have := hm1 z; omega
        have e8 := hy.1.2.1
        refine B_Reader_expression_24 hq hy.1.1.1 (by omega) ⟨fun c => by omega, fun _ => ⟨fun c => kk h1 ?_ f1, fun c => ?_⟩⟩
        · unfold exL
          rw [if_neg (fun z => c (e8.trans z.1))]; exact hy
        · have yz : y.1.1 = 0 := e8.symm.trans c
          refine ⟨1, by omega, ?_⟩
          rw [el]
          refine F_operatorOf (by omega) hy.1 yz (by omega) ?_
          rw [← el]
          refine B_Reader_expression_44 hq hy.1.1.1 ⟨fun c2 => ⟨2, by omega, ?_⟩, fun c2 => kk h1 ?_ f1⟩
          · have on := exO_o c2
            refine CEK_stp hq (by omega) hy yz on (fun h2 c3 f2 => ?_)
            refine B_Reader_expression_57 hq c3.1.1.1 ⟨by omega, 5 + 6 * r + j, by omega, ?_⟩
            refine ih xs xl _ (g + 1) h2 _ _ (l + 1) d (by omega) hd (Nat.le_refl _) (by omega) c3 (by rw [tkA_0 yz]) (fun h3 c4 f3 => ?_)
            refine B_Reader_expression_66 hq c4.1.1.1 ⟨0, by omega, F_addLaw hq c4 (fun z => ?_) (fun h4 c5 f4 _ => ?_)⟩
            · have := (c4.2.2 z).2
              omega
            · rw [show g + 1 - 1 = g by omega] at c5
              have fa := ((f1.trans f2).trans f3).trans f4
              have eq : exL (tO T n) (tV T n 32) (tW T n 32 W) (exX (tO T n) (tV T n 32) (tW T n 32 W) (exP (tO T n) (tV T n 32) (tW T n 32 W) (tP T n) r) j) (3 - j) (m + 1) y = exL (tO T n) (tV T n 32) (tW T n 32 W) (exX (tO T n) (tV T n 32) (tW T n 32 W) (exP (tO T n) (tV T n 32) (tW T n 32 W) (tP T n) r) j) (3 - j) m (exA (exO (tO T n) (tV T n 32) (tW T n 32 W) (3 - j) y.1.2) (exX (tO T n) (tV T n 32) (tW T n 32 W) (exP (tO T n) (tV T n 32) (tW T n 32 W) (tP T n) r) j (tkA y.1, y.2))) := by
                show (if y.1.1 = 0 ∧ exO (tO T n) (tV T n 32) (tW T n 32 W) (3 - j) y.1.2 ≠ -1 then _ else y) = _
                rw [if_pos ⟨yz, c2⟩]
              rw [eq] at kk
              refine B_Reader_expression_72 hq c5.1.1.1 (by omega) ⟨fun c6 => ?_, fun c6 => ?_⟩
              · exact im (i + 1) _ h4 _ (fun z => by have := hm1 z; omega) (fun z => by omega) c5 fa kk
              · have m0 : m = 0 := by have := hm2 (by omega); omega
                subst m0
                exact kk h4 c5 fa
          · unfold exL
            rw [if_neg (fun z => z.2 c2)]; exact hy
    refine B_Reader_expression_0 hq hx.1.1.1 ⟨fun c => ⟨by omega, 5 + 6 * r + j, by omega, ?_⟩, fun c => by omega⟩
    refine ih xs xl _ g h x _ (l + 1) d (by omega) hd (Nat.le_refl _) hg hx hz (fun h1 c1 f1 => ?_)
    refine B_Reader_expression_21 hq c1.1.1.1 ?_
    by_cases j2 : j = 2
    · refine loop 1 0 none h1 _ (fun z => absurd j2 z) (fun _ => ⟨rfl, rfl⟩) c1 f1 (fun h' c2 f2 => k h' ?_ f2)
      show CEK T n W q g h' (exL _ _ _ _ (3 - j) (if j = 2 then 1 else 1000) _)
      rw [if_pos j2]; exact c2
    · refine loop 1000 0 none h1 _ (fun _ => ⟨by decide, by decide⟩) (fun z => absurd z j2) c1 f1 (fun h' c2 f2 => k h' ?_ f2)
      show CEK T n W q g h' (exL _ _ _ _ (3 - j) (if j = 2 then 1 else 1000) _)
      rw [if_neg j2]; exact c2
theorem F_part0 (hq : q = 5 ∨ q = 32) {xs : Nat → Int} {xl e : Nat} {h : LH} {Q : Option LV → LH → Prop} {g : Int} {x : (Int × Nat) × List Int} {d : Int} (he : 1 ≤ e) (hx : CEK T n W q g h x) (hz : x.1.1 = 0)
    (core : ∀ v3 v4 w0 : Int, (v3 ≠ 0 ↔ tO T n x.1.2 = 2) → (v4 ≠ 0 ↔ 25 ≤ tW T n 32 W x.1.2) → (w0 ≠ 0 ↔ tO T n x.1.2 = 3 ∧ tV T n 32 x.1.2 = 40) → Rn xs xl e mm_Reader_part 36 [some (.inr (.inr 2)), some (.inr (.inr q)), some (.inl d), some (.inl v3), some (.inl v4), none] [.inl w0] h Q) :
    Rn xs xl e mm_Reader_part 0 [some (.inr (.inr 2)), some (.inr (.inr q)), some (.inl d), none, none, none] [] h Q := by
  have ek := CS_k hx.1 hz
  have ew := CS_w hx.1 hz
  have sg : ∀ v3 v4 : Int, (v3 ≠ 0 ↔ tO T n x.1.2 = 2) → (v4 ≠ 0 ↔ 25 ≤ tW T n 32 W x.1.2) → (∃ c, c < e ∧ Rn xs xl c mm_Reader_isSign 0 [some (.inr (.inr 2)), some (.inl 40)] [] h (fun r h' => Rn xs xl e mm_Reader_part 36 [some (.inr (.inr 2)), some (.inr (.inr q)), some (.inl d), some (.inl v3), some (.inl v4), none] (r.toList ++ []) h' Q)) := by
    intro v3 v4 a1 a2
    refine ⟨0, by omega, F_isSign hx.1 (fun r r01 hr => core v3 v4 r a1 a2 ?_)⟩
    rw [← hr hz]
    omega
  have o2 : rd h 2 3 = 3 ↔ tO T n x.1.2 = 2 := by rw [ek]; exact ck_3
  refine B_Reader_part_0 hq hx.1.1.1 ⟨fun c => ⟨fun c2 => sg 0 0 ?_ ?_, fun c2 => sg 0 1 ?_ ?_⟩, fun c => ⟨fun c2 => sg 1 0 ?_ ?_, fun c2 => sg 1 1 ?_ ?_⟩⟩
  · rw [← o2]; omega
  · rw [← ew]; omega
  · rw [← o2]; omega
  · rw [← ew]; omega
  · rw [← o2]; omega
  · rw [← ew]; omega
  · rw [← o2]; omega
  · rw [← ew]; omega
theorem F_part (hq : q = 5 ∨ q = 32) : ∀ r : Nat, r ≤ 5 → PartC T n W q r
  | 0, _ => by
    intro xs xl e g h x Q d hd he hg hx hz k
    have ew := CS_w hx.1 hz
    refine F_part0 hq (by omega) hx hz (fun v3 v4 w0 a3 a4 a0 => ?_)
    have f5 : exK (tO T n) (tV T n 32) (tW T n 32 W) x.1.2 = true → (∃ c, c < e ∧ Rn xs xl c mm_Reader_fail 0 [some (.inr (.inr 2)), some (.inl 5)] [] h (fun r h' => Rn xs xl e mm_Reader_part 77 [some (.inr (.inr 2)), some (.inr (.inr q)), some (.inl d), some (.inl v3), some (.inl v4), some (.inl w0)] (r.toList ++ []) h' Q)) := by
      intro ok
      refine ⟨0, by omega, F_fl hx.1 (by omega) (fun h' c1 f1 => B_Reader_part_77 hq c1.1.1 (k h' ?_ f1.E))⟩
      unfold exP
      rw [if_pos ok]
      exact CEK_fr hq hx c1 f1 (fun z => absurd z (tkE_ne hx.1.1.2.1 (by decide)))
    have okd : ∀ (z : tO T n x.1.2 = 2 ∨ 25 ≤ tW T n 32 W x.1.2 ∨ (tO T n x.1.2 = 3 ∧ tV T n 32 x.1.2 = 40) ∨ tW T n 32 W x.1.2 = 22), exK (tO T n) (tV T n 32) (tW T n 32 W) x.1.2 = true := by
      intro z; unfold exK; rw [decide_eq_true_iff]; exact z
    refine B_Reader_part_36 hq hx.1.1.1 (by omega) ⟨fun b3 => ⟨fun c => by omega, fun _ => f5 (okd (Or.inl (a3.mp b3)))⟩, fun b3 => ⟨fun b4 => ⟨fun c => by omega, fun _ => f5 (okd (Or.inr (Or.inl (a4.mp b4))))⟩, fun b4 => ⟨fun b0 => ⟨fun c => by omega, fun _ => f5 (okd (Or.inr (Or.inr (Or.inl (a0.mp b0)))))⟩, fun b0 => ⟨fun b7 => ⟨fun c => by omega, fun _ => f5 (okd (Or.inr (Or.inr (Or.inr (ew.symm.trans b7)))))⟩, fun b7 => ?_⟩⟩⟩⟩
    refine ⟨0, by omega, F_fl hx.1 (by omega) (fun h' c1 f1 => B_Reader_part_66 hq c1.1.1 (k h' ?_ f1.E))⟩
    unfold exP
    rw [if_neg]
    · exact CEK_fr hq hx c1 f1 (fun z => absurd z (tkE_ne hx.1.1.2.1 (by decide)))
    · unfold exK
      rw [decide_eq_true_iff]
      rintro (z | z | z | z)
      · exact a3.mpr z b3
      · exact a4.mpr z b4
      · exact a0.mpr z b0
      · exact b7 (ew.trans z)
  | r + 1, hr => by
    have ihP := F_part hq r (by omega)
    have ihE := F_expr hq (by omega) ihP 4 (by omega)
    intro xs xl e g h x Q d hd he hg hx hz k
    have ew := CS_w hx.1 hz
    have win := hx.1.2.2.1
    have t3 := hx.1.1.2.1.2.2.1
    have t4 := hx.1.1.2.1.2.2.2
    have sl := (hx.2.2 hz).2.1
    refine F_part0 hq (by omega) hx hz (fun v3 v4 w0 a3 a4 a0 => ?_)
    -- a number, or a fact
    have atom : ∀ c : Int, tO T n x.1.2 ≠ 0 → exP (tO T n) (tV T n 32) (tW T n 32 W) (tP T n) (r + 1) x = (tkA x.1, x.2 ++ [c]) → (∃ b, b < e ∧ Rn xs xl b mm_Quarter_addLaw 0 [some (.inr (.inr q)), some (.inl c)] [] h (fun r h' => Rn xs xl e mm_Reader_part 114 [some (.inr (.inr 2)), some (.inr (.inr q)), some (.inl d), some (.inl v3), some (.inl v4), some (.inl w0)] (r.toList ++ []) h' Q)) := by
      intro c on ex
      rw [ex] at k
      have lt := tO_lt (T := T) t4 t3 on
      refine ⟨0, by omega, F_addLaw hq hx (fun _ => by omega) (fun h1 c1 f1 _ => B_Reader_part_114 hq c1.1.1.1 ⟨2, by omega, CEK_stp hq (by omega) c1 hz on (fun h2 c2 f2 => B_Reader_part_118 hq c2.1.1.1 (k h2 ?_ (f1.trans f2)))⟩)⟩
      rw [show g - 1 + 1 = g by omega] at c2
      exact c2
    refine B_Reader_part_36 hq hx.1.1.1 (by omega) ⟨fun b3 => ⟨fun _ => ?_, fun c => by omega⟩, fun b3 => ⟨fun b4 => ⟨fun _ => ⟨by omega, by omega, ?_⟩, fun c => by omega⟩, fun b4 => ⟨fun b0 => ⟨fun _ => ?_, fun c => by omega⟩, fun b0 => ⟨fun b7 => ⟨fun _ => ?_, fun c => by omega⟩, fun b7 => ?_⟩⟩⟩⟩
    · have o2 := a3.mp b3
      have ev := CS_v hx.1 hz (by omega) (by omega)
      have bd := tV_num (T := T) (n := n) (b := 32) t4 t3 o2
      rw [ev, w32_id (by unfold i32; omega)]
      refine atom _ (by omega) ?_
      show (if tO T n x.1.2 = 2 then _ else _) = _
      rw [if_pos o2]
    · have n2 : ¬ tO T n x.1.2 = 2 := fun z => a3.mpr z b3
      have f4 := a4.mp b4
      rw [ew]
      refine atom _ (by rw [tW_o (W := W) (b := 32) (by omega)]; decide) ?_
      show (if tO T n x.1.2 = 2 then _ else if 25 ≤ tW T n 32 W x.1.2 then _ else _) = _
      rw [if_neg n2, if_pos f4]
    · have n2 : ¬ tO T n x.1.2 = 2 := fun z => a3.mpr z b3
      have n4 : ¬ 25 ≤ tW T n 32 W x.1.2 := fun z => a4.mpr z b4
      have f0 := a0.mp b0
      have ex : exP (tO T n) (tV T n 32) (tW T n 32 W) (tP T n) (r + 1) x = (tkS (tO T n) (tV T n 32) (tP T n) 41 (exX (tO T n) (tV T n 32) (tW T n 32 W) (exP (tO T n) (tV T n 32) (tW T n 32 W) (tP T n) r) 4 (tkA x.1, x.2)).1, (exX (tO T n) (tV T n 32) (tW T n 32 W) (exP (tO T n) (tV T n 32) (tW T n 32 W) (tP T n) r) 4 (tkA x.1, x.2)).2) := by
        show (if tO T n x.1.2 = 2 then _ else if 25 ≤ tW T n 32 W x.1.2 then _ else if tO T n x.1.2 = 3 ∧ tV T n 32 x.1.2 = 40 then _ else _) = _
        rw [if_neg n2, if_neg n4, if_pos f0]
      rw [ex] at k
      refine ⟨2, by omega, CEK_stp hq (by omega) hx hz (by omega) (fun h1 c1 f1 => B_Reader_part_130 hq c1.1.1.1 (by omega) ⟨9 + 6 * r, by omega, ihE xs xl _ (g + 1) h1 _ _ 0 (d + 1) (by decide) (by omega) (by omega) (by omega) c1 (by rw [tkA_0 hz]) (fun h2 c2 f2 => ?_)⟩)⟩
      refine B_Reader_part_139 hq c2.1.1.1 ⟨3, by omega, F_takeSign (by omega) c2.1 (fun h3 c3 f3 => B_Reader_part_145 hq c3.1.1 (k h3 ?_ ((f1.trans f2).trans f3.E)))⟩
      refine CEK_fr hq c2 c3 f3 (fun z => ?_)
      generalize exX (tO T n) (tV T n 32) (tW T n 32 W) (exP (tO T n) (tV T n 32) (tW T n 32 W) (tP T n) r) 4 (tkA x.1, x.2) = y at c2 z ⊢
      have yz : y.1.1 = 0 := by
        by_cases yy : y.1.1 = 0
        · exact yy
        · rw [tkS_f yy] at z; exact z
      refine ⟨yz, ?_⟩
      have y2 := (c2.2.2 yz).2
      unfold tkS at z ⊢
      by_cases c : tO T n y.1.2 = 3 ∧ tV T n 32 y.1.2 = 41
      · have lt := tO_lt (T := T) t4 t3 (k := y.1.2) (by omega)
        rw [if_pos c, tkA_0 yz]
        show (y.2.length : Int) + g ≤ ((y.1.2 + 1 : Nat) : Int) ∧ y.1.2 + 1 ≤ 1000
        omega
      · rw [if_neg c] at z
        exact absurd z (tkE_ne hx.1.1.2.1 (by decide))
    · have n2 : ¬ tO T n x.1.2 = 2 := fun z => a3.mpr z b3
      have n4 : ¬ 25 ≤ tW T n 32 W x.1.2 := fun z => a4.mpr z b4
      have n0 : ¬ (tO T n x.1.2 = 3 ∧ tV T n 32 x.1.2 = 40) := fun z => a0.mpr z b0
      have f7 : tW T n 32 W x.1.2 = 22 := ew.symm.trans b7
      have ex : exP (tO T n) (tV T n 32) (tW T n 32 W) (tP T n) (r + 1) x = exA 10004 (exP (tO T n) (tV T n 32) (tW T n 32 W) (tP T n) r (tkA x.1, x.2)) := by
        show (if tO T n x.1.2 = 2 then _ else if 25 ≤ tW T n 32 W x.1.2 then _ else if tO T n x.1.2 = 3 ∧ tV T n 32 x.1.2 = 40 then _ else if tW T n 32 W x.1.2 = 22 then _ else _) = _
        rw [if_neg n2, if_neg n4, if_neg n0, if_pos f7]
      rw [ex] at k
      refine ⟨2, by omega, CEK_stp hq (by omega) hx hz (by rw [tW_o (W := W) (b := 32) (by omega)]; decide) (fun h1 c1 f1 => B_Reader_part_152 hq c1.1.1.1 (by omega) ⟨4 + 6 * r, by omega, ihP xs xl _ (g + 1) h1 _ _ (d + 1) (by omega) (Nat.le_refl _) (by omega) c1 (by rw [tkA_0 hz]) (fun h2 c2 f2 => ?_)⟩)⟩
      refine B_Reader_part_160 hq c2.1.1.1 ⟨0, by omega, F_addLaw hq c2 (fun z => ?_) (fun h3 c3 f3 _ => B_Reader_part_167 hq c3.1.1.1 (k h3 ?_ ((f1.trans f2).trans f3)))⟩
      · have := (c2.2.2 z).2
        omega
      · rw [show g + 1 - 1 = g by omega] at c3
        exact c3
    · have n2 : ¬ tO T n x.1.2 = 2 := fun z => a3.mpr z b3
      have n4 : ¬ 25 ≤ tW T n 32 W x.1.2 := fun z => a4.mpr z b4
      have n0 : ¬ (tO T n x.1.2 = 3 ∧ tV T n 32 x.1.2 = 40) := fun z => a0.mpr z b0
      have n7 : ¬ tW T n 32 W x.1.2 = 22 := fun z => b7 (ew.trans z)
      have ex : exP (tO T n) (tV T n 32) (tW T n 32 W) (tP T n) (r + 1) x = (tkE (tP T n) 1 x.1, x.2) := by
        show (if tO T n x.1.2 = 2 then _ else if 25 ≤ tW T n 32 W x.1.2 then _ else if tO T n x.1.2 = 3 ∧ tV T n 32 x.1.2 = 40 then _ else if tW T n 32 W x.1.2 = 22 then _ else _) = _
        rw [if_neg n2, if_neg n4, if_neg n0, if_neg n7]
      rw [ex] at k
      refine ⟨0, by omega, F_fl hx.1 (by omega) (fun h' c1 f1 => B_Reader_part_66 hq c1.1.1 (k h' ?_ f1.E))⟩
      exact CEK_fr hq hx c1 f1 (fun z => absurd z (tkE_ne hx.1.1.2.1 (by decide)))
end CD
