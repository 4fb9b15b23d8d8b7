/-! p3, part d1: a door's line, as the class reads it -/
section DB
variable {xs : Nat → Int} {xl e : Nat} {h : LH} {Q : Option LV → LH → Prop} {q d v3 w1 D : Int} {T : Int → Int} {n : Int} {W : Int → Int} {s : Int × Nat} {N ND NP : List Nat}
theorem F_drT4 (he : 4 ≤ e) (hq : q = 5 ∨ q = 32) (hd : q + 7 ≤ d ∧ d ≤ q + 20) (hs : CSK T n W h s) (hD : rd h q 2 = D) (hDb : 0 ≤ D ∧ D < 14)
    (k : ∀ h', CSK T n W h' (tkS (tO T n) (tV T n 32) (tP T n) 59 (opN (tO T n) (tV T n 32) (tW T n 32 W) (tP T n) 6 0 9 s)) → ((tkS (tO T n) (tV T n 32) (tP T n) 59 (opN (tO T n) (tV T n 32) (tW T n 32 W) (tP T n) 6 0 9 s)).1 = 0 → rd h' d 8 = opV (tV T n 32) (tW T n 32 W) 6 0 s) → rd h' q 2 = D + 1 → rd h' d 7 = w1 → (∀ a i, ¬ muR a i → ¬ (a = q ∧ i = 2) → ¬ (a = d ∧ 7 ≤ i) → rd h' a i = rd h a i) → Q none h') :
    Rn xs xl e mm_Reader_doorLine 185 [some (.inr (.inr 2)), some (.inr (.inr q)), some (.inr (.inr d)), some (.inl v3)] [.inl w1, .inr (.inr d)] h Q := by
  have hd' : q + 7 ≤ d ∧ d ≤ q + 26 := by omega
  have fin : ∀ h2 r, CSK T n W h2 (opN (tO T n) (tV T n 32) (tW T n 32 W) (tP T n) 6 0 9 s) → frK (wr h d 7 w1) h2 → ((opN (tO T n) (tV T n 32) (tW T n 32 W) (tP T n) 6 0 9 s).1 = 0 → r = opV (tV T n 32) (tW T n 32 W) 6 0 s) → Rn xs xl e mm_Reader_doorLine 209 [some (.inr (.inr 2)), some (.inr (.inr q)), some (.inr (.inr d)), some (.inl v3)] [.inl r, .inr (.inr d)] h2 Q := by
    intro h2 r c2 f2 q2
    refine B_Reader_doorLine_209 hq hd c2.1.1 ⟨3, by omega, F_takeSign (by omega) (CSK_wd c2 hq hd') (fun h3 c3 f3 => ?_)⟩
    have D3 : rd h3 q 2 = D := by rw [f3 _ _ (by unfold muR; omega), rdw_ne (by omega), f2 _ _ (by unfold muR; omega), rdw_ne (by omega), hD]
    refine B_Reader_doorLine_218 hq hd c3.1.1 ⟨by omega, ?_⟩
    rw [D3]
    refine k _ (CSK_wn c3 (hav_qf hq (by omega)) (by omega)) (fun z => ?_) rdw_eq ?_ (fun a i n1 n2 n3 => ?_)
    · rw [rdw_ne (by omega), f3 _ _ (by unfold muR; omega), rdw_eq]
      exact q2 (tkS_z z)
    · rw [rdw_ne (by omega), f3 _ _ (by unfold muR; omega), rdw_nei (by decide), f2 _ _ (by unfold muR; omega), rdw_eq]
    · rw [rd_wr, if_neg (fun z => n2 (by omega)), f3 a i n1, rd_wr, if_neg (fun z => n3 (by omega)), f2 a i n1, rd_wr, if_neg (fun z => n3 (by omega))]
  refine B_Reader_doorLine_185 hq hd hs.1.1 ⟨3, by omega, F_skipWord (by omega) (CSK_wd hs hq hd') (by decide) (fun h1 s1 f1 => ?_)⟩
  by_cases b : tkB (tW T n 32 W) 6 s = true
  · rw [if_pos b] at s1 ⊢
    refine B_Reader_doorLine_195 hq hd s1.1.1 ⟨fun c => absurd c (by decide), fun _ => ⟨3, by omega, F_takeNumber (by omega) s1 ⟨by unfold i32; omega, by unfold i32; omega⟩ (fun h2 r s2 f2 _ _ q2 => B_Reader_doorLine_205 hq hd s2.1.1 (fin h2 r ?_ (f1.trans f2) ?_))⟩⟩
    · unfold opN; rw [if_pos b]; exact s2
    · unfold opN opV; rw [if_pos b, if_pos b]; exact fun z => (q2 z).1
  · rw [if_neg b] at s1 ⊢
    refine B_Reader_doorLine_195 hq hd s1.1.1 ⟨fun _ => fin h1 0 ?_ f1 ?_, fun c => absurd rfl c⟩
    · unfold opN; rw [if_neg b]; exact s1
    · unfold opV; rw [if_neg b]; exact fun _ => rfl
theorem F_drT3 (he : 4 ≤ e) (hq : q = 5 ∨ q = 32) (hd : q + 7 ≤ d ∧ d ≤ q + 20) (hs : CSK T n W h s) (hD : rd h q 2 = D) (hDb : 0 ≤ D ∧ D < 14)
    (k : ∀ h', CSK T n W h' (tkS (tO T n) (tV T n 32) (tP T n) 59 (opN (tO T n) (tV T n 32) (tW T n 32 W) (tP T n) 6 0 9 (opN (tO T n) (tV T n 32) (tW T n 32 W) (tP T n) 5 1 9 s))) → ((tkS (tO T n) (tV T n 32) (tP T n) 59 (opN (tO T n) (tV T n 32) (tW T n 32 W) (tP T n) 6 0 9 (opN (tO T n) (tV T n 32) (tW T n 32 W) (tP T n) 5 1 9 s))).1 = 0 → rd h' d 7 = opV (tV T n 32) (tW T n 32 W) 5 1 s ∧ rd h' d 8 = opV (tV T n 32) (tW T n 32 W) 6 0 (opN (tO T n) (tV T n 32) (tW T n 32 W) (tP T n) 5 1 9 s)) → rd h' q 2 = D + 1 → rd h' d 6 = w1 → (∀ a i, ¬ muR a i → ¬ (a = q ∧ i = 2) → ¬ (a = d ∧ 6 ≤ i) → rd h' a i = rd h a i) → Q none h') :
    Rn xs xl e mm_Reader_doorLine 162 [some (.inr (.inr 2)), some (.inr (.inr q)), some (.inr (.inr d)), some (.inl v3)] [.inl w1, .inr (.inr d)] h Q := by
  have hd' : q + 7 ≤ d ∧ d ≤ q + 26 := by omega
  have fin : ∀ h2 r, CSK T n W h2 (opN (tO T n) (tV T n 32) (tW T n 32 W) (tP T n) 5 1 9 s) → frK (wr h d 6 w1) h2 → ((opN (tO T n) (tV T n 32) (tW T n 32 W) (tP T n) 5 1 9 s).1 = 0 → r = opV (tV T n 32) (tW T n 32 W) 5 1 s) → Rn xs xl e mm_Reader_doorLine 185 [some (.inr (.inr 2)), some (.inr (.inr q)), some (.inr (.inr d)), some (.inl v3)] [.inl r, .inr (.inr d)] h2 Q := by
    intro h2 r c2 f2 q2
    refine F_drT4 he hq hd c2 (D := D) (by rw [f2 _ _ (by unfold muR; omega), rdw_ne (by omega), hD]) hDb (fun h3 c3 q3 d3 w3 f3 => ?_)
    refine k h3 c3 (fun z => ⟨w3.trans (q2 (opN_z (tkS_z z))), q3 z⟩) d3 ?_ (fun a i n1 n2 n3 => ?_)
    · rw [f3 _ _ (by unfold muR; omega) (by omega) (by omega), f2 _ _ (by unfold muR; omega), rdw_eq]
    · rw [f3 a i n1 n2 (fun z => n3 (by omega)), f2 a i n1, rd_wr, if_neg (fun z => n3 (by omega))]
  refine B_Reader_doorLine_162 hq hd hs.1.1 ⟨3, by omega, F_skipWord (by omega) (CSK_wd hs hq hd') (by decide) (fun h1 s1 f1 => ?_)⟩
  by_cases b : tkB (tW T n 32 W) 5 s = true
  · rw [if_pos b] at s1 ⊢
    refine B_Reader_doorLine_171 hq hd s1.1.1 ⟨fun c => absurd c (by decide), fun _ => ⟨3, by omega, F_takeNumber (by omega) s1 ⟨by unfold i32; omega, by unfold i32; omega⟩ (fun h2 r s2 f2 _ _ q2 => B_Reader_doorLine_181 hq hd s2.1.1 (fin h2 r ?_ (f1.trans f2) ?_))⟩⟩
    · unfold opN; rw [if_pos b]; exact s2
    · unfold opN opV; rw [if_pos b, if_pos b]; exact fun z => (q2 z).1
  · rw [if_neg b] at s1 ⊢
    refine B_Reader_doorLine_171 hq hd s1.1.1 ⟨fun _ => fin h1 1 ?_ f1 ?_, fun c => absurd rfl c⟩
    · unfold opN; rw [if_neg b]; exact s1
    · unfold opV; rw [if_neg b]; exact fun _ => rfl
theorem F_drT2 (he : 4 ≤ e) (hq : q = 5 ∨ q = 32) (hd : q + 7 ≤ d ∧ d ≤ q + 20) (hs : CSK T n W h s) (hD : rd h q 2 = D) (hDb : 0 ≤ D ∧ D < 14)
    (k : ∀ h', CSK T n W h' (tkS (tO T n) (tV T n 32) (tP T n) 59 (opN (tO T n) (tV T n 32) (tW T n 32 W) (tP T n) 6 0 9 (opN (tO T n) (tV T n 32) (tW T n 32 W) (tP T n) 5 1 9 (opS (tW T n 32 W) (tP T n) s)))) → ((tkS (tO T n) (tV T n 32) (tP T n) 59 (opN (tO T n) (tV T n 32) (tW T n 32 W) (tP T n) 6 0 9 (opN (tO T n) (tV T n 32) (tW T n 32 W) (tP T n) 5 1 9 (opS (tW T n 32 W) (tP T n) s)))).1 = 0 → rd h' d 6 = opT (tW T n 32 W) s ∧ rd h' d 7 = opV (tV T n 32) (tW T n 32 W) 5 1 (opS (tW T n 32 W) (tP T n) s) ∧ rd h' d 8 = opV (tV T n 32) (tW T n 32 W) 6 0 (opN (tO T n) (tV T n 32) (tW T n 32 W) (tP T n) 5 1 9 (opS (tW T n 32 W) (tP T n) s))) → rd h' q 2 = D + 1 → rd h' d 5 = w1 → (∀ a i, ¬ muR a i → ¬ (a = q ∧ i = 2) → ¬ (a = d ∧ 5 ≤ i) → rd h' a i = rd h a i) → Q none h') :
    Rn xs xl e mm_Reader_doorLine 140 [some (.inr (.inr 2)), some (.inr (.inr q)), some (.inr (.inr d)), some (.inl v3)] [.inl w1, .inr (.inr d)] h Q := by
  have hd' : q + 7 ≤ d ∧ d ≤ q + 26 := by omega
  have fin : ∀ h2 r, CSK T n W h2 (opS (tW T n 32 W) (tP T n) s) → frK (wr h d 5 w1) h2 → ((opS (tW T n 32 W) (tP T n) s).1 = 0 → r = opT (tW T n 32 W) s) → Rn xs xl e mm_Reader_doorLine 162 [some (.inr (.inr 2)), some (.inr (.inr q)), some (.inr (.inr d)), some (.inl v3)] [.inl r, .inr (.inr d)] h2 Q := by
    intro h2 r c2 f2 q2
    refine F_drT3 he hq hd c2 (D := D) (by rw [f2 _ _ (by unfold muR; omega), rdw_ne (by omega), hD]) hDb (fun h3 c3 q3 d3 w3 f3 => ?_)
    refine k h3 c3 (fun z => ⟨w3.trans (q2 (opN_z (opN_z (tkS_z z)))), q3 z⟩) d3 ?_ (fun a i n1 n2 n3 => ?_)
    · rw [f3 _ _ (by unfold muR; omega) (by omega) (by omega), f2 _ _ (by unfold muR; omega), rdw_eq]
    · rw [f3 a i n1 n2 (fun z => n3 (by omega)), f2 a i n1, rd_wr, if_neg (fun z => n3 (by omega))]
  refine B_Reader_doorLine_140 hq hd hs.1.1 ⟨3, by omega, F_skipWord (by omega) (CSK_wd hs hq hd') (by decide) (fun h1 s1 f1 => ?_)⟩
  by_cases b : tkB (tW T n 32 W) 4 s = true
  · rw [if_pos b] at s1 ⊢
    refine B_Reader_doorLine_149 hq hd s1.1.1 ⟨fun c => absurd c (by decide), fun _ => ⟨3, by omega, F_takeOneOfFour (by omega) s1 (by omega) (fun h2 r s2 f2 _ _ q2 => B_Reader_doorLine_158 hq hd s2.1.1 (fin h2 r ?_ (f1.trans f2) ?_))⟩⟩
    · unfold opS; rw [if_pos b]; exact s2
    · unfold opS opT; rw [if_pos b, if_pos b]; exact q2
  · rw [if_neg b] at s1 ⊢
    refine B_Reader_doorLine_149 hq hd s1.1.1 ⟨fun _ => fin h1 (-1) ?_ f1 ?_, fun c => absurd rfl c⟩
    · unfold opS; rw [if_neg b]; exact s1
    · unfold opT; rw [if_neg b]; exact fun _ => rfl
/-- what stands in a door's places 4 .. 8 -/
def drFc (T : Int → Int) (n : Int) (W : Int → Int) (h' : LH) (d : Int) (s : Int × Nat) : Prop :=
  rd h' d 4 = opV (tV T n 32) (tW T n 32 W) 3 0 s ∧ rd h' d 5 = opC (tO T n) (tV T n 32) (tW T n 32 W) (tP T n) s ∧ rd h' d 6 = opT (tW T n 32 W) (opF (tO T n) (tV T n 32) (tW T n 32 W) (tP T n) s) ∧ rd h' d 7 = opV (tV T n 32) (tW T n 32 W) 5 1 (opS (tW T n 32 W) (tP T n) (opF (tO T n) (tV T n 32) (tW T n 32 W) (tP T n) s)) ∧ rd h' d 8 = opV (tV T n 32) (tW T n 32 W) 6 0 (opN (tO T n) (tV T n 32) (tW T n 32 W) (tP T n) 5 1 9 (opS (tW T n 32 W) (tP T n) (opF (tO T n) (tV T n 32) (tW T n 32 W) (tP T n) s)))
theorem F_drT1 (he : 4 ≤ e) (hq : q = 5 ∨ q = 32) (hd : q + 7 ≤ d ∧ d ≤ q + 20) (hs : CSK T n W h (if tkB (tW T n 32 W) 3 s = true then tkA s else s)) (hD : rd h q 2 = D) (hDb : 0 ≤ D ∧ D < 14)
    (k : ∀ h', CSK T n W h' (tkS (tO T n) (tV T n 32) (tP T n) 59 (opL (tO T n) (tV T n 32) (tW T n 32 W) (tP T n) s)) → ((tkS (tO T n) (tV T n 32) (tP T n) 59 (opL (tO T n) (tV T n 32) (tW T n 32 W) (tP T n) s)).1 = 0 → drFc T n W h' d s) → rd h' q 2 = D + 1 → (∀ a i, ¬ muR a i → ¬ (a = q ∧ i = 2) → ¬ (a = d ∧ 4 ≤ i) → rd h' a i = rd h a i) → Q none h') :
    Rn xs xl e mm_Reader_doorLine 89 [some (.inr (.inr 2)), some (.inr (.inr q)), some (.inr (.inr d)), none] [.inl (if tkB (tW T n 32 W) 3 s = true then 1 else 0)] h Q := by
  have hd' : q + 7 ≤ d ∧ d ≤ q + 26 := by omega
  have fin : ∀ h2 h1 r c, CSK T n W h2 (opF (tO T n) (tV T n 32) (tW T n 32 W) (tP T n) s) → frK (wr h1 d 4 r) h2 → frK h h1 → ((opF (tO T n) (tV T n 32) (tW T n 32 W) (tP T n) s).1 = 0 → r = opV (tV T n 32) (tW T n 32 W) 3 0 s ∧ c = opC (tO T n) (tV T n 32) (tW T n 32 W) (tP T n) s) → ∀ v3, Rn xs xl e mm_Reader_doorLine 140 [some (.inr (.inr 2)), some (.inr (.inr q)), some (.inr (.inr d)), some (.inl v3)] [.inl c, .inr (.inr d)] h2 Q := by
    intro h2 h1 r c c2 f2 f1 q2 v3
    refine F_drT2 he hq hd c2 (D := D) (by rw [f2 _ _ (by unfold muR; omega), rdw_ne (by omega), f1 _ _ (by unfold muR; omega), hD]) hDb (fun h3 c3 q3 d3 w3 f3 => ?_)
    refine k h3 c3 (fun z => ⟨?_, w3.trans (q2 (opS_z (opN_z (opN_z (tkS_z z))))).2, q3 z⟩) d3 (fun a i n1 n2 n3 => ?_)
    · rw [f3 _ _ (by unfold muR; omega) (by omega) (by omega), f2 _ _ (by unfold muR; omega), rdw_eq]
      exact (q2 (opS_z (opN_z (opN_z (tkS_z z))))).1
    · rw [f3 a i n1 n2 (fun z => n3 (by omega)), f2 a i n1, rd_wr, if_neg (fun z => n3 (by omega)), f1 a i n1]
  by_cases b : tkB (tW T n 32 W) 3 s = true
  · rw [if_pos b] at hs ⊢
    refine B_Reader_doorLine_89 hq hd hs.1.1 ⟨fun c => absurd c (by decide), fun _ => ⟨3, by omega, F_takeNumber (by omega) hs ⟨by unfold i32; omega, by unfold i32; omega⟩ (fun h1 r s1 f1 r0 r1 q1 => B_Reader_doorLine_102 hq hd s1.1.1 ?_)⟩⟩
    refine B_Reader_doorLine_106 hq hd s1.1.1 ⟨fun c => absurd c (by decide), fun _ => ⟨3, by omega, F_takeWord (by omega) (CSK_wd s1 hq hd') (by decide) (fun h2 s2 f2 => ?_)⟩⟩
    have er : rd h2 d 4 = r := by rw [f2 _ _ (by unfold muR; omega), rdw_eq]
    refine B_Reader_doorLine_118 hq hd s2.1.1 ⟨fun c => absurd c (by decide), fun _ => ⟨by rw [er]; omega, 3, by omega, ?_⟩⟩
    rw [er]
    refine F_takeNumber (by omega) s2 ⟨by unfold i32; omega, by unfold i32; omega⟩ (fun h3 c s3 f3 _ _ q3 => B_Reader_doorLine_135 hq hd s3.1.1 (fin h3 h1 r c ?_ (f2.trans f3) f1 ?_ _))
    · by_cases z : (tkN (tO T n) (tV T n 32) (tP T n) 0 23 (tkA s)).1 = 0
      · unfold opF opE; rw [if_pos b, if_pos b, ← (q1 z).1]; exact s3
      · unfold opF opE; rw [if_pos b, if_pos b]; rw [tkW_f z, tkN_f z] at s3 ⊢; exact s3
    · intro z
      have b' : (opF (tO T n) (tV T n 32) (tW T n 32 W) (tP T n) s) = tkN (tO T n) (tV T n 32) (tP T n) (tV T n 32 (tkA s).2 + 1) 24 (tkW (tW T n 32 W) (tP T n) 2 (tkN (tO T n) (tV T n 32) (tP T n) 0 23 (tkA s))) := by
        unfold opF opE; rw [if_pos b, if_pos b]
      rw [b'] at z
      have z1 := tkW_z (tkN_z z)
      have e1 := (q1 z1).1
      rw [← e1] at z
      refine ⟨?_, ?_⟩
      · unfold opV; rw [if_pos b]; exact e1
      · unfold opC opE; rw [if_pos b, if_pos b]; exact (q3 z).1
  · rw [if_neg b] at hs ⊢
    refine B_Reader_doorLine_89 hq hd hs.1.1 ⟨fun _ => ?_, fun c => absurd rfl c⟩
    refine B_Reader_doorLine_106 hq hd hs.1.1 ⟨fun _ => ?_, fun c => absurd rfl c⟩
    refine B_Reader_doorLine_118 hq hd (CSK_wd hs hq hd').1.1 ⟨fun _ => fin _ h 0 24 ?_ frK.refl frK.refl (fun _ => ⟨?_, ?_⟩) _, fun c => absurd rfl c⟩
    · unfold opF; rw [if_neg b]; exact CSK_wd hs hq hd'
    · unfold opV; rw [if_neg b]
    · unfold opC; rw [if_neg b]
theorem F_doorLine (he : 5 ≤ e) (hq : q = 5 ∨ q = 32) (hP : PT h) (hs : CSK T n W h s) (hz : s.1 = 0) (ho : tO T n s.2 ≠ 0) (hN : NCK T n h q ND NP) (hl : ND.length < 14) (hA : ∀ f : Nat → Bool, N.any f = (ND.any f || NP.any f)) {R : Int} (hR : rd h q 0 = R) (hr : 2 ≤ R ∧ R ≤ 10)
    (k : ∀ h', CSK T n W h' (tkS (tO T n) (tV T n 32) (tP T n) 59 (drL (tO T n) (tV T n 32) (tW T n 32 W) (tP T n) R N s)) → ((tkS (tO T n) (tV T n 32) (tP T n) 59 (drL (tO T n) (tV T n 32) (tW T n 32 W) (tP T n) R N s)).1 = 0 → rd h' (q + 7 + ND.length) 0 = tV T n 32 (s.2 + 1) ∧ rd h' (q + 7 + ND.length) 1 = tW T n 32 W (drC (tO T n) (tV T n 32) (tW T n 32 W) (tP T n) R N s).2 - 14 ∧ rd h' (q + 7 + ND.length) 2 = tV T n 32 (drA (tO T n) (tV T n 32) (tW T n 32 W) (tP T n) N s).2 ∧ rd h' (q + 7 + ND.length) 3 = tV T n 32 (drB (tO T n) (tV T n 32) (tW T n 32 W) (tP T n) R N s).2 ∧ drFc T n W h' (q + 7 + ND.length) (drD (tO T n) (tV T n 32) (tW T n 32 W) (tP T n) R N s)) → rd h' q 2 = (ND.length : Int) + 1 → (∀ a i, ¬ muR a i → ¬ (a = q ∧ i = 2) → ¬ a = q + 7 + ND.length → rd h' a i = rd h a i) → Q none h') :
    Rn xs xl e mm_Reader_doorLine 0 [some (.inr (.inr 2)), some (.inr (.inr q)), none, none] [] h Q := by
  have hF := hs.1.1
  have hD := hN.1
  refine B_Reader_doorLine_0 hq hF hP ⟨fun _ => ⟨by omega, 2, by omega, F_stp (by omega) hs (fun _ => ho) (fun h1 s1 f1 => ?_)⟩, fun c => by omega⟩
  rw [hD]
  generalize ed : q + 7 + (ND.length : Int) = d at k ⊢
  have hd : q + 7 ≤ d ∧ d ≤ q + 20 := by omega
  have hd' : q + 7 ≤ d ∧ d ≤ q + 26 := by omega
  have z1 : (tkA s).1 = 0 := by rw [tkA_0 hz]
  have e1 : (tkA s).2 = s.2 + 1 := by rw [tkA_0 hz]
  have P1 : PT h1 := PT_fr hP (fun a i ha => f1 _ _ (by unfold muR; omega))
  have N1 : NCK T n h1 q ND NP := NCK_fr hN (fun a i ha => f1 _ _ (by unfold muR; omega))
  refine B_Reader_doorLine_29 hq hd s1.1.1 ⟨3, by omega, F_takeNewName (by omega) hq P1 s1 z1 N1 hA (fun h2 r2 s2 f2 q2 => ?_)⟩
  have s2' : CSK T n W h2 (drA (tO T n) (tV T n 32) (tW T n 32 W) (tP T n) N s) := s2
  have R2 : rd h2 q 0 = R := by rw [f2 _ _ (by unfold muR; omega), f1 _ _ (by unfold muR; omega), hR]
  refine B_Reader_doorLine_35 hq hd s2.1.1 ⟨by omega, 3, by omega, ?_⟩
  rw [R2]
  refine F_takeNumber (by omega) (CSK_wd s2' hq hd') ⟨by unfold i32; omega, by unfold i32; omega⟩ (fun h3 r3 s3 f3 l3 u3 q3 => ?_)
  refine B_Reader_doorLine_50 hq hd s3.1.1 ⟨3, by omega, F_takeWord (by omega) (CSK_wd s3 hq hd') (by decide) (fun h4 s4 f4 => ?_)⟩
  have s4' : CSK T n W h4 (drB (tO T n) (tV T n 32) (tW T n 32 W) (tP T n) R N s) := s4
  have r4 : rd h4 d 2 = r3 := by rw [f4 _ _ (by unfold muR; omega), rdw_eq]
  have R4 : rd h4 q 0 = R := by rw [f4 _ _ (by unfold muR; omega), rdw_ne (by omega), f3 _ _ (by unfold muR; omega), rdw_ne (by omega), R2]
  refine B_Reader_doorLine_58 hq hd s4.1.1 ⟨4, by omega, ?_⟩
  rw [r4, R4]
  refine F_takeOtherRoom (by omega) s4' (by omega) (by omega) (fun h5 r5 s5 f5 _ _ q5 => ?_)
  have eC : tkR (tO T n) (tV T n 32) (tP T n) r3 R (drB (tO T n) (tV T n 32) (tW T n 32 W) (tP T n) R N s) = (drC (tO T n) (tV T n 32) (tW T n 32 W) (tP T n) R N s) := by
    unfold drC
    by_cases z : (drB (tO T n) (tV T n 32) (tW T n 32 W) (tP T n) R N s).1 = 0
    · rw [(q3 (tkW_z z)).1]
    · rw [tkR_f z, tkR_f z]
  rw [eC] at s5 q5
  refine B_Reader_doorLine_71 hq hd s5.1.1 ⟨3, by omega, F_takeOneOfFour (by omega) (CSK_wd s5 hq hd') (by omega) (fun h6 r6 s6 f6 _ _ q6 => ?_)⟩
  have s6' : CSK T n W h6 (drD (tO T n) (tV T n 32) (tW T n 32 W) (tP T n) R N s) := s6
  refine B_Reader_doorLine_81 hq hd s6.1.1 ⟨3, by omega, F_skipWord (by omega) (CSK_wd s6' hq hd') (by decide) (fun h7 s7 f7 => ?_)⟩
  have D7 : rd h7 q 2 = (ND.length : Int) := by
    rw [f7 _ _ (by unfold muR; omega), rdw_ne (by omega), f6 _ _ (by unfold muR; omega), rdw_ne (by omega), f5 _ _ (by unfold muR; omega), f4 _ _ (by unfold muR; omega), rdw_ne (by omega), f3 _ _ (by unfold muR; omega), rdw_ne (by omega), f2 _ _ (by unfold muR; omega), f1 _ _ (by unfold muR; omega), hD]
  refine F_drT1 (by omega) hq hd s7 D7 (by omega) (fun h8 s8 q8 d8 f8 => k h8 s8 (fun z => ?_) d8 (fun a i n1 n2 n3 => ?_))
  · have zD : (drD (tO T n) (tV T n 32) (tW T n 32 W) (tP T n) R N s).1 = 0 := opL_z (tkS_z z)
    have zC : (drC (tO T n) (tV T n 32) (tW T n 32 W) (tP T n) R N s).1 = 0 := tkF_z zD
    have zB : (drB (tO T n) (tV T n 32) (tW T n 32 W) (tP T n) R N s).1 = 0 := tkR_z zC
    have zN := tkW_z zB
    have zA : (drA (tO T n) (tV T n 32) (tW T n 32 W) (tP T n) N s).1 = 0 := tkN_z zN
    refine ⟨?_, ?_, ?_, ?_, q8 z⟩
    · rw [f8 _ _ (by unfold muR; omega) (by omega) (by omega), f7 _ _ (by unfold muR; omega), rdw_nei (by decide), f6 _ _ (by unfold muR; omega), rdw_nei (by decide), f5 _ _ (by unfold muR; omega), f4 _ _ (by unfold muR; omega), rdw_nei (by decide), f3 _ _ (by unfold muR; omega), rdw_eq, q2 zA, e1]
    · rw [f8 _ _ (by unfold muR; omega) (by omega) (by omega), f7 _ _ (by unfold muR; omega), rdw_eq]
      exact q6 zD
    · rw [f8 _ _ (by unfold muR; omega) (by omega) (by omega), f7 _ _ (by unfold muR; omega), rdw_nei (by decide), f6 _ _ (by unfold muR; omega), rdw_nei (by decide), f5 _ _ (by unfold muR; omega), r4]
      exact (q3 zN).1
    · rw [f8 _ _ (by unfold muR; omega) (by omega) (by omega), f7 _ _ (by unfold muR; omega), rdw_nei (by decide), f6 _ _ (by unfold muR; omega), rdw_eq]
      exact (q5 zC).1
  · rw [f8 a i n1 n2 (fun z => n3 z.1), f7 a i n1, rd_wr, if_neg (fun z => n3 z.1.symm), f6 a i n1, rd_wr, if_neg (fun z => n3 z.1.symm), f5 a i n1, f4 a i n1, rd_wr, if_neg (fun z => n3 z.1.symm), f3 a i n1, rd_wr, if_neg (fun z => n3 z.1.symm), f2 a i n1, f1 a i n1]
end DB
