/-! p3, part d2: a person's line and the law's line, as the class reads them -/
section DC
variable {xs : Nat → Int} {xl e : Nat} {h : LH} {Q : Option LV → LH → Prop} {q p v3 w1 D R : Int} {T : Int → Int} {n : Int} {W : Int → Int} {s : Int × Nat} {N ND NP : List Nat}
theorem F_personLine (he : 5 ≤ e) (hq : q = 5 ∨ q = 32) (hP : PT h) (hs : CSK T n W h s) (hz : s.1 = 0) (ho : tO T n s.2 ≠ 0) (hN : NCK T n h q ND NP) (hl : NP.length < 6) (hA : ∀ f : Nat → Bool, N.any f = (ND.any f || NP.any f)) (hR : rd h q 0 = R) (hr : 2 ≤ R ∧ R ≤ 10)
    (k : ∀ h', CSK T n W h' (tkS (tO T n) (tV T n 32) (tP T n) 59 (psL (tO T n) (tV T n 32) (tW T n 32 W) (tP T n) R N s)) → ((tkS (tO T n) (tV T n 32) (tP T n) 59 (psL (tO T n) (tV T n 32) (tW T n 32 W) (tP T n) R N s)).1 = 0 → rd h' (q + 21 + NP.length) 0 = tV T n 32 (s.2 + 1) ∧ rd h' (q + 21 + NP.length) 1 = tW T n 32 W (psA (tO T n) (tV T n 32) (tW T n 32 W) (tP T n) N s).2 - 18 ∧ rd h' (q + 21 + NP.length) 2 = tV T n 32 (psB (tO T n) (tV T n 32) (tW T n 32 W) (tP T n) N s).2 ∧ rd h' (q + 21 + NP.length) 3 = tV T n 32 (psC (tO T n) (tV T n 32) (tW T n 32 W) (tP T n) R N s).2 ∧ rd h' (q + 21 + NP.length) 4 = tV T n 32 (psD (tO T n) (tV T n 32) (tW T n 32 W) (tP T n) R N s).2) → rd h' q 4 = (NP.length : Int) + 1 → (∀ a i, ¬ muR a i → ¬ (a = q ∧ i = 4) → ¬ a = q + 21 + NP.length → rd h' a i = rd h a i) → Q none h') :
    Rn xs xl e mm_Reader_personLine 0 [some (.inr (.inr 2)), some (.inr (.inr q)), none] [] h Q := by
  have hF := hs.1.1
  have hD := hN.2.1
  refine B_Reader_personLine_0 hq hF hP ⟨fun _ => ⟨by omega, 2, by omega, F_stp (by omega) hs (fun _ => ho) (fun h1 s1 f1 => ?_)⟩, fun c => by omega⟩
  rw [hD]
  generalize ed : q + 21 + (NP.length : Int) = p at k ⊢
  have hp : q + 21 ≤ p ∧ p ≤ q + 26 := by omega
  have hd' : q + 7 ≤ p ∧ p ≤ q + 26 := by omega
  have z1 : (tkA s).1 = 0 := by rw [tkA_0 hz]
  have e1 : (tkA s).2 = s.2 + 1 := by rw [tkA_0 hz]
  have P1 : PT h1 := PT_fr hP (fun a i ha => f1 _ _ (by unfold muR; omega))
  have N1 : NCK T n h1 q ND NP := NCK_fr hN (fun a i ha => f1 _ _ (by unfold muR; omega))
  have np : ∀ i, ¬ muR p i := fun i => by unfold muR; omega
  have nq : ∀ i, ¬ muR q i := fun i => by unfold muR; omega
  have pq : p ≠ q := by omega
  have qp : q ≠ p := by omega
  have q4 : 4 < q := by omega
  have i0 : i32 0 := by unfold i32; decide
  have iR : i32 (R - 1) := by unfold i32; omega
  have bR : -2147483648 ≤ R - 1 ∧ R - 1 ≤ 2147483647 := by omega
  have he2 : 3 < e := by omega
  have hv4 := hav_qf (i := 4) hq (by decide)
  have hl2 : -2147483648 ≤ (NP.length : Int) + 1 ∧ (NP.length : Int) + 1 ≤ 2147483647 := by omega
  refine B_Reader_personLine_29 hq hp s1.1.1 ⟨3, he2, F_takeNewName (by decide) hq P1 s1 z1 N1 hA (fun h2 r2 s2 f2 q2 => ?_)⟩
  have s2' : CSK T n W h2 (psA (tO T n) (tV T n 32) (tW T n 32 W) (tP T n) N s) := s2
  refine B_Reader_personLine_35 hq hp s2.1.1 ⟨3, he2, F_takeOneOfFour (by decide) (CSK_wd s2' hq hd') (by decide) (fun h3 r3 s3 f3 _ _ q3 => ?_)⟩
  refine B_Reader_personLine_45 hq hp s3.1.1 ⟨3, he2, F_takeWord (by decide) (CSK_wd s3 hq hd') (by decide) (fun h4 s4 f4 => ?_)⟩
  have s4' : CSK T n W h4 (psB (tO T n) (tV T n 32) (tW T n 32 W) (tP T n) N s) := s4
  have R4 : rd h4 q 0 = R := by rw [f4 _ _ (nq _), rdw_ne pq, f3 _ _ (nq _), rdw_ne pq, f2 _ _ (nq _), f1 _ _ (nq _), hR]
  refine B_Reader_personLine_54 hq hp s4.1.1 ⟨by rw [R4]; exact bR, 3, he2, ?_⟩
  rw [R4]
  refine F_takeNumber (by decide) s4' ⟨i0, iR⟩ (fun h5 r5 s5 f5 _ _ q5 => ?_)
  refine B_Reader_personLine_66 hq hp s5.1.1 ⟨3, he2, F_takeWord (by decide) (CSK_wd s5 hq hd') (by decide) (fun h6 s6 f6 => ?_)⟩
  have s6' : CSK T n W h6 (psC (tO T n) (tV T n 32) (tW T n 32 W) (tP T n) R N s) := s6
  have R6 : rd h6 q 0 = R := by rw [f6 _ _ (nq _), rdw_ne pq, f5 _ _ (nq _), R4]
  refine B_Reader_personLine_75 hq hp s6.1.1 ⟨by rw [R6]; exact bR, 3, he2, ?_⟩
  rw [R6]
  refine F_takeNumber (by decide) s6' ⟨i0, iR⟩ (fun h7 r7 s7 f7 _ _ q7 => ?_)
  refine B_Reader_personLine_87 hq hp s7.1.1 ⟨3, he2, F_takeWord (by decide) (CSK_wd s7 hq hd') (by decide) (fun h8 s8 f8 => ?_)⟩
  have s8' : CSK T n W h8 (psD (tO T n) (tV T n 32) (tW T n 32 W) (tP T n) R N s) := s8
  refine B_Reader_personLine_96 hq hp s8.1.1 ⟨3, he2, F_takeNumber (by decide) s8' ⟨by unfold i32; decide, by unfold i32; decide⟩ (fun h9 r9 s9 f9 _ _ q9 => ?_)⟩
  refine B_Reader_personLine_104 hq hp s9.1.1 ⟨3, he2, F_takeSign (by decide) (CSK_wd s9 hq hd') (fun ha sa fa => ?_)⟩
  have D10 : rd ha q 4 = (NP.length : Int) := by
    rw [fa _ _ (nq _), rdw_ne pq, f9 _ _ (nq _), f8 _ _ (nq _), rdw_ne pq, f7 _ _ (nq _), f6 _ _ (nq _), rdw_ne pq, f5 _ _ (nq _), f4 _ _ (nq _), rdw_ne pq, f3 _ _ (nq _), rdw_ne pq, f2 _ _ (nq _), f1 _ _ (nq _), hD]
  refine B_Reader_personLine_113 hq hp sa.1.1 ⟨by rw [D10]; exact hl2, ?_⟩
  rw [D10]
  refine k _ (CSK_wn sa hv4 q4) (fun z => ?_) rdw_eq (fun a i n1 n2 n3 => ?_)
  · have z9 := tkS_z z
    have zD : (psD (tO T n) (tV T n 32) (tW T n 32 W) (tP T n) R N s).1 = 0 := tkN_z z9
    have z7 := tkW_z zD
    have zC : (psC (tO T n) (tV T n 32) (tW T n 32 W) (tP T n) R N s).1 = 0 := tkN_z z7
    have z5 := tkW_z zC
    have zB : (psB (tO T n) (tV T n 32) (tW T n 32 W) (tP T n) N s).1 = 0 := tkN_z z5
    have z3 := tkW_z zB
    have zA : (psA (tO T n) (tV T n 32) (tW T n 32 W) (tP T n) N s).1 = 0 := tkF_z z3
    have back : ∀ i, i ≠ 4 → rd (wr ha q 4 ((NP.length : Int) + 1)) p i = rd h8 p i := fun i hi => by
      rw [rdw_ne qp, fa _ _ (np _), rdw_nei (Ne.symm hi), f9 _ _ (np _)]
    have back2 : ∀ i, i ≠ 4 → i ≠ 3 → rd (wr ha q 4 ((NP.length : Int) + 1)) p i = rd h6 p i := fun i hi h3 => by
      rw [back i hi, f8 _ _ (np _), rdw_nei (Ne.symm h3), f7 _ _ (np _)]
    have back3 : ∀ i, i ≠ 4 → i ≠ 3 → i ≠ 2 → rd (wr ha q 4 ((NP.length : Int) + 1)) p i = rd h4 p i := fun i hi h3 h2 => by
      rw [back2 i hi h3, f6 _ _ (np _), rdw_nei (Ne.symm h2), f5 _ _ (np _)]
    refine ⟨?_, ?_, ?_, ?_, ?_⟩
    · rw [back3 0 (by decide) (by decide) (by decide), f4 _ _ (np _), rdw_nei (by decide), f3 _ _ (np _), rdw_eq, q2 zA, e1]
    · rw [back3 1 (by decide) (by decide) (by decide), f4 _ _ (np _), rdw_eq]
      exact q3 z3
    · rw [back2 2 (by decide) (by decide), f6 _ _ (np _), rdw_eq]
      exact (q5 z5).1
    · rw [back 3 (by decide), f8 _ _ (np _), rdw_eq]
      exact (q7 z7).1
    · rw [rdw_ne qp, fa _ _ (np _), rdw_eq]
      exact (q9 z9).1
  · rw [rd_wr, if_neg (fun z => n2 ⟨z.1.symm, z.2.symm⟩), fa a i n1, rd_wr, if_neg (fun z => n3 z.1.symm), f9 a i n1, f8 a i n1, rd_wr, if_neg (fun z => n3 z.1.symm), f7 a i n1, f6 a i n1, rd_wr, if_neg (fun z => n3 z.1.symm), f5 a i n1, f4 a i n1, rd_wr, if_neg (fun z => n3 z.1.symm), f3 a i n1, rd_wr, if_neg (fun z => n3 z.1.symm), f2 a i n1, f1 a i n1]
theorem F_letLine (he : 40 ≤ e) (hq : q = 5 ∨ q = 32) (hs : CSK T n W h s) (hz : s.1 = 0) (ho : tO T n s.2 ≠ 0) (hL : rd h q 6 = 0)
    (k : ∀ h', CSK T n W h' (tkS (tO T n) (tV T n 32) (tP T n) 59 (qX (tO T n) (tV T n 32) (tW T n 32 W) (tP T n) s).1) → ((tkS (tO T n) (tV T n 32) (tP T n) 59 (qX (tO T n) (tV T n 32) (tW T n 32 W) (tP T n) s).1).1 = 0 → LWK h' q (qX (tO T n) (tV T n 32) (tW T n 32 W) (tP T n) s).2) → frE q h h' → Q none h') :
    Rn xs xl e mm_Reader_letLine 0 [some (.inr (.inr 2)), some (.inr (.inr q))] [] h Q := by
  have hF := hs.1.1
  have lt := tO_lt (T := T) hs.1.2.1.2.2.2 hs.1.2.1.2.2.1 ho
  have z1 : (tkA s).1 = 0 := by rw [tkA_0 hz]
  have e1 : (tkA s).2 = s.2 + 1 := by rw [tkA_0 hz]
  refine B_Reader_letLine_0 hq hF ⟨fun _ => ⟨2, by omega, F_stp (by omega) hs (fun _ => ho) (fun h1 s1 f1 => ?_)⟩, fun c => by omega⟩
  have L1 : rd h1 q 6 = 0 := by rw [f1 _ _ (by unfold muR; omega), hL]
  have x1 : CEK T n W q 0 h1 (tkA s, []) := ⟨s1, by omega, fun _ => ⟨⟨L1, fun i hi => absurd hi (Nat.not_lt_zero i)⟩, by show (0 : Int) + 0 ≤ ((tkA s).2 : Int); omega, by show (tkA s).2 ≤ 1000; omega⟩⟩
  refine B_Reader_letLine_17 hq s1.1.1 ⟨39, by omega, F_expr hq (by omega) (F_part hq 5 (by omega)) 4 (by omega) xs xl 39 0 h1 (tkA s, []) _ 0 0 (by decide) (by decide) (by decide) (by decide) x1 z1 (fun h2 x2 f2 => ?_)⟩
  have s2 : CSK T n W h2 (qX (tO T n) (tV T n 32) (tW T n 32 W) (tP T n) s).1 := x2.1
  have l2 : (qX (tO T n) (tV T n 32) (tW T n 32 W) (tP T n) s).1.1 = 0 → LWK h2 q (qX (tO T n) (tV T n 32) (tW T n 32 W) (tP T n) s).2 := fun z => (x2.2.2 z).1
  refine B_Reader_letLine_24 hq s2.1.1 ⟨3, by omega, F_takeSign (by omega) s2 (fun h3 s3 f3 => B_Reader_letLine_30 hq s3.1.1 (k h3 s3 (fun z => ?_) ((f1.E.trans f2).trans f3.E)))⟩
  obtain ⟨l3, l4⟩ := l2 (tkS_z z)
  exact ⟨(f3 _ _ (by unfold muR; omega)).trans l3, fun i hi => (f3 _ _ (by unfold muR; omega)).trans (l4 i hi)⟩
end DC
