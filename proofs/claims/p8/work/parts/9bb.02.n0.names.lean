/-! days, part n0: the reference's names with what they name -/
def CDK (h : LH) (C : List Int) : Prop := rd h 182 19 = (C.length : Int) ∧ ∀ i : Nat, i < C.length → rd h 194 i = C.getD i 0
theorem CDK_fr {h h' : LH} {C : List Int} (hC : CDK h C) (e1 : rd h' 182 19 = rd h 182 19) (e2 : ∀ i, rd h' 194 i = rd h 194 i) : CDK h' C := ⟨e1.trans hC.1, fun i hi => (e2 i).trans (hC.2 i hi)⟩
theorem CDK_T {h h' : LH} {C : List Int} (hC : CDK h C) (hf : frT h h') : CDK h' C := CDK_fr hC (hf _ _ (by unfold muTK; omega)) (fun i => hf _ _ (by unfold muTK; omega))
theorem getI_l {L : List Int} {x : Int} {i : Nat} (hi : i < L.length) : (L ++ [x]).getD i 0 = L.getD i 0 := by
  rw [List.getD_eq_getElem?_getD, List.getD_eq_getElem?_getD, List.getElem?_append_left hi]
theorem getI_e {L : List Int} {x : Int} : (L ++ [x]).getD L.length 0 = x := by
  rw [List.getD_eq_getElem?_getD, List.getElem?_append_right (Nat.le_refl _), Nat.sub_self]
  rfl
section NA
variable {xs : Nat → Int} {xl e : Nat} {h : LH} {Q : Option LV → LH → Prop} {v1 v2 v3 v4 w2 D R : Int} {T : Int → Int} {n : Int} {V : Int → Int} {m : Nat} {s : Int × Nat} {N : List Nat} {C : List Int}
theorem G_readNameC (he : 3 ≤ e) (hs : RSK T n V m h s) (hz : s.1 = 0) (ho : tO T n s.2 ≠ 0) (hN : NRK T n h N) (hC : CDK h C) (hl : N.length < 20) (hw : 0 ≤ v1)
    (k : ∀ h', RSK T n V m h' (tkM (tO T n) (tV T n 37) (tW T n 37 V) (tP T n) N (tkA s)) → ((tkM (tO T n) (tV T n 37) (tW T n 37 V) (tP T n) N (tkA s)).1 = 0 → NRK T n h' (N ++ [s.2 + 1]) ∧ CDK h' (C ++ [v1])) → frNK h h' → Q none h') :
    Rn xs xl e mm_readName 0 [some (.inr (.inr 182)), some (.inl v1)] [] h Q := by
  have a7 := hs.2.2.2.1
  have h1s := RS_adv hs hz ho
  have hN1 : NRK T n (wr h 182 7 (rd h 182 7 + 1)) N := NRK_T hN fr7
  have hC1 : CDK (wr h 182 7 (rd h 182 7 + 1)) C := CDK_T hC fr7
  have f1 : frNK h (wr h 182 7 (rd h 182 7 + 1)) := fr7.N
  have z1 : (tkA s).1 = 0 := by rw [tkA_0 hz]
  have k2 : (tkA s).2 = s.2 + 1 := by rw [tkA_0 hz]
  refine B_readName_0 hs.1.1 ⟨by omega, 2, by omega, ?_⟩
  generalize wr h 182 7 (rd h 182 7 + 1) = g at h1s hN1 hC1 f1 ⊢
  rw [← k2] at k
  generalize tkA s = t at h1s z1 k ⊢
  have bad : ∀ {c : Int}, 1 ≤ c → tkM (tO T n) (tV T n 37) (tW T n 37 V) (tP T n) N t = tkE (tP T n) c t → ∀ h', RSK T n V m h' (tkE (tP T n) c t) → frT g h' → Rn xs xl e mm_readName 38 [some (.inr (.inr 182)), some (.inl v1)] [] h' Q := by
    intro c hc em h' c1 f2
    have ne := tkE_ne' h1s hc
    refine B_readName_38 c1.1.1 ⟨fun _ => k h' (by rw [em]; exact c1) (fun q => absurd (by rw [← em]; exact q) ne) (f1.trans f2.N), fun q => absurd (c1.2.1.symm.trans q) ne⟩
  refine G_isName (by omega) h1s (fun _ nm => ?_) (fun no => ?_)
  · have nm' := nm
    unfold isNm at nm'
    rw [decide_eq_true_iff] at nm'
    refine B_readName_14_1 h1s.1.1 ⟨0, by omega, G_find h1s z1 nm'.1 hN1 (by omega) (fun r hr => B_readName_30 h1s.1.1 ⟨fun c => ?_, fun c => ⟨0, by omega, G_wrong h1s (by omega) (fun h' c1 f2 => bad (by decide) ?_ h' c1 f2)⟩⟩)⟩
    · have na : ¬ N.any (fun j => decide (tV T n 37 j = tV T n 37 t.2)) = true := fun q => by have := hr.mpr q; omega
      have em : tkM (tO T n) (tV T n 37) (tW T n 37 V) (tP T n) N t = tkA t := by unfold tkM; rw [if_pos nm, if_neg na]
      rw [em] at k
      have b7 := h1s.2.2.2.1
      have l19 := hN1.1
      have e8 := h1s.2.1
      have ev := RS_v h1s z1 (by omega) (by omega)
      refine B_readName_38 h1s.1.1 ⟨fun q => absurd (e8.trans z1) q, fun _ => ⟨by omega, by omega, by omega, by omega, by omega, ?_⟩⟩
      have fr : frNK g (wr (wr (wr (wr g 192 (rd g 182 19) (rd g 186 (rd g 182 7))) 194 (rd g 182 19) v1) 182 19 (rd g 182 19 + 1)) 182 7 (rd g 182 7 + 1)) := by
        intro a i hn
        unfold muNK at hn
        rw [rd_wr, if_neg (fun z => hn (by omega)), rd_wr, if_neg (fun z => hn (by omega)), rd_wr, if_neg (fun z => hn (by omega)), rd_wr, if_neg (fun z => hn (by omega))]
      obtain ⟨p1, p2⟩ := h1s.2.2.2.2 z1
      have lt := RS_lt h1s z1 (by omega)
      have m1 := h1s.1.2.2.2.2.1
      refine k _ ⟨RXK_fr h1s.1 (RF_fn h1s.1.1 fr) (fun a i ha => fr a i (by unfold muNK; omega)), ?_, ?_, ?_, fun _ => ⟨?_, ?_⟩⟩ (fun _ => ⟨⟨?_, fun i hi => ?_⟩, ?_, fun i hi => ?_⟩) (f1.trans fr)
      · rw [tkA_0 z1]; exact ((rdw_nei (by decide)).trans ((rdw_nei (by decide)).trans ((rdw_ne (by decide)).trans (rdw_ne (by decide))))).trans (e8.trans z1)
      · rw [tkA_0 z1]; show (0 : Int) ≤ 0; decide
      · rw [rdw_eq]; omega
      · rw [tkA_0 z1, rdw_eq, p1]; show (t.2 : Int) + 1 = ((t.2 + 1 : Nat) : Int); omega
      · rw [tkA_0 z1]; show t.2 + 1 ≤ m; omega
      · rw [rdw_nei (by decide), rdw_eq, l19, List.length_append, List.length_singleton]; omega
      · have hi' := hi
        rw [List.length_append, List.length_singleton] at hi'
        have a1 : rd (wr (wr (wr (wr g 192 (rd g 182 19) (rd g 186 (rd g 182 7))) 194 (rd g 182 19) v1) 182 19 (rd g 182 19 + 1)) 182 7 (rd g 182 7 + 1)) 192 i = rd (wr g 192 (rd g 182 19) (rd g 186 (rd g 182 7))) 192 i := (rdw_ne (by decide)).trans ((rdw_ne (by decide)).trans (rdw_ne (by decide)))
        have a2 : rd (wr (wr (wr (wr g 192 (rd g 182 19) (rd g 186 (rd g 182 7))) 194 (rd g 182 19) v1) 182 19 (rd g 182 19 + 1)) 182 7 (rd g 182 7 + 1)) 194 i = rd (wr (wr g 192 (rd g 182 19) (rd g 186 (rd g 182 7))) 194 (rd g 182 19) v1) 194 i := (rdw_ne (by decide)).trans (rdw_ne (by decide))
        rw [getD_appN hi, a1, a2]
        by_cases z : i < N.length
        · rw [if_pos z, rdw_nei (by omega), rdw_nei (by omega), rdw_ne (by decide)]; exact hN1.2 i z
        · rw [if_neg z, show (i : Int) = rd g 182 19 by omega, rdw_eq, rdw_eq]; exact ⟨ev, hw⟩
      · rw [rdw_nei (by decide), rdw_eq, hC1.1, List.length_append, List.length_singleton]; omega
      · have hi' := hi
        rw [List.length_append, List.length_singleton] at hi'
        have c19 := hC1.1
        have a2 : rd (wr (wr (wr (wr g 192 (rd g 182 19) (rd g 186 (rd g 182 7))) 194 (rd g 182 19) v1) 182 19 (rd g 182 19 + 1)) 182 7 (rd g 182 7 + 1)) 194 i = rd (wr (wr g 192 (rd g 182 19) (rd g 186 (rd g 182 7))) 194 (rd g 182 19) v1) 194 i := (rdw_ne (by decide)).trans (rdw_ne (by decide))
        rw [a2]
        by_cases z : i < C.length
        · rw [getI_l z, rdw_nei (by omega), rdw_ne (by decide)]; exact hC1.2 i z
        · rw [show i = C.length by omega, getI_e, show ((C.length : Nat) : Int) = rd g 182 19 by omega, rdw_eq]
    · unfold tkM
      rw [if_pos nm, if_pos (hr.mp c)]
  · refine B_readName_14_0 h1s.1.1 ⟨0, by omega, G_wrong h1s (by omega) (fun h' c1 f2 => B_readName_22 c1.1.1 (bad (by decide) ?_ h' c1 f2))⟩
    unfold tkM
    rw [if_neg (no z1)]
theorem G_readPersonC (he : 4 ≤ e) (hs : RSK T n V m h s) (hz : s.1 = 0) (ho : tO T n s.2 ≠ 0) (hN : NRK T n h N) (hC : CDK h C) (hl : N.length < 20) {R P : Int} (hR : rd h 188 150 = R) (hr : 0 ≤ R ∧ R ≤ 10) (hP : rd h 188 152 = P) (hp : 0 ≤ P ∧ P < 6)
    (k : ∀ h', RSK T n V m h' (psL (tO T n) (tV T n 37) (tW T n 37 V) (tP T n) R N s) → ((psL (tO T n) (tV T n 37) (tW T n 37 V) (tP T n) R N s).1 = 0 → (NRK T n h' (N ++ [s.2 + 1]) ∧ CDK h' (C ++ [P + 20])) ∧ rd h' 188 152 = P + 1 ∧ rd h' 188 (266 + 4 * P) = tW T n 37 V (psA (tO T n) (tV T n 37) (tW T n 37 V) (tP T n) N s).2 - 18 ∧ rd h' 188 (267 + 4 * P) = tV T n 37 (psB (tO T n) (tV T n 37) (tW T n 37 V) (tP T n) N s).2 ∧ rd h' 188 (268 + 4 * P) = tV T n 37 (psC (tO T n) (tV T n 37) (tW T n 37 V) (tP T n) R N s).2 ∧ rd h' 188 (269 + 4 * P) = tV T n 37 (psD (tO T n) (tV T n 37) (tW T n 37 V) (tP T n) R N s).2) → frPK P h h' → Q none h') :
    Rn xs xl e mm_readPerson 0 [some (.inr (.inr 182)), none, none] [] h Q := by
  refine B_readPerson_0 hs.1.1 ⟨fun _ => ⟨by omega, 3, by omega, ?_⟩, fun c => by omega⟩
  rw [hP]
  refine G_readNameC (by omega) hs hz ho hN hC hl (by omega) (fun h1 s1 n1 f1 => ?_)
  refine B_readPerson_29 s1.1.1 ⟨by omega, by omega, 2, by omega, G_takeSort (by omega) s1 (fun h2 r2 s2 f2 q2 _ _ => ?_)⟩
  refine B_readPerson_46 s2.1.1 ⟨by omega, 2, by omega, G_takeWord (by omega) (RSK_w s2) (by omega) (fun h3 s3 f3 => ?_)⟩
  have b3 : ∀ i, rd h3 188 i = rd (wr h1 188 (4 * P + 266) r2) 188 i := by
    intro i
    rw [f3 _ _ (by unfold muTK; omega), rd_wr, rd_wr, f2 _ _ (by unfold muTK; omega)]
  have b1 : ∀ i, rd h1 188 i = rd h 188 i := fun i => f1 _ _ (by unfold muNK; omega)
  have R3 : rd h3 188 150 = R := by rw [b3, rdw_nei (by omega), b1, hR]
  refine B_readPerson_53 s3.1.1 ⟨by omega, 2, by omega, G_takeRoom (by omega) s3 R3 hr (fun h4 r4 s4 f4 q4 _ => ?_)⟩
  refine B_readPerson_64 s4.1.1 ⟨by omega, 2, by omega, G_takeWord (by omega) (RSK_w s4) (by omega) (fun h5 s5 f5 => ?_)⟩
  have b5 : ∀ i, rd h5 188 i = rd (wr h3 188 (4 * P + 266 + 1) r4) 188 i := by
    intro i
    rw [f5 _ _ (by unfold muTK; omega), rd_wr, rd_wr, f4 _ _ (by unfold muTK; omega)]
  have R5 : rd h5 188 150 = R := by rw [b5, rdw_nei (by omega), R3]
  refine B_readPerson_71 s5.1.1 ⟨by omega, 2, by omega, G_takeRoom (by omega) s5 R5 hr (fun h6 r6 s6 f6 q6 _ => ?_)⟩
  refine B_readPerson_82 s6.1.1 ⟨by omega, by omega, 3, by omega, G_takeAfter (by omega) (RSK_w s6) (by omega) ⟨by unfold i32; omega, by unfold i32; omega⟩ (fun h7 r7 s7 f7 q7 _ => ?_)⟩
  have b7 : ∀ i, rd h7 188 i = rd (wr h5 188 (4 * P + 266 + 2) r6) 188 i := by
    intro i
    rw [f7 _ _ (by unfold muTK; omega), rd_wr, rd_wr, f6 _ _ (by unfold muTK; omega)]
  have P7 : rd h7 188 152 = P := by rw [b7, rdw_nei (by omega), b5, rdw_nei (by omega), b3, rdw_nei (by omega), b1, hP]
  have P8 : rd (wr h7 188 (4 * P + 266 + 3) r7) 188 152 = P := by rw [rdw_nei (by omega), P7]
  refine B_readPerson_99 s7.1.1 ⟨by omega, by omega, ?_⟩
  rw [P8]
  refine k _ (RSK_w (RSK_w s7)) (fun z => ?_) (fun a i hn => ?_)
  · have z7 : (psD (tO T n) (tV T n 37) (tW T n 37 V) (tP T n) R N s).1 = 0 := tkN_z z
    have z6 := tkW_z z7
    have z5 := tkN_z z6
    have z4 := tkW_z z5
    have z3 := tkN_z z4
    have z2 := tkW_z z3
    have z1 := tkF_z z2
    have nn := n1 z1
    have e19 : rd (wr (wr h7 188 (4 * P + 266 + 3) r7) 188 152 (P + 1)) 182 19 = rd h1 182 19 := by
      rw [rdw_ne (by decide), rdw_ne (by decide), f7 _ _ (by unfold muTK; omega), rdw_ne (by decide), f6 _ _ (by unfold muTK; omega), f5 _ _ (by unfold muTK; omega), rdw_ne (by decide), f4 _ _ (by unfold muTK; omega), f3 _ _ (by unfold muTK; omega), rdw_ne (by decide), f2 _ _ (by unfold muTK; omega)]
    have same : ∀ a, a = 192 ∨ a = 194 → ∀ j, rd (wr (wr h7 188 (4 * P + 266 + 3) r7) 188 152 (P + 1)) a j = rd h1 a j := by
      intro a ha j
      rw [rdw_ne (by omega), rdw_ne (by omega), f7 _ _ (by unfold muTK; omega), rdw_ne (by omega), f6 _ _ (by unfold muTK; omega), f5 _ _ (by unfold muTK; omega), rdw_ne (by omega), f4 _ _ (by unfold muTK; omega), f3 _ _ (by unfold muTK; omega), rdw_ne (by omega), f2 _ _ (by unfold muTK; omega)]
    refine ⟨⟨⟨e19.trans nn.1.1, fun i hi => ?_⟩, CDK_fr nn.2 e19 (same 194 (Or.inr rfl))⟩, rdw_eq, ?_, ?_, ?_, ?_⟩
    · rw [same 192 (Or.inl rfl), same 194 (Or.inr rfl)]
      exact nn.1.2 i hi
    · rw [rdw_nei (by omega), rdw_nei (by omega), b7, rdw_nei (by omega), b5, rdw_nei (by omega), b3, show 266 + 4 * P = 4 * P + 266 by omega, rdw_eq]
      exact q2 z2
    · rw [rdw_nei (by omega), rdw_nei (by omega), b7, rdw_nei (by omega), b5, show 267 + 4 * P = 4 * P + 266 + 1 by omega, rdw_eq]
      exact (q4 z4).1
    · rw [rdw_nei (by omega), rdw_nei (by omega), b7, show 268 + 4 * P = 4 * P + 266 + 2 by omega, rdw_eq]
      exact (q6 z6).1
    · rw [rdw_nei (by omega), show 269 + 4 * P = 4 * P + 266 + 3 by omega, rdw_eq]
      exact (q7 z).1
  · unfold muP at hn
    have hn1 : ¬ muNK a i := fun z => hn (Or.inl z)
    have hn2 : ¬ muTK a i := fun z => hn1 (by unfold muTK at z; unfold muNK; omega)
    rw [rd_wr, if_neg (fun z => hn (Or.inr (by omega))), rd_wr, if_neg (fun z => hn (Or.inr (by omega))), f7 _ _ hn2, rd_wr, if_neg (fun z => hn (Or.inr (by omega))), f6 _ _ hn2, f5 _ _ hn2, rd_wr, if_neg (fun z => hn (Or.inr (by omega))), f4 _ _ hn2, f3 _ _ hn2, rd_wr, if_neg (fun z => hn (Or.inr (by omega))), f2 _ _ hn2, f1 _ _ hn1]
theorem G_readDoorC (he : 5 ≤ e) (hs : RSK T n V m h s) (hz : s.1 = 0) (ho : tO T n s.2 ≠ 0) (hN : NRK T n h N) (hC : CDK h C) (hl : N.length < 20) (hR : rd h 188 150 = R) (hr : 0 ≤ R ∧ R ≤ 10) (hD : rd h 188 151 = D) (hd : 0 ≤ D ∧ D < 14)
    (k : ∀ h', RSK T n V m h' (drL (tO T n) (tV T n 37) (tW T n 37 V) (tP T n) R N s) → ((drL (tO T n) (tV T n 37) (tW T n 37 V) (tP T n) R N s).1 = 0 → (NRK T n h' (N ++ [s.2 + 1]) ∧ CDK h' (C ++ [D])) ∧ rd h' 188 151 = D + 1 ∧ rd h' 188 (8 * D + 154) = tW T n 37 V (drC (tO T n) (tV T n 37) (tW T n 37 V) (tP T n) R N s).2 - 14 ∧ rd h' 188 (8 * D + 154 + 1) = tV T n 37 (drA (tO T n) (tV T n 37) (tW T n 37 V) (tP T n) N s).2 ∧ rd h' 188 (8 * D + 154 + 2) = tV T n 37 (drB (tO T n) (tV T n 37) (tW T n 37 V) (tP T n) R N s).2 ∧ drFl T n V h' D (drD (tO T n) (tV T n 37) (tW T n 37 V) (tP T n) R N s)) → (∀ a i, ¬ muDR D a i → rd h' a i = rd h a i) → Q none h') :
    Rn xs xl e mm_readDoor 0 [some (.inr (.inr 182)), none, none, none, none] [] h Q := by
  refine B_readDoor_0 hs.1.1 ⟨fun _ => ⟨3, by omega, ?_⟩, fun c => by omega⟩
  rw [hD]
  refine G_readNameC (by omega) hs hz ho hN hC hl (by omega) (fun h1 s1 n1 f1 => ?_)
  have b1 : ∀ i, rd h1 188 i = rd h 188 i := fun i => f1 _ _ (by unfold muNK; omega)
  refine B_readDoor_26 s1.1.1 ⟨by omega, by omega, by omega, 2, by omega, G_takeRoom (by omega) s1 ((b1 _).trans hR) hr (fun h2 r2 s2 f2 q2 _ => ?_)⟩
  refine B_readDoor_46 s2.1.1 ⟨by omega, 2, by omega, G_takeWord (by omega) (RSK_w s2) (by omega) (fun h3 s3 f3 => ?_)⟩
  have b3 : ∀ i, rd h3 188 i = rd (wr h 188 (8 * D + 155) r2) 188 i := by
    intro i
    rw [f3 _ _ (by unfold muTK; omega), rd_wr, rd_wr, f2 _ _ (by unfold muTK; omega), b1]
  have s3' : RSK T n V m h3 (drB (tO T n) (tV T n 37) (tW T n 37 V) (tP T n) R N s) := s3
  have q2' : (drB (tO T n) (tV T n 37) (tW T n 37 V) (tP T n) R N s).1 = 0 → r2 = tV T n 37 (drA (tO T n) (tV T n 37) (tW T n 37 V) (tP T n) N s).2 ∧ 0 ≤ r2 ∧ r2 ≤ R - 1 := fun z => q2 (tkW_z z)
  refine B_readDoor_52 s3.1.1 ⟨by omega, 2, by omega, G_takeRoom (by omega) s3' (by rw [b3, rdw_nei (by omega), hR]) hr (fun h4 r4 s4 f4 q4 _ => ?_)⟩
  have b4 : ∀ i, rd (wr h4 188 (8 * D + 154 + 2) r4) 188 i = rd (wr (wr h 188 (8 * D + 155) r2) 188 (8 * D + 154 + 2) r4) 188 i := by
    intro i
    exact wr_c ((f4 _ _ (by unfold muTK; omega)).trans (b3 i))
  have e41 : rd (wr h4 188 (8 * D + 154 + 2) r4) 188 (8 * D + 154 + 1) = r2 := by rw [b4, rdw_nei (by omega), show 8 * D + 154 + 1 = 8 * D + 155 by omega, rdw_eq]
  have e42 : rd (wr h4 188 (8 * D + 154 + 2) r4) 188 (8 * D + 154 + 2) = r4 := rdw_eq
  have hp : ∀ c : Int, 1 ≤ c → (tkE (tP T n) c (drB (tO T n) (tV T n 37) (tW T n 37 V) (tP T n) R N s)).1 ≠ 0 := fun c hc => tkE_ne' s3' hc
  -- what comes behind the second room
  have tail : ∀ h5, RSK T n V m h5 (drC (tO T n) (tV T n 37) (tW T n 37 V) (tP T n) R N s) → frT (wr h4 188 (8 * D + 154 + 2) r4) h5 → ((drC (tO T n) (tV T n 37) (tW T n 37 V) (tP T n) R N s).1 = 0 → r4 = tV T n 37 (drB (tO T n) (tV T n 37) (tW T n 37 V) (tP T n) R N s).2) → Rn xs xl e mm_readDoor 105 [some (.inr (.inr 182)), some (.inl D), some (.inl (8 * D + 154)), none, none] [] h5 Q := by
    intro h5 s5 f5 q5
    have b5 : ∀ i, rd h5 188 i = rd (wr (wr h 188 (8 * D + 155) r2) 188 (8 * D + 154 + 2) r4) 188 i := fun i => (f5 _ _ (by unfold muTK; omega)).trans (b4 i)
    have fr5 : ∀ a i, ¬ muDR D a i → rd h5 a i = rd h a i := by
      intro a i hn
      have n1 : ¬ muNK a i := fun z => hn (Or.inl z)
      have n2 : ¬ muTK a i := fun z => n1 (by unfold muTK at z; unfold muNK; omega)
      have n3 : ¬ (a = 188 ∧ (8 * D + 154 ≤ i ∧ i ≤ 8 * D + 154 + 7)) := fun z => hn (Or.inr ⟨z.1, Or.inr z.2⟩)
      rw [f5 a i n2, rd_wr, if_neg (fun z => n3 (by omega)), f4 a i n2, f3 a i n2, rd_wr, if_neg (fun z => n3 (by omega)), f2 a i n2, f1 a i n1]
    have n5 : (drC (tO T n) (tV T n 37) (tW T n 37 V) (tP T n) R N s).1 = 0 → NRK T n h5 (N ++ [s.2 + 1]) ∧ CDK h5 (C ++ [D]) := by
      intro z
      have nn := n1 (tkN_z (tkW_z (tkR_z z)))
      have same : ∀ a i, a ≠ 188 → ¬ muTK a i → rd h5 a i = rd h1 a i := by
        intro a i h8 hn
        rw [f5 a i hn, rdw_ne (fun z => h8 z.symm), f4 a i hn, f3 a i hn, rdw_ne (fun z => h8 z.symm), f2 a i hn]
      refine ⟨⟨(same _ _ (by decide) (by unfold muTK; omega)).trans nn.1.1, fun i hi => ?_⟩, CDK_fr nn.2 (same _ _ (by decide) (by unfold muTK; omega)) (fun i => same _ _ (by decide) (by unfold muTK; omega))⟩
      rw [same 192 _ (by decide) (by unfold muTK; omega), same 194 _ (by decide) (by unfold muTK; omega)]
      exact nn.1.2 i hi
    have e8 := s5.2.1
    have p0 := s5.2.2.1
    have a7 := s5.2.2.2.1
    have bad : ∀ w0 : Int, w0 < 0 → drD (tO T n) (tV T n 37) (tW T n 37 V) (tP T n) R N s = tkE (tP T n) 1 (drC (tO T n) (tV T n 37) (tW T n 37 V) (tP T n) R N s) → Rn xs xl e mm_readDoor 123 [some (.inr (.inr 182)), some (.inl D), some (.inl (8 * D + 154)), none, none] [.inl w0] h5 Q := by
      intro w0 hw0 ef
      have ne := tkE_ne' s5 (v1 := 1) (by decide)
      have eL : drL (tO T n) (tV T n 37) (tW T n 37 V) (tP T n) R N s = tkE (tP T n) 1 (drC (tO T n) (tV T n 37) (tW T n 37 V) (tP T n) R N s) := by
        unfold drL; rw [ef, opL_f ne]
      refine B_readDoor_123 s5.1.1 ⟨fun c => by omega, fun _ => ⟨0, by omega, G_wrong s5 (by omega) (fun h6 s6 f6 => B_readDoor_133 s6.1.1 (k h6 ?_ ?_ (fun a i hn => ?_)))⟩⟩
      · rw [eL]; exact s6
      · rw [eL]; exact fun z => absurd z ne
      · have n1 : ¬ muNK a i := fun z => hn (Or.inl z)
        rw [f6 a i (fun z => n1 (by unfold muTK at z; unfold muNK; omega)), fr5 a i hn]
    by_cases z5 : (drC (tO T n) (tV T n 37) (tW T n 37 V) (tP T n) R N s).1 = 0
    · refine B_readDoor_105 s5.1.1 ⟨fun _ => ⟨1, by omega, G_wordHere (by omega) s5 (by omega) ?_⟩, fun c => by omega⟩
      by_cases q : 14 ≤ tW T n 37 V (drC (tO T n) (tV T n 37) (tW T n 37 V) (tP T n) R N s).2 ∧ tW T n 37 V (drC (tO T n) (tV T n 37) (tW T n 37 V) (tP T n) R N s).2 ≤ 14 + 3
      · have ef : drD (tO T n) (tV T n 37) (tW T n 37 V) (tP T n) R N s = tkA (drC (tO T n) (tV T n 37) (tW T n 37 V) (tP T n) R N s) := by unfold drD tkF; rw [if_pos q]
        have ew : whr (tW T n 37 V) (drC (tO T n) (tV T n 37) (tW T n 37 V) (tP T n) R N s) 14 4 = tW T n 37 V (drC (tO T n) (tV T n 37) (tW T n 37 V) (tP T n) R N s).2 - 14 := by unfold whr; rw [if_pos ⟨z5, by omega, by omega⟩]
        rw [ew]
        have s6 := RS_adv s5 z5 (by rw [tW_o (W := V) (b := 37) (by omega)]; decide)
        rw [← ef] at s6
        refine B_readDoor_123 s5.1.1 ⟨fun _ => ⟨by omega, by omega, 1, by omega, G_hasWord (by omega) (RSK_w s6) (by omega) (fun h7 s7 f7 => ?_)⟩, fun c => by omega⟩
        have b7 : ∀ i, rd h7 188 i = rd (wr (wr (wr h 188 (8 * D + 155) r2) 188 (8 * D + 154 + 2) r4) 188 (8 * D + 154) (tW T n 37 V (drC (tO T n) (tV T n 37) (tW T n 37 V) (tP T n) R N s).2 - 14)) 188 i := by
          intro i
          exact (f7 _ _ (by unfold muTK; omega)).trans (wr_c ((rdw_ne (by decide)).trans (b5 i)))
        refine G_drT1 (by omega) hd s7 (by rw [b7, rdw_nei (by omega), rdw_nei (by omega), rdw_nei (by omega), hD]) (fun h8 s8 q8 d8 f8 => k h8 s8 (fun z => ⟨?_, d8, ?_, ?_, ?_, q8 z⟩) (fun a i hn => ?_))
        · have nn := n5 z5
          have same : ∀ a i, a ≠ 188 → ¬ muTK a i → rd h8 a i = rd h5 a i := by
            intro a i h9 hn
            rw [f8 a i hn (fun z => h9 z.1), f7 a i hn, rdw_ne (fun z => h9 z.symm), rd_wr, if_neg (fun z => hn (by unfold muTK; omega))]
          refine ⟨⟨(same _ _ (by decide) (by unfold muTK; omega)).trans nn.1.1, fun i hi => ?_⟩, CDK_fr nn.2 (same _ _ (by decide) (by unfold muTK; omega)) (fun i => same _ _ (by decide) (by unfold muTK; omega))⟩
          rw [same 192 _ (by decide) (by unfold muTK; omega), same 194 _ (by decide) (by unfold muTK; omega)]
          exact nn.1.2 i hi
        · rw [f8 _ _ (by unfold muTK; omega) (by omega), b7, rdw_eq]
        · rw [f8 _ _ (by unfold muTK; omega) (by omega), b7, rdw_nei (by omega), rdw_nei (by omega), show 8 * D + 154 + 1 = 8 * D + 155 by omega, rdw_eq]
          exact (q2' (tkR_z z5)).1
        · rw [f8 _ _ (by unfold muTK; omega) (by omega), b7, rdw_nei (by omega), rdw_eq]
          exact q5 z5
        · have n1 : ¬ muNK a i := fun z => hn (Or.inl z)
          have n2 : ¬ muTK a i := fun z => n1 (by unfold muTK at z; unfold muNK; omega)
          have n3 : ¬ (a = 188 ∧ (i = 151 ∨ (8 * D + 154 ≤ i ∧ i ≤ 8 * D + 154 + 7))) := fun z => hn (Or.inr z)
          rw [f8 a i n2 (fun z => n3 (by omega)), f7 a i n2, rd_wr, if_neg (fun z => n3 (by omega)), rd_wr, if_neg (fun z => n2 (by unfold muTK; omega)), fr5 a i hn]
      · have ew : whr (tW T n 37 V) (drC (tO T n) (tV T n 37) (tW T n 37 V) (tP T n) R N s) 14 4 = -1 := by unfold whr; rw [if_neg (by omega)]
        rw [ew]
        exact bad (-1) (by decide) (by unfold drD tkF; rw [if_neg q])
    · exact B_readDoor_105 s5.1.1 ⟨fun c => by omega, fun _ => bad (-1) (by decide) (by unfold drD; rw [tkF_f z5, tkE_f z5])⟩
  have e8 := s4.2.1
  have a7 := s4.2.2.2.1
  by_cases z4 : (tkN (tO T n) (tV T n 37) (tP T n) 0 (R - 1) (drB (tO T n) (tV T n 37) (tW T n 37 V) (tP T n) R N s)).1 = 0
  · obtain ⟨zB, oB, _, _, eN⟩ := tkN_ok z4 hp
    have r4e := (q4 z4).1
    have r2e := (q2' zB).1
    refine B_readDoor_63 s4.1.1 ⟨by omega, fun c => absurd (e8.trans z4) c, fun _ => ⟨by omega, by omega, by omega, by omega, fun c => ?_, fun c => ⟨by omega, 0, by omega, ?_⟩⟩⟩
    · rw [e41, e42] at c
      have eC : drC (tO T n) (tV T n 37) (tW T n 37 V) (tP T n) R N s = tkN (tO T n) (tV T n 37) (tP T n) 0 (R - 1) (drB (tO T n) (tV T n 37) (tW T n 37 V) (tP T n) R N s) := by
        unfold drC tkR
        rw [if_neg (fun z => c (by rw [r2e, r4e, z.2]))]
      exact tail _ (by rw [eC]; exact RSK_w s4) frT.refl (fun _ => r4e)
    · rw [e41, e42] at c
      have eC : drC (tO T n) (tV T n 37) (tW T n 37 V) (tP T n) R N s = tkE (tP T n) 3 (drB (tO T n) (tV T n 37) (tW T n 37 V) (tP T n) R N s) := by
        unfold drC tkR
        rw [if_pos ⟨oB, by rw [← r2e, ← r4e, c]⟩]
      have s5 : RSK T n V m (wr (wr h4 188 (8 * D + 154 + 2) r4) 182 7 (rd (wr h4 188 (8 * D + 154 + 2) r4) 182 7 - 1)) (0, (drB (tO T n) (tV T n 37) (tW T n 37 V) (tP T n) R N s).2) := by
        refine RS_back (RSK_w ?_)
        rw [eN] at s4
        exact s4
      have e7 : rd (wr h4 188 (8 * D + 154 + 2) r4) 182 7 = rd h4 182 7 := rdw_ne (by decide)
      rw [e7] at s5
      have eB : drB (tO T n) (tV T n 37) (tW T n 37 V) (tP T n) R N s = (0, (drB (tO T n) (tV T n 37) (tW T n 37 V) (tP T n) R N s).2) := Prod.ext zB rfl
      rw [← eB] at s5
      refine G_wrong s5 (by omega) (fun h6 s6 f6 => tail h6 (by rw [eC]; exact s6) (fr7.trans f6) ?_)
      rw [eC]
      exact fun z => absurd z (hp 3 (by decide))
  · have eC : drC (tO T n) (tV T n 37) (tW T n 37 V) (tP T n) R N s = tkN (tO T n) (tV T n 37) (tP T n) 0 (R - 1) (drB (tO T n) (tV T n 37) (tW T n 37 V) (tP T n) R N s) := by
      unfold drC tkR
      by_cases q : tO T n (drB (tO T n) (tV T n 37) (tW T n 37 V) (tP T n) R N s).2 = 2 ∧ tV T n 37 (drB (tO T n) (tV T n 37) (tW T n 37 V) (tP T n) R N s).2 = tV T n 37 (drA (tO T n) (tV T n 37) (tW T n 37 V) (tP T n) N s).2
      · by_cases zB : (drB (tO T n) (tV T n 37) (tW T n 37 V) (tP T n) R N s).1 = 0
        · obtain ⟨u1, u2, u3⟩ := q2' zB
          refine absurd ?_ z4
          unfold tkN
          rw [if_pos q.1, if_pos (by rw [q.2, ← u1]; exact ⟨u2, u3⟩), tkA_0 zB]
        · rw [tkN_f zB, tkE_f zB, ite_self]
      · rw [if_neg q]
    exact B_readDoor_63 s4.1.1 ⟨by omega, fun _ => tail _ (by rw [eC]; exact RSK_w s4) frT.refl (fun z => absurd (by rw [← eC]; exact z) z4), fun c => absurd (e8.symm.trans c) z4⟩
end NA
