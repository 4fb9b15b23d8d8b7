/-! p3, part c4: a door's line from its begin, as the reference reads it -/
section CO
variable {xs : Nat → Int} {xl e : Nat} {h : LH} {Q : Option LV → LH → Prop} {T : Int → Int} {n : Int} {V : Int → Int} {m : Nat} {s : Int × Nat} {N : List Nat} {D v1 v3 v4 w2 R : Int}
theorem wr_c {x z : LH} {a j r i : Int} (q : rd x a i = rd z a i) : rd (wr x a j r) a i = rd (wr z a j r) a i := by rw [rd_wr, rd_wr, q]
/-- one back: the second room is the first -/
theorem RS_back {k : Nat} (hs : RSK T n V m h (0, k + 1)) : RSK T n V m (wr h 182 7 (rd h 182 7 - 1)) (0, k) := by
  obtain ⟨a, b⟩ := hs.2.2.2.2 rfl
  have a' : rd h 182 7 = ((k + 1 : Nat) : Int) := a
  have b' : k + 1 ≤ m := b
  have c := hs.2.2.2.1
  refine ⟨RXK_T hs.1 fr7, (rdw_nei (by decide)).trans hs.2.1, hs.2.2.1, ?_, fun _ => ⟨?_, ?_⟩⟩
  · rw [rdw_eq]; omega
  · rw [rdw_eq, a']; show ((k + 1 : Nat) : Int) - 1 = (k : Int); omega
  · show k ≤ m; omega
theorem tkN_ok {o v p : Nat → Int} {a b : Int} (h : (tkN o v p a b s).1 = 0) (hp : ∀ c : Int, 1 ≤ c → (tkE p c s).1 ≠ 0) : s.1 = 0 ∧ o s.2 = 2 ∧ a ≤ v s.2 ∧ v s.2 ≤ b ∧ tkN o v p a b s = (0, s.2 + 1) := by
  have z := tkN_z h
  unfold tkN at h ⊢
  by_cases c1 : o s.2 = 2
  · rw [if_pos c1] at h ⊢
    by_cases c2 : a ≤ v s.2 ∧ v s.2 ≤ b
    · rw [if_pos c2]
      exact ⟨z, c1, c2.1, c2.2, tkA_0 z⟩
    · rw [if_neg c2] at h
      exact absurd h (hp 4 (by decide))
  · rw [if_neg c1] at h
    exact absurd h (hp 1 (by decide))
/-- a put into 188 and 182 7/8 alone -/
def muDR (D a i : Int) : Prop := muNK a i ∨ (a = 188 ∧ (i = 151 ∨ (8 * D + 154 ≤ i ∧ i ≤ 8 * D + 154 + 7)))
theorem G_readDoor (he : 5 ≤ e) (hs : RSK T n V m h s) (hz : s.1 = 0) (ho : tO T n s.2 ≠ 0) (hN : NRK T n h N) (hl : N.length < 20) (hR : rd h 188 150 = R) (hr : 0 ≤ R ∧ R ≤ 10) (hD : rd h 188 151 = D) (hd : 0 ≤ D ∧ D < 14)
    (k : ∀ h', RSK T n V m h' (drL (tO T n) (tV T n 37) (tW T n 37 V) (tP T n) R N s) → ((drL (tO T n) (tV T n 37) (tW T n 37 V) (tP T n) R N s).1 = 0 → NRK T n h' (N ++ [s.2 + 1]) ∧ rd h' 188 151 = D + 1 ∧ rd h' 188 (8 * D + 154) = tW T n 37 V (drC (tO T n) (tV T n 37) (tW T n 37 V) (tP T n) R N s).2 - 14 ∧ rd h' 188 (8 * D + 154 + 1) = tV T n 37 (drA (tO T n) (tV T n 37) (tW T n 37 V) (tP T n) N s).2 ∧ rd h' 188 (8 * D + 154 + 2) = tV T n 37 (drB (tO T n) (tV T n 37) (tW T n 37 V) (tP T n) R N s).2 ∧ drFl T n V h' D (drD (tO T n) (tV T n 37) (tW T n 37 V) (tP T n) R N s)) → (∀ a i, ¬ muDR D a i → rd h' a i = rd h a i) → Q none h') :
    Rn xs xl e mm_readDoor 0 [some (.inr (.inr 182)), none, none, none, none] [] h Q := by
  refine B_readDoor_0 hs.1.1 ⟨fun _ => ⟨3, by omega, ?_⟩, fun c => by omega⟩
  rw [hD]
  refine G_readName (by omega) hs hz ho hN hl (by omega) (fun h1 s1 n1 f1 => ?_)
  have b1 : ∀ i, rd h1 188 i = rd h 188 i := fun i => f1 _ _ (by unfold muNK; omega)
  refine B_readDoor_26 s1.1.1 ⟨by omega, by omega, by omega, 2, by omega, G_takeRoom (by omega) s1 ((b1 _).trans hR) hr (fun h2 r2 s2 f2 q2 _ => ?_)⟩
  refine B_readDoor_46 s2.1.1 ⟨by omega, 2, by omega, G_takeWord (by omega) (RSK_w s2) (by omega) (fun h3 s3 f3 => ?_)⟩
  have b3 : ∀ i, rd h3 188 i = rd (wr h 188 (8 * D + 155) r2) 188 i := by
    intro i
    rw [f3 _ _ (by unfold muTK; omega), rd_wr, rd_wr, f2 _ _ (by unfold muTK; omega), b1]
  have s3' : RSK T n V m h3 (drB (tO T n) (tV T n 37) (tW T n 37 V) (tP T n) R N s) := s3
  have q2' : (drB (tO T n) (tV T n 37) (tW T n 37 V) (tP T n) R N s).1 = 0 → r2 = tV T n 37 (drA (tO T n) (tV T n 37) (tW T n 37 V) (tP T n) N s).2 ∧ 0 ≤ r2 ∧ r2 ≤ R - 1 := fun z => q2 (tkW_z z)
  refine B_readDoor_52 s3.1.1 ⟨by omega, 2, by omega, G_takeRoom (by omega) s3' (by rw [b3, rdw_nei (by omega), hR]) hr (fun h4 r4 s4 f4 q4 _ => ?_)⟩
  have b4 : ∀ i, rd (wr h4 188 (8 * D + 154 + 2) r4) 188 i = rd (wr (wr h 188 (8 * D + 155) r2) 188 (8 * D + 154 + 2) r4) 188 i := by
    intro i
    exact wr_c ((f4 _ _ (by unfold muTK; omega)).trans (b3 i))
  have e41 : rd (wr h4 188 (8 * D + 154 + 2) r4) 188 (8 * D + 154 + 1) = r2 := by rw [b4, rdw_nei (by omega), show 8 * D + 154 + 1 = 8 * D + 155 by omega, rdw_eq]
  have e42 : rd (wr h4 188 (8 * D + 154 + 2) r4) 188 (8 * D + 154 + 2) = r4 := rdw_eq
  have hp : ∀ c : Int, 1 ≤ c → (tkE (tP T n) c (drB (tO T n) (tV T n 37) (tW T n 37 V) (tP T n) R N s)).1 ≠ 0 := fun c hc => tkE_ne' s3' hc
  -- what comes behind the second room
  have tail : ∀ h5, RSK T n V m h5 (drC (tO T n) (tV T n 37) (tW T n 37 V) (tP T n) R N s) → frT (wr h4 188 (8 * D + 154 + 2) r4) h5 → ((drC (tO T n) (tV T n 37) (tW T n 37 V) (tP T n) R N s).1 = 0 → r4 = tV T n 37 (drB (tO T n) (tV T n 37) (tW T n 37 V) (tP T n) R N s).2) → Rn xs xl e mm_readDoor 105 [some (.inr (.inr 182)), some (.inl D), some (.inl (8 * D + 154)), none, none] [] h5 Q := by
    intro h5 s5 f5 q5
    have b5 : ∀ i, rd h5 188 i = rd (wr (wr h 188 (8 * D + 155) r2) 188 (8 * D + 154 + 2) r4) 188 i := fun i => (f5 _ _ (by unfold muTK; omega)).trans (b4 i)
    have fr5 : ∀ a i, ¬ muDR D a i → rd h5 a i = rd h a i := by
      intro a i hn
      have n1 : ¬ muNK a i := fun z => hn (Or.inl z)
      have n2 : ¬ muTK a i := fun z => n1 (by unfold muTK at z; unfold muNK; omega)
      have n3 : ¬ (a = 188 ∧ (8 * D + 154 ≤ i ∧ i ≤ 8 * D + 154 + 7)) := fun z => hn (Or.inr ⟨z.1, Or.inr z.2⟩)
      rw [f5 a i n2, rd_wr, if_neg (fun z => n3 (by omega)), f4 a i n2, f3 a i n2, rd_wr, if_neg (fun z => n3 (by omega)), f2 a i n2, f1 a i n1]
    have n5 : (drC (tO T n) (tV T n 37) (tW T n 37 V) (tP T n) R N s).1 = 0 → NRK T n h5 (N ++ [s.2 + 1]) := by
      intro z
      have nn := n1 (tkN_z (tkW_z (tkR_z z)))
      have same : ∀ a i, a ≠ 188 → ¬ muTK a i → rd h5 a i = rd h1 a i := by
        intro a i h8 hn
        rw [f5 a i hn, rdw_ne (fun z => h8 z.symm), f4 a i hn, f3 a i hn, rdw_ne (fun z => h8 z.symm), f2 a i hn]
      refine ⟨(same _ _ (by decide) (by unfold muTK; omega)).trans nn.1, fun i hi => ?_⟩
      rw [same 192 _ (by decide) (by unfold muTK; omega), same 194 _ (by decide) (by unfold muTK; omega)]
      exact nn.2 i hi
    have e8 := s5.2.1
    have p0 := s5.2.2.1
    have a7 := s5.2.2.2.1
    have bad : ∀ w0 : Int, w0 < 0 → drD (tO T n) (tV T n 37) (tW T n 37 V) (tP T n) R N s = tkE (tP T n) 1 (drC (tO T n) (tV T n 37) (tW T n 37 V) (tP T n) R N s) → Rn xs xl e mm_readDoor 123 [some (.inr (.inr 182)), some (.inl D), some (.inl (8 * D + 154)), none, none] [.inl w0] h5 Q := by
      intro w0 hw0 ef
      have ne := tkE_ne' s5 (v1 := 1) (by decide)
      have eL : drL (tO T n) (tV T n 37) (tW T n 37 V) (tP T n) R N s = tkE (tP T n) 1 (drC (tO T n) (tV T n 37) (tW T n 37 V) (tP T n) R N s) := by
        unfold drL; rw [ef, opL_f ne]
      refine B_readDoor_123 s5.1.1 ⟨fun c => by omega, fun _ => ⟨0, by omega, G_wrong s5 (by omega) (fun h6 s6 f6 => B_readDoor_133 s6.1.1 (k h6 ?_ ?_ (fun a i hn => ?_)))⟩⟩
      · rw [eL]; exact s6
      · rw [eL]; exact fun z => absurd z ne
      · have n1 : ¬ muNK a i := fun z => hn (Or.inl z)
        rw [f6 a i (fun z => n1 (by unfold muTK at z; unfold muNK; omega)), fr5 a i hn]
    by_cases z5 : (drC (tO T n) (tV T n 37) (tW T n 37 V) (tP T n) R N s).1 = 0
    · refine B_readDoor_105 s5.1.1 ⟨fun _ => ⟨1, by omega, G_wordHere (by omega) s5 (by omega) ?_⟩, fun c => by omega⟩
      by_cases q : 14 ≤ tW T n 37 V (drC (tO T n) (tV T n 37) (tW T n 37 V) (tP T n) R N s).2 ∧ tW T n 37 V (drC (tO T n) (tV T n 37) (tW T n 37 V) (tP T n) R N s).2 ≤ 14 + 3
      · have ef : drD (tO T n) (tV T n 37) (tW T n 37 V) (tP T n) R N s = tkA (drC (tO T n) (tV T n 37) (tW T n 37 V) (tP T n) R N s) := by unfold drD tkF; rw [if_pos q]
        have ew : whr (tW T n 37 V) (drC (tO T n) (tV T n 37) (tW T n 37 V) (tP T n) R N s) 14 4 = tW T n 37 V (drC (tO T n) (tV T n 37) (tW T n 37 V) (tP T n) R N s).2 - 14 := by unfold whr; rw [if_pos ⟨z5, by omega, by omega⟩]
        rw [ew]
        have s6 := RS_adv s5 z5 (by rw [tW_o (W := V) (b := 37) (by omega)]; decide)
        rw [← ef] at s6
        refine B_readDoor_123 s5.1.1 ⟨fun _ => ⟨by omega, by omega, 1, by omega, G_hasWord (by omega) (RSK_w s6) (by omega) (fun h7 s7 f7 => ?_)⟩, fun c => by omega⟩
        have b7 : ∀ i, rd h7 188 i = rd (wr (wr (wr h 188 (8 * D + 155) r2) 188 (8 * D + 154 + 2) r4) 188 (8 * D + 154) (tW T n 37 V (drC (tO T n) (tV T n 37) (tW T n 37 V) (tP T n) R N s).2 - 14)) 188 i := by
          intro i
          exact (f7 _ _ (by unfold muTK; omega)).trans (wr_c ((rdw_ne (by decide)).trans (b5 i)))
        refine G_drT1 (by omega) hd s7 (by rw [b7, rdw_nei (by omega), rdw_nei (by omega), rdw_nei (by omega), hD]) (fun h8 s8 q8 d8 f8 => k h8 s8 (fun z => ⟨?_, d8, ?_, ?_, ?_, q8 z⟩) (fun a i hn => ?_))
        · have nn := n5 z5
          have same : ∀ a i, a ≠ 188 → ¬ muTK a i → rd h8 a i = rd h5 a i := by
            intro a i h9 hn
            rw [f8 a i hn (fun z => h9 z.1), f7 a i hn, rdw_ne (fun z => h9 z.symm), rd_wr, if_neg (fun z => hn (by unfold muTK; omega))]
          refine ⟨(same _ _ (by decide) (by unfold muTK; omega)).trans nn.1, fun i hi => ?_⟩
          rw [same 192 _ (by decide) (by unfold muTK; omega), same 194 _ (by decide) (by unfold muTK; omega)]
          exact nn.2 i hi
        · rw [f8 _ _ (by unfold muTK; omega) (by omega), b7, rdw_eq]
        · rw [f8 _ _ (by unfold muTK; omega) (by omega), b7, rdw_nei (by omega), rdw_nei (by omega), show 8 * D + 154 + 1 = 8 * D + 155 by omega, rdw_eq]
          exact (q2' (tkR_z z5)).1
        · rw [f8 _ _ (by unfold muTK; omega) (by omega), b7, rdw_nei (by omega), rdw_eq]
          exact q5 z5
        · have n1 : ¬ muNK a i := fun z => hn (Or.inl z)
          have n2 : ¬ muTK a i := fun z => n1 (by unfold muTK at z; unfold muNK; omega)
          have n3 : ¬ (a = 188 ∧ (i = 151 ∨ (8 * D + 154 ≤ i ∧ i ≤ 8 * D + 154 + 7))) := fun z => hn (Or.inr z)
          rw [f8 a i n2 (fun z => n3 (by omega)), f7 a i n2, rd_wr, if_neg (fun z => n3 (by omega)), rd_wr, if_neg (fun z => n2 (by unfold muTK; omega)), fr5 a i hn]
      · have ew : whr (tW T n 37 V) (drC (tO T n) (tV T n 37) (tW T n 37 V) (tP T n) R N s) 14 4 = -1 := by unfold whr; rw [if_neg (by omega)]
        rw [ew]
        exact bad (-1) (by decide) (by unfold drD tkF; rw [if_neg q])
    · exact B_readDoor_105 s5.1.1 ⟨fun c => by omega, fun _ => bad (-1) (by decide) (by unfold drD; rw [tkF_f z5, tkE_f z5])⟩
  have e8 := s4.2.1
  have a7 := s4.2.2.2.1
  by_cases z4 : (tkN (tO T n) (tV T n 37) (tP T n) 0 (R - 1) (drB (tO T n) (tV T n 37) (tW T n 37 V) (tP T n) R N s)).1 = 0
  · obtain ⟨zB, oB, _, _, eN⟩ := tkN_ok z4 hp
    have r4e := (q4 z4).1
    have r2e := (q2' zB).1
    refine B_readDoor_63 s4.1.1 ⟨by omega, fun c => absurd (e8.trans z4) c, fun _ => ⟨by omega, by omega, by omega, by omega, fun c => ?_, fun c => ⟨by omega, 0, by omega, ?_⟩⟩⟩
    · rw [e41, e42] at c
      have eC : drC (tO T n) (tV T n 37) (tW T n 37 V) (tP T n) R N s = tkN (tO T n) (tV T n 37) (tP T n) 0 (R - 1) (drB (tO T n) (tV T n 37) (tW T n 37 V) (tP T n) R N s) := by
        unfold drC tkR
        rw [if_neg (fun z => c (by rw [r2e, r4e, z.2]))]
      exact tail _ (by rw [eC]; exact RSK_w s4) frT.refl (fun _ => r4e)
    · rw [e41, e42] at c
      have eC : drC (tO T n) (tV T n 37) (tW T n 37 V) (tP T n) R N s = tkE (tP T n) 3 (drB (tO T n) (tV T n 37) (tW T n 37 V) (tP T n) R N s) := by
        unfold drC tkR
        rw [if_pos ⟨oB, by rw [← r2e, ← r4e, c]⟩]
      have s5 : RSK T n V m (wr (wr h4 188 (8 * D + 154 + 2) r4) 182 7 (rd (wr h4 188 (8 * D + 154 + 2) r4) 182 7 - 1)) (0, (drB (tO T n) (tV T n 37) (tW T n 37 V) (tP T n) R N s).2) := by
        refine RS_back (RSK_w ?_)
        rw [eN] at s4
        exact s4
      have e7 : rd (wr h4 188 (8 * D + 154 + 2) r4) 182 7 = rd h4 182 7 := rdw_ne (by decide)
      rw [e7] at s5
      have eB : drB (tO T n) (tV T n 37) (tW T n 37 V) (tP T n) R N s = (0, (drB (tO T n) (tV T n 37) (tW T n 37 V) (tP T n) R N s).2) := Prod.ext zB rfl
      rw [← eB] at s5
      refine G_wrong s5 (by omega) (fun h6 s6 f6 => tail h6 (by rw [eC]; exact s6) (fr7.trans f6) ?_)
      rw [eC]
      exact fun z => absurd z (hp 3 (by decide))
  · have eC : drC (tO T n) (tV T n 37) (tW T n 37 V) (tP T n) R N s = tkN (tO T n) (tV T n 37) (tP T n) 0 (R - 1) (drB (tO T n) (tV T n 37) (tW T n 37 V) (tP T n) R N s) := by
      unfold drC tkR
      by_cases q : tO T n (drB (tO T n) (tV T n 37) (tW T n 37 V) (tP T n) R N s).2 = 2 ∧ tV T n 37 (drB (tO T n) (tV T n 37) (tW T n 37 V) (tP T n) R N s).2 = tV T n 37 (drA (tO T n) (tV T n 37) (tW T n 37 V) (tP T n) N s).2
      · by_cases zB : (drB (tO T n) (tV T n 37) (tW T n 37 V) (tP T n) R N s).1 = 0
        · obtain ⟨u1, u2, u3⟩ := q2' zB
          refine absurd ?_ z4
          unfold tkN
          rw [if_pos q.1, if_pos (by rw [q.2, ← u1]; exact ⟨u2, u3⟩), tkA_0 zB]
        · rw [tkN_f zB, tkE_f zB, ite_self]
      · rw [if_neg q]
    exact B_readDoor_63 s4.1.1 ⟨by omega, fun _ => tail _ (by rw [eC]; exact RSK_w s4) frT.refl (fun z => absurd (by rw [← eC]; exact z) z4), fun c => absurd (e8.symm.trans c) z4⟩
theorem G_readDoorX (hs : RSK T n V m h s) (he : 1 ≤ e) (hD : rd h 188 151 = 14) (k : ∀ h', RSK T n V m h' (tkE (tP T n) 5 s) → frT h h' → Q none h') : Rn xs xl e mm_readDoor 0 [some (.inr (.inr 182)), none, none, none, none] [] h Q :=
  B_readDoor_0 hs.1.1 ⟨fun c => absurd hD c, fun _ => ⟨0, by omega, G_wrong hs (by omega) (fun h1 s1 f1 => B_readDoor_20 s1.1.1 (k h1 s1 f1))⟩⟩
end CO
