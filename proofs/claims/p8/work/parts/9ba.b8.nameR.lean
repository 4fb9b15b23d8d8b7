/-! p3, part b8: the reference reads a name -/
def frNK (h h' : LH) : Prop := ∀ a i, ¬ muNK a i → rd h' a i = rd h a i
theorem frNK.trans {h h1 h2 : LH} (a : frNK h h1) (b : frNK h1 h2) : frNK h h2 := fun x i hn => (b x i hn).trans (a x i hn)
theorem frT.N {h h' : LH} (f : frT h h') : frNK h h' := fun a i hn => f a i (fun z => hn (by unfold muTK at z; unfold muNK; omega))
section CJ
variable {xs : Nat → Int} {xl e : Nat} {h : LH} {Q : Option LV → LH → Prop} {v1 v2 v3 : Int} {T : Int → Int} {n : Int} {V : Int → Int} {m : Nat} {s : Int × Nat} {N : List Nat}
theorem NRK_T {h' : LH} (hN : NRK T n h N) (hf : frT h h') : NRK T n h' N := by
  refine ⟨(hf _ _ (by unfold muTK; omega)).trans hN.1, fun i hi => ?_⟩
  rw [hf _ _ (by unfold muTK; omega), hf _ _ (by unfold muTK; omega)]
  exact hN.2 i hi
theorem getD_appN {L : List Nat} {c : Nat} {i : Nat} (hi : i < (L ++ [c]).length) : (L ++ [c]).getD i 0 = if i < L.length then L.getD i 0 else c := by
  rw [List.length_append, List.length_singleton] at hi
  by_cases z : i < L.length
  · rw [if_pos z, List.getD_eq_getElem?_getD, List.getElem?_append_left z, List.getD_eq_getElem?_getD]
  · rw [if_neg z, List.getD_eq_getElem?_getD, List.getElem?_append_right (by omega), show i - L.length = 0 by omega]
    rfl
theorem G_readName (he : 3 ≤ e) (hs : RSK T n V m h s) (hz : s.1 = 0) (ho : tO T n s.2 ≠ 0) (hN : NRK T n h N) (hl : N.length < 20) (hw : 0 ≤ v1)
    (k : ∀ h', RSK T n V m h' (tkM (tO T n) (tV T n 37) (tW T n 37 V) (tP T n) N (tkA s)) → ((tkM (tO T n) (tV T n 37) (tW T n 37 V) (tP T n) N (tkA s)).1 = 0 → NRK T n h' (N ++ [s.2 + 1])) → frNK h h' → Q none h') :
    Rn xs xl e mm_readName 0 [some (.inr (.inr 182)), some (.inl v1)] [] h Q := by
  have a7 := hs.2.2.2.1
  have h1s := RS_adv hs hz ho
  have hN1 : NRK T n (wr h 182 7 (rd h 182 7 + 1)) N := NRK_T hN fr7
  have f1 : frNK h (wr h 182 7 (rd h 182 7 + 1)) := fr7.N
  have z1 : (tkA s).1 = 0 := by rw [tkA_0 hz]
  have k2 : (tkA s).2 = s.2 + 1 := by rw [tkA_0 hz]
  refine B_readName_0 hs.1.1 ⟨by omega, 2, by omega, ?_⟩
  generalize wr h 182 7 (rd h 182 7 + 1) = g at h1s hN1 f1 ⊢
  rw [← k2] at k
  generalize tkA s = t at h1s z1 k ⊢
  have bad : ∀ {c : Int}, 1 ≤ c → tkM (tO T n) (tV T n 37) (tW T n 37 V) (tP T n) N t = tkE (tP T n) c t → ∀ h', RSK T n V m h' (tkE (tP T n) c t) → frT g h' → Rn xs xl e mm_readName 38 [some (.inr (.inr 182)), some (.inl v1)] [] h' Q := by
    intro c hc em h' c1 f2
    have ne := tkE_ne' h1s hc
    refine B_readName_38 c1.1.1 ⟨fun _ => k h' (by rw [em]; exact c1) (fun q => absurd (by rw [← em]; exact q) ne) (f1.trans f2.N), fun q => absurd (c1.2.1.symm.trans q) ne⟩
  refine G_isName (by omega) h1s (fun _ nm => ?_) (fun no => ?_)
  · have nm' := nm
    unfold isNm at nm'
    rw [decide_eq_true_iff] at nm'
    refine B_readName_14_1 h1s.1.1 ⟨0, by omega, G_find h1s z1 nm'.1 hN1 (by omega) (fun r hr => B_readName_30 h1s.1.1 ⟨fun c => ?_, fun c => ⟨0, by omega, G_wrong h1s (by omega) (fun h' c1 f2 => bad (by decide) ?_ h' c1 f2)⟩⟩)⟩
    · have na : ¬ N.any (fun j => decide (tV T n 37 j = tV T n 37 t.2)) = true := fun q => by have := hr.mpr q; omega
      have em : tkM (tO T n) (tV T n 37) (tW T n 37 V) (tP T n) N t = tkA t := by unfold tkM; rw [if_pos nm, if_neg na]
      rw [em] at k
      have b7 := h1s.2.2.2.1
      have l19 := hN1.1
      have e8 := h1s.2.1
      have ev := RS_v h1s z1 (by omega) (by omega)
      refine B_readName_38 h1s.1.1 ⟨fun q => absurd (e8.trans z1) q, fun _ => ⟨by omega, by omega, by omega, by omega, by omega, ?_⟩⟩
      have fr : frNK g (wr (wr (wr (wr g 192 (rd g 182 19) (rd g 186 (rd g 182 7))) 194 (rd g 182 19) v1) 182 19 (rd g 182 19 + 1)) 182 7 (rd g 182 7 + 1)) := by
        intro a i hn
        unfold muNK at hn
        rw [rd_wr, if_neg (fun z => hn (by omega)), rd_wr, if_neg (fun z => hn (by omega)), rd_wr, if_neg (fun z => hn (by omega)), rd_wr, if_neg (fun z => hn (by omega))]
      obtain ⟨p1, p2⟩ := h1s.2.2.2.2 z1
      have lt := RS_lt h1s z1 (by omega)
      have m1 := h1s.1.2.2.2.2.1
      refine k _ ⟨RXK_fr h1s.1 (RF_fn h1s.1.1 fr) (fun a i ha => fr a i (by unfold muNK; omega)), ?_, ?_, ?_, fun _ => ⟨?_, ?_⟩⟩ (fun _ => ⟨?_, fun i hi => ?_⟩) (f1.trans fr)
      · rw [tkA_0 z1]; exact ((rdw_nei (by decide)).trans ((rdw_nei (by decide)).trans ((rdw_ne (by decide)).trans (rdw_ne (by decide))))).trans (e8.trans z1)
      · rw [tkA_0 z1]; show (0 : Int) ≤ 0; decide
      · rw [rdw_eq]; omega
      · rw [tkA_0 z1, rdw_eq, p1]; show (t.2 : Int) + 1 = ((t.2 + 1 : Nat) : Int); omega
      · rw [tkA_0 z1]; show t.2 + 1 ≤ m; omega
      · rw [rdw_nei (by decide), rdw_eq, l19, List.length_append, List.length_singleton]; omega
      · have hi' := hi
        rw [List.length_append, List.length_singleton] at hi'
        have a1 : rd (wr (wr (wr (wr g 192 (rd g 182 19) (rd g 186 (rd g 182 7))) 194 (rd g 182 19) v1) 182 19 (rd g 182 19 + 1)) 182 7 (rd g 182 7 + 1)) 192 i = rd (wr g 192 (rd g 182 19) (rd g 186 (rd g 182 7))) 192 i := (rdw_ne (by decide)).trans ((rdw_ne (by decide)).trans (rdw_ne (by decide)))
        have a2 : rd (wr (wr (wr (wr g 192 (rd g 182 19) (rd g 186 (rd g 182 7))) 194 (rd g 182 19) v1) 182 19 (rd g 182 19 + 1)) 182 7 (rd g 182 7 + 1)) 194 i = rd (wr (wr g 192 (rd g 182 19) (rd g 186 (rd g 182 7))) 194 (rd g 182 19) v1) 194 i := (rdw_ne (by decide)).trans (rdw_ne (by decide))
        rw [getD_appN hi, a1, a2]
        by_cases z : i < N.length
        · rw [if_pos z, rdw_nei (by omega), rdw_nei (by omega), rdw_ne (by decide)]; exact hN1.2 i z
        · rw [if_neg z, show (i : Int) = rd g 182 19 by omega, rdw_eq, rdw_eq]; exact ⟨ev, hw⟩
    · unfold tkM
      rw [if_pos nm, if_pos (hr.mp c)]
  · refine B_readName_14_0 h1s.1.1 ⟨0, by omega, G_wrong h1s (by omega) (fun h' c1 f2 => B_readName_22 c1.1.1 (bad (by decide) ?_ h' c1 f2))⟩
    unfold tkM
    rw [if_neg (no z1)]
end CJ
