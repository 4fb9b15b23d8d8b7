/-! p3, part c0: a line of a person, as the reference reads it -/
section PSL
variable (o v w p : Nat → Int)
def psA (N : List Nat) (s : Int × Nat) : Int × Nat := tkM o v w p N (tkA s)
def psB (N : List Nat) (s : Int × Nat) : Int × Nat := tkW w p 8 (tkF w p 18 (psA o v w p N s))
def psC (R : Int) (N : List Nat) (s : Int × Nat) : Int × Nat := tkW w p 9 (tkN o v p 0 (R - 1) (psB o v w p N s))
def psD (R : Int) (N : List Nat) (s : Int × Nat) : Int × Nat := tkW w p 10 (tkN o v p 0 (R - 1) (psC o v w p R N s))
def psL (R : Int) (N : List Nat) (s : Int × Nat) : Int × Nat := tkN o v p 1 24 (psD o v w p R N s)
end PSL
section PSM
variable {o v w p : Nat → Int} {s : Int × Nat}
theorem tkW_z {c : Int} (h : (tkW w p c s).1 = 0) : s.1 = 0 := by
  by_cases z : s.1 = 0
  · exact z
  · rw [tkW_f z] at h; exact h
theorem tkN_z {a b : Int} (h : (tkN o v p a b s).1 = 0) : s.1 = 0 := by
  by_cases z : s.1 = 0
  · exact z
  · rw [tkN_f z] at h; exact h
theorem tkF_z {c : Int} (h : (tkF w p c s).1 = 0) : s.1 = 0 := by
  by_cases z : s.1 = 0
  · exact z
  · rw [tkF_f z] at h; exact h
end PSM
theorem hav_188 (i : Int) : (hav 188 i).1 ≠ 2 := by
  have key : ∀ L : List AV, (∀ q ∈ L, q.1 ≠ 2) → ∀ j : Nat, (L.getD j top0).1 ≠ 2 := by
    intro L hL j
    rw [List.getD_eq_getElem?_getD]
    rcases Nat.lt_or_ge j L.length with z | z
    · rw [List.getElem?_eq_getElem z]
      exact hL _ (List.getElem_mem z)
    · rw [List.getElem?_eq_none z]
      decide
  unfold hav
  split
  · next L hL =>
    refine key L ?_ _
    have : (RGL[(188 : Int).toNat]?).all (fun L => L.all (fun q => decide (q.1 ≠ 2))) = true := by decide +kernel
    rw [hL] at this
    intro q hq
    exact of_decide_eq_true (List.all_eq_true.mp this q hq)
  · decide
section CL
variable {xs : Nat → Int} {xl e : Nat} {h : LH} {Q : Option LV → LH → Prop} {v1 v2 v3 : Int} {T : Int → Int} {n : Int} {V : Int → Int} {m : Nat} {s : Int × Nat} {N : List Nat}
theorem RF_w188 {i v : Int} (hF : RF h) : RF (wr h 188 i v) := by
  intro a j c hv he
  by_cases z : a = 188 ∧ (j : Int) = i
  · have key := hav_188 (j : Int)
    rw [← z.1, he] at key
    exact absurd rfl key
  · rw [rd_wr, if_neg (fun q => z ⟨q.1.symm, q.2.symm⟩)]
    exact hF a j c hv he
theorem RSK_w {i v : Int} (hs : RSK T n V m h s) : RSK T n V m (wr h 188 i v) s := by
  have e7 : rd (wr h 188 i v) 182 7 = rd h 182 7 := rdw_ne (by decide)
  have e8 : rd (wr h 188 i v) 182 8 = rd h 182 8 := rdw_ne (by decide)
  exact ⟨RXK_fr hs.1 (RF_w188 hs.1.1) (fun a j ha => rdw_ne (by omega)), e8.trans hs.2.1, hs.2.2.1, by rw [e7]; exact hs.2.2.2.1, by rw [e7]; exact hs.2.2.2.2⟩
def muP (P a i : Int) : Prop := muNK a i ∨ (a = 188 ∧ (i = 152 ∨ (266 + 4 * P ≤ i ∧ i ≤ 269 + 4 * P)))
def frPK (P : Int) (h h' : LH) : Prop := ∀ a i, ¬ muP P a i → rd h' a i = rd h a i
theorem G_readPerson (he : 4 ≤ e) (hs : RSK T n V m h s) (hz : s.1 = 0) (ho : tO T n s.2 ≠ 0) (hN : NRK T n h N) (hl : N.length < 20) {R P : Int} (hR : rd h 188 150 = R) (hr : 0 ≤ R ∧ R ≤ 10) (hP : rd h 188 152 = P) (hp : 0 ≤ P ∧ P < 6)
    (k : ∀ h', RSK T n V m h' (psL (tO T n) (tV T n 37) (tW T n 37 V) (tP T n) R N s) → ((psL (tO T n) (tV T n 37) (tW T n 37 V) (tP T n) R N s).1 = 0 → NRK T n h' (N ++ [s.2 + 1]) ∧ rd h' 188 152 = P + 1 ∧ rd h' 188 (266 + 4 * P) = tW T n 37 V (psA (tO T n) (tV T n 37) (tW T n 37 V) (tP T n) N s).2 - 18 ∧ rd h' 188 (267 + 4 * P) = tV T n 37 (psB (tO T n) (tV T n 37) (tW T n 37 V) (tP T n) N s).2 ∧ rd h' 188 (268 + 4 * P) = tV T n 37 (psC (tO T n) (tV T n 37) (tW T n 37 V) (tP T n) R N s).2 ∧ rd h' 188 (269 + 4 * P) = tV T n 37 (psD (tO T n) (tV T n 37) (tW T n 37 V) (tP T n) R N s).2) → frPK P h h' → Q none h') :
    Rn xs xl e mm_readPerson 0 [some (.inr (.inr 182)), none, none] [] h Q := by
  refine B_readPerson_0 hs.1.1 ⟨fun _ => ⟨by omega, 3, by omega, ?_⟩, fun c => by omega⟩
  rw [hP]
  refine G_readName (by omega) hs hz ho hN hl (by omega) (fun h1 s1 n1 f1 => ?_)
  refine B_readPerson_29 s1.1.1 ⟨by omega, by omega, 2, by omega, G_takeSort (by omega) s1 (fun h2 r2 s2 f2 q2 _ _ => ?_)⟩
  refine B_readPerson_46 s2.1.1 ⟨by omega, 2, by omega, G_takeWord (by omega) (RSK_w s2) (by omega) (fun h3 s3 f3 => ?_)⟩
  have b3 : ∀ i, rd h3 188 i = rd (wr h1 188 (4 * P + 266) r2) 188 i := by
    intro i
    rw [f3 _ _ (by unfold muTK; omega), rd_wr, rd_wr, f2 _ _ (by unfold muTK; omega)]
  have b1 : ∀ i, rd h1 188 i = rd h 188 i := fun i => f1 _ _ (by unfold muNK; omega)
  have R3 : rd h3 188 150 = R := by rw [b3, rdw_nei (by omega), b1, hR]
  refine B_readPerson_53 s3.1.1 ⟨by omega, 2, by omega, G_takeRoom (by omega) s3 R3 hr (fun h4 r4 s4 f4 q4 _ => ?_)⟩
  refine B_readPerson_64 s4.1.1 ⟨by omega, 2, by omega, G_takeWord (by omega) (RSK_w s4) (by omega) (fun h5 s5 f5 => ?_)⟩
  have b5 : ∀ i, rd h5 188 i = rd (wr h3 188 (4 * P + 266 + 1) r4) 188 i := by
    intro i
    rw [f5 _ _ (by unfold muTK; omega), rd_wr, rd_wr, f4 _ _ (by unfold muTK; omega)]
  have R5 : rd h5 188 150 = R := by rw [b5, rdw_nei (by omega), R3]
  refine B_readPerson_71 s5.1.1 ⟨by omega, 2, by omega, G_takeRoom (by omega) s5 R5 hr (fun h6 r6 s6 f6 q6 _ => ?_)⟩
  refine B_readPerson_82 s6.1.1 ⟨by omega, by omega, 3, by omega, G_takeAfter (by omega) (RSK_w s6) (by omega) ⟨by unfold i32; omega, by unfold i32; omega⟩ (fun h7 r7 s7 f7 q7 _ => ?_)⟩
  have b7 : ∀ i, rd h7 188 i = rd (wr h5 188 (4 * P + 266 + 2) r6) 188 i := by
    intro i
    rw [f7 _ _ (by unfold muTK; omega), rd_wr, rd_wr, f6 _ _ (by unfold muTK; omega)]
  have P7 : rd h7 188 152 = P := by rw [b7, rdw_nei (by omega), b5, rdw_nei (by omega), b3, rdw_nei (by omega), b1, hP]
  have P8 : rd (wr h7 188 (4 * P + 266 + 3) r7) 188 152 = P := by rw [rdw_nei (by omega), P7]
  refine B_readPerson_99 s7.1.1 ⟨by omega, by omega, ?_⟩
  rw [P8]
  refine k _ (RSK_w (RSK_w s7)) (fun z => ?_) (fun a i hn => ?_)
  · have z7 : (psD (tO T n) (tV T n 37) (tW T n 37 V) (tP T n) R N s).1 = 0 := tkN_z z
    have z6 := tkW_z z7
    have z5 := tkN_z z6
    have z4 := tkW_z z5
    have z3 := tkN_z z4
    have z2 := tkW_z z3
    have z1 := tkF_z z2
    have nn := n1 z1
    refine ⟨⟨?_, fun i hi => ?_⟩, rdw_eq, ?_, ?_, ?_, ?_⟩
    · rw [rdw_ne (by decide), rdw_ne (by decide), f7 _ _ (by unfold muTK; omega), rdw_ne (by decide), f6 _ _ (by unfold muTK; omega), f5 _ _ (by unfold muTK; omega), rdw_ne (by decide), f4 _ _ (by unfold muTK; omega), f3 _ _ (by unfold muTK; omega), rdw_ne (by decide), f2 _ _ (by unfold muTK; omega)]
      exact nn.1
    · have same : ∀ a, a = 192 ∨ a = 194 → ∀ j, rd (wr (wr h7 188 (4 * P + 266 + 3) r7) 188 152 (P + 1)) a j = rd h1 a j := by
        intro a ha j
        rw [rdw_ne (by omega), rdw_ne (by omega), f7 _ _ (by unfold muTK; omega), rdw_ne (by omega), f6 _ _ (by unfold muTK; omega), f5 _ _ (by unfold muTK; omega), rdw_ne (by omega), f4 _ _ (by unfold muTK; omega), f3 _ _ (by unfold muTK; omega), rdw_ne (by omega), f2 _ _ (by unfold muTK; omega)]
      rw [same 192 (Or.inl rfl), same 194 (Or.inr rfl)]
      exact nn.2 i hi
    · rw [rdw_nei (by omega), rdw_nei (by omega), b7, rdw_nei (by omega), b5, rdw_nei (by omega), b3, show 266 + 4 * P = 4 * P + 266 by omega, rdw_eq]
      exact q2 z2
    · rw [rdw_nei (by omega), rdw_nei (by omega), b7, rdw_nei (by omega), b5, show 267 + 4 * P = 4 * P + 266 + 1 by omega, rdw_eq]
      exact (q4 z4).1
    · rw [rdw_nei (by omega), rdw_nei (by omega), b7, show 268 + 4 * P = 4 * P + 266 + 2 by omega, rdw_eq]
      exact (q6 z6).1
    · rw [rdw_nei (by omega), show 269 + 4 * P = 4 * P + 266 + 3 by omega, rdw_eq]
      exact (q7 z).1
  · unfold muP at hn
    have hn1 : ¬ muNK a i := fun z => hn (Or.inl z)
    have hn2 : ¬ muTK a i := fun z => hn1 (by unfold muTK at z; unfold muNK; omega)
    rw [rd_wr, if_neg (fun z => hn (Or.inr (by omega))), rd_wr, if_neg (fun z => hn (Or.inr (by omega))), f7 _ _ hn2, rd_wr, if_neg (fun z => hn (Or.inr (by omega))), f6 _ _ hn2, f5 _ _ hn2, rd_wr, if_neg (fun z => hn (Or.inr (by omega))), f4 _ _ hn2, f3 _ _ hn2, rd_wr, if_neg (fun z => hn (Or.inr (by omega))), f2 _ _ hn2, f1 _ _ hn1]
end CL
