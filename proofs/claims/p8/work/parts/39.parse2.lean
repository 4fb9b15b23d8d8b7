/-! LM, part 39: the reference's law is read into codes that are one expression -/
def GL (h h' : LH) : Prop := PS h h' ∧ (rd h' 182 8 = 0 → SegH h' (rd h 182 13) (rd h' 182 13))
theorem PS.inv {h h' : LH} (p : PS h h') : INV h' := p.1.1
theorem PS.rf {h h' : LH} (p : PS h h') : RF h' := RF_of p.1.1.1
theorem PS.le {h h' : LH} (p : PS h h') (hc : rd h 182 13 ≤ rd h 182 7) : rd h' 182 13 ≤ rd h' 182 7 := by have := p.2.2.2.2.1; omega
theorem PS_emit1 {h : LH} (hp : PB h) (h2 : rd h 182 13 ≤ rd h 182 7) {c a : Int} (hs : rd h 182 7 ≤ 999) (c0 : 0 ≤ c) (c1 : c ≤ 10) (a0 : i32 a) : PS h (wr (emH h c a) 182 7 (rd h 182 7 + 1)) := by
  have e7 : rd (wr (emH h c a) 182 7 (rd h 182 7 + 1)) 182 7 = rd h 182 7 + 1 := rdw_eq
  have e8 : rd (wr (emH h c a) 182 7 (rd h 182 7 + 1)) 182 8 = rd h 182 8 := (rdw_nei (by decide)).trans (emH_8 h c a)
  have e13 : rd (wr (emH h c a) 182 7 (rd h 182 7 + 1)) 182 13 = rd h 182 13 + 1 := (rdw_nei (by decide)).trans (emH_13 h c a)
  have hc := rF_codes hp.1.1
  have ha := rF_at hp.1.1
  have hI : INV (emH h c a) := wF_codes (INV_arg (INV_op hp.1 (by omega) c0 c1) (by omega) a0.1 a0.2) (by omega) (by omega)
  refine ⟨⟨wF_at hI (by omega) (by omega), trivial⟩, by omega, by rw [e8]; exact id, by omega, by omega, fun x i hn => ?_⟩
  unfold emH
  rw [rd_wr, if_neg, rd_wr, if_neg, rd_wr, if_neg, rd_wr, if_neg] <;> (rintro ⟨rfl, rfl⟩; exact hn (by unfold pmut; omega))
theorem GL_ps {h h1 h2 : LH} (g : GL h h1) (p : PS h1 h2) (e : rd h2 182 13 = rd h1 182 13) : GL h h2 := by
  refine ⟨g.1.trans p, fun q => ?_⟩
  rw [e]
  exact SegH_keep (g.2 (p.2.2.1 q)) (Int.le_refl _) p.2.2.2.2.2
theorem GL_at0 {h h1 : LH} (g : GL h h1) : GL h (wr h1 182 7 (rd h1 182 7)) := by
  have h2 := rF_at g.1.inv.1
  exact GL_ps g (PS_at g.1.1 (by omega) (by omega)) (rdw_nei (by decide))
/-- an operator between: its sign was stepped over -/
theorem GL_bin {h h1 h2 h3 : LH} (hb : rd h 182 13 ≤ rd h 182 7) (g : GL h h1) (p : PS h1 h2) (e7 : rd h2 182 7 = rd h1 182 7 + 1) (e13 : rd h2 182 13 = rd h1 182 13) (g2 : GL h2 h3) {c : Int} (c0 : 4 ≤ c) (c1 : c ≤ 10) : GL h (emH h3 c 0) ∧ rd h1 182 7 < rd (emH h3 c 0) 182 7 := by
  have x7 := emH_7 h3 c 0
  have x8 := emH_8 h3 c 0
  have x13 := emH_13 h3 c 0
  have p2 := p.trans g2.1
  have b5 := g2.1.2.2.2.2.1
  have b2 := g2.1.2.1
  have b4 := g2.1.2.2.2.1
  have a5 := g.1.2.2.2.2.1
  refine ⟨⟨PS_emit (g.1.trans p2) (by omega) hb (by omega) c1 (by unfold i32; omega), fun q => ?_⟩, by omega⟩
  rw [x8] at q
  rw [x13]
  have s2 := g2.2 q
  have q1 := p2.2.2.1 q
  have s1 := SegH_keep (g.2 q1) (Int.le_refl _) p2.2.2.2.2.2
  rw [e13] at s2
  refine seg_bin (SegH_emH s1 (by omega) c 0) (SegH_emH s2 (by omega) c 0) ?_ ?_ <;> rw [emH_op] <;> omega
section C2
variable {xs : Nat → Int} {xl e E : Nat} {h : LH} {Q : Option LV → LH → Prop} {dep : Int}
def CtP (xs : Nat → Int) (xl : Nat) (M : LM_M) (tl : LL) (dep : Int) (E : Nat) : Prop := ∀ (e : Nat) (h : LH) (Q : Option LV → LH → Prop), E ≤ e → PB h → rd h 182 13 ≤ rd h 182 7 → (∀ h', GL h h' → Q none h') → Rn xs xl e M 0 (some (.inr (.inr 182)) :: some (.inl dep) :: tl) [] h Q
theorem C_products (hP : CtP xs xl mm_takePart [none, none] dep E) : CtP xs xl mm_products [] dep (E + 2) := by
  intro e h Q he hp hc k
  have loop : ∀ (n : Nat) (h1 : LH), GL h h1 → 1000 - rd h1 182 7 ≤ n → Rn xs xl e mm_products 5 [some (.inr (.inr 182)), some (.inl dep)] [] h1 Q := by
    intro n
    induction n with
    | zero =>
      intro h1 g hn
      refine B_products_5 g.1.rf ⟨1, by omega, C_hasSign (by omega) g.1.inv (fun q => ?_) (fun q => ?_)⟩
      · have := sg_lt g.1.inv q
        omega
      · exact B_products_11_0 (GL_at0 g).1.rf (k _ (GL_at0 g))
    | succ n ih =>
      intro h1 g hn
      refine B_products_5 g.1.rf ⟨1, by omega, C_hasSign (by omega) g.1.inv (fun q => ?_) (fun q => ?_)⟩
      · have h9 := sg_lt g.1.inv q
        have p := PS_at g.1.1 (v := rd h1 182 7 + 1) (by omega) (by omega)
        refine B_products_11_1 p.rf ⟨E, by omega, hP E _ _ (Nat.le_refl _) p.1 (p.le (g.1.le hc)) (fun h3 g3 => ?_)⟩
        have z := GL_bin hc g p rdw_eq (rdw_nei (by decide)) g3 (c := 6) (by decide) (by decide)
        refine B_products_19 g3.1.rf ⟨0, by omega, C_emit g3.1.inv ?_⟩
        exact B_products_26 z.1.1.rf (ih _ z.1 (by omega))
      · exact B_products_11_0 (GL_at0 g).1.rf (k _ (GL_at0 g))
  exact B_products_0 (RF_of hp.1.1) ⟨E, by omega, hP E _ _ (Nat.le_refl _) hp hc (fun h1 g => loop (1000 - rd h1 182 7).toNat h1 g (by omega))⟩
theorem C_sums (hP : CtP xs xl mm_products [] dep E) : CtP xs xl mm_sums [none] dep (E + 1) := by
  intro e h Q he hp hc k
  have loop : ∀ (n : Nat) (h1 : LH) (o2 : Option LV), nL o2 → GL h h1 → 1000 - rd h1 182 7 ≤ n → Rn xs xl e mm_sums 5 [some (.inr (.inr 182)), some (.inl dep), o2] [] h1 Q := by
    intro n
    induction n with
    | zero =>
      intro h1 o2 no g hn
      refine B_sums_5 no g.1.rf ⟨0, by omega, C_isSign g.1.inv (fun q => ?_) (fun q => ?_)⟩
      · have := sg_lt g.1.inv q
        omega
      · refine B_sums_11_0 no g.1.rf ⟨0, by omega, C_isSign g.1.inv (fun q => ?_) (fun q => ?_)⟩
        · have := sg_lt g.1.inv q
          omega
        · exact B_sums_20_0 no g.1.rf (k _ g)
    | succ n ih =>
      intro h1 o2 no g hn
      have go : ∀ w : Int, rd h1 182 7 ≤ 999 → Rn xs xl e mm_sums 29 [some (.inr (.inr 182)), some (.inl dep), o2] [.inl w] h1 Q := by
        intro w h9
        have h8 := rF_at g.1.inv.1
        have p := PS_at g.1.1 (v := rd h1 182 7 + 1) (by omega) (by omega)
        refine B_sums_29 no g.1.rf ⟨by omega, E, by omega, hP E _ _ (Nat.le_refl _) p.1 (p.le (g.1.le hc)) (fun h3 g3 => ?_)⟩
        refine B_sums_45 g3.1.rf ⟨fun _ => ⟨0, by omega, C_emit g3.1.inv ?_⟩, fun _ => ⟨0, by omega, C_emit g3.1.inv ?_⟩⟩
        · have z := GL_bin hc g p rdw_eq (rdw_nei (by decide)) g3 (c := 5) (by decide) (by decide)
          exact B_sums_59 z.1.1.rf (ih _ _ nL_i z.1 (by omega))
        · have z := GL_bin hc g p rdw_eq (rdw_nei (by decide)) g3 (c := 4) (by decide) (by decide)
          exact B_sums_59 z.1.1.rf (ih _ _ nL_i z.1 (by omega))
      refine B_sums_5 no g.1.rf ⟨0, by omega, C_isSign g.1.inv (fun q => ?_) (fun q => ?_)⟩
      · have h9 := sg_lt g.1.inv q
        exact B_sums_11_1 no g.1.rf ⟨0, by omega, C_isSign g.1.inv (fun _ => go 1 h9.2) (fun _ => go 0 h9.2)⟩
      · refine B_sums_11_0 no g.1.rf ⟨0, by omega, C_isSign g.1.inv (fun q => ?_) (fun q => ?_)⟩
        · have h9 := sg_lt g.1.inv q
          exact B_sums_20_1 no g.1.rf ⟨0, by omega, C_isSign g.1.inv (fun _ => go 1 h9.2) (fun _ => go 0 h9.2)⟩
        · exact B_sums_20_0 no g.1.rf (k _ g)
  exact B_sums_0 (RF_of hp.1.1) ⟨E, by omega, hP E _ _ (Nat.le_refl _) hp hc (fun h1 g => loop (1000 - rd h1 182 7).toNat h1 none nL_n g (by omega))⟩
theorem C_test (hP : CtP xs xl mm_sums [none] dep E) (hE : 1 ≤ E) : CtP xs xl mm_test [none] dep (E + 1) := by
  intro e h Q he hp hc k
  refine B_test_0 (RF_of hp.1.1) ⟨E, by omega, hP E _ _ (Nat.le_refl _) hp hc (fun h1 g => ?_)⟩
  have h8 := rF_at g.1.inv.1
  have fin : ∀ (w : Int) (h2 : LH), PS h1 h2 → rd h2 182 7 = rd h1 182 7 + 1 → rd h2 182 13 = rd h1 182 13 → ∃ c, c < e ∧ Rn xs xl c mm_sums 0 [some (.inr (.inr 182)), some (.inl dep), none] [] h2 (fun r h' => Rn xs xl e mm_test 35 [some (.inr (.inr 182)), some (.inl dep), some (.inl w)] (r.toList ++ []) h' Q) := by
    intro w h2 p e7 e13
    refine ⟨E, by omega, hP E _ _ (Nat.le_refl _) p.1 (p.le (g.1.le hc)) (fun h3 g3 => ?_)⟩
    refine B_test_35 g3.1.rf ⟨fun _ => ⟨0, by omega, C_emit g3.1.inv ?_⟩, fun _ => ⟨0, by omega, C_emit g3.1.inv ?_⟩⟩
    · have z := GL_bin hc g p e7 e13 g3 (c := 8) (by decide) (by decide)
      exact B_test_51 z.1.1.rf (k _ z.1)
    · have z := GL_bin hc g p e7 e13 g3 (c := 7) (by decide) (by decide)
      exact B_test_51 z.1.1.rf (k _ z.1)
  have go : ∀ w : Int, Rn xs xl e mm_test 11 [some (.inr (.inr 182)), some (.inl dep), none] [.inl w] h1 Q := by
    intro w
    refine B_test_11 g.1.rf ⟨1, by omega, C_hasSign (by omega) g.1.inv (fun q => ?_) (fun q => ?_)⟩
    · have h9 := sg_lt g.1.inv q
      have p := PS_at g.1.1 (v := rd h1 182 7 + 1) (by omega) (by omega)
      exact B_test_18_1 p.rf (fin w _ p rdw_eq (rdw_nei (by decide)))
    · have p0 := PS_at g.1.1 (v := rd h1 182 7) (by omega) (by omega)
      refine B_test_18_0 p0.rf ⟨1, by omega, C_hasSign (by omega) p0.inv (fun q => ?_) (fun q => ?_)⟩
      · have h9 := sg_lt p0.inv q
        have e0 : rd (wr h1 182 7 (rd h1 182 7)) 182 7 = rd h1 182 7 := rdw_eq
        have p1 := PS_at p0.1 (v := rd (wr h1 182 7 (rd h1 182 7)) 182 7 + 1) (by omega) (by omega)
        refine B_test_27_1 p1.rf (fin w _ (p0.trans p1) ?_ ?_)
        · rw [rdw_eq, e0]
        · exact (rdw_nei (by decide)).trans (rdw_nei (by decide))
      · have g0 := GL_at0 g
        exact B_test_27_0 (GL_at0 g0).1.rf (k _ (GL_at0 g0))
  exact B_test_5 g.1.rf ⟨0, by omega, C_isSign g.1.inv (fun _ => go 1) (fun _ => go 0)⟩
theorem C_all (hP : CtP xs xl mm_test [none] dep E) : CtP xs xl mm_all [none] dep (E + 1) := by
  intro e h Q he hp hc k
  have loop : ∀ (n : Nat) (h1 : LH) (o2 : Option LV), nL o2 → GL h h1 → 1000 - rd h1 182 7 ≤ n → Rn xs xl e mm_all 5 [some (.inr (.inr 182)), some (.inl dep), o2] [] h1 Q := by
    intro n
    induction n with
    | zero =>
      intro h1 o2 no g hn
      refine B_all_5 no g.1.rf ⟨0, by omega, C_isWord g.1.inv (by omega) (fun q => ?_) (fun q => ?_)⟩
      · have := wd_lt g.1.inv q
        omega
      · refine B_all_11_0 no g.1.rf ⟨0, by omega, C_isWord g.1.inv (by omega) (fun q => ?_) (fun q => ?_)⟩
        · have := wd_lt g.1.inv q
          omega
        · exact B_all_20_0 no g.1.rf (k _ g)
    | succ n ih =>
      intro h1 o2 no g hn
      have go : ∀ w : Int, rd h1 182 7 ≤ 999 → Rn xs xl e mm_all 29 [some (.inr (.inr 182)), some (.inl dep), o2] [.inl w] h1 Q := by
        intro w h9
        have h8 := rF_at g.1.inv.1
        have p := PS_at g.1.1 (v := rd h1 182 7 + 1) (by omega) (by omega)
        refine B_all_29 no g.1.rf ⟨by omega, E, by omega, hP E _ _ (Nat.le_refl _) p.1 (p.le (g.1.le hc)) (fun h3 g3 => ?_)⟩
        refine B_all_45 g3.1.rf ⟨fun _ => ⟨0, by omega, C_emit g3.1.inv ?_⟩, fun _ => ⟨0, by omega, C_emit g3.1.inv ?_⟩⟩
        · have z := GL_bin hc g p rdw_eq (rdw_nei (by decide)) g3 (c := 10) (by decide) (by decide)
          exact B_all_61 z.1.1.rf (ih _ _ nL_i z.1 (by omega))
        · have z := GL_bin hc g p rdw_eq (rdw_nei (by decide)) g3 (c := 9) (by decide) (by decide)
          exact B_all_61 z.1.1.rf (ih _ _ nL_i z.1 (by omega))
      refine B_all_5 no g.1.rf ⟨0, by omega, C_isWord g.1.inv (by omega) (fun q => ?_) (fun q => ?_)⟩
      · have h9 := wd_lt g.1.inv q
        exact B_all_11_1 no g.1.rf ⟨0, by omega, C_isWord g.1.inv (by omega) (fun _ => go 1 h9.2) (fun _ => go 0 h9.2)⟩
      · refine B_all_11_0 no g.1.rf ⟨0, by omega, C_isWord g.1.inv (by omega) (fun q => ?_) (fun q => ?_)⟩
        · have h9 := wd_lt g.1.inv q
          exact B_all_20_1 no g.1.rf ⟨0, by omega, C_isWord g.1.inv (by omega) (fun _ => go 1 h9.2) (fun _ => go 0 h9.2)⟩
        · exact B_all_20_0 no g.1.rf (k _ g)
  exact B_all_0 (RF_of hp.1.1) ⟨E, by omega, hP E _ _ (Nat.le_refl _) hp hc (fun h1 g => loop (1000 - rd h1 182 7).toNat h1 none nL_n g (by omega))⟩
theorem isSg_at0 {h : LH} {c : Int} (q : isSg h c) : isSg (wr h 182 7 (rd h 182 7)) c := by
  unfold isSg at q ⊢
  rw [rdw_eq, rdw_nei (by decide), rdw_ne (by decide), rdw_ne (by decide)]
  exact q
theorem w32_i (x : Int) : i32 (w32 x) := w32_in x
/-- a part, where its own parts, one deeper, keep theirs -/
theorem C_takePart (h0 : 0 ≤ dep) (h5 : dep ≤ 5) (hA : dep ≠ 5 → CtP xs xl mm_all [none] (dep + 1) E ∧ CtP xs xl mm_takePart [none, none] (dep + 1) E) (hE : 2 ≤ E) : CtP xs xl mm_takePart [none, none] dep (E + 1) := by
  intro e h Q he hp hc k
  have hF := RF_of hp.1.1
  have ha := rF_at hp.1.1
  have hf := rF_fault hp.1.1
  have GLf : ∀ h', PS h h' → rd h' 182 8 ≠ 0 → GL h h' := fun h' p q => ⟨p, fun z => absurd z q⟩
  have t69 : ∀ v2 v3 : Int, rd h 182 8 = 0 → (v2 ≠ 0 → rd h 184 (rd h 182 7) = 2) → v3 ≤ 3 → (0 ≤ v3 → isWd h (25 + v3)) → (0 ≤ v3 ∨ v2 ≠ 0 ∨ isSg h 40 ∨ isWd h 22) → Rn xs xl e mm_takePart 69 [some (.inr (.inr 182)), some (.inl dep), some (.inl v2), some (.inl v3)] [] h Q := by
    intro v2 v3 f0 s2 b3 w3 info
    refine B_takePart_69 hF ⟨fun c => ?_, fun c => ⟨0, by omega, C_wrong hp (by omega) (fun h' p1 p2 p3 p4 => ?_)⟩⟩
    · obtain ⟨hAll, hPart⟩ := hA c
      refine B_takePart_79 hF ⟨fun _ => ⟨1, by omega, C_hasWord (by omega) hp.1 (by omega) (fun q => ?_) (fun q => ?_)⟩, fun c => by omega⟩
      · have h9 := wd_lt hp.1 q
        have p := PS_at hp (v := rd h 182 7 + 1) (by omega) (by omega)
        refine B_takePart_93_1 p.rf ⟨by omega, E, by omega, hPart E _ _ (Nat.le_refl _) p.1 (p.le hc) (fun h2 g2 => ?_)⟩
        refine B_takePart_103 g2.1.rf ⟨0, by omega, C_emit g2.1.inv ?_⟩
        have x7 := emH_7 h2 3 0
        have x8 := emH_8 h2 3 0
        have x13 := emH_13 h2 3 0
        have e7 : rd (wr h 182 7 (rd h 182 7 + 1)) 182 7 = rd h 182 7 + 1 := rdw_eq
        have e13 : rd (wr h 182 7 (rd h 182 7 + 1)) 182 13 = rd h 182 13 := rdw_nei (by decide)
        have b5 := g2.1.2.2.2.2.1
        have b4 := g2.1.2.2.2.1
        have g : GL h (emH h2 3 0) := by
          refine ⟨PS_emit (p.trans g2.1) (by omega) hc (by omega) (by omega) (by unfold i32; omega), fun q => ?_⟩
          rw [x8] at q
          rw [x13]
          have s := g2.2 q
          rw [e13] at s
          exact seg_not (SegH_emH s (by omega) 3 0) (emH_op h2 3 0)
        exact B_takePart_109 g.1.rf (k _ g)
      · have p0 := PS_at hp (v := rd h 182 7) (by omega) (by omega)
        have e7 : rd (wr h 182 7 (rd h 182 7)) 182 7 = rd h 182 7 := rdw_eq
        have e13 : rd (wr h 182 7 (rd h 182 7)) 182 13 = rd h 182 13 := rdw_nei (by decide)
        refine B_takePart_93_0 p0.rf ⟨1, by omega, C_hasSign (by omega) p0.inv (fun q2 => ?_) (fun q2 => ?_)⟩
        · have h9 := sg_lt p0.inv q2
          have p1 := PS_at p0.1 (v := rd (wr h 182 7 (rd h 182 7)) 182 7 + 1) (by omega) (by omega)
          have p := p0.trans p1
          refine B_takePart_118_1 p.rf ⟨by omega, E, by omega, hAll E _ _ (Nat.le_refl _) p.1 (p.le hc) (fun h3 g3 => ?_)⟩
          refine B_takePart_128 g3.1.rf ⟨1, by omega, C_takeSign (by omega) g3.1.1 (fun h4 p4 _ c4 => ?_)⟩
          have g4 := GL_ps g3 p4 c4
          have x13 : rd (wr (wr h 182 7 (rd h 182 7)) 182 7 (rd (wr h 182 7 (rd h 182 7)) 182 7 + 1)) 182 13 = rd h 182 13 := (rdw_nei (by decide)).trans e13
          have g : GL h h4 := by
            refine ⟨p.trans g4.1, fun q => ?_⟩
            have s := g4.2 q
            rw [x13] at s
            exact s
          exact B_takePart_134 g.1.rf (k _ g)
        · have info2 : 0 ≤ v3 ∨ v2 ≠ 0 := by
            rcases info with i | i | i | i
            · exact Or.inl i
            · exact Or.inr i
            · exact absurd (isSg_at0 i) q2
            · exact absurd i q
          have h9 : rd h 182 7 ≤ 999 := by
            rcases info2 with i | i
            · exact (wd_lt hp.1 (w3 i)).2
            · exact at_lt hp.1 (by rw [s2 i]; decide)
          have fin : ∀ (hq : LH), PS h hq → rd hq 182 7 = rd h 182 7 → rd hq 182 13 = rd h 182 13 → ∀ c a : Int, (c = 1 ∨ (c = 2 ∧ 0 ≤ a ∧ a ≤ 3)) → i32 a → ∃ d, d < e ∧ Rn xs xl d mm_emit 0 [some (.inr (.inr 182)), some (.inl c), some (.inl a)] [] hq (fun r h' => Rn xs xl e mm_takePart 168 [some (.inr (.inr 182)), some (.inl dep), some (.inl v2), some (.inl v3)] (r.toList ++ []) h' Q) := by
            intro hq pq f7 f13 c a hcc ha32
            have p := PS_emit1 pq.1 (pq.le hc) (c := c) (a := a) (by omega) (by omega) (by omega) ha32
            have hpos := rF_codes pq.inv.1
            have hI : INV (emH hq c a) := wF_codes (INV_arg (INV_op pq.inv (by omega) (by omega) (by omega)) (by omega) ha32.1 ha32.2) (by omega) (by have := pq.le hc; omega)
            have z7 := emH_7 hq c a
            refine ⟨0, by omega, C_emit pq.inv ?_⟩
            refine B_takePart_168 (RF_of hI.1) ⟨by omega, ?_⟩
            rw [z7]
            refine k _ ⟨pq.trans p, fun q => ?_⟩
            have z13 : rd (wr (emH hq c a) 182 7 (rd hq 182 7 + 1)) 182 13 = rd h 182 13 + 1 := by
              rw [rdw_nei (by decide), emH_13, f13]
            rw [z13]
            have o1 : opR (wr (emH hq c a) 182 7 (rd hq 182 7 + 1)) (rd h 182 13) = c := by
              have := emH_op hq c a
              rw [f13] at this
              exact (rdw_ne (by decide)).trans this
            have o2 : arR (wr (emH hq c a) 182 7 (rd hq 182 7 + 1)) (rd h 182 13) = a := by
              have := emH_ar hq c a
              rw [f13] at this
              exact (rdw_ne (by decide)).trans this
            rcases hcc with rfl | ⟨rfl, a0, a1⟩
            · exact seg_num o1
            · exact seg_fact o1 (by rw [o2]; exact a0) (by rw [o2]; exact a1)
          have pz := PS_at p0.1 (v := rd (wr h 182 7 (rd h 182 7)) 182 7) (by omega) (by omega)
          have z7 : rd (wr (wr h 182 7 (rd h 182 7)) 182 7 (rd (wr h 182 7 (rd h 182 7)) 182 7)) 182 7 = rd h 182 7 := rdw_eq.trans e7
          have z13 : rd (wr (wr h 182 7 (rd h 182 7)) 182 7 (rd (wr h 182 7 (rd h 182 7)) 182 7)) 182 13 = rd h 182 13 := (rdw_nei (by decide)).trans e13
          refine B_takePart_118_0 pz.rf ⟨fun c0 => ⟨fun _ => ?_, fun c1 => absurd c0 c1⟩, fun c0 => ⟨fun c1 => absurd c1 c0, fun _ => ⟨by omega, ?_⟩⟩⟩
          · have a0 : 0 ≤ v3 := by
              rcases info2 with i | i
              · exact i
              · exact absurd c0 i
            exact fin _ (p0.trans pz) z7 z13 2 v3 (Or.inr ⟨rfl, a0, b3⟩) (by unfold i32; omega)
          · exact fin _ (p0.trans pz) z7 z13 1 _ (Or.inl rfl) (w32_i _)
    · exact B_takePart_79 p1.rf ⟨fun c => by have := rF_fault p1.inv.1; omega, fun _ => k _ (GLf _ p1 p2)⟩
  have t34 : ∀ v2 r : Int, rd h 182 8 = 0 → (v2 ≠ 0 → rd h 184 (rd h 182 7) = 2) → r ≤ 3 → (0 ≤ r → isWd h (25 + r)) → Rn xs xl e mm_takePart 34 [some (.inr (.inr 182)), some (.inl dep), some (.inl v2), none] [.inl r] h Q := by
    intro v2 r f0 s2 b3 w3
    refine B_takePart_34 hF ⟨fun c => t69 v2 r f0 s2 b3 w3 (Or.inl c), fun c => ⟨fun c2 => t69 v2 r f0 s2 b3 w3 (Or.inr (Or.inl c2)), fun c2 => ⟨0, by omega, C_isSign hp.1 (fun q => ?_) (fun q => ?_)⟩⟩⟩
    · exact B_takePart_49_1 hF (t69 v2 r f0 s2 b3 w3 (Or.inr (Or.inr (Or.inl q))))
    · refine B_takePart_49_0 hF ⟨0, by omega, C_isWord hp.1 (by omega) (fun q => ?_) (fun q => ?_)⟩
      · exact B_takePart_58_1 hF (t69 v2 r f0 s2 b3 w3 (Or.inr (Or.inr (Or.inr q))))
      · refine B_takePart_58_0 hF ⟨0, by omega, C_wrong hp (by omega) (fun h' p1 p2 p3 p4 => ?_)⟩
        exact B_takePart_66 p1.rf (B_takePart_79 p1.rf ⟨fun c => by have := rF_fault p1.inv.1; omega, fun _ => k _ (GLf _ p1 p2)⟩)
  refine B_takePart_0 hF ⟨fun c => ⟨by omega, fun c2 => ⟨1, by omega, C_wordHere (by omega) hp.1 (by omega) (fun r r1 r2 r3 => ?_)⟩, fun c2 => ⟨1, by omega, C_wordHere (by omega) hp.1 (by omega) (fun r r1 r2 r3 => ?_)⟩⟩, fun c => k h (GLf h (PS.refl hp) (by omega))⟩
  · exact t34 0 r (by omega) (fun q => absurd rfl q) (by omega) r3
  · exact t34 1 r (by omega) (fun _ => c2) (by omega) r3
theorem C_part_all : ∀ (n : Nat) (dep : Int), dep = 5 - (n : Int) → 0 ≤ dep → ∃ E, CtP xs xl mm_takePart [none, none] dep E ∧ CtP xs xl mm_all [none] dep (E + 5) ∧ 2 ≤ E ∧ E = 6 * n + 3
  | 0, dep, hd, h0 => by
    have hP : CtP xs xl mm_takePart [none, none] dep (2 + 1) := C_takePart (E := 2) h0 (by omega) (fun q => absurd (by omega) q) (by omega)
    exact ⟨3, hP, C_all (C_test (C_sums (C_products hP)) (by omega)), by omega, by omega⟩
  | n + 1, dep, hd, h0 => by
    obtain ⟨E, p1, p2, p3, p4⟩ := C_part_all n (dep + 1) (by omega) (by omega)
    have hP : CtP xs xl mm_takePart [none, none] dep (E + 5 + 1) := C_takePart (E := E + 5) h0 (by omega) (fun _ => ⟨p2, fun e h Q he hp hc k => p1 e h Q (by omega) hp hc k⟩) (by omega)
    exact ⟨E + 5 + 1, hP, C_all (C_test (C_sums (C_products hP)) (by omega)), by omega, by omega⟩
/-- the whole law -/
theorem C_all0 : CtP xs xl mm_all [none] 0 38 := by
  obtain ⟨E, p1, p2, p3, p4⟩ := C_part_all (xs := xs) (xl := xl) 5 0 (by omega) (by omega)
  subst p4
  exact p2
end C2
