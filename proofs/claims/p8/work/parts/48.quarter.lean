/-! LM, part 48: the reference reads a quarter -/
def SP4 (h : LH) : Prop := SPlines h ∧ SPlaw h ∧ SPtok h ∧ SPq h
theorem SP4_of {h h' : LH} (e : ∀ b j, sens b j → b ≠ 198 → b ≠ 199 → b ≠ 182 → rd h' b j = rd h b j) (hs : SP4 h) : SP4 h' := by
  obtain ⟨⟨h1, h2, h3, h4, h5, h6, h7, h8⟩, hl, ht, hq⟩ := hs
  have c : ∀ b j, (b = 63 ∨ b = 64 ∨ b = 71 ∨ b = 72 ∨ b = 106 ∨ b = 107 ∨ b = 114 ∨ b = 115 ∨ b = 122 ∨ b = 123 ∨ b = 130 ∨ b = 131 ∨ b = 200) → rd h' b j = rd h b j := fun b j hb => e b j (sens_c hb) (by rintro rfl; revert hb; decide) (by rintro rfl; revert hb; decide) (by rintro rfl; revert hb; decide)
  have e0 : ∀ j, 0 ≤ j → j < 150 → rd h' 188 j = rd h 188 j := fun j j0 j1 => e 188 j (by unfold sens; omega) (by decide) (by decide) (by decide)
  refine ⟨⟨lines_same (fun j => c _ j (by omega)) (fun j => c _ j (by omega)) h1, lines_same (fun j => c _ j (by omega)) (fun j => c _ j (by omega)) h2, lines_same (fun j => c _ j (by omega)) (fun j => c _ j (by omega)) h3, lines_same (fun j => c _ j (by omega)) (fun j => c _ j (by omega)) h4, lines_same (fun j => c _ j (by omega)) (fun j => c _ j (by omega)) h5, lines_same (fun j => c _ j (by omega)) (fun j => c _ j (by omega)) h6, ?_, ?_⟩, ?_, ?_, ?_⟩
  · intro k k0 k1 q
    rw [e 195 _ (by unfold sens; omega) (by decide) (by decide) (by decide)] at q ⊢
    exact h7 k k0 k1 q
  · intro m m0 m1 k k0 k1 q
    rw [c 200 _ (by omega)] at q ⊢
    exact h8 m m0 m1 k k0 k1 q
  · intro q
    rw [e0 3 (by decide) (by decide)] at q
    obtain ⟨n, n1, n2, n3⟩ := hl q
    exact ⟨n, n1, seg_same n2 (fun k k1 k2 => ⟨e 189 k (by unfold sens; omega) (by decide) (by decide) (by decide), e 190 k (by unfold sens; omega) (by decide) (by decide) (by decide)⟩), by rw [e 189 n (by unfold sens; omega) (by decide) (by decide) (by decide)]; exact n3⟩
  · unfold SPtok
    rw [e 184 1000 (by unfold sens; omega) (by decide) (by decide) (by decide)]
    exact ht
  · refine ⟨fun d d0 d1 d2 => ?_, fun p p0 p1 p2 => ?_⟩
    · rw [e0 1 (by decide) (by decide)] at d2
      rw [e0 (5 + 8 * d) (by omega) (by omega), e0 (6 + 8 * d) (by omega) (by omega), e0 0 (by decide) (by decide)]
      exact hq.1 d d0 d1 d2
    · rw [e0 2 (by decide) (by decide)] at p2
      rw [e0 (117 + 4 * p) (by omega) (by omega), e0 0 (by decide) (by decide)]
      exact hq.2 p p0 p1 p2
-- the state's places
theorem hs_rng {i lo hi : Int} {A : AV} (h0 : 0 ≤ i) (h1 : lo ≤ i % 70) (h2 : i % 70 ≤ hi) (hc : ((List.range 70).all (fun r => !(decide (lo ≤ (r : Int)) && decide ((r : Int) ≤ hi)) || decide (RGr63.getD r top0 = A))) = true) : hav 198 i = A := by
  have hm : i.toNat % 70 = (i % 70).toNat := by omega
  rw [havM (a := 198) (i := i) (L := RGr63) (n := 70) (r := (i % 70).toNat) (by decide +kernel) (by decide +kernel) hm]
  have h3 := List.all_eq_true.mp hc (i % 70).toNat (List.mem_range.mpr (by omega))
  have e : (((i % 70).toNat : Nat) : Int) = i % 70 := by omega
  rw [e, decide_eq_true h1, decide_eq_true h2] at h3
  simpa using h3
theorem ws {h : LH} (hr : RNG h) {i v : Int} (lo hi l u : Int) (h0 : 0 ≤ i) (h1 : lo ≤ i % 70) (h2 : i % 70 ≤ hi) (hc : ((List.range 70).all (fun r => !(decide (lo ≤ (r : Int)) && decide ((r : Int) ≤ hi)) || decide (RGr63.getD r top0 = (0, l, u, 1)))) = true) (v0 : l ≤ v) (v1 : v ≤ u) (v2 : i32 v) : RNG (wr h 198 i v) := wrR hr (Or.inl (lkd_1 (by decide +kernel))) (fun w hw => by rw [hs_rng h0 h1 h2 hc]; exact hw) v0 v1 v2
theorem wu {h : LH} (hr : RNG h) {v : Int} (v0 : 0 ≤ v) (v1 : v ≤ 16) : RNG (wr h 182 25 v) := wrR hr (Or.inl (by decide +kernel)) (leA1 (by decide +kernel)) v0 v1 ⟨by omega, by omega⟩
section C8
variable {xs : Nat → Int} {xl e : Nat} {h : LH} {Q : Option LV → LH → Prop}
theorem D_startsDay {b : Int} (he : 1 ≤ e) (hr : RNG h) (b0 : b % 70 = 0) (b1 : 0 ≤ b) (b2 : b ≤ 1540) (k : ∀ g, RNG g → (∀ p, 0 ≤ p → p ≤ 5 → rd g 198 (b + 2 + p) = rd h 188 (117 + 4 * p)) → (∀ a i, ¬ (a = 198 ∧ b ≤ i ∧ i < b + 34) → rd g a i = rd h a i) → Q none g) : Rn xs xl e mm_startsDay 0 [some (.inr (.inr 182)), some (.inl b), none] [] h Q := by
  have l84 : ∀ (n : Nat) (g : LH) (v : Int), 14 - v ≤ n → 0 ≤ v → v ≤ 14 → RNG g → (∀ p, 0 ≤ p → p ≤ 5 → rd g 198 (b + 2 + p) = rd h 188 (117 + 4 * p)) → (∀ a i, ¬ (a = 198 ∧ b ≤ i ∧ i < b + 34) → rd g a i = rd h a i) → Rn xs xl e mm_startsDay 84 [some (.inr (.inr 182)), some (.inl b), some (.inl v)] [] g Q := by
    intro n
    induction n with
    | zero =>
      intro g v hn v0 v1 gr gw gf
      exact B_startsDay_84 (RF_of gr) ⟨fun _ => k g gr gw gf, fun c => by omega⟩
    | succ n ih =>
      intro g v hn v0 v1 gr gw gf
      refine B_startsDay_84 (RF_of gr) ⟨fun _ => k g gr gw gf, fun c => ⟨by omega, by omega, by omega, by omega, ih _ (v + 1) (by omega) (by omega) (by omega) (ws gr 20 33 (-2147483648) 2147483647 (by omega) (by omega) (by omega) (by decide +kernel) (by omega) (by omega) (by unfold i32; omega)) (fun p p0 p1 => ?_) (fun a i hn => ?_)⟩⟩
      · rw [rdw_nei (by omega)]
        exact gw p p0 p1
      · rw [rd_wr, if_neg]
        · exact gf a i hn
        · rintro ⟨rfl, rfl⟩
          exact hn (by omega)
  have l11 : ∀ (n : Nat) (g : LH) (v : Int), 6 - v ≤ n → 0 ≤ v → v ≤ 6 → RNG g → (∀ p, 0 ≤ p → p < v → rd g 198 (b + 2 + p) = rd h 188 (117 + 4 * p)) → (∀ a i, ¬ (a = 198 ∧ b ≤ i ∧ i < b + 34) → rd g a i = rd h a i) → Rn xs xl e mm_startsDay 11 [some (.inr (.inr 182)), some (.inl b), some (.inl v)] [] g Q := by
    intro n
    induction n with
    | zero =>
      intro g v hn v0 v1 gr gw gf
      exact B_startsDay_11 (RF_of gr) he ⟨fun _ => l84 14 g 0 (by omega) (by omega) (by omega) gr (fun p p0 p1 => gw p p0 (by omega)) gf, fun c => by omega⟩
    | succ n ih =>
      intro g v hn v0 v1 gr gw gf
      by_cases hv : v < 6
      · have hm := rq_p1 gr (i := 4 * v + 117) (d := v) (by omega) (by omega) (by omega)
        have go : ∀ w : Int, 0 ≤ w → w ≤ 1 → Rn xs xl e mm_startsDay 11 [some (.inr (.inr 182)), some (.inl b), some (.inl (v + 1))] [] (wr (wr (wr g 198 (b + v + 2) (rd g 188 (4 * v + 117))) 198 (b + v + 8) w) 198 (b + v + 14) 0) Q := by
          intro w w0 w1
          have r1 := ws gr (i := b + v + 2) (v := rd g 188 (4 * v + 117)) 2 7 0 9 (by omega) (by omega) (by omega) (by decide +kernel) hm.1 hm.2 ⟨by omega, by omega⟩
          have r2 := ws r1 (i := b + v + 8) (v := w) 8 13 0 1 (by omega) (by omega) (by omega) (by decide +kernel) w0 w1 ⟨by omega, by omega⟩
          have r3 := ws r2 (i := b + v + 14) (v := 0) 14 19 0 1 (by omega) (by omega) (by omega) (by decide +kernel) (by omega) (by omega) ⟨by omega, by omega⟩
          refine ih _ (v + 1) (by omega) (by omega) (by omega) r3 (fun p p0 p1 => ?_) (fun a i hn => ?_)
          · rw [rdw_nei (by omega), rdw_nei (by omega), rd_wr]
            split
            · next q => rw [gf 188 _ (by omega), show (4 * v + 117 : Int) = 117 + 4 * p by omega]
            · next q => exact gw p p0 (by omega)
          · rw [rd_wr, if_neg, rd_wr, if_neg, rd_wr, if_neg]
            · exact gf a i hn
            all_goals (rintro ⟨rfl, rfl⟩; exact hn (by omega))
        exact B_startsDay_11 (RF_of gr) he ⟨fun c => by omega, fun c => ⟨by omega, by omega, by omega, by omega, by omega, by omega, by omega, by omega, by omega, by omega, by omega, by omega, by omega, by omega, by omega, by omega, by omega, fun _ => ⟨by omega, by omega, by omega, by omega, by omega, go 0 (by omega) (by omega)⟩, fun _ => ⟨by omega, by omega, by omega, by omega, by omega, go 1 (by omega) (by omega)⟩⟩⟩
      · exact B_startsDay_11 (RF_of gr) he ⟨fun _ => l84 14 g 0 (by omega) (by omega) (by omega) gr (fun p p0 p1 => gw p p0 (by omega)) gf, fun c => by omega⟩
  refine B_startsDay_0 (RF_of hr) ⟨by omega, by omega, l11 6 _ 0 (by omega) (by omega) (by omega) (ws hr 0 0 0 24 (by omega) (by omega) (by omega) (by decide +kernel) (by omega) (by omega) (by unfold i32; omega)) (fun p p0 p1 => by omega) (fun a i hn => ?_)⟩
  rw [rd_wr, if_neg]
  rintro ⟨rfl, rfl⟩
  exact hn (by omega)
def muG (a i : Int) : Prop := (a = 198 ∧ 0 ≤ i ∧ i < 35) ∨ (a = 195 ∧ i = 0) ∨ (a = 182 ∧ i = 25) ∨ a = 199
theorem D_begins (he : 2 ≤ e) (hr : RNG h) (hs : SP4 h) (k : ∀ g, INV g → (∀ a i, ¬ muG a i → rd g a i = rd h a i) → Q none g) : Rn xs xl e mm_begins 0 [some (.inr (.inr 182)), none] [] h Q := by
  refine B_begins_0 (RF_of hr) ⟨1, by omega, D_startsDay (by omega) hr (by omega) (by omega) (by omega) (fun g gr gw gf => ?_)⟩
  have r1 := ws gr (i := 1) (v := 0) 1 1 (-2147483648) 2147483647 (by omega) (by omega) (by omega) (by decide +kernel) (by omega) (by omega) (by unfold i32; omega)
  have r2 := ws r1 (i := 34) (v := 0) 34 34 0 10 (by omega) (by omega) (by omega) (by decide +kernel) (by omega) (by omega) (by unfold i32; omega)
  have r3 := wY_lines r2 (i := 0) (v := 0) (ix := (0, 0, 0, 0)) (lo := 0) (hi := 24) (by decide +kernel) (pt 0) (by omega) (by omega) (by unfold i32; omega)
  have r4 := wu r3 (v := 0) (by omega) (by omega)
  generalize hg4 : wr (wr (wr (wr g 198 1 0) 198 34 0) 195 0 0) 182 25 0 = g4 at *
  have f4 : ∀ a i, ¬ muG a i → rd g4 a i = rd h a i := by
    intro a i hn
    rw [← hg4, rd_wr, if_neg, rd_wr, if_neg, rd_wr, if_neg, rd_wr, if_neg]
    · exact gf a i (fun q => hn (by unfold muG; omega))
    all_goals (rintro ⟨rfl, rfl⟩; exact hn (by unfold muG; omega))
  have w4 : ∀ p, 0 ≤ p → p ≤ 5 → rd g4 198 (0 + 2 + p) = rd h 188 (117 + 4 * p) := by
    intro p p0 p1
    rw [← hg4, rdw_ne (by decide), rdw_ne (by decide), rdw_nei (by omega), rdw_nei (by omega)]
    exact gw p p0 p1
  have u4 : rd g4 182 25 = 0 := by
    rw [← hg4]
    exact rdw_eq
  refine B_begins_5 (RF_of gr) ?_
  rw [hg4]
  have loop : ∀ (n : Nat) (q : LH) (v : Int), 4 - v ≤ n → 0 ≤ v → v ≤ 4 → RNG q → (∀ m, 0 ≤ m → m < v → rd q 199 m = 0) → (∀ a i, a ≠ 199 → rd q a i = rd g4 a i) → Rn xs xl e mm_begins 34 [some (.inr (.inr 182)), some (.inl v)] [] q Q := by
    have stop : ∀ (q : LH), RNG q → (∀ m, 0 ≤ m → m < 4 → rd q 199 m = 0) → (∀ a i, a ≠ 199 → rd q a i = rd g4 a i) → Q none q := by
      intro q qr qm qf
      have qh : ∀ a i, ¬ muG a i → rd q a i = rd h a i := fun a i hn => (qf a i (fun z => hn (by unfold muG; omega))).trans (f4 a i hn)
      have s4 : SP4 q := SP4_of (fun b j hb n1 n2 n3 => qh b j (by unfold muG; unfold sens at hb; omega)) hs
      refine k q ⟨qr, s4.1, s4.2.1, s4.2.2.1, s4.2.2.2, ?_, fun m m0 m1 z => ?_, fun j j0 j1 z => ?_⟩ qh
      · intro p p0 p1 p2
        rw [qf 198 _ (by decide), w4 p p0 p1, qh 188 0 (by unfold muG; omega)]
        rw [qh 188 2 (by unfold muG; omega)] at p2
        exact hs.2.2.2.2 p p0 p1 p2
      · rw [qm m m0 m1] at z
        cases z
      · rw [qf 182 25 (by decide), u4] at z
        omega
    intro n
    induction n with
    | zero =>
      intro q v hn v0 v1 qr qm qf
      exact B_begins_34 (RF_of qr) ⟨fun _ => stop q qr (fun m m0 m1 => qm m m0 (by omega)) qf, fun c => by omega⟩
    | succ n ih =>
      intro q v hn v0 v1 qr qm qf
      refine B_begins_34 (RF_of qr) ⟨fun _ => stop q qr (fun m m0 m1 => qm m m0 (by omega)) qf, fun c => ⟨by omega, by omega, ih _ (v + 1) (by omega) (by omega) (by omega) (wR_isMarked qr (by omega) (by omega)) (fun m m0 m1 => ?_) (fun a i hn => ?_)⟩⟩
      · rw [rd_wr]
        split
        · rfl
        · exact qm m m0 (by omega)
      · rw [rdw_ne (fun q => hn q.symm)]
        exact qf a i hn
  exact loop 4 g4 0 (by omega) (by omega) (by omega) r4 (fun m _ _ => by omega) (fun _ _ _ => rfl)
theorem D_stands (hI : INV h) (k : ∀ g, INV g → rd g 188 153 = -1 → (∀ i, 150 ≤ i → i < 300 → i ≠ 153 → rd g 188 i = 0) → (∀ a i, ¬ (a = 188 ∧ 150 ≤ i) → rd g a i = rd h a i) → Q none g) : Rn xs xl e mm_standsAsAlways 0 [some (.inr (.inr 182)), some (.inl 150), none] [] h Q := by
  have loop : ∀ (n : Nat) (g : LH) (v : Int), 150 - v ≤ n → 0 ≤ v → v ≤ 150 → INV g → (∀ i, 150 ≤ i → i < 150 + v → rd g 188 i = 0) → (∀ a i, ¬ (a = 188 ∧ 150 ≤ i) → rd g a i = rd h a i) → Rn xs xl e mm_standsAsAlways 2 [some (.inr (.inr 182)), some (.inl 150), some (.inl v)] [] g Q := by
    have stop : ∀ (g : LH), INV g → (∀ i, 150 ≤ i → i < 300 → rd g 188 i = 0) → (∀ a i, ¬ (a = 188 ∧ 150 ≤ i) → rd g a i = rd h a i) → Q none (wr g 188 (150 + 3) (-1)) := by
      intro g gI g0 gf
      refine k _ (wq_let gI (by omega) (by omega)) rdw_eq (fun i i0 i1 i2 => ?_) (fun a i hn => ?_)
      · rw [rdw_nei (by omega)]
        exact g0 i i0 i1
      · rw [rd_wr, if_neg]
        · exact gf a i hn
        · rintro ⟨rfl, rfl⟩
          exact hn (by omega)
    intro n
    induction n with
    | zero =>
      intro g v hn v0 v1 gI g0 gf
      exact B_standsAsAlways_2 (RF_of gI.1) ⟨fun _ => ⟨by omega, by omega, stop g gI (fun i i0 i1 => g0 i i0 (by omega)) gf⟩, fun c => by omega⟩
    | succ n ih =>
      intro g v hn v0 v1 gI g0 gf
      refine B_standsAsAlways_2 (RF_of gI.1) ⟨fun _ => ⟨by omega, by omega, stop g gI (fun i i0 i1 => g0 i i0 (by omega)) gf⟩, fun c => ⟨by omega, by omega, by omega, ih _ (v + 1) (by omega) (by omega) (by omega) ?_ (fun i i0 i1 => ?_) (fun a i hn => ?_)⟩⟩
      · refine INV_wr gI (by unfold sens; omega) ?_
        rw [lkd_1 (by decide +kernel)]
        exact fitR_ok (a := 188) (ix := (0, 150, 299, 1)) (v := (0, 0, 0, 0)) (by decide +kernel) (inv1 (by omega) (by omega)) ⟨rfl, by unfold i32; omega, Int.le_refl _, Int.le_refl _, by simp⟩
      · rw [rd_wr]
        split
        · rfl
        · exact g0 i i0 (by omega)
      · rw [rd_wr, if_neg]
        · exact gf a i hn
        · rintro ⟨rfl, rfl⟩
          exact hn (by omega)
  exact B_standsAsAlways_0 (RF_of hI.1) (loop 150 h 0 (by omega) (by omega) (by omega) hI (fun i i0 i1 => by omega) (fun _ _ _ => rfl))
end C8
