/-! the scene, part s7: the reference's blocks: kept, passed, begun -/
/-- block c of g is what block b of h was -/
def blq (h g : LH) (b c : Int) : Prop := ∀ i, 0 ≤ i → i < 34 → rd g 198 (c + i) = rd h 198 (b + i)
/-- what keeps leaves -/
def kpx (h g : LH) : Prop := (rd h 182 25 < 16 → rd g 182 25 = rd h 182 25 + 1 ∧ (∀ k, 0 ≤ k → k < rd h 182 25 → blq h g (70 * k + 350) (70 * k + 350)) ∧ blq h g 0 (70 * rd h 182 25 + 350)) ∧ (rd h 182 25 = 16 → rd g 182 25 = 16 ∧ (∀ k, 0 ≤ k → k < 15 → blq h g (70 * k + 420) (70 * k + 350)) ∧ blq h g 0 1400)
/-- an hour has passed in block b -/
def psx (b : Int) (h g : LH) : Prop := rd g 198 b = (if rd h 198 b < 24 then rd h 198 b + 1 else rd h 198 b) ∧ (∀ p, 0 ≤ p → p < 6 → rd g 198 (b + p + 14) = 0) ∧ ∀ d, 0 ≤ d → d < 14 → rd g 198 (b + d + 20) = 0
/-- a day has begun in block b -/
def sdx (b : Int) (g : LH) : Prop := rd g 198 b = 0 ∧ (∀ p, 0 ≤ p → p ≤ 5 → rd g 198 (b + p + 2) = rd g 188 (4 * p + 117) ∧ rd g 198 (b + p + 8) = (if rd g 188 (4 * p + 117) = rd g 188 (4 * p + 118) then 1 else 0) ∧ rd g 198 (b + p + 14) = 0) ∧ ∀ d, 0 ≤ d → d < 14 → rd g 198 (b + d + 20) = 0
section SC7
variable {xs : Nat → Int} {xl e : Nat} {h g : LH} {Q : Option LV → LH → Prop}
theorem G_keepsX (he : 1 ≤ e) (hI : INV h) (k : ∀ g, INV g → (∀ a i, ¬ (a = 198 ∧ 350 ≤ i ∧ i < 1434) → ¬ (a = 182 ∧ i = 25) → rd g a i = rd h a i) → kpx h g → Q none g) : Rn xs xl e mm_keeps 0 [some (.inr (.inr 182)), none] [] h Q := by
  have n0 := rF_undos hI.1
  have A : Rn xs xl e mm_keeps 0 [some (.inr (.inr 182)), none] [] h (fun r g => r = none ∧ kpx h g) := by
    have t53 : ∀ (g : LH) (o1 : Option LV), RNG g → (0 ≤ rd g 182 25 ∧ rd g 182 25 ≤ 15) → (∀ u, (∀ a i, ¬ (a = 198 ∧ 70 * rd g 182 25 + 350 ≤ i ∧ i < 70 * rd g 182 25 + 350 + 34) → a ≠ 182 → rd u a i = rd g a i) → rd u 182 25 = rd g 182 25 + 1 → blq g u 0 (70 * rd g 182 25 + 350) → kpx h u) → Rn xs xl e mm_keeps 53 [some (.inr (.inr 182)), o1] [] g (fun r g => r = none ∧ kpx h g) := by
      intro g o1 gr n1 kk
      refine B_keeps_53 (RF_of gr) ⟨by omega, by omega, 0, by omega, D_copies gr (by omega) (by omega) (by omega) (fun u ur uf uc => ?_)⟩
      have un : rd u 182 25 = rd g 182 25 := uf 182 25 (by omega)
      refine B_keeps_69 (RF_of ur) ⟨by omega, rfl, kk _ (fun a i n1 n2 => ?_) ?_ (fun i i0 i1 => ?_)⟩
      · rw [rdw_ne (fun z => n2 z.symm)]
        exact uf a i n1
      · rw [rdw_eq, un]
      · rw [rdw_ne (by decide)]
        exact uc i i0 i1
    have l11 : ∀ (n : Nat) (g : LH) (v1 : Int), 16 - v1 < n → 1 ≤ v1 → v1 ≤ 16 → RNG g → (∀ a i, ¬ (a = 198 ∧ 350 ≤ i ∧ i < 1434) → rd g a i = rd h a i) → rd h 182 25 = 16 → (∀ j, 0 ≤ j → j < v1 - 1 → blq h g (70 * j + 420) (70 * j + 350)) → (∀ j, v1 - 1 ≤ j → j ≤ 15 → blq h g (70 * j + 350) (70 * j + 350)) → Rn xs xl e mm_keeps 11 [some (.inr (.inr 182)), some (.inl v1)] [] g (fun r g => r = none ∧ kpx h g) := by
      intro n
      induction n with
      | zero =>
        intro g v1 hn
        omega
      | succ n ih =>
        intro g v1 hn a0 a1 gr gf h16 gs go
        have g16 : rd g 182 25 = 16 := (gf 182 25 (by omega)).trans h16
        refine B_keeps_11 (RF_of gr) ⟨a0, a1⟩ ⟨fun c => ⟨by omega, ?_⟩, fun c => ⟨0, by omega, D_copies gr (by omega) (by omega) (by omega) (fun u ur uf uc => B_keeps_37 (RF_of ur) (by omega) (ih u (v1 + 1) (by omega) (by omega) (by omega) ur (fun a i m => (uf a i (by omega)).trans (gf a i m)) h16 (fun j j0 j1 => ?_) (fun j j0 j1 => ?_)))⟩⟩
        · have r1 := wu gr (v := rd g 182 25 - 1) (by omega) (by omega)
          have e15 : rd (wr g 182 25 (rd g 182 25 - 1)) 182 25 = 15 := by rw [rdw_eq, g16]; rfl
          refine t53 _ _ r1 (by omega) (fun u uf un ub => ⟨fun z => absurd z (by omega), fun _ => ⟨by omega, fun j j0 j1 i i0 i1 => ?_, fun i i0 i1 => ?_⟩⟩)
          · rw [uf 198 _ (by omega) (by decide), rdw_ne (by decide)]
            exact gs j j0 (by omega) i i0 i1
          · have z := ub i i0 i1
            rw [e15, rdw_ne (by decide), gf 198 _ (by omega)] at z
            exact z
        · by_cases z : j = v1 - 1
          · intro i i0 i1
            have y := uc i i0 i1
            have x := go v1 (by omega) (by omega) i i0 i1
            rw [show 70 * j + 350 + i = 70 * v1 + 280 + i by omega, y, x, show 70 * j + 420 + i = 70 * v1 + 350 + i by omega]
          · intro i i0 i1
            rw [uf 198 _ (by omega)]
            exact gs j j0 (by omega) i i0 i1
        · intro i i0 i1
          rw [uf 198 _ (by omega)]
          exact go j (by omega) j1 i i0 i1
    refine B_keeps_0 (RF_of hI.1) ⟨fun c => t53 h _ hI.1 (by omega) (fun u uf un ub => ⟨fun _ => ⟨un, fun j j0 j1 i i0 i1 => uf 198 _ (by omega) (by decide), ub⟩, fun z => absurd z c⟩), fun c => l11 16 h 1 (by omega) (by omega) (by omega) hI.1 (fun _ _ _ => rfl) c (fun j j0 j1 => by omega) (fun j j0 j1 i i0 i1 => rfl)⟩
  have B : Rn xs xl e mm_keeps 0 [some (.inr (.inr 182)), none] [] h (fun r g => INV g ∧ (∀ a i, ¬ (a = 198 ∧ 350 ≤ i ∧ i < 1434) → ¬ (a = 182 ∧ i = 25) → rd g a i = rd h a i)) := D_keeps he hI (fun g gI gf => ⟨gI, gf⟩)
  refine (A.and B).mono (fun r g z => ?_)
  obtain ⟨⟨rfl, a⟩, b, c⟩ := z
  exact k g b c a
theorem G_passesX {b : Int} (hI : INV h) (b0 : b % 70 = 0) (hb : 0 ≤ b ∧ b ≤ 1540) (k : ∀ g, INV g → (∀ a i, ¬ (a = 198 ∧ (i = b ∨ (b + 14 ≤ i ∧ i ≤ b + 33))) → rd g a i = rd h a i) → psx b h g → Q none g) : Rn xs xl e mm_passes 0 [some (.inr (.inr 182)), some (.inl b), none] [] h Q := by
  have qh := rs_now hI.1 (i := b) b 0 (by omega) (by omega) (by omega) (by omega) (by omega) (by omega)
  have l57 : ∀ (n : Nat) (g : LH) (v2 : Int), 14 - v2 < n → 0 ≤ v2 → v2 ≤ 14 → INV g → (∀ a i, ¬ (a = 198 ∧ (i = b ∨ (b + 14 ≤ i ∧ i ≤ b + 33))) → rd g a i = rd h a i) → rd g 198 b = (if rd h 198 b < 24 then rd h 198 b + 1 else rd h 198 b) → (∀ p, 0 ≤ p → p < 6 → rd g 198 (b + p + 14) = 0) → (∀ d, 0 ≤ d → d < v2 → rd g 198 (b + d + 20) = 0) → Rn xs xl e mm_passes 57 [some (.inr (.inr 182)), some (.inl b), some (.inl v2)] [] g Q := by
    intro n
    induction n with
    | zero =>
      intro g v2 hn
      omega
    | succ n ih =>
      intro g v2 hn a0 a1 gI gf gt gp gd
      refine B_passes_57 (RF_of gI.1) hb ⟨a0, a1⟩ ⟨fun _ => k g gI gf ⟨gt, gp, fun d d0 d1 => gd d d0 (by omega)⟩, fun c => ?_⟩
      have r1 := ws gI.1 (i := b + v2 + 20) (v := 0) 20 33 (-2147483648) 2147483647 (by omega) (by omega) (by omega) (by decide +kernel) (by omega) (by omega) (by unfold i32; omega)
      refine ih _ (v2 + 1) (by omega) (by omega) (by omega) (INV_ws gI r1 (by omega)) (fun a i q => ?_) ?_ (fun p p0 p1 => ?_) (fun d d0 d1 => ?_)
      · rw [rd_wr, if_neg (by omega)]
        exact gf a i q
      · rw [rdw_nei (by omega)]
        exact gt
      · rw [rdw_nei (by omega)]
        exact gp p p0 p1
      · by_cases z : d = v2
        · rw [z, rdw_eq]
        · rw [rdw_nei (by omega)]
          exact gd d d0 (by omega)
  have l31 : ∀ (n : Nat) (g : LH) (v2 : Int), 6 - v2 < n → 0 ≤ v2 → v2 ≤ 6 → INV g → (∀ a i, ¬ (a = 198 ∧ (i = b ∨ (b + 14 ≤ i ∧ i ≤ b + 33))) → rd g a i = rd h a i) → rd g 198 b = (if rd h 198 b < 24 then rd h 198 b + 1 else rd h 198 b) → (∀ p, 0 ≤ p → p < v2 → rd g 198 (b + p + 14) = 0) → Rn xs xl e mm_passes 31 [some (.inr (.inr 182)), some (.inl b), some (.inl v2)] [] g Q := by
    intro n
    induction n with
    | zero =>
      intro g v2 hn
      omega
    | succ n ih =>
      intro g v2 hn a0 a1 gI gf gt gp
      refine B_passes_31 (RF_of gI.1) hb ⟨a0, a1⟩ ⟨fun _ => l57 15 g 0 (by omega) (by omega) (by omega) gI gf gt (fun p p0 p1 => gp p p0 (by omega)) (fun d d0 d1 => by omega), fun c => ?_⟩
      have r1 := ws gI.1 (i := b + v2 + 14) (v := 0) 14 19 0 1 (by omega) (by omega) (by omega) (by decide +kernel) (by omega) (by omega) (by unfold i32; omega)
      refine ih _ (v2 + 1) (by omega) (by omega) (by omega) (INV_ws gI r1 (by omega)) (fun a i q => ?_) ?_ (fun p p0 p1 => ?_)
      · rw [rd_wr, if_neg (by omega)]
        exact gf a i q
      · rw [rdw_nei (by omega)]
        exact gt
      · by_cases z : p = v2
        · rw [z, rdw_eq]
        · rw [rdw_nei (by omega)]
          exact gp p p0 (by omega)
  have st : ∀ v : Int, 0 ≤ v → v ≤ 24 → v = (if rd h 198 b < 24 then rd h 198 b + 1 else rd h 198 b) → Rn xs xl e mm_passes 31 [some (.inr (.inr 182)), some (.inl b), some (.inl 0)] [] (wr h 198 b v) Q := by
    intro v v0 v1 v2
    have r1 := ws hI.1 (i := b) (v := v) 0 0 0 24 (by omega) (by omega) (by omega) (by decide +kernel) (by omega) (by omega) (by unfold i32; omega)
    refine l31 7 _ 0 (by omega) (by omega) (by omega) (INV_ws hI r1 (by omega)) (fun a i q => ?_) ?_ (fun p p0 p1 => by omega)
    · rw [rd_wr, if_neg (by omega)]
    · rw [rdw_eq]
      exact v2
  exact B_passes_0 (RF_of hI.1) hb ⟨fun c => ⟨by omega, st _ (by omega) (by omega) (by rw [if_neg (by omega)])⟩, fun c => ⟨by omega, st _ (by omega) (by omega) (by rw [if_pos c])⟩⟩
theorem G_startsX {b : Int} (he : 1 ≤ e) (hr : RNG h) (b0 : b % 70 = 0) (b1 : 0 ≤ b) (b2 : b ≤ 1540) (k : ∀ g, RNG g → sdx b g → (∀ a i, ¬ (a = 198 ∧ b ≤ i ∧ i < b + 34 ∧ i ≠ b + 1) → rd g a i = rd h a i) → Q none g) : Rn xs xl e mm_startsDay 0 [some (.inr (.inr 182)), some (.inl b), none] [] h Q := by
  have l84 : ∀ (n : Nat) (g : LH) (v : Int), 14 - v ≤ n → 0 ≤ v → v ≤ 14 → RNG g → rd g 198 b = 0 → (∀ p, 0 ≤ p → p ≤ 5 → rd g 198 (b + p + 2) = rd h 188 (4 * p + 117) ∧ rd g 198 (b + p + 8) = (if rd h 188 (4 * p + 117) = rd h 188 (4 * p + 118) then 1 else 0) ∧ rd g 198 (b + p + 14) = 0) → (∀ d, 0 ≤ d → d < v → rd g 198 (b + d + 20) = 0) → (∀ a i, ¬ (a = 198 ∧ b ≤ i ∧ i < b + 34 ∧ i ≠ b + 1) → rd g a i = rd h a i) → Rn xs xl e mm_startsDay 84 [some (.inr (.inr 182)), some (.inl b), some (.inl v)] [] g Q := by
    intro n
    have stop : ∀ (g : LH), RNG g → rd g 198 b = 0 → (∀ p, 0 ≤ p → p ≤ 5 → rd g 198 (b + p + 2) = rd h 188 (4 * p + 117) ∧ rd g 198 (b + p + 8) = (if rd h 188 (4 * p + 117) = rd h 188 (4 * p + 118) then 1 else 0) ∧ rd g 198 (b + p + 14) = 0) → (∀ d, 0 ≤ d → d < 14 → rd g 198 (b + d + 20) = 0) → (∀ a i, ¬ (a = 198 ∧ b ≤ i ∧ i < b + 34 ∧ i ≠ b + 1) → rd g a i = rd h a i) → Q none g := by
      intro g gr g0 gp gd gf
      refine k g gr ⟨g0, fun p p0 p1 => ?_, gd⟩ gf
      rw [gf 188 _ (by omega), gf 188 _ (by omega)]
      exact gp p p0 p1
    induction n with
    | zero =>
      intro g v hn v0 v1 gr g0 gp gd gf
      exact B_startsDay_84 (RF_of gr) ⟨fun _ => stop g gr g0 gp (fun d d0 d1 => gd d d0 (by omega)) gf, fun c => by omega⟩
    | succ n ih =>
      intro g v hn v0 v1 gr g0 gp gd gf
      refine B_startsDay_84 (RF_of gr) ⟨fun _ => stop g gr g0 gp (fun d d0 d1 => gd d d0 (by omega)) gf, fun c => ⟨by omega, by omega, by omega, by omega, ih _ (v + 1) (by omega) (by omega) (by omega) (ws gr 20 33 (-2147483648) 2147483647 (by omega) (by omega) (by omega) (by decide +kernel) (by omega) (by omega) (by unfold i32; omega)) ?_ (fun p p0 p1 => ?_) (fun d d0 d1 => ?_) (fun a i hn => ?_)⟩⟩
      · rw [rdw_nei (by omega)]
        exact g0
      · rw [rdw_nei (by omega), rdw_nei (by omega), rdw_nei (by omega)]
        exact gp p p0 p1
      · by_cases z : d = v
        · rw [z, rdw_eq]
        · rw [rdw_nei (by omega)]
          exact gd d d0 (by omega)
      · rw [rd_wr, if_neg]
        · exact gf a i hn
        · rintro ⟨rfl, rfl⟩
          exact hn (by omega)
  have l11 : ∀ (n : Nat) (g : LH) (v : Int), 6 - v ≤ n → 0 ≤ v → v ≤ 6 → RNG g → rd g 198 b = 0 → (∀ p, 0 ≤ p → p < v → rd g 198 (b + p + 2) = rd h 188 (4 * p + 117) ∧ rd g 198 (b + p + 8) = (if rd h 188 (4 * p + 117) = rd h 188 (4 * p + 118) then 1 else 0) ∧ rd g 198 (b + p + 14) = 0) → (∀ a i, ¬ (a = 198 ∧ b ≤ i ∧ i < b + 34 ∧ i ≠ b + 1) → rd g a i = rd h a i) → Rn xs xl e mm_startsDay 11 [some (.inr (.inr 182)), some (.inl b), some (.inl v)] [] g Q := by
    intro n
    induction n with
    | zero =>
      intro g v hn v0 v1 gr g0 gw gf
      exact B_startsDay_11 (RF_of gr) he ⟨fun _ => l84 14 g 0 (by omega) (by omega) (by omega) gr g0 (fun p p0 p1 => gw p p0 (by omega)) (fun d d0 d1 => by omega) gf, fun c => by omega⟩
    | succ n ih =>
      intro g v hn v0 v1 gr g0 gw gf
      by_cases hv : v < 6
      · have hm := rq_p1 gr (i := 4 * v + 117) (d := v) (by omega) (by omega) (by omega)
        have e7 : rd g 188 (4 * v + 117) = rd h 188 (4 * v + 117) := gf 188 _ (by omega)
        have e8 : rd g 188 (4 * v + 118) = rd h 188 (4 * v + 118) := gf 188 _ (by omega)
        have go : ∀ w : Int, 0 ≤ w → w ≤ 1 → w = (if rd h 188 (4 * v + 117) = rd h 188 (4 * v + 118) then 1 else 0) → Rn xs xl e mm_startsDay 11 [some (.inr (.inr 182)), some (.inl b), some (.inl (v + 1))] [] (wr (wr (wr g 198 (b + v + 2) (rd g 188 (4 * v + 117))) 198 (b + v + 8) w) 198 (b + v + 14) 0) Q := by
          intro w w0 w1 ew
          have r1 := ws gr (i := b + v + 2) (v := rd g 188 (4 * v + 117)) 2 7 0 9 (by omega) (by omega) (by omega) (by decide +kernel) hm.1 hm.2 ⟨by omega, by omega⟩
          have r2 := ws r1 (i := b + v + 8) (v := w) 8 13 0 1 (by omega) (by omega) (by omega) (by decide +kernel) w0 w1 ⟨by omega, by omega⟩
          have r3 := ws r2 (i := b + v + 14) (v := 0) 14 19 0 1 (by omega) (by omega) (by omega) (by decide +kernel) (by omega) (by omega) ⟨by omega, by omega⟩
          refine ih _ (v + 1) (by omega) (by omega) (by omega) r3 ?_ (fun p p0 p1 => ?_) (fun a i hn => ?_)
          · rw [rdw_nei (by omega), rdw_nei (by omega), rdw_nei (by omega)]
            exact g0
          · by_cases z : p = v
            · subst z
              refine ⟨?_, ?_, rdw_eq⟩
              · rw [rdw_nei (by omega), rdw_nei (by omega), rdw_eq, e7]
              · rw [rdw_nei (by omega), rdw_eq, ew]
            · rw [rdw_nei (by omega), rdw_nei (by omega), rdw_nei (by omega), rdw_nei (by omega), rdw_nei (by omega), rdw_nei (by omega), rdw_nei (by omega), rdw_nei (by omega), rdw_nei (by omega)]
              exact gw p p0 (by omega)
          · rw [rd_wr, if_neg, rd_wr, if_neg, rd_wr, if_neg]
            · exact gf a i hn
            all_goals (rintro ⟨rfl, rfl⟩; exact hn (by omega))
        exact B_startsDay_11 (RF_of gr) he ⟨fun c => by omega, fun c => ⟨by omega, by omega, by omega, by omega, by omega, by omega, by omega, by omega, by omega, by omega, by omega, by omega, by omega, by omega, by omega, by omega, by omega, fun c2 => ⟨by omega, by omega, by omega, by omega, by omega, go 0 (by omega) (by omega) (by rw [if_neg (fun z => c2 (by rw [e7, e8]; exact z))])⟩, fun c2 => ⟨by omega, by omega, by omega, by omega, by omega, go 1 (by omega) (by omega) (by rw [if_pos (by rw [← e7, ← e8]; exact c2)])⟩⟩⟩
      · exact B_startsDay_11 (RF_of gr) he ⟨fun _ => l84 14 g 0 (by omega) (by omega) (by omega) gr g0 (fun p p0 p1 => gw p p0 (by omega)) (fun d d0 d1 => by omega) gf, fun c => by omega⟩
  refine B_startsDay_0 (RF_of hr) ⟨by omega, by omega, l11 6 _ 0 (by omega) (by omega) (by omega) (ws hr 0 0 0 24 (by omega) (by omega) (by omega) (by decide +kernel) (by omega) (by omega) (by unfold i32; omega)) rdw_eq (fun p p0 p1 => by omega) (fun a i hn => ?_)⟩
  rw [rd_wr, if_neg]
  rintro ⟨rfl, rfl⟩
  exact hn (by omega)
end SC7
