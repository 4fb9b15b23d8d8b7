/-! LM, part 70: the reference's passes, go, judged -/
theorem INV_far {h g : LH} (hI : INV h) (r : RNG g) (f : ∀ a i, ¬ (a = 198 ∧ 1470 ≤ i) → a ≠ 196 → a ≠ 197 → rd g a i = rd h a i) : INV g := by
  refine ⟨r, SP_of (fun b j hb => f b j ?_ ?_ ?_) hI.2⟩
  · rintro ⟨rfl, q⟩
    unfold sens at hb
    omega
  · rintro rfl
    unfold sens at hb
    omega
  · rintro rfl
    unfold sens at hb
    omega
theorem INV_ws {h : LH} {i v : Int} (hI : INV h) (r : RNG (wr h 198 i v)) (n : ¬ (2 ≤ i % 70 ∧ i % 70 ≤ 7)) : INV (wr h 198 i v) := by
  refine ⟨r, SP_of (fun b j hb => ?_) hI.2⟩
  rw [rd_wr, if_neg]
  rintro ⟨rfl, rfl⟩
  unfold sens at hb
  omega
section JU
variable {xs : Nat → Int} {xl e : Nat} {h : LH} {Q : Option LV → LH → Prop}
/-- passes -/
theorem D_passes {b : Int} (hI : INV h) (b0 : b % 70 = 0) (hb : 0 ≤ b ∧ b ≤ 1540) (k : ∀ g, INV g → (∀ a i, ¬ (a = 198 ∧ (i = b ∨ (b + 14 ≤ i ∧ i ≤ b + 33))) → rd g a i = rd h a i) → (rd h 198 b < 24 → rd g 198 b = rd h 198 b + 1) → Q none g) : Rn xs xl e mm_passes 0 [some (.inr (.inr 182)), some (.inl b), none] [] h Q := by
  have qh := rs_now hI.1 (i := b) b 0 (by omega) (by omega) (by omega) (by omega) (by omega) (by omega)
  have l57 : ∀ (n : Nat) (g : LH) (v2 : Int), 14 - v2 < n → 0 ≤ v2 → v2 ≤ 14 → INV g → (∀ a i, ¬ (a = 198 ∧ (i = b ∨ (b + 14 ≤ i ∧ i ≤ b + 33))) → rd g a i = rd h a i) → (rd h 198 b < 24 → rd g 198 b = rd h 198 b + 1) → Rn xs xl e mm_passes 57 [some (.inr (.inr 182)), some (.inl b), some (.inl v2)] [] g Q := by
    intro n
    induction n with
    | zero =>
      intro g v2 hn
      omega
    | succ n ih =>
      intro g v2 hn a0 a1 gI gf gt
      refine B_passes_57 (RF_of gI.1) hb ⟨a0, a1⟩ ⟨fun _ => k g gI gf gt, fun c => ?_⟩
      have r1 := ws gI.1 (i := b + v2 + 20) (v := 0) 20 33 (-2147483648) 2147483647 (by omega) (by omega) (by omega) (by decide +kernel) (by omega) (by omega) (by unfold i32; omega)
      refine ih _ (v2 + 1) (by omega) (by omega) (by omega) (INV_ws gI r1 (by omega)) (fun a i q => ?_) (fun q => ?_)
      · rw [rd_wr, if_neg (by omega)]
        exact gf a i q
      · rw [rdw_nei (by omega)]
        exact gt q
  have l31 : ∀ (n : Nat) (g : LH) (v2 : Int), 6 - v2 < n → 0 ≤ v2 → v2 ≤ 6 → INV g → (∀ a i, ¬ (a = 198 ∧ (i = b ∨ (b + 14 ≤ i ∧ i ≤ b + 33))) → rd g a i = rd h a i) → (rd h 198 b < 24 → rd g 198 b = rd h 198 b + 1) → Rn xs xl e mm_passes 31 [some (.inr (.inr 182)), some (.inl b), some (.inl v2)] [] g Q := by
    intro n
    induction n with
    | zero =>
      intro g v2 hn
      omega
    | succ n ih =>
      intro g v2 hn a0 a1 gI gf gt
      refine B_passes_31 (RF_of gI.1) hb ⟨a0, a1⟩ ⟨fun _ => l57 15 g 0 (by omega) (by omega) (by omega) gI gf gt, fun c => ?_⟩
      have r1 := ws gI.1 (i := b + v2 + 14) (v := 0) 14 19 0 1 (by omega) (by omega) (by omega) (by decide +kernel) (by omega) (by omega) (by unfold i32; omega)
      refine ih _ (v2 + 1) (by omega) (by omega) (by omega) (INV_ws gI r1 (by omega)) (fun a i q => ?_) (fun q => ?_)
      · rw [rd_wr, if_neg (by omega)]
        exact gf a i q
      · rw [rdw_nei (by omega)]
        exact gt q
  have st : ∀ v : Int, 0 ≤ v → v ≤ 24 → (rd h 198 b < 24 → v = rd h 198 b + 1) → Rn xs xl e mm_passes 31 [some (.inr (.inr 182)), some (.inl b), some (.inl 0)] [] (wr h 198 b v) Q := by
    intro v v0 v1 v2
    have r1 := ws hI.1 (i := b) (v := v) 0 0 0 24 (by omega) (by omega) (by omega) (by decide +kernel) (by omega) (by omega) (by unfold i32; omega)
    refine l31 7 _ 0 (by omega) (by omega) (by omega) (INV_ws hI r1 (by omega)) (fun a i q => ?_) (fun q => ?_)
    · rw [rd_wr, if_neg (by omega)]
    · rw [rdw_eq]
      exact v2 q
  exact B_passes_0 (RF_of hI.1) hb ⟨fun c => ⟨by omega, st _ (by omega) (by omega) (by omega)⟩, fun c => ⟨by omega, st _ (by omega) (by omega) (by omega)⟩⟩
/-- go, a root -/
theorem D_go {v1 v2 : Int} (he : 6 ≤ e) (hI : INV h) (k : ∀ r g, INV g → (∀ a i, a ≠ 196 → a ≠ 197 → a ≠ 198 → ¬ (a = 182 ∧ (i = 0 ∨ i = 25)) → rd g a i = rd h a i) → Q (some (.inl r)) g) : Rn xs xl e mm_go 0 [some (.inr (.inr 182)), some (.inl v1), some (.inl v2)] [] h Q := by
  have i0 : INV (wr h 182 0 0) := wF_thrown hI (by omega) (by omega)
  have f0 : ∀ a i, ¬ (a = 182 ∧ i = 0) → rd (wr h 182 0 0) a i = rd h a i := fun a i n => by
    rw [rd_wr, if_neg (by omega)]
  have wrong : Q (some (.inl (-1))) (wr h 182 0 0) := k _ _ i0 (fun a i _ _ _ n => f0 a i (by omega))
  have np := rq_people hI.1
  have nd := rq_doors hI.1
  refine B_go_0 (RF_of hI.1) (by omega) ⟨fun _ => wrong, fun c1 => ⟨fun _ => wrong, fun c2 => ⟨fun _ => wrong, fun c3 => ⟨fun _ => wrong, fun c4 => ⟨0, by omega, ?_⟩⟩⟩⟩⟩
  refine D_copies i0.1 (by omega) (by omega) (by omega) (fun u ur uf uc => ?_)
  have uI : INV u := INV_far i0 ur (fun a i n _ _ => uf a i (by omega))
  have fu : ∀ a i, a ≠ 198 → ¬ (a = 182 ∧ i = 0) → rd u a i = rd h a i := fun a i n1 n2 => (uf a i (by omega)).trans (f0 a i n2)
  refine B_go_33 (RF_of ur) ⟨5, by omega, D_goes (by omega) uI (by omega) (by omega) (by omega) (by omega) (fun r g gI r0 r1 _ gf => ?_)⟩
  have fg : ∀ a i, a ≠ 196 → a ≠ 197 → a ≠ 198 → ¬ (a = 182 ∧ i = 0) → rd g a i = rd h a i := fun a i n1 n2 n3 n4 => (gf.1 a i n1 n2 (fun q => n3 q.1)).trans (fu a i n3 n4)
  refine B_go_42 (RF_of gI.1) ⟨fun _ => ⟨1, by omega, D_keeps (by omega) gI (fun w wI wf => ?_)⟩, fun _ => k _ _ gI (fun a i n1 n2 n3 n4 => fg a i n1 n2 n3 (by omega))⟩
  have fw : ∀ a i, a ≠ 196 → a ≠ 197 → a ≠ 198 → ¬ (a = 182 ∧ (i = 0 ∨ i = 25)) → rd w a i = rd h a i := fun a i n1 n2 n3 n4 => (wf a i (by omega) (by omega)).trans (fg a i n1 n2 n3 (by omega))
  refine B_go_51 (RF_of wI.1) ⟨5, by omega, D_goes (by omega) wI (by omega) (by omega) (by omega) (fun _ => by rw [fw 188 1 (by decide) (by decide) (by decide) (by omega)]; exact c4) (fun r g gI r0 r1 _ gf => ?_)⟩
  exact B_go_58 (RF_of gI.1) (k _ _ gI (fun a i n1 n2 n3 n4 => (gf.1 a i n1 n2 (fun q => n3 q.1)).trans (fw a i n1 n2 n3 n4)))
/-- judged, a root -/
theorem D_judged {v1 : Int} (he : 6 ≤ e) (hI : INV h) (k : ∀ r g, INV g → (∀ a i, a ≠ 196 → a ≠ 197 → a ≠ 198 → ¬ (a = 182 ∧ i = 0) → rd g a i = rd h a i) → Q (some (.inl r)) g) : Rn xs xl e mm_judged 0 [some (.inr (.inr 182)), some (.inl v1), none, none, none, none] [] h Q := by
  have i0 : INV (wr h 182 0 0) := wF_thrown hI (by omega) (by omega)
  have f0 : ∀ a i, ¬ (a = 182 ∧ i = 0) → rd (wr h 182 0 0) a i = rd h a i := fun a i n => by
    rw [rd_wr, if_neg (by omega)]
  have wrong : Q (some (.inl (-2))) (wr h 182 0 0) := k _ _ i0 (fun a i _ _ _ n => f0 a i n)
  have np := rq_people hI.1
  have l41 : ∀ (n : Nat) (g : LH) (v2 v3 : Int) (o4 o5 : Option LV), 24 - v3 < n → 0 ≤ v3 → v3 ≤ 24 → (v1 = -1 ∨ (0 ≤ v1 ∧ v1 ≤ 5)) → INV g → (∀ a i, a ≠ 196 → a ≠ 197 → a ≠ 198 → ¬ (a = 182 ∧ i = 0) → rd g a i = rd h a i) → Rn xs xl e mm_judged 41 [some (.inr (.inr 182)), some (.inl v1), some (.inl v2), some (.inl v3), o4, o5] [] g Q := by
    intro n
    induction n with
    | zero =>
      intro g v2 v3 o4 o5 hn
      omega
    | succ n ih =>
      intro g v2 v3 o4 o5 hn a0 a1 hv gI gf
      have n0 := rX_lines gI.1 (i := 0) (by omega) (ix := (0, 0, 0, 0)) (lo := 0) (hi := 24) (st := 1) (by decide +kernel) (pt 0)
      have t130 : ∀ (u : LH) (v4 v5 : Int), v3 ≤ 23 → INV u → (∀ a i, a ≠ 196 → a ≠ 197 → a ≠ 198 → ¬ (a = 182 ∧ i = 0) → rd u a i = rd h a i) → Rn xs xl e mm_judged 130 [some (.inr (.inr 182)), some (.inl v1), some (.inl v2), some (.inl v3), some (.inl v4), some (.inl v5)] [] u Q := fun u v4 v5 l uI uf => B_judged_130 (RF_of uI.1) ⟨a0, l⟩ ⟨fun _ => ih u _ _ _ _ (by omega) (by omega) (by omega) hv uI uf, fun _ => ⟨fun _ => ih u _ _ _ _ (by omega) (by omega) (by omega) hv uI uf, fun _ => ih u _ _ _ _ (by omega) (by omega) (by omega) hv uI uf⟩⟩
      have t118 : ∀ (u : LH) (v4 v5 : Int), v3 ≤ 23 → INV u → (∀ a i, a ≠ 196 → a ≠ 197 → a ≠ 198 → ¬ (a = 182 ∧ i = 0) → rd u a i = rd h a i) → Rn xs xl e mm_judged 118 [some (.inr (.inr 182)), some (.inl v1), some (.inl v2), some (.inl v3), some (.inl v4), some (.inl v5)] [] u Q := fun u v4 v5 l uI uf => B_judged_118 (RF_of uI.1) ⟨fun _ => t130 u v4 v5 l uI uf, fun _ => ⟨0, by omega, D_passes uI (by omega) (by omega) (fun w wI wf _ => t130 w v4 v5 l wI (fun a i n1 n2 n3 n4 => (wf a i (fun q => n3 q.1)).trans (uf a i n1 n2 n3 n4)))⟩⟩
      refine B_judged_41 (RF_of gI.1) ⟨a0, a1⟩ ⟨fun _ => ?_, fun c => ⟨fun c2 => ⟨5, by omega, ?_⟩, fun c2 => ⟨fun _ => t118 g _ _ (by omega) gI gf, fun _ => t118 g _ _ (by omega) gI gf⟩⟩⟩
      · exact B_judged_151 (RF_of gI.1) ⟨fun _ => ⟨by omega, by omega, k _ _ gI gf⟩, fun _ => k _ _ gI gf⟩
      · have p1 := rX_lines gI.1 (i := 2 * v3 + 1) (by omega) (ix := (0, 1, 47, 2)) (lo := -1) (hi := 5) (st := 1) (by decide +kernel) (invs (s := 2) (k := v3) (by omega) (by omega) (by omega))
        have p2 := rX_lines gI.1 (i := 2 * v3 + 2) (by omega) (ix := (0, 2, 48, 2)) (lo := -1) (hi := 13) (st := 1) (by decide +kernel) (invs (s := 2) (k := v3) (by omega) (by omega) (by omega))
        have p3 := (INV4 gI).1.2.2.2.2.2.2.1 v3 a0 (by omega) (by rw [show 1 + 2 * v3 = 2 * v3 + 1 by omega]; exact c2)
        rw [show 1 + 2 * v3 + 1 = 2 * v3 + 2 by omega] at p3
        refine D_goes (by omega) gI (by omega) (by omega) (by omega) (by omega) (fun r u uI r0 r1 _ uf => ?_)
        have fu : ∀ a i, a ≠ 196 → a ≠ 197 → a ≠ 198 → ¬ (a = 182 ∧ i = 0) → rd u a i = rd h a i := fun a i n1 n2 n3 n4 => (uf.1 a i n1 n2 (fun q => n3 q.1)).trans (gf a i n1 n2 n3 n4)
        exact B_judged_108 (RF_of uI.1) ⟨fun _ => t118 u _ _ (by omega) uI fu, fun _ => t118 u _ _ (by omega) uI fu⟩
  have go : (v1 = -1 ∨ (0 ≤ v1 ∧ v1 ≤ 5)) → (∃ c, c < e ∧ Rn xs xl c mm_startsDay 0 [some (.inr (.inr 182)), some (.inl 1470), none] [] (wr h 182 0 0) (fun r h' => Rn xs xl e mm_judged 28 [some (.inr (.inr 182)), some (.inl v1), none, none, none, none] (r.toList ++ []) h' Q)) := by
    intro hv
    refine ⟨1, by omega, D_startsDay (by omega) i0.1 (by omega) (by omega) (by omega) (fun u ur _ uf => ?_)⟩
    have uI : INV u := INV_far i0 ur (fun a i n _ _ => uf a i (by omega))
    have r1 := ws ur (i := 1471) (v := 0) 1 1 (-2147483648) 2147483647 (by omega) (by omega) (by omega) (by decide +kernel) (by omega) (by omega) (by unfold i32; omega)
    refine B_judged_28 (RF_of ur) (l41 25 _ _ 0 _ _ (by omega) (by omega) (by omega) hv (INV_ws uI r1 (by omega)) (fun a i n1 n2 n3 n4 => ?_))
    rw [rdw_ne (fun q => n3 q.symm), uf a i (fun q => n3 q.1)]
    exact f0 a i n4
  exact B_judged_0 (RF_of hI.1) (by omega) ⟨fun c => go (by omega), fun _ => ⟨fun _ => wrong, fun c1 => ⟨fun _ => wrong, fun c2 => go (by omega)⟩⟩⟩
end JU
