/-! LM, part 92: the class's crowd: paths, the root -/
section CY
variable {xs : Nat → Int} {xl e : Nat} {h : LH} {Q : Option LV → LH → Prop}
theorem L_narrowest {q src sink : Int} (hq : q = 5 ∨ q = 32) (hs : 0 ≤ src ∧ src ≤ 9) (hI : INV h) (c : CTr h) (k : ∀ r, i32 r → Q (some (.inl r)) h) : ∀ (m : Nat) (i node many : Int) (o7 o8 o9 o10 : Option LV), 0 ≤ i → i ≤ 250 → (250 - i).toNat ≤ m → 0 ≤ node ∧ node ≤ 249 → rd h 87 node ≠ -1 → i32 many → Rn xs xl e mm_Crowd_narrowest 10 [some (.inr (.inr 84)), some (.inr (.inr q)), some (.inl src), some (.inl sink), some (.inl many), some (.inl node), some (.inl i), o7, o8, o9, o10] [] h Q := by
  intro m
  induction m with
  | zero =>
    intro i node many o7 o8 o9 o10 i0 i1 im hn hv hm
    exact B_Crowd_narrowest_10 hq hI.1 hs hn (by omega) ⟨fun _ => k many hm, fun z => absurd z (by omega)⟩
  | succ m ih =>
    intro i node many o7 o8 o9 o10 i0 i1 im hn hv hm
    have fr := rB_87 hI.1 (i := node) (by omega)
    have fb := rB_88 hI.1 (i := node) (by omega)
    have c1 := c.1 node hn.1 hn.2 hv
    have nx : ∀ (many' : Int) (o p r : Option LV), i < 250 → i32 many' → Rn xs xl e mm_Crowd_narrowest 131 [some (.inr (.inr 84)), some (.inr (.inr q)), some (.inl src), some (.inl sink), some (.inl many'), some (.inl node), some (.inl i), some (.inl (rd h 87 node)), o, p, r] [] h Q := fun many' o p r z hm' => B_Crowd_narrowest_131 hq (RF_of hI.1) (by omega) (ih (i + 1) (rd h 87 node) many' _ _ _ _ (by omega) (by omega) (by omega) (by omega) c1.1 hm')
    refine B_Crowd_narrowest_10 hq hI.1 hs hn (by omega) ⟨fun _ => k many hm, fun z => ⟨fun _ => k many hm, fun _ m1 hm1 => ⟨by omega, fun z2 => ⟨fun z3 => nx many _ _ _ z hm, fun z3 => ⟨by omega, fun m4 hm4 => nx m4 _ _ _ z ?_⟩⟩, fun z2 => ⟨by omega, by omega, by omega, fun z3 m8 hm8 => nx m8 _ _ _ z ?_, fun z3 => ⟨by omega, fun m10 hm10 => nx m10 _ _ _ z ?_⟩⟩⟩⟩⟩
    · have w := rB_86 hI.1 (i := node) (by omega)
      unfold i32 at hm ⊢
      omega
    · have w := rB_85 hI.1 (i := 14 * (m1 / 10) + rd h 88 node) (by omega)
      unfold i32 at hm ⊢
      omega
    · have w := w32_in (rd h (rd h (q + 1) (rd h 88 node)) 7 - rd h 85 (14 * (m1 / 10) + rd h 88 node))
      unfold i32 at hm w ⊢
      omega
theorem D_narrowest {q src sink : Int} (hq : q = 5 ∨ q = 32) (hs : 0 ≤ src ∧ src ≤ 9) (hk : 0 ≤ sink ∧ sink ≤ 249) (hI : INV h) (c : CTr h) (hv : rd h 87 sink ≠ -1) (k : ∀ r, i32 r → Q (some (.inl r)) h) : Rn xs xl e mm_Crowd_narrowest 0 [some (.inr (.inr 84)), some (.inr (.inr q)), some (.inl src), some (.inl sink), none, none, none, none, none, none, none] [] h Q :=
  B_Crowd_narrowest_0 hq (RF_of hI.1) (L_narrowest hq hs hI c k 250 0 sink _ _ _ _ _ (by omega) (by omega) (by omega) hk hv (by unfold i32; omega))
def frS (h g : LH) : Prop := ∀ a i, a ≠ 85 → a ≠ 86 → rd g a i = rd h a i
theorem L_send {src sink many : Int} (hs : 0 ≤ src ∧ src ≤ 9) : ∀ (m : Nat) (i node : Int) (o6 o7 o8 o9 : Option LV) (h : LH), INV h → CTr h → 0 ≤ i → i ≤ 250 → (250 - i).toNat ≤ m → 0 ≤ node ∧ node ≤ 249 → rd h 87 node ≠ -1 → (∀ g, INV g → frS h g → Q none g) → Rn xs xl e mm_Crowd_send 6 [some (.inr (.inr 84)), some (.inl src), some (.inl sink), some (.inl many), some (.inl node), some (.inl i), o6, o7, o8, o9] [] h Q := by
  intro m
  induction m with
  | zero =>
    intro i node o6 o7 o8 o9 h hI c i0 i1 im hn hv k
    exact B_Crowd_send_6 (RF_of hI.1) hs hn (by omega) ⟨fun _ => k h hI (fun _ _ _ _ => rfl), fun z => absurd z (by omega)⟩
  | succ m ih =>
    intro i node o6 o7 o8 o9 h hI c i0 i1 im hn hv k
    have fr := rB_87 hI.1 (i := node) (by omega)
    have fb := rB_88 hI.1 (i := node) (by omega)
    have c1 := c.1 node hn.1 hn.2 hv
    have nx : ∀ (a j v : Int) (o p r : Option LV), i < 250 → (a = 85 ∨ a = 86) → i32 v → Rn xs xl e mm_Crowd_send 104 [some (.inr (.inr 84)), some (.inl src), some (.inl sink), some (.inl many), some (.inl node), some (.inl i), some (.inl (rd h 87 node)), o, p, r] [] (wr h a j v) Q := by
      intro a j v o p r z ha hw
      have i2 : INV (wr h a j v) := by
        rcases ha with rfl | rfl
        · exact wB_85 hI hw.1 hw.2
        · exact wB_86 hI hw.1 hw.2
      have ne : ∀ b l, b ≠ 85 → b ≠ 86 → rd (wr h a j v) b l = rd h b l := fun b l n1 n2 => rdw_ne (fun q => by omega)
      exact B_Crowd_send_104 (RF_of i2.1) (by omega) (ih (i + 1) (rd h 87 node) _ _ _ _ _ i2 (CTr_same (fun l => ne 87 l (by decide) (by decide)) (fun l => ne 89 l (by decide) (by decide)) (ne 84 5 (by decide) (by decide)) c) (by omega) (by omega) (by omega) (by omega) (by rw [ne 87 _ (by decide) (by decide)]; exact c1.1) (fun g gI gf => k g gI (fun b l n1 n2 => (gf b l n1 n2).trans (ne b l n1 n2))))
    exact B_Crowd_send_6 (RF_of hI.1) hs hn (by omega) ⟨fun _ => k h hI (fun _ _ _ _ => rfl), fun z => ⟨fun _ => k h hI (fun _ _ _ _ => rfl), fun _ m1 hm1 => ⟨fun z2 => ⟨fun z3 => ⟨by omega, by omega, by omega, by omega, by omega, nx 85 _ _ _ _ _ z (Or.inl rfl) (w32_in _)⟩, fun z3 => ⟨by omega, by omega, nx 86 _ _ _ _ _ z (Or.inr rfl) (w32_in _)⟩⟩, fun z2 => ⟨fun z3 => ⟨by omega, by omega, by omega, by omega, by omega, nx 85 _ _ _ _ _ z (Or.inl rfl) (w32_in _)⟩, fun z3 => ⟨by omega, by omega, nx 86 _ _ _ _ _ z (Or.inr rfl) (w32_in _)⟩⟩⟩⟩⟩
theorem D_send {src sink many : Int} (hs : 0 ≤ src ∧ src ≤ 9) (hk : 0 ≤ sink ∧ sink ≤ 249) (hI : INV h) (c : CTr h) (hv : rd h 87 sink ≠ -1) (k : ∀ g, INV g → frS h g → Q none g) : Rn xs xl e mm_Crowd_send 0 [some (.inr (.inr 84)), some (.inl src), some (.inl sink), some (.inl many), none, none, none, none, none, none] [] h Q :=
  B_Crowd_send_0 (RF_of hI.1) (L_send hs 250 0 sink _ _ _ _ h hI c (by omega) (by omega) (by omega) hk hv k)
def frM (h g : LH) : Prop := ∀ a i, a ≠ 84 → a ≠ 85 → a ≠ 86 → a ≠ 87 → a ≠ 88 → a ≠ 89 → rd g a i = rd h a i
theorem frM.trans {h g k : LH} (a : frM h g) (b : frM g k) : frM h k := fun x i n1 n2 n3 n4 n5 n6 => (b x i n1 n2 n3 n4 n5 n6).trans (a x i n1 n2 n3 n4 n5 n6)
theorem L_most {q src to hour sink : Int} (hq : q = 5 ∨ q = 32) (hs : 0 ≤ src ∧ src ≤ 9) (hk : 0 ≤ sink ∧ sink ≤ 249) (he : 5 ≤ e) : ∀ (m : Nat) (i all : Int) (o9 : Option LV) (h : LH), INV h → 0 ≤ i → i ≤ 4000 → (4000 - i).toNat ≤ m → i32 all → (∀ r g, INV g → i32 r → frM h g → Q (some (.inl r)) g) → Rn xs xl e mm_Crowd_most 55 [some (.inr (.inr 84)), some (.inr (.inr q)), some (.inr (.inr 60)), some (.inl src), some (.inl to), some (.inl hour), some (.inl sink), some (.inl all), some (.inl i), o9] [] h Q := by
  intro m
  induction m with
  | zero =>
    intro i all o9 h hI i0 i1 im ha k
    exact B_Crowd_most_55 hq (RF_of hI.1) (by omega) ⟨fun _ => k all h hI ha (fun _ _ _ _ _ _ _ _ => rfl), fun z => absurd z (by omega)⟩
  | succ m ih =>
    intro i all o9 h hI i0 i1 im ha k
    refine B_Crowd_most_55 hq (RF_of hI.1) (by omega) ⟨fun _ => k all h hI ha (fun _ _ _ _ _ _ _ _ => rfl), fun z => ⟨4, by omega, D_findPath hq (rG_60_1 hI.1) hs hk (Nat.le_refl 4) hI (fun r g1 i1' c1 f1 v1 => ?_)⟩⟩
    have m1 : frM h g1 := fun a i n1 n2 n3 n4 n5 n6 => f1 a i (fun q => n1 q.1) n4 n5 n6
    refine B_Crowd_most_75 hq (RF_of i1'.1) ⟨fun _ => k all g1 i1' ha m1, fun z2 => ⟨0, by omega, D_narrowest hq hs hk i1' c1 (v1 z2) (fun w iw => ?_)⟩⟩
    refine B_Crowd_most_86 hq (RF_of i1'.1) ⟨0, by omega, D_send hs hk i1' c1 (v1 z2) (fun g2 i2 f2 => ?_)⟩
    have m2 : frM g1 g2 := fun a i n1 n2 n3 n4 n5 n6 => f2 a i n2 n3
    exact B_Crowd_most_97 hq (RF_of i2.1) (by omega) (ih (i + 1) _ _ g2 i2 (by omega) (by omega) (by omega) (w32_in _) (fun r g gI gr gf => k r g gI gr ((m1.trans m2).trans gf)))
theorem D_most {q src to hour : Int} (hq : q = 5 ∨ q = 32) (hs : 0 ≤ src ∧ src ≤ 9) (ht : 0 ≤ to ∧ to ≤ 9) (hh : rd h 60 0 ≤ hour ∧ hour ≤ 23) (he : 5 ≤ e) (hI : INV h) (k : ∀ r g, INV g → i32 r → frM h g → Q (some (.inl r)) g) : Rn xs xl e mm_Crowd_most 0 [some (.inr (.inr 84)), some (.inr (.inr q)), some (.inr (.inr 60)), some (.inl src), some (.inl to), some (.inl hour), none, none, none, none] [] h Q := by
  have s0 := rG_60_0 hI.1
  have i1 := wG_84_6 hI (v := rd h 60 0) (by omega) (by omega)
  have i2 := wG_84_7 i1 (v := hour - rd h 60 0 + 1) (by omega) (by omega)
  refine B_Crowd_most_0 hq (RF_of hI.1) ⟨by omega, by omega, 1, by omega, K_fill_85 (Nat.le_refl 1) i2 (fun g1 i3 f1 => ?_)⟩
  refine B_Crowd_most_29 hq (RF_of i3.1) ⟨1, by omega, K_fill_86 (Nat.le_refl 1) i3 (fun g2 i4 f2 => ?_)⟩
  have l7 := rG_84_7 i4.1
  have m1 : frM h g2 := fun a i n1 n2 n3 n4 n5 n6 => by
    rw [f2 a i (fun q => n3 q.1), f1 a i (fun q => n2 q.1), rdw_ne (fun q => n1 q.symm), rdw_ne (fun q => n1 q.symm)]
  exact B_Crowd_most_37 hq (RF_of i4.1) ⟨by omega, by omega, L_most hq hs (by omega) he 4000 0 0 none g2 i4 (by omega) (by omega) (by omega) (by unfold i32; omega) (fun r g gI gr gf => k r g gI gr (m1.trans gf))⟩
theorem rq_rm {h : LH} {q : Int} (hR : RNG h) (hq : q = 5 ∨ q = 32) : 2 ≤ rd h q 0 ∧ rd h q 0 ≤ 10 := by
  rcases hq with rfl | rfl
  · have p := rdP (a := 5) (i := 0) (lo := 2) (hi := 10) (st := 1) hR (vB_ok (by decide +kernel)) (Or.inl (by decide +kernel)) (leA1 (by decide +kernel))
    exact ⟨p.1, p.2.1⟩
  · have p := rdP (a := 32) (i := 0) (lo := 2) (hi := 10) (st := 1) hR (vB_ok (by decide +kernel)) (Or.inl (by decide +kernel)) (leA1 (by decide +kernel))
    exact ⟨p.1, p.2.1⟩
/-- the class's crowd -/
theorem E_crowd {v1 v2 v3 : Int} (he : 6 ≤ e) (hI : INV h) (k : ∀ r g, INV g → frM h g → Q (some (.inl r)) g) : Rn xs xl e mm_OneSided_crowd 0 [some (.inr (.inr 1)), some (.inl v1), some (.inl v2), some (.inl v3)] [] h Q := by
  have hq := rQf hI.1
  have rm := rq_rm hI.1 hq
  have z := k (-1) h hI (fun _ _ _ _ _ _ _ _ => rfl)
  exact B_OneSided_crowd_0 hq rfl (RF_of hI.1) (by omega) ⟨fun _ => z, fun c1 => ⟨fun _ => z, fun c2 => ⟨fun _ => z, fun c3 => ⟨fun _ => z, fun c4 => ⟨fun _ => ⟨fun _ => z, fun c5 => ⟨fun c6 => ⟨5, by omega, D_most hq (by omega) (by omega) (by omega) (Nat.le_refl 5) hI (fun r g gI gr gf => B_OneSided_crowd_66 (RF_of gI.1) (k r g gI gf))⟩, fun _ => z⟩⟩, fun _ => z⟩⟩⟩⟩⟩
end CY
