/-! LM, part 91: the class's crowd -/
section CX
variable {xs : Nat → Int} {xl e : Nat} {h : LH} {Q : Option LV → LH → Prop}
/-- every node that was visited was come to from one that was visited, an hour off -/
def CTr (h : LH) : Prop := (∀ n, 0 ≤ n → n ≤ 249 → rd h 87 n ≠ -1 → rd h 87 (rd h 87 n) ≠ -1 ∧ (rd h 87 n < 240 ∨ n < 240)) ∧ ∀ j, 0 ≤ j → j < rd h 84 5 → rd h 87 (rd h 89 j) ≠ -1
def frX (h h' : LH) : Prop := ∀ a i, ¬ (a = 84 ∧ i = 5) → a ≠ 87 → a ≠ 88 → a ≠ 89 → rd h' a i = rd h a i
def VX (h g : LH) : Prop := INV g ∧ CTr g ∧ frX h g ∧ (∀ m, rd h 87 m ≠ -1 → rd g 87 m ≠ -1) ∧ rd h 84 5 ≤ rd g 84 5
theorem VX.trans {h g k : LH} (a : VX h g) (b : VX g k) : VX h k := ⟨b.1, b.2.1, fun x i n1 n2 n3 n4 => (b.2.2.1 x i n1 n2 n3 n4).trans (a.2.2.1 x i n1 n2 n3 n4), fun m hm => b.2.2.2.1 m (a.2.2.2.1 m hm), Int.le_trans a.2.2.2.2 b.2.2.2.2⟩
theorem CTr_same {h g : LH} (e7 : ∀ i, rd g 87 i = rd h 87 i) (e9 : ∀ i, rd g 89 i = rd h 89 i) (e5 : rd g 84 5 = rd h 84 5) (c : CTr h) : CTr g := by
  refine ⟨fun n n0 n1 hn => ?_, fun j j0 j1 => ?_⟩
  · rw [e7] at hn
    rw [e7, e7]
    exact c.1 n n0 n1 hn
  · rw [e5] at j1
    rw [e7, e9]
    exact c.2 j j0 j1
theorem VX_same {h g : LH} (hI : INV g) (c : CTr h) (f : ∀ a i, rd g a i = rd h a i) : VX h g := ⟨hI, CTr_same (fun i => f 87 i) (fun i => f 89 i) (f 84 5) c, fun a i _ _ _ _ => f a i, fun m hm => by rw [f]; exact hm, by rw [f]; exact Int.le_refl _⟩
theorem D_visit {n f y : Int} (hI : INV h) (c : CTr h) (hn : 0 ≤ n ∧ n ≤ 249) (hf : 0 ≤ f ∧ f ≤ 249) (hb : -1 ≤ y ∧ y ≤ 13) (hv : rd h 87 f ≠ -1 ∨ f = n) (hl : f < 240 ∨ n < 240) (k : ∀ g, VX h g → Q none g) : Rn xs xl e mm_Crowd_visit 0 [some (.inr (.inr 84)), some (.inl n), some (.inl f), some (.inl y)] [] h Q := by
  have q5 := rG_84_5 hI.1
  have same : VX h h := VX_same hI c (fun _ _ => rfl)
  refine B_Crowd_visit_0 (RF_of hI.1) hn ⟨fun _ => k h same, fun c1 => ⟨fun _ => k h same, fun c2 => ⟨by omega, by omega, k _ ?_⟩⟩⟩
  have i1 := wB_87 hI (i := n) (v := f) (by omega) (by omega)
  have i2 := wB_88 i1 (i := n) (v := y) (by omega) (by omega)
  have i3 := wB_89 i2 (i := rd h 84 5) (v := n) (by omega) (by omega)
  have i4 := wG_84_5 i3 (v := rd h 84 5 + 1) (by omega) (by omega)
  clear same k
  generalize hg : wr (wr (wr (wr h 87 n f) 88 n y) 89 (rd h 84 5) n) 84 5 (rd h 84 5 + 1) = g at *
  have e7 : ∀ i, i ≠ n → rd g 87 i = rd h 87 i := fun i hi => by rw [← hg, rdw_ne (by decide), rdw_ne (by decide), rdw_ne (by decide), rdw_nei (fun q => hi q.symm)]
  have e7n : rd g 87 n = f := by rw [← hg, rdw_ne (by decide), rdw_ne (by decide), rdw_ne (by decide), rdw_eq]
  have e9 : ∀ i, i ≠ rd h 84 5 → rd g 89 i = rd h 89 i := fun i hi => by rw [← hg, rdw_ne (by decide), rdw_nei (fun q => hi q.symm), rdw_ne (by decide), rdw_ne (by decide)]
  have e9t : rd g 89 (rd h 84 5) = n := by rw [← hg, rdw_ne (by decide), rdw_eq]
  have e5 : rd g 84 5 = rd h 84 5 + 1 := by rw [← hg, rdw_eq]
  have mono : ∀ m, rd h 87 m ≠ -1 → rd g 87 m ≠ -1 := fun m hm => by
    by_cases z : m = n
    · rw [z, e7n]; omega
    · rw [e7 m z]; exact hm
  refine ⟨i4, ⟨fun m m0 m1 hm => ?_, fun j j0 j1 => ?_⟩, ?_, mono, by omega⟩
  · by_cases z : m = n
    · rw [z, e7n]
      refine ⟨?_, hl⟩
      rcases hv with hv | hv
      · exact mono f hv
      · rw [hv, e7n]; omega
    · rw [e7 m z] at hm ⊢
      have t := c.1 m m0 m1 hm
      exact ⟨mono _ t.1, t.2⟩
  · by_cases z : j = rd h 84 5
    · rw [z, e9t, e7n]; omega
    · rw [e9 j z]; exact mono _ (c.2 j j0 (by omega))
  · intro a i n1 n2 n3 n4
    rw [← hg, rd_wr, if_neg (by rintro ⟨rfl, rfl⟩; exact n1 ⟨rfl, rfl⟩), rdw_ne (fun q => n4 q.symm), rdw_ne (fun q => n3 q.symm), rdw_ne (fun q => n2 q.symm)]
theorem L_goForward {q sh node : Int} (hq : q = 5 ∨ q = 32) (hsh : i32 sh) (hn : 0 ≤ node ∧ node ≤ 239) (he : 3 ≤ e) : ∀ (m : Nat) (j : Int) (o7 : Option LV) (h : LH), INV h → CTr h → rd h 87 node ≠ -1 → 0 ≤ j → j ≤ 14 → (14 - j).toNat ≤ m → (∀ g, VX h g → Q none g) → Rn xs xl e mm_Crowd_goForward 25 [some (.inr (.inr 84)), some (.inr (.inr q)), some (.inl sh), some (.inl node), some (.inl (node / 10)), some (.inl (node % 10)), some (.inl j), o7] [] h Q := by
  intro m
  induction m with
  | zero =>
    intro j o7 h hI c hv j0 j1 jm k
    have dc := rq_dc hI.1 hq
    exact B_Crowd_goForward_25 hq hI.1 (by omega) (by omega) (by omega) (by omega) ⟨fun _ => ⟨0, by omega, D_visit hI c (by omega) (by omega) (by omega) (Or.inl hv) (Or.inl (by omega)) (fun g v => B_Crowd_goForward_118 hq (RF_of v.1.1) (k g v))⟩, fun z => absurd z (by omega)⟩
  | succ m ih =>
    intro j o7 h hI c hv j0 j1 jm k
    have dc := rq_dc hI.1 hq
    have fh := rG_84_6 hI.1
    refine B_Crowd_goForward_25 hq hI.1 (by omega) (by omega) (by omega) (by omega) ⟨fun _ => ⟨0, by omega, D_visit hI c (by omega) (by omega) (by omega) (Or.inl hv) (Or.inl (by omega)) (fun g v => B_Crowd_goForward_118 hq (RF_of v.1.1) (k g v))⟩, fun z => ⟨by omega, 2, by omega, K_into hq (by omega) (by omega) (by omega) (by omega) hsh (Nat.le_refl 2) hI (fun r h' i' f r0 r1 => ?_)⟩⟩
    have v1 := VX_same i' c f
    have hv1 := v1.2.2.2.1 node hv
    have nx : ∀ (o : Option LV) (g : LH), VX h' g → Rn xs xl e mm_Crowd_goForward 102 [some (.inr (.inr 84)), some (.inr (.inr q)), some (.inl sh), some (.inl node), some (.inl (node / 10)), some (.inl (node % 10)), some (.inl j), o] [] g Q := fun o g v => B_Crowd_goForward_102 hq (RF_of v.1.1) (by omega) (ih (j + 1) o g v.1 v.2.1 (v.2.2.2.1 node hv1) (by omega) (by omega) (by omega) (fun g' v' => k g' (v1.trans (v.trans v'))))
    have s1 : VX h' h' := VX_same i' v1.2.1 (fun _ _ => rfl)
    exact B_Crowd_goForward_51 hq i'.1 (by omega) (by omega) (by omega) (by omega) ⟨r0, r1⟩ ⟨fun _ => nx _ h' s1, fun _ => ⟨fun _ => nx _ h' s1, fun _ => ⟨0, by omega, D_visit i' v1.2.1 (by omega) (by omega) (by omega) (Or.inl hv1) (Or.inl (by omega)) (fun g v => nx _ g v)⟩⟩⟩
theorem D_goForward {q sh node : Int} (hq : q = 5 ∨ q = 32) (hsh : i32 sh) (hn : 0 ≤ node ∧ node ≤ 249) (he : 3 ≤ e) (hI : INV h) (c : CTr h) (hv : rd h 87 node ≠ -1) (k : ∀ g, VX h g → Q none g) : Rn xs xl e mm_Crowd_goForward 0 [some (.inr (.inr 84)), some (.inr (.inr q)), some (.inl sh), some (.inl node), none, none, none, none] [] h Q := by
  have l7 := rG_84_7 hI.1
  exact B_Crowd_goForward_0 hq (RF_of hI.1) hn ⟨fun z => L_goForward hq hsh (by omega) he 14 0 none h hI c hv (by omega) (by omega) (by omega) k, fun _ => k h (VX_same hI c (fun _ _ => rfl))⟩
theorem L_goBack {q sh node : Int} (hq : q = 5 ∨ q = 32) (hsh : i32 sh) (hn : 10 ≤ node ∧ node ≤ 249) (he : 3 ≤ e) : ∀ (m : Nat) (j : Int) (o7 o8 : Option LV) (h : LH), INV h → CTr h → rd h 87 node ≠ -1 → 0 ≤ j → j ≤ 14 → (14 - j).toNat ≤ m → (∀ g, VX h g → Q none g) → Rn xs xl e mm_Crowd_goBack 23 [some (.inr (.inr 84)), some (.inr (.inr q)), some (.inl sh), some (.inl node), some (.inl ((node / 10) - 1)), some (.inl (node % 10)), some (.inl j), o7, o8] [] h Q := by
  intro m
  induction m with
  | zero =>
    intro j o7 o8 h hI c hv j0 j1 jm k
    have dc := rq_dc hI.1 hq
    exact B_Crowd_goBack_23 hq hI.1 (by omega) (by omega) (by omega) (by omega) ⟨fun _ => B_Crowd_goBack_128 hq (RF_of hI.1) (by omega) (by omega) (by omega) ⟨fun _ => k h (VX_same hI c (fun _ _ => rfl)), fun _ => ⟨0, by omega, D_visit hI c (by omega) (by omega) (by omega) (Or.inl hv) (Or.inr (by omega)) (fun g v => B_Crowd_goBack_154 hq (RF_of v.1.1) (k g v))⟩⟩, fun z => absurd z (by omega)⟩
  | succ m ih =>
    intro j o7 o8 h hI c hv j0 j1 jm k
    have dc := rq_dc hI.1 hq
    have fh := rG_84_6 hI.1
    have nx : ∀ (o p : Option LV) (g : LH), VX h g → j < 14 → Rn xs xl e mm_Crowd_goBack 122 [some (.inr (.inr 84)), some (.inr (.inr q)), some (.inl sh), some (.inl node), some (.inl ((node / 10) - 1)), some (.inl (node % 10)), some (.inl j), o, p] [] g Q := fun o p g v z => B_Crowd_goBack_122 hq (RF_of v.1.1) (by omega) (ih (j + 1) o p g v.1 v.2.1 (v.2.2.2.1 node hv) (by omega) (by omega) (by omega) (fun g' v' => k g' (v.trans v')))
    have s0 : VX h h := VX_same hI c (fun _ _ => rfl)
    have G : ∀ (v8 : Int) (o : Option LV), 0 ≤ v8 ∧ v8 ≤ 9 → j < 14 → Rn xs xl e mm_Crowd_goBack 85 [some (.inr (.inr 84)), some (.inr (.inr q)), some (.inl sh), some (.inl node), some (.inl ((node / 10) - 1)), some (.inl (node % 10)), some (.inl j), o, some (.inl v8)] [] h Q := by
      intro v8 o hv8 z
      refine B_Crowd_goBack_85 hq hI.1 (by omega) (by omega) (by omega) (by omega) hv8 ⟨by omega, 2, by omega, K_into hq (by omega) (by omega) hv8 (by omega) hsh (Nat.le_refl 2) hI (fun r h' i' f r0 r1 => ?_)⟩
      have v1 := VX_same i' c f
      have hv1 := v1.2.2.2.1 node hv
      exact B_Crowd_goBack_102 hq i'.1 (by omega) (by omega) (by omega) (by omega) hv8 ⟨fun _ => nx _ _ h' v1 z, fun _ => ⟨0, by omega, D_visit i' v1.2.1 (by omega) (by omega) (by omega) (Or.inl hv1) (Or.inr (by omega)) (fun g v => nx _ _ g (v1.trans v) z)⟩⟩
    exact B_Crowd_goBack_23 hq hI.1 (by omega) (by omega) (by omega) (by omega) ⟨fun _ => B_Crowd_goBack_128 hq (RF_of hI.1) (by omega) (by omega) (by omega) ⟨fun _ => k h s0, fun _ => ⟨0, by omega, D_visit hI c (by omega) (by omega) (by omega) (Or.inl hv) (Or.inr (by omega)) (fun g v => B_Crowd_goBack_154 hq (RF_of v.1.1) (k g v))⟩⟩, fun z => ⟨by omega, fun _ => ⟨by omega, fun _ => G _ _ (rd_first hI.1 hq (by omega)) (by omega), fun _ => G _ _ (rd_second hI.1 hq (by omega)) (by omega)⟩, fun _ => nx _ _ h s0 (by omega)⟩⟩
theorem D_goBack {q sh node : Int} (hq : q = 5 ∨ q = 32) (hsh : i32 sh) (hn : 0 ≤ node ∧ node ≤ 249) (he : 3 ≤ e) (hI : INV h) (c : CTr h) (hv : rd h 87 node ≠ -1) (k : ∀ g, VX h g → Q none g) : Rn xs xl e mm_Crowd_goBack 0 [some (.inr (.inr 84)), some (.inr (.inr q)), some (.inl sh), some (.inl node), none, none, none, none, none] [] h Q :=
  B_Crowd_goBack_0 hq (RF_of hI.1) hn ⟨by omega, fun z => L_goBack hq hsh (by omega) he 14 0 none none h hI c hv (by omega) (by omega) (by omega) k, fun _ => k h (VX_same hI c (fun _ _ => rfl))⟩
theorem L_fill : ∀ (m : Nat) (j : Int) (h : LH), INV h → 0 ≤ j → j ≤ 250 → (250 - j).toNat ≤ m → (∀ i, 0 ≤ i → i < j → rd h 87 i = -1) → (∀ g, INV g → (∀ a i, a ≠ 87 → rd g a i = rd h a i) → (∀ i, 0 ≤ i → i < 250 → rd g 87 i = -1) → Q none g) → Rn xs xl e mm_java_util_Arrays_fill 5 [some (.inr (.inr 87)), some (.inl (-1)), some (.inl j), some (.inl 250)] [] h Q := by
  intro m
  induction m with
  | zero =>
    intro j h hI j0 j1 jm ha k
    exact B_fill87_5 (RF_of hI.1) (by omega) ⟨fun _ => k h hI (fun _ _ _ => rfl) (fun i i0 i1 => ha i i0 (by omega)), fun z => absurd z (by omega)⟩
  | succ m ih =>
    intro j h hI j0 j1 jm ha k
    refine B_fill87_5 (RF_of hI.1) (by omega) ⟨fun _ => k h hI (fun _ _ _ => rfl) (fun i i0 i1 => ha i i0 (by omega)), fun z => ⟨by omega, ?_⟩⟩
    have i1 := wB_87 hI (i := j) (v := -1) (by omega) (by omega)
    refine ih (j + 1) _ i1 (by omega) (by omega) (by omega) (fun i i0 i2 => ?_) (fun g gI gf ga => k g gI (fun a i hn => (gf a i hn).trans (rdw_ne (fun q => hn q.symm))) ga)
    by_cases c : i = j
    · rw [c, rdw_eq]
    · rw [rdw_nei (fun q => c q.symm)]
      exact ha i i0 (by omega)
theorem D_fill (hI : INV h) (k : ∀ g, INV g → (∀ a i, a ≠ 87 → rd g a i = rd h a i) → (∀ i, 0 ≤ i → i < 250 → rd g 87 i = -1) → Q none g) : Rn xs xl e mm_java_util_Arrays_fill 0 [some (.inr (.inr 87)), some (.inl (-1)), none, none] [] h Q :=
  B_fill87_0 (RF_of hI.1) (L_fill 250 0 h hI (by omega) (by omega) (by omega) (fun i i0 i1 => by omega) k)
theorem L_findPath {q sh src sink : Int} (hq : q = 5 ∨ q = 32) (hsh : i32 sh) (hk : 0 ≤ sink ∧ sink ≤ 249) (he : 4 ≤ e) : ∀ (m : Nat) (j : Int) (h : LH), INV h → CTr h → 0 ≤ j → j ≤ 250 → (250 - j).toNat ≤ m → (∀ r g, INV g → CTr g → frX h g → (r ≠ 0 → rd g 87 sink ≠ -1) → Q (some (.inl r)) g) → Rn xs xl e mm_Crowd_findPath 23 [some (.inr (.inr 84)), some (.inr (.inr q)), some (.inl sh), some (.inl src), some (.inl sink), some (.inl j)] [] h Q := by
  intro m
  induction m with
  | zero =>
    intro j h hI c j0 j1 jm k
    have q5 := rG_84_5 hI.1
    exact B_Crowd_findPath_23 hq (RF_of hI.1) hk (by omega) ⟨fun _ => ⟨fun _ => k 0 h hI c (fun _ _ _ _ _ _ => rfl) (fun z => absurd rfl z), fun z => k 1 h hI c (fun _ _ _ _ _ _ => rfl) (fun _ => z)⟩, fun z => absurd z (by omega)⟩
  | succ m ih =>
    intro j h hI c j0 j1 jm k
    have q5 := rG_84_5 hI.1
    refine B_Crowd_findPath_23 hq (RF_of hI.1) hk (by omega) ⟨fun _ => ⟨fun _ => k 0 h hI c (fun _ _ _ _ _ _ => rfl) (fun z => absurd rfl z), fun z => k 1 h hI c (fun _ _ _ _ _ _ => rfl) (fun _ => z)⟩, fun z => ⟨fun z => k 1 h hI c (fun _ _ _ _ _ _ => rfl) (fun _ => z), fun _ => ⟨by omega, 3, by omega, D_goForward hq hsh (rB_89 hI.1 (by omega)) (Nat.le_refl 3) hI c (c.2 j j0 z) (fun g1 v1 => ?_)⟩⟩⟩
    have q6 := v1.2.2.2.2
    exact B_Crowd_findPath_56 hq (RF_of v1.1.1) (by omega) ⟨3, by omega, D_goBack hq hsh (rB_89 v1.1.1 (by omega)) (Nat.le_refl 3) v1.1 v1.2.1 (v1.2.1.2 j j0 (by omega)) (fun g2 v2 => B_Crowd_findPath_69 hq (RF_of v2.1.1) (by omega) (ih (j + 1) g2 v2.1 v2.2.1 (by omega) (by omega) (by omega) (fun r g gI gc gf gz => k r g gI gc (fun a i n1 n2 n3 n4 => (gf a i n1 n2 n3 n4).trans ((v1.trans v2).2.2.1 a i n1 n2 n3 n4)) gz)))⟩
theorem D_findPath {q sh src sink : Int} (hq : q = 5 ∨ q = 32) (hsh : i32 sh) (hs : 0 ≤ src ∧ src ≤ 9) (hk : 0 ≤ sink ∧ sink ≤ 249) (he : 4 ≤ e) (hI : INV h) (k : ∀ r g, INV g → CTr g → frX h g → (r ≠ 0 → rd g 87 sink ≠ -1) → Q (some (.inl r)) g) : Rn xs xl e mm_Crowd_findPath 0 [some (.inr (.inr 84)), some (.inr (.inr q)), some (.inl sh), some (.inl src), some (.inl sink), none] [] h Q := by
  refine B_Crowd_findPath_0 hq (RF_of hI.1) ⟨0, by omega, D_fill hI (fun g1 i1 f1 a1 => ?_)⟩
  have i2 := wG_84_5 i1 (v := 0) (by omega) (by omega)
  have c2 : CTr (wr g1 84 5 0) := by
    refine ⟨fun n n0 n1 hn => ?_, fun j j0 j1 => ?_⟩
    · rw [rdw_ne (by decide)] at hn
      exact absurd (a1 n n0 (by omega)) hn
    · rw [rdw_eq] at j1
      omega
  refine B_Crowd_findPath_8 hq (RF_of i1.1) ⟨0, by omega, D_visit i2 c2 (by omega) (by omega) (by omega) (Or.inr rfl) (Or.inl (by omega)) (fun g2 v2 => ?_)⟩
  refine B_Crowd_findPath_20 hq (RF_of v2.1.1) (L_findPath hq hsh hk he 250 0 g2 v2.1 v2.2.1 (by omega) (by omega) (by omega) (fun r g gI gc gf gz => k r g gI gc (fun a i n1 n2 n3 n4 => ?_) gz))
  rw [gf a i n1 n2 n3 n4, v2.2.2.1 a i n1 n2 n3 n4, rd_wr, if_neg (fun q => n1 ⟨q.1.symm, q.2.symm⟩), f1 a i n2]
end CX
