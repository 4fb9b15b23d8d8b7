/-! days, part n3: the class's readDay; the reference's day -/
theorem list_any_congr {L : List Nat} {f g : Nat → Bool} (h : ∀ x ∈ L, f x = g x) : L.any f = L.any g := by
  induction L with
  | nil => rfl
  | cons a L ih => rw [List.any_cons, List.any_cons, h a List.mem_cons_self, ih (fun x hx => h x (List.mem_cons_of_mem _ hx))]
section ND3
variable {o v w p : Nat → Int} {kp kd kn : Nat → Bool} {y : (Int × Nat) × Nat} {s : Int × Nat}
theorem dS_le (h : y.2 ≤ 24) : (dS o v w p kp kd y).2 ≤ 24 := by
  unfold dS
  split
  · split
    · exact h
    · show y.2 + 1 ≤ 24; omega
  · split
    · split
      · exact h
      · show y.2 + 1 ≤ 24; omega
    · exact h
theorem tkK_2 : s.2 ≤ (tkK o w p kn s).2 := by
  unfold tkK
  split
  · split
    · exact tkA_2
    · rw [tkE_2]; exact Nat.le_refl _
  · rw [tkE_2]; exact Nat.le_refl _
theorem dS_adv (hp : ∀ k, 0 ≤ p k) (hz : y.1.1 = 0) (h : (dS o v w p kp kd y).1.1 = 0) : y.1.2 < (dS o v w p kp kd y).1.2 := by
  have a : y.1.2 < (tkA y.1).2 := by rw [tkA_0 hz]; exact Nat.lt_succ_self _
  unfold dS at h ⊢
  split at h
  · next c =>
    rw [if_pos c]
    split at h
    · exact absurd h (tkE_p hp (by decide))
    · next c2 =>
      rw [if_neg c2]
      exact Nat.lt_of_lt_of_le a (Nat.le_trans tkK_2 (Nat.le_trans tkK_2 tkS_2))
  · next c =>
    rw [if_neg c]
    split at h
    · next c1 =>
      rw [if_pos c1]
      split at h
      · exact absurd h (tkE_p hp (by decide))
      · next c2 =>
        rw [if_neg c2]
        exact Nat.lt_of_lt_of_le a tkS_2
    · exact absurd h (tkE_p hp (by decide))
end ND3
section NE3
variable {xs : Nat → Int} {xl e : Nat} {h : LH} {Q : Option LV → LH → Prop} {v1 v2 q : Int} {T : Int → Int} {n : Int} {W V : Int → Int} {m : Nat} {s : Int × Nat}
theorem F_readDay (he : 6 ≤ e) (hq : q = 5 ∨ q = 32) (hP : PT h) (hx : CX T n W h) (b2 : 0 ≤ rd h q 2 ∧ rd h q 2 ≤ 14) (b4 : 0 ≤ rd h q 4 ∧ rd h q 4 ≤ 6)
    (k : ∀ h', Q (some (.inl (dF (tO T n) (tV T n 32) (tW T n 32 W) (tP T n) (fun j => nmC (fun i => rd h (q + 21 + i) 0) (rd h q 4).toNat (tV T n 32 j)) (fun j => nmC (fun i => rd h (q + 7 + i) 0) (rd h q 2).toNat (tV T n 32 j))).1.1)) h') :
    Rn xs xl e mm_Reader_readDay 0 [some (.inr (.inr 2)), some (.inr (.inr q)), some (.inr (.inr 67)), none] [] h Q := by
  generalize ekp : (fun j => nmC (fun i => rd h (q + 21 + i) 0) (rd h q 4).toNat (tV T n 32 j)) = kp at k
  generalize ekd : (fun j => nmC (fun i => rd h (q + 7 + i) 0) (rd h q 2).toNat (tV T n 32 j)) = kd at k
  generalize eF : dF (tO T n) (tV T n 32) (tW T n 32 W) (tP T n) kp kd = Y at k
  have loop : ∀ (c : Nat) (g : LH) (y : (Int × Nat) × Nat), c ≤ 1000 → dL (tO T n) (tV T n 32) (tW T n 32 W) (tP T n) kp kd c y = Y → CSK T n W g y.1 → PT g → (∀ a i, q ≤ a → a ≤ q + 26 → rd g a i = rd h a i) → y.2 ≤ 24 → (y.1.1 = 0 → rd g 67 1 = (y.2 : Int)) → Rn xs xl e mm_Reader_readDay 11 [some (.inr (.inr 2)), some (.inr (.inr q)), some (.inr (.inr 67)), some (.inl (1000 - (c : Int)))] [] g Q := by
    intro c
    induction c with
    | zero =>
      intro g y _ eY hs gP gf yl hd
      have e8 := hs.2.1
      have eY' : y = Y := eY
      refine B_Reader_readDay_11 hq hs.1.1 (by omega) ⟨fun _ => B_Reader_readDay_44 hq hs.1.1 ?_, fun z => by omega⟩
      have := k (wr g 2 0 0)
      rw [← eY', ← e8] at this
      exact this
    | succ c ih =>
      intro g y hc eY hs gP gf yl hd
      have gF := hs.1.1
      have e8 := hs.2.1
      have stop : ¬ (y.1.1 = 0 ∧ tO T n y.1.2 ≠ 0) → Rn xs xl e mm_Reader_readDay 44 [some (.inr (.inr 2)), some (.inr (.inr q)), some (.inr (.inr 67)), some (.inl (1000 - ((c + 1 : Nat) : Int)))] [] g Q := by
        intro ns
        have eY' : y = Y := by rw [dL_stop ns] at eY; exact eY
        refine B_Reader_readDay_44 hq gF ?_
        have := k (wr g 2 0 0)
        rw [← eY', ← e8] at this
        exact this
      refine B_Reader_readDay_11 hq gF (by omega) ⟨fun z => by omega, fun _ => ⟨fun z => stop (fun z2 => z (e8.trans z2.1)), fun z => ?_⟩⟩
      have z0 : y.1.1 = 0 := e8.symm.trans z
      have ek := CS_k hs z0
      refine ⟨fun z2 => stop (fun z3 => z3.2 (ck_0.mp (ek.symm.trans z2))), fun z2 => ?_⟩
      have no : tO T n y.1.2 ≠ 0 := fun z3 => z2 (ek.trans (ck_0.mpr z3))
      rw [dL_go ⟨z0, no⟩] at eY
      have q2 : rd g q 2 = rd h q 2 := gf _ _ (by omega) (by omega)
      have q4 : rd g q 4 = rd h q 4 := gf _ _ (by omega) (by omega)
      have ep' : (fun j => nmC (fun i => rd g (q + 21 + i) 0) (rd g q 4).toNat (tV T n 32 j)) = kp := by
        rw [← ekp, q4]
        funext j
        unfold nmC
        refine list_any_congr (fun i hi => ?_)
        have l := List.mem_range.mp hi
        show decide (rd g (q + 21 + (i : Int)) 0 = _) = decide (rd h (q + 21 + (i : Int)) 0 = _)
        rw [gf (q + 21 + i) 0 (by omega) (by omega)]
      have ed' : (fun j => nmC (fun i => rd g (q + 7 + i) 0) (rd g q 2).toNat (tV T n 32 j)) = kd := by
        rw [← ekd, q2]
        funext j
        unfold nmC
        refine list_any_congr (fun i hi => ?_)
        have l := List.mem_range.mp hi
        show decide (rd g (q + 7 + (i : Int)) 0 = _) = decide (rd h (q + 7 + (i : Int)) 0 = _)
        rw [gf (q + 7 + i) 0 (by omega) (by omega)]
      refine ⟨5, by omega, F_dayLine (c := y.2) (by omega) hq gP hs z0 no (by rw [q2]; exact b2) (by rw [q4]; exact b4) (hd z0) yl ?_⟩
      rw [ep', ed']
      have yl' := dS_le (o := tO T n) (v := tV T n 32) (w := tW T n 32 W) (p := tP T n) (kp := kp) (kd := kd) (y := (y.1, y.2)) yl
      intro g1 c1 d1 f1
      have ey : ((y.1, y.2) : (Int × Nat) × Nat) = y := rfl
      rw [ey] at c1 d1 yl'
      generalize dS (tO T n) (tV T n 32) (tW T n 32 W) (tP T n) kp kd y = y' at eY c1 d1 yl'
      have := ih g1 y' (by omega) eY c1 (PT_fr gP (fun a i ha => f1 _ _ (by unfold muD muR; omega))) (fun a i a0 a1 => (f1 a i (by unfold muD muR; omega)).trans (gf a i a0 a1)) yl' d1
      rw [show 1000 - (c : Int) = 1000 - ((c + 1 : Nat) : Int) + 1 by omega] at this
      exact B_Reader_readDay_38 hq c1.1.1 (by omega) this
  refine B_Reader_readDay_0 hq hx.1 ⟨3, by omega, F_begin (by omega) hx (fun h1 s1 f1 => ?_)⟩
  refine B_Reader_readDay_4 hq s1.1.1 ?_
  have F1 : RF (wr h1 67 1 0) := RF_wn (by decide +kernel) s1.1.1
  exact loop 1000 _ ((0, 0), 0) (Nat.le_refl _) eF (CSK_fr F1 (fun a i ha => rdw_ne (by omega)) s1) (PT_fr hP (fun a i ha => (rdw_ne (by omega)).trans (f1 _ _ (by unfold muR; omega)))) (fun a i a0 a1 => (rdw_ne (by omega)).trans (f1 _ _ (by unfold muR; omega))) (Nat.zero_le _) (fun _ => rdw_eq)
/-- what the first of the names that is x names; -1: none -/
def fndI (f c : Nat → Int) (x : Int) : Nat → Nat → Int
  | _, 0 => -1
  | b, d + 1 => if f b = x then c b else fndI f c x (b + 1) d
theorem fndI_sp {f c : Nat → Int} {x : Int} : ∀ (d b : Nat), (∃ i : Nat, b ≤ i ∧ i < b + d ∧ f i = x ∧ fndI f c x b d = c i) ∨ ((∀ i : Nat, b ≤ i → i < b + d → f i ≠ x) ∧ fndI f c x b d = -1)
  | 0, b => Or.inr ⟨fun i h1 h2 => absurd h2 (by omega), rfl⟩
  | d + 1, b => by
    unfold fndI
    by_cases z : f b = x
    · rw [if_pos z]
      exact Or.inl ⟨b, Nat.le_refl _, by omega, z, rfl⟩
    · rw [if_neg z]
      rcases fndI_sp d (b + 1) with ⟨i, i1, i2, i3, i4⟩ | ⟨q1, q2⟩
      · exact Or.inl ⟨i, by omega, by omega, i3, i4⟩
      · refine Or.inr ⟨fun i i1 i2 => ?_, q2⟩
        by_cases eb : i = b
        · rw [eb]; exact z
        · exact q1 i (by omega) (by omega)
theorem G_find0 (hs : RSK T n V m h s) (hz : s.1 = 0) (ho : tO T n s.2 = 1) (hb : 0 ≤ rd h 182 18 ∧ rd h 182 18 ≤ 20) (k : Q (some (.inl (fndI (fun i => rd h 191 i) (fun i => rd h 193 i) (tV T n 37 s.2) 0 (rd h 182 18).toNat))) h) : Rn xs xl e mm_find 0 [some (.inr (.inr 182)), some (.inl 0), none] [] h Q := by
  have hF := hs.1.1
  have a7 := hs.2.2.2.1
  have ev := RS_v hs hz (by omega) (by omega)
  have loop : ∀ (d b : Nat), b + d = (rd h 182 18).toNat → Q (some (.inl (fndI (fun i => rd h 191 i) (fun i => rd h 193 i) (tV T n 37 s.2) b d))) h → Rn xs xl e mm_find 2 [some (.inr (.inr 182)), some (.inl 0), some (.inl (b : Int))] [] h Q := by
    intro d
    induction d with
    | zero =>
      intro b hd kk
      exact B_find_2 hF ⟨fun _ => ⟨fun _ => kk, fun c => by omega⟩, fun c => absurd rfl c⟩
    | succ d ih =>
      intro b hd kk
      unfold fndI at kk
      refine B_find_2 hF ⟨fun _ => ⟨fun c => by omega, fun c => ⟨fun _ => ⟨by omega, by omega, fun c2 => ⟨by omega, ?_⟩, fun c2 => ⟨fun _ => ⟨by omega, ?_⟩, fun c3 => absurd rfl c3⟩⟩, fun c2 => absurd rfl c2⟩⟩, fun c => absurd rfl c⟩
      · rw [if_neg (fun z => c2 (by rw [lcmp0, ev]; exact z))] at kk
        have := ih (b + 1) (by omega) kk
        rw [show ((b + 1 : Nat) : Int) = (b : Int) + 1 by omega] at this
        exact this
      · rw [lcmp0, ev] at c2
        rw [if_pos c2] at kk
        exact kk
  exact B_find_0 hF (loop (rd h 182 18).toNat 0 (by omega) k)
/-- the reference knows it as one of 'many' from 'from' on -/
def kR (h : LH) (T : Int → Int) (n from_ many : Int) (j : Nat) : Bool := decide (0 ≤ fndI (fun i => rd h 191 i) (fun i => rd h 193 i) (tV T n 37 j) 0 (rd h 182 18).toNat - from_ ∧ fndI (fun i => rd h 191 i) (fun i => rd h 193 i) (tV T n 37 j) 0 (rd h 182 18).toNat - from_ ≤ many - 1)
theorem fndI_in (hb : 0 ≤ rd h 182 18 ∧ rd h 182 18 ≤ 20) (h9 : ∀ i, 0 ≤ i → i < 20 → 0 ≤ rd h 193 i ∧ rd h 193 i ≤ 25) (x : Int) : -1 ≤ fndI (fun i => rd h 191 i) (fun i => rd h 193 i) x 0 (rd h 182 18).toNat ∧ fndI (fun i => rd h 191 i) (fun i => rd h 193 i) x 0 (rd h 182 18).toNat ≤ 25 := by
  rcases fndI_sp (f := fun i => rd h 191 i) (c := fun i => rd h 193 i) (x := x) (rd h 182 18).toNat 0 with ⟨i, i1, i2, i3, i4⟩ | ⟨q1, q2⟩
  · rw [i4]
    have := h9 (i : Int) (by omega) (by omega)
    show -1 ≤ rd h 193 (i : Int) ∧ rd h 193 (i : Int) ≤ 25
    omega
  · rw [q2]; decide
theorem G_takeTold (he : 3 ≤ e) (hs : RSK T n V m h s) (hb : 0 ≤ rd h 182 18 ∧ rd h 182 18 ≤ 20) (h9 : ∀ i, 0 ≤ i → i < 20 → 0 ≤ rd h 193 i ∧ rd h 193 i ≤ 25) (hv : 0 ≤ v1 ∧ v1 ≤ 20) (hw : 1 ≤ v2 ∧ v2 ≤ 14)
    (k : ∀ h' r, RSK T n V m h' (tkK (tO T n) (tW T n 37 V) (tP T n) (kR h T n v1 v2) s) → frT h h' → Q (some (.inl r)) h') : Rn xs xl e mm_takeTold 0 [some (.inr (.inr 182)), some (.inl v1), some (.inl v2), none] [] h Q := by
  have e8 := hs.2.1
  have p0 := hs.2.2.1
  have flt : ∀ (g : LH) (t : Int × Nat), RSK T n V m g t → t.1 ≠ 0 → frT h g → t = tkK (tO T n) (tW T n 37 V) (tP T n) (kR h T n v1 v2) s → Rn xs xl e mm_takeTold 19 [some (.inr (.inr 182)), some (.inl v1), some (.inl v2), none] [] g Q := by
    intro g t gs gz gf et
    have g8 := gs.2.1
    have g0 := gs.2.2.1
    have a7 := gs.2.2.2.1
    refine B_takeTold_19 gs.1.1 (by omega) ⟨fun c => by omega, fun c => ⟨fun _ => ⟨fun c2 => by omega, fun _ => ⟨by omega, k _ _ ?_ (gf.trans fr7)⟩⟩, fun c2 => by omega⟩⟩
    rw [← et]
    exact RS_same gs
  by_cases hz : s.1 = 0
  · refine B_takeTold_0 hs.1.1 ⟨fun c => absurd (e8.trans hz) c, fun _ => ⟨2, by omega, G_isName (by omega) hs (fun _ nm => ?_) (fun no => ?_)⟩⟩
    · have o1 := isNm_o nm
      refine B_takeTold_11_1 hs.1.1 (B_takeTold_19 hs.1.1 (by omega) ⟨fun _ => ⟨0, by omega, G_find0 hs hz o1 hb ?_⟩, fun c => by omega⟩)
      have fin := fndI_in hb h9 (tV T n 37 s.2)
      have ek : kR h T n v1 v2 s.2 = decide (0 ≤ fndI (fun i => rd h 191 i) (fun i => rd h 193 i) (tV T n 37 s.2) 0 (rd h 182 18).toNat - v1 ∧ fndI (fun i => rd h 191 i) (fun i => rd h 193 i) (tV T n 37 s.2) 0 (rd h 182 18).toNat - v1 ≤ v2 - 1) := rfl
      generalize fndI (fun i => rd h 191 i) (fun i => rd h 193 i) (tV T n 37 s.2) 0 (rd h 182 18).toNat = f at fin ek ⊢
      have a7 := hs.2.2.2.1
      have bad : ¬ (0 ≤ f - v1 ∧ f - v1 ≤ v2 - 1) → ∃ c, c < e ∧ Rn xs xl c mm_wrong 0 [some (.inr (.inr 182)), some (.inl 2)] [] h (fun r h' => Rn xs xl e mm_takeTold 61 [some (.inr (.inr 182)), some (.inl v1), some (.inl v2), some (.inl (f - v1))] (r.toList ++ []) h' Q) := by
        intro nb
        have eK : tkK (tO T n) (tW T n 37 V) (tP T n) (kR h T n v1 v2) s = tkE (tP T n) 2 s := by
          unfold tkK
          rw [if_pos nm, if_neg (by rw [ek, decide_eq_true_iff]; exact nb)]
        rw [eK] at k
        refine ⟨0, by omega, G_wrong hs (by omega) (fun g c1 f1 => ?_)⟩
        have g8 := c1.2.1
        have g0 := c1.2.2.1
        have ne := tkE_ne' hs (v1 := 2) (by decide)
        have b7 := c1.2.2.2.1
        refine B_takeTold_61 c1.1.1 ⟨fun c => by omega, fun _ => ⟨by omega, k _ _ (RS_same c1) (f1.trans fr7)⟩⟩
      refine B_takeTold_35 hs.1.1 (by omega) ⟨by omega, fun c => absurd (e8.trans hz) c, fun _ => ⟨by omega, fun c => bad (by omega), fun c => ⟨fun c2 => bad (by omega), fun c2 => ?_⟩⟩⟩
      have eK : tkK (tO T n) (tW T n 37 V) (tP T n) (kR h T n v1 v2) s = tkA s := by
        unfold tkK
        rw [if_pos nm, if_pos (by rw [ek, decide_eq_true_iff]; exact ⟨c, c2⟩)]
      rw [eK] at k
      refine B_takeTold_61 hs.1.1 ⟨fun _ => ⟨by omega, k _ _ (RS_adv hs hz (by omega)) fr7⟩, fun c3 => by omega⟩
    · have eK : tkK (tO T n) (tW T n 37 V) (tP T n) (kR h T n v1 v2) s = tkE (tP T n) 1 s := by
        unfold tkK
        rw [if_neg (no hz)]
      exact B_takeTold_11_0 hs.1.1 ⟨0, by omega, G_wrong hs (by omega) (fun g c1 f1 => flt g _ c1 (tkE_ne' hs (by decide)) f1 eK.symm)⟩
  · exact B_takeTold_0 hs.1.1 ⟨fun _ => flt h s hs hz frT.refl (tkK_f hz).symm, fun c => absurd (e8.symm.trans c) hz⟩
theorem RSK_wn {a i x : Int} (hs : RSK T n V m h s) (hn : (hav a i).1 ≠ 2) (ha : a = 195 ∨ (a = 182 ∧ i = 21)) : RSK T n V m (wr h a i x) s := by
  have e7 : rd (wr h a i x) 182 7 = rd h 182 7 := by rw [rd_wr, if_neg (by omega)]
  have e8 : rd (wr h a i x) 182 8 = rd h 182 8 := by rw [rd_wr, if_neg (by omega)]
  exact ⟨RXK_fr hs.1 (RF_wn hn hs.1.1) (fun b j hb => rdw_ne (by omega)), e8.trans hs.2.1, hs.2.2.1, by rw [e7]; exact hs.2.2.2.1, by rw [e7]; exact hs.2.2.2.2⟩
theorem hav_195 (i : Int) : (hav 195 i).1 ≠ 2 := hav_nr (by decide +kernel) i
theorem hav_21 : (hav 182 21).1 ≠ 2 := by decide +kernel
/-- places that a line of a day changes in the reference -/
def muRD (a i : Int) : Prop := muTK a i ∨ a = 195 ∨ (a = 182 ∧ i = 21)
theorem G_day (he : 6 ≤ e) (hF : RF h) (hb : 0 ≤ rd h 182 18 ∧ rd h 182 18 ≤ 20) (h9 : ∀ i, 0 ≤ i → i < 20 → 0 ≤ rd h 193 i ∧ rd h 193 i ≤ 25) (h2 : rd h 182 2 = n) (n0 : 0 ≤ n) (n1 : n ≤ 1000) (hT : ∀ i, 0 ≤ i → i < n → rd h 183 i = T i) (hV : rd h 187 = V) (hi : Vinj V)
    (k : ∀ h', Q (some (.inl (dF (tO T n) (tV T n 37) (tW T n 37 V) (tP T n) (kR h T n 20 6) (kR h T n 0 14)).1.1)) h') : Rn xs xl e mm_day 0 [some (.inr (.inr 182)), none] [] h Q := by
  have hp : ∀ j, 0 ≤ tP T n j := fun j => tP_0 n1 n0 j
  generalize ekp : kR h T n 20 6 = kp at k
  generalize ekd : kR h T n 0 14 = kd at k
  generalize eF : dF (tO T n) (tV T n 37) (tW T n 37 V) (tP T n) kp kd = Y at k
  -- what lies behind a text without a fault
  have tl : ∀ (d : Nat) (g : LH) (b : Int), RF g → (0 ≤ rd g 182 21 ∧ rd g 182 21 ≤ 24) → 2 * rd g 182 21 - b ≤ d → 0 ≤ b → (∀ h', Q (some (.inl 0)) h') → Rn xs xl e mm_day 113 [some (.inr (.inr 182)), some (.inl b)] [] g Q := by
    intro d
    induction d with
    | zero =>
      intro g b gF gb hd b0 kk
      exact B_day_113 gF ⟨by omega, fun _ => kk g, fun c => by omega⟩
    | succ d ih =>
      intro g b gF gb hd b0 kk
      refine B_day_113 gF ⟨by omega, fun _ => kk g, fun c => ⟨by omega, by omega, by omega, by omega, by omega, ?_⟩⟩
      have e21 : rd (wr g 195 (b + 1) (rd g 195 (b + 50))) 182 21 = rd g 182 21 := rdw_ne (by decide)
      exact ih _ (b + 1) (RF_wn (hav_195 _) gF) (by rw [e21]; exact gb) (by rw [e21]; omega) (by omega) kk
  have loop : ∀ (m : Nat) (c : Nat) (g : LH) (y : (Int × Nat) × Nat), dL (tO T n) (tV T n 37) (tW T n 37 V) (tP T n) kp kd c y = Y → RSK T n V m g y.1 → (∀ a i, a = 191 ∨ a = 193 ∨ (a = 182 ∧ i = 18) → rd g a i = rd h a i) → y.2 ≤ 24 → (y.1.1 = 0 → rd g 182 21 = (y.2 : Int) ∧ 1000 ≤ y.1.2 + c) → Rn xs xl e mm_day 14 [some (.inr (.inr 182)), none] [] g Q := by
    intro m c
    induction c with
    | zero =>
      intro g y eY hs gf yl hd
      have gF := hs.1.1
      have e8 := hs.2.1
      have a7 := hs.2.2.2.1
      have p0 := hs.2.2.1
      have m1 := hs.1.2.2.2.2.1
      have eY' : y = Y := eY
      have stop : Rn xs xl e mm_day 89 [some (.inr (.inr 182)), none] [] g Q := by
        refine B_day_89 gF ⟨fun c => ?_, fun c => ?_⟩
        · have z : y.1.1 = 0 := by omega
          have e21 : rd (wr g 195 0 (rd g 182 21)) 182 21 = rd g 182 21 := rdw_ne (by decide)
          have l := (hd z).1
          refine tl 48 _ 0 (RF_wn (hav_195 _) gF) (by rw [e21]; omega) (by rw [e21]; omega) (by decide) (fun h' => ?_)
          have := k h'
          rw [← eY', z] at this
          exact this
        · have := k g
          rw [← eY', ← e8] at this
          exact this
      refine B_day_14 gF ⟨fun _ => stop, fun c => ⟨by omega, fun _ => stop, fun c2 => ?_⟩⟩
      have z : y.1.1 = 0 := e8.symm.trans c
      have eo := RS_o hs z
      have lt := RS_lt hs z (fun q3 => c2 (eo.trans q3))
      have := (hd z).2
      omega
    | succ c ih =>
      intro g y eY hs gf yl hd
      have gF := hs.1.1
      have e8 := hs.2.1
      have a7 := hs.2.2.2.1
      have p0 := hs.2.2.1
      have m1 := hs.1.2.2.2.2.1
      have stop : ¬ (y.1.1 = 0 ∧ tO T n y.1.2 ≠ 0) → Rn xs xl e mm_day 89 [some (.inr (.inr 182)), none] [] g Q := by
        intro ns
        have eY' : y = Y := by rw [dL_stop ns] at eY; exact eY
        refine B_day_89 gF ⟨fun c => ?_, fun c => ?_⟩
        · have z : y.1.1 = 0 := by omega
          have e21 : rd (wr g 195 0 (rd g 182 21)) 182 21 = rd g 182 21 := rdw_ne (by decide)
          have l := (hd z).1
          refine tl 48 _ 0 (RF_wn (hav_195 _) gF) (by rw [e21]; omega) (by rw [e21]; omega) (by decide) (fun h' => ?_)
          have := k h'
          rw [← eY', z] at this
          exact this
        · have := k g
          rw [← eY', ← e8] at this
          exact this
      refine B_day_14 gF ⟨fun c0 => stop (fun q3 => c0 (e8.trans q3.1)), fun c0 => ⟨by omega, fun q2 => stop (fun q3 => q3.2 ((RS_o hs q3.1).symm.trans q2)), fun q2 => ?_⟩⟩
      have z : y.1.1 = 0 := e8.symm.trans c0
      have eo := RS_o hs z
      have no : tO T n y.1.2 ≠ 0 := fun q3 => q2 (eo.trans q3)
      have lt := RS_lt hs z no
      obtain ⟨l21, hc⟩ := hd z
      rw [dL_go ⟨z, no⟩] at eY
      have adv := dS_adv (o := tO T n) (v := tV T n 37) (w := tW T n 37 V) (p := tP T n) (kp := kp) (kd := kd) (y := y) hp z
      have yl' := dS_le (o := tO T n) (v := tV T n 37) (w := tW T n 37 V) (p := tP T n) (kp := kp) (kd := kd) (y := y) yl
      have t80 : ∀ (g1 : LH) (s1 : Int × Nat), RSK T n V m g1 s1 → (∀ a i, ¬ muRD a i → rd g1 a i = rd g a i) → (dS (tO T n) (tV T n 37) (tW T n 37 V) (tP T n) kp kd y).1 = tkS (tO T n) (tV T n 37) (tP T n) 59 s1 → (s1.1 = 0 → rd g1 182 21 = ((dS (tO T n) (tV T n 37) (tW T n 37 V) (tP T n) kp kd y).2 : Int)) → Rn xs xl e mm_day 80 [some (.inr (.inr 182)), none] [] g1 Q := by
        generalize dS (tO T n) (tV T n 37) (tW T n 37 V) (tP T n) kp kd y = y' at eY adv yl'
        intro g1 s1 r1 f1 e1 d1
        refine B_day_80 r1.1.1 ⟨1, by omega, G_takeSign (by omega) r1 (fun g2 c2 f2 => ?_)⟩
        have c2' := c2
        rw [← e1] at c2'
        refine B_day_86 c2.1.1 (ih g2 y' eY c2' (fun a i ha => ?_) yl' (fun z' => ⟨?_, ?_⟩))
        · rw [f2 a i (by unfold muTK; omega), f1 a i (by unfold muRD muTK; omega)]
          exact gf a i ha
        · have z1 : s1.1 = 0 := tkS_z (by rw [← e1]; exact z')
          exact (f2 _ _ (by unfold muTK; omega)).trans (d1 z1)
        · have := adv z'
          omega
      have bad : ∀ (c0 : Int), 1 ≤ c0 → (dS (tO T n) (tV T n 37) (tW T n 37 V) (tP T n) kp kd y).1 = tkE (tP T n) c0 y.1 → ∀ g1, RSK T n V m g1 (tkE (tP T n) c0 y.1) → frT g g1 → Rn xs xl e mm_day 80 [some (.inr (.inr 182)), none] [] g1 Q := by
        intro c0 h0 eS g1 c1 f1
        have ne := tkE_ne' hs h0
        exact t80 g1 _ c1 (fun a i hn => f1 a i (fun z => hn (Or.inl z))) (by rw [tkS_f ne]; exact eS) (fun q3 => absurd q3 ne)
      have gkp : kR g T n 20 6 = kp := by
        rw [← ekp]
        unfold kR
        have e1 : (fun i : Nat => rd g 191 (i : Int)) = (fun i : Nat => rd h 191 (i : Int)) := funext (fun i => gf _ _ (Or.inl rfl))
        have e2 : (fun i : Nat => rd g 193 (i : Int)) = (fun i : Nat => rd h 193 (i : Int)) := funext (fun i => gf _ _ (Or.inr (Or.inl rfl)))
        rw [e1, e2, gf 182 18 (Or.inr (Or.inr ⟨rfl, rfl⟩))]
      -- one line that counts
      have turn : y.2 < 24 → ∀ hour : Int, (hour = 0 ∨ hour = 1) → (hour = 1 ↔ tW T n 37 V y.1.2 = 13) → (hour = 0 → tW T n 37 V y.1.2 = 12) → Rn xs xl 5 mm_readTurn 0 [some (.inr (.inr 182)), none, none] [] g (fun r h' => Rn xs xl e mm_day 80 [some (.inr (.inr 182)), none] (r.toList ++ []) h' Q) := by
        intro ylt hour h01 h1 h0
        have b18 : 0 ≤ rd g 182 18 ∧ rd g 182 18 ≤ 20 := by rw [gf 182 18 (Or.inr (Or.inr ⟨rfl, rfl⟩))]; exact hb
        have g9 : ∀ i, 0 ≤ i → i < 20 → 0 ≤ rd g 193 i ∧ rd g 193 i ≤ 25 := fun i i0 i1 => by rw [gf 193 i (Or.inr (Or.inl rfl))]; exact h9 i i0 i1
        refine B_readTurn_0 gF ⟨by omega, by omega, 0, by omega, G_isWord hs (by omega) (fun _ w13 => ?_) (fun nw => ?_)⟩
        · -- an hour
          have eS : dS (tO T n) (tV T n 37) (tW T n 37 V) (tP T n) kp kd y = (tkS (tO T n) (tV T n 37) (tP T n) 59 (tkA y.1), y.2 + 1) := by
            unfold dS
            rw [if_neg (by omega), if_pos w13, if_neg (by omega)]
          have s1 := RS_adv hs z no
          refine B_readTurn_16 gF ⟨by omega, fun c => absurd c (by decide), fun _ => ⟨by omega, by omega, fun c => absurd c (by decide), fun _ => ⟨by omega, by omega, ?_⟩⟩⟩
          refine t80 _ (tkA y.1) (RSK_wn (RSK_wn (RSK_wn s1 (hav_195 _) (Or.inl rfl)) (hav_195 _) (Or.inl rfl)) hav_21 (Or.inr ⟨rfl, rfl⟩)) (fun a i hn => ?_) (by rw [eS]) (fun _ => ?_)
          · unfold muRD muTK at hn
            rw [rd_wr, if_neg (fun z => hn (by omega)), rd_wr, if_neg (fun z => hn (by omega)), rd_wr, if_neg (fun z => hn (by omega)), rd_wr, if_neg (fun z => hn (by omega))]
          · rw [rdw_eq, l21, eS]; show (y.2 : Int) + 1 = ((y.2 + 1 : Nat) : Int); omega
        · have w12 : tW T n 37 V y.1.2 = 12 := by
            rcases h01 with q3 | q3
            · exact h0 q3
            · exact absurd (h1.mp q3) (nw z)
          have eS : dS (tO T n) (tV T n 37) (tW T n 37 V) (tP T n) kp kd y = (tkS (tO T n) (tV T n 37) (tP T n) 59 (tkK (tO T n) (tW T n 37 V) (tP T n) kd (tkK (tO T n) (tW T n 37 V) (tP T n) kp (tkA y.1))), y.2 + 1) := by
            unfold dS
            rw [if_pos w12, if_neg (by omega)]
          have s1 := RS_adv hs z no
          have k1 : kR (wr g 182 7 (rd g 182 7 + 1)) T n 20 6 = kp := by
            rw [← gkp]
            unfold kR
            have e1 : (fun i : Nat => rd (wr g 182 7 (rd g 182 7 + 1)) 191 (i : Int)) = (fun i : Nat => rd g 191 (i : Int)) := funext (fun i => rdw_ne (by decide))
            have e2 : (fun i : Nat => rd (wr g 182 7 (rd g 182 7 + 1)) 193 (i : Int)) = (fun i : Nat => rd g 193 (i : Int)) := funext (fun i => rdw_ne (by decide))
            rw [e1, e2, rdw_nei (by decide)]
          refine B_readTurn_16 gF ⟨by omega, fun _ => ⟨3, by omega, G_takeTold (by omega) s1 (by rw [rdw_nei (by decide)]; exact b18) (fun i i0 i1 => by rw [rdw_ne (by decide)]; exact g9 i i0 i1) (by omega) (by omega) (fun g2 r2 c2 f2 => ?_)⟩, fun c => absurd rfl c⟩
          rw [k1] at c2
          have f2' : ∀ a i, ¬ muRD a i → rd g2 a i = rd g a i := fun a i hn => by
            unfold muRD muTK at hn
            rw [f2 a i (fun z => hn (Or.inl z)), rd_wr, if_neg (fun z => hn (by omega))]
          have c2' := RSK_wn (i := 2 * rd g 182 21 + 50) (x := r2) c2 (hav_195 _) (Or.inl rfl)
          have k2 : kR (wr g2 195 (2 * rd g 182 21 + 50) r2) T n 0 14 = kd := by
            rw [← ekd]
            unfold kR
            have e1 : (fun i : Nat => rd (wr g2 195 (2 * rd g 182 21 + 50) r2) 191 (i : Int)) = (fun i : Nat => rd h 191 (i : Int)) := funext (fun i => (rdw_ne (by decide)).trans ((f2' _ _ (by unfold muRD muTK; omega)).trans (gf _ _ (Or.inl rfl))))
            have e2 : (fun i : Nat => rd (wr g2 195 (2 * rd g 182 21 + 50) r2) 193 (i : Int)) = (fun i : Nat => rd h 193 (i : Int)) := funext (fun i => (rdw_ne (by decide)).trans ((f2' _ _ (by unfold muRD muTK; omega)).trans (gf _ _ (Or.inr (Or.inl rfl)))))
            rw [e1, e2, rdw_ne (by decide), f2' 182 18 (by unfold muRD muTK; omega), gf 182 18 (Or.inr (Or.inr ⟨rfl, rfl⟩))]
          refine B_readTurn_48 c2.1.1 ⟨by omega, by omega, fun _ => ⟨3, by omega, G_takeTold (by omega) c2' ?_ (fun i i0 i1 => ?_) (by omega) (by omega) (fun g3 r3 c3 f3 => ?_)⟩, fun c => absurd rfl c⟩
          · rw [rdw_ne (by decide), f2' 182 18 (by unfold muRD muTK; omega)]; exact b18
          · rw [rdw_ne (by decide), f2' 193 i (by unfold muRD muTK; omega)]; exact g9 i i0 i1
          · rw [k2] at c3
            have e21 : rd g3 182 21 = (y.2 : Int) := by
              rw [f3 _ _ (by unfold muTK; omega), rdw_ne (by decide), f2 _ _ (by unfold muTK; omega), rdw_nei (by decide), l21]
            refine B_readTurn_71 c3.1.1 ⟨by omega, by omega, t80 _ _ (RSK_wn (RSK_wn c3 (hav_195 _) (Or.inl rfl)) hav_21 (Or.inr ⟨rfl, rfl⟩)) (fun a i hn => ?_) (by rw [eS]) (fun _ => ?_)⟩
            · have hn' := hn
              unfold muRD muTK at hn'
              rw [rd_wr, if_neg (fun z => hn' (by omega)), rd_wr, if_neg (fun z => hn' (by omega)), f3 a i (fun z => hn (Or.inl z)), rd_wr, if_neg (fun z => hn' (by omega))]
              exact f2' a i hn
            · rw [rdw_eq, e21, eS]; show (y.2 : Int) + 1 = ((y.2 + 1 : Nat) : Int); omega
      refine ⟨0, by omega, G_isWord hs (by omega) (fun _ w12 => ?_) (fun nw => ?_)⟩
      · refine B_day_39_1 gF ⟨fun c => ⟨5, by omega, turn (by omega) 0 (Or.inl rfl) ⟨fun q3 => absurd q3 (by decide), fun q3 => by omega⟩ (fun _ => w12)⟩, fun c => ⟨0, by omega, G_wrong hs (by omega) (fun g1 c1 f1 => B_day_73 c1.1.1 (bad 5 (by decide) ?_ g1 c1 f1))⟩⟩
        unfold dS
        rw [if_pos w12, if_pos (by omega)]
      · have n12 := nw z
        refine B_day_39_0 gF ⟨0, by omega, G_isWord hs (by omega) (fun _ w13 => ?_) (fun nw13 => ?_)⟩
        · refine B_day_48_1 gF ⟨fun c => ⟨5, by omega, turn (by omega) 1 (Or.inr rfl) ⟨fun _ => w13, fun _ => rfl⟩ (fun q3 => absurd q3 (by decide))⟩, fun c => ⟨0, by omega, G_wrong hs (by omega) (fun g1 c1 f1 => B_day_73 c1.1.1 (bad 5 (by decide) ?_ g1 c1 f1))⟩⟩
          unfold dS
          rw [if_neg n12, if_pos w13, if_pos (by omega)]
        · have n13 := nw13 z
          refine B_day_48_0 gF ⟨0, by omega, G_wrong hs (by omega) (fun g1 c1 f1 => B_day_56 c1.1.1 (bad 1 (by decide) ?_ g1 c1 f1))⟩
          unfold dS
          rw [if_neg n12, if_neg n13]
  have F0 : RF (wr h 182 0 0) := RF_wn (by decide +kernel) hF
  refine B_day_0 hF ⟨2, by omega, F_cutAll (by omega) F0 ((rdw_nei (by decide)).trans h2) n0 n1 (fun i i0 i1 => (rdw_ne (by decide)).trans (hT i i0 i1)) (fun h1 m c1 c2 c3 c4 a7 a8 _ f1 => ?_)⟩
  have F1 : RF h1 := RF_fc F0 f1
  refine B_day_9 F1 ?_
  have s1 : RSK T n V m h1 (0, 0) := by
    refine ⟨⟨F1, c1, c2, c3, c4, n0, n1, ?_, hi⟩, a8, Int.le_refl 0, by omega, fun _ => ⟨a7, Nat.zero_le _⟩⟩
    rw [← hV]
    funext i
    rw [f1 _ _ (by unfold muC; omega), rdw_ne (by decide)]
  refine loop m 1000 _ ((0, 0), 0) eF (RSK_wn s1 hav_21 (Or.inr ⟨rfl, rfl⟩)) (fun a i ha => ?_) (Nat.zero_le _) (fun _ => ⟨rdw_eq, by omega⟩)
  rw [rd_wr, if_neg (by omega), f1 a i (by unfold muC; omega), rd_wr, if_neg (by omega)]
end NE3
