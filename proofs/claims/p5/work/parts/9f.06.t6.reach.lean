/-! plans, part t6: reach -/
theorem bit_shr {s j k : Int} (j0 : 0 ≤ j) (k0 : 0 ≤ k) (h : j + k < 32) : bitZ (zshr s j) k ↔ bitZ s (j + k) := by
  rw [bitZ_iff k0 (by omega), bitZ_iff (by omega) h]
  unfold zshr
  rw [x_to, Int32.toBitVec_shiftRight, BitVec.getLsbD_sshiftRight', shamtZ j0 (by omega), if_pos (by omega), show (j + k).toNat = j.toNat + k.toNat by omega]
  have e : ¬ 32 ≤ k.toNat := by omega
  simp [e]
theorem bit_1023 : ∀ a : Nat, a < 32 → (bitZ 1023 (a : Int) ↔ a < 10) := by decide +kernel
theorem bit_1023' {a : Int} (a0 : 0 ≤ a) (a1 : a < 32) : bitZ 1023 a ↔ a < 10 := by
  have := bit_1023 a.toNat (by omega)
  rw [Int.toNat_of_nonneg a0] at this
  rw [this]
  omega
section PL6
variable {xs : Nat → Int} {xl e : Nat} {h g : LH} {Q : Option LV → LH → Prop} {K : KEY} {S : Int → Int} {b p q sc c hr v1 v2 v3 v4 r : Int} {L : List Int}
/-- how many hours are left -/
def lft (S : Int → Int) (b p : Int) : Nat := (24 - (S b + S (b + p + 14))).toNat
theorem F_roomsByTheEnd (he : 3 ≤ e) (hc : CXq h K q L) (hK : KR K) (kb : KB K v3) (sb : SB S b v3) (hsc : scn sc) (hc0 : 60 ≤ sc) (hp : 0 ≤ v3 ∧ v3 < K.1 2) (hv : SV h sc S b v3) (k : ∀ r, i32 r → (∀ a, 0 ≤ a → a < 32 → (bitZ r a ↔ rmN K S b v3 (lft S b v3) a)) → Q (some (.inl r)) h) : Rn xs xl e mm_Plans_roomsByTheEnd 0 [some (.inr (.inr 77)), some (.inr (.inr q)), some (.inr (.inr sc)), some (.inl v3), none, none, none] [] h Q := by
  obtain ⟨hF, hP, hq, -⟩ := id hc
  have n2 := hK.2.2.1
  have ks := (hK.2.2.2.2 v3 hp.1 hp.2).1
  have ep := (CXq_p hc hp.1 hp.2).1
  obtain ⟨e0, e1, e2, e14, e8⟩ := hv
  obtain ⟨s0, s1, s2, s3⟩ := id sb
  unfold lft at k
  have loop : ∀ (n : Nat) (R hr : Int), 24 - hr ≤ n → S b + S (b + v3 + 14) ≤ hr → hr ≤ 25 → (hr ≤ 24 ∨ S b + S (b + v3 + 14) = hr) → i32 R → (∀ a, 0 ≤ a → a < 32 → (bitZ R a ↔ rmN K S b v3 (hr - (S b + S (b + v3 + 14))).toNat a)) → Rn xs xl e mm_Plans_roomsByTheEnd 28 [some (.inr (.inr 77)), some (.inr (.inr q)), some (.inr (.inr sc)), some (.inl v3), some (.inl (K.1 (4 * v3 + 116))), some (.inl R), some (.inl hr)] [] h Q := by
    intro n
    have stop : ∀ (R hr : Int), 24 ≤ hr → (hr ≤ 24 ∨ S b + S (b + v3 + 14) = hr) → i32 R → (∀ a, 0 ≤ a → a < 32 → (bitZ R a ↔ rmN K S b v3 (hr - (S b + S (b + v3 + 14))).toNat a)) → Q (some (.inl R)) h := fun R hr c c2 ri hR => k R ri (fun a a0 a1 => by
      rw [hR a a0 a1, show (24 - (S b + S (b + v3 + 14))).toNat = (hr - (S b + S (b + v3 + 14))).toNat by omega])
    induction n with
    | zero =>
      intro R hr hn h0 h1 h2 ri hR
      exact B_Plans_roomsByTheEnd_28 hq hsc hc0 hF (by omega) (by omega) ⟨fun c => stop R hr c h2 ri hR, fun c => by omega⟩
    | succ n ih =>
      intro R hr hn h0 h1 h2 ri hR
      refine B_Plans_roomsByTheEnd_28 hq hsc hc0 hF (by omega) (by omega) ⟨fun c => stop R hr c h2 ri hR, fun c => ⟨2, by omega, F_nextRooms (by omega) hc hK hsc hc0 ks (by omega) (fun z zi zb => ?_)⟩⟩
      rw [e1] at zb
      have el : (hr + 1 - (S b + S (b + v3 + 14))).toNat = (hr - (S b + S (b + v3 + 14))).toNat + 1 := by omega
      have ec : S b + S (b + v3 + 14) + (((hr - (S b + S (b + v3 + 14))).toNat : Nat) : Int) = hr := by omega
      have nb := rm_set (z := z) (n := (hr - (S b + S (b + v3 + 14))).toNat) kb sb (by omega) hR (by rw [ec]; exact zb)
      rw [← el] at nb
      exact B_Plans_roomsByTheEnd_48 hq hsc hc0 hF (by omega) (ih _ (hr + 1) (by omega) (by omega) (by omega) (by omega) (zor_i _ _) nb)
  refine B_Plans_roomsByTheEnd_0 hq hsc hc0 hF hP (by omega) (by omega) ⟨by omega, ?_⟩
  rw [ep, e0, e14, e2]
  refine loop 24 _ _ (by omega) (by omega) (by omega) (Or.inr rfl) (zshl_i _ _) (fun a a0 a1 => ?_)
  rw [bit_shl s3.1 (by omega) a0 a1, show (S b + S (b + v3 + 14) - (S b + S (b + v3 + 14))).toNat = 0 by omega, rmN_0 sb]
/-- reach -/
def rchC (h : LH) (p : Int) : Prop := 0 ≤ p ∧ p < rd h 188 2
def rchJ (v1 : Int) (h g : LH) (r : Int) : Prop := samP h g ∧ ((¬ rchC h v1 ∧ r = -1) ∨ (rchC h v1 ∧ i32 r ∧ ∀ a, 0 ≤ a → a < 32 → (bitZ r a ↔ rmN (key h) (rd h 198) 0 v1 (lft (rd h 198) 0 v1) a)))
theorem E_reachS (he : 8 ≤ e) (hI : INV h) (hE : EQL h) (h1 : i32 v1) (k : ∀ r g, INV g → rchJ v1 h g r → Q (some (.inl r)) g) : Rn xs xl e mm_OneSided_reach 0 [some (.inr (.inr 1)), some (.inl v1)] [] h Q := by
  obtain ⟨L, hc⟩ := CXq_of hI hE
  have hK := KR_of hI
  have hq : rd h 1 1 = 5 ∨ rd h 1 1 = 32 := rQf hI.1
  obtain ⟨-, -, -, -, ⟨c0, -, c4⟩, -⟩ := id hc
  have c4' : rd h (rd h 1 1) 4 = rd h 188 2 := c4
  have n2 := rq_people hI.1
  have k5 := hE.2.2.2.2.2.2.2.2.2.2.2.1
  have no : ¬ rchC h v1 → Q (some (.inl (-1))) h := fun z => k (-1) h hI ⟨fun _ _ => rfl, Or.inl ⟨z, rfl⟩⟩
  refine B_OneSided_reach_0 hq rfl (RF_of hI.1) (by omega) ⟨fun c => no (fun z => by have := z.1; omega), fun c => ⟨fun c2 => no (fun z => by have := z.2; omega), fun c2 => ⟨3, by omega, ?_⟩⟩⟩
  have w : WC (key h) (rd h 198) h := ⟨hI, rfl, rfl⟩
  have p2 : v1 < rd h 188 2 := by omega
  exact F_roomsByTheEnd (Nat.le_refl 3) hc hK (KB_of w (by omega)) (SB_of w (by decide) (by decide) (by omega)) scn_60 (by decide) ⟨c, p2⟩ (SV_of k5 c p2) (fun r ri rb => B_OneSided_reach_27 (RF_of hI.1) (k r h hI ⟨fun _ _ => rfl, Or.inr ⟨⟨c, p2⟩, ri, rb⟩⟩))
theorem G_reachS (he : 8 ≤ e) (hI : INV h) (hE : EQL h) (gI : INV g) (hj : rchJ v1 h g r) (k : ∀ g', INV g' → EQL g' → Q (some (.inl r)) g') : Rn xs xl e mm_reach 0 [some (.inr (.inr 182)), some (.inl v1), none, none] [] g Q := by
  obtain ⟨sm, hc⟩ := hj
  have EG := EQL_sam hI hE sm
  have ek := key_sam sm
  have e8 : rd g 198 = rd h 198 := funext (fun i => sm 198 i)
  have n2 := rq_people gI.1
  have eC : rchC g v1 ↔ rchC h v1 := by
    unfold rchC
    rw [sm 188 2]
  rw [← eC, ← ek, ← e8] at hc
  have no : ¬ rchC g v1 → Q (some (.inl (-1))) (wr g 182 0 0) := fun z => by
    obtain ⟨i1, e1⟩ := thr gI EG
    rcases hc with ⟨_, rfl⟩ | ⟨c, _⟩
    · exact k _ i1 e1
    · exact absurd c z
  have w := WC_thr gI
  have main : 0 ≤ v1 → v1 < rd g 188 2 → Rn xs xl e mm_reach 39 [some (.inr (.inr 182)), some (.inl v1), some (.inl (zshl 1 (k0F (rd g 198) 0 v1))), some (.inl (rd g 198 0 + rd g 198 (0 + v1 + 14)))] [] (wr g 182 0 0) Q := by
    intro c c2
    have kb := KB_of w (p := v1) (by omega)
    have sb := SB_of w (b := 0) (p := v1) (by decide) (by decide) (by omega)
    obtain ⟨s0, s1, s2, s3⟩ := id sb
    have k0r : 0 ≤ k0F (rd g 198) 0 v1 ∧ k0F (rd g 198) 0 v1 ≤ 19 := by unfold k0F; split <;> omega
    generalize ef : rd g 198 0 + rd g 198 (0 + v1 + 14) = f
    have fin : ∀ (u : LH) (set hr : Int), 24 ≤ hr → (hr ≤ 24 ∨ f = hr) → WC (key g) (rd g 198) u → frL (wr g 182 0 0) u → (∀ j, 0 ≤ j → j < 32 → (bitZ set j ↔ Rch (key g) (rd g 198) 0 v1 (hr - f).toNat f (k0F (rd g 198) 0 v1) j)) → Q (some (.inl (zand (zor set (zshr set 10)) 1023))) u := by
      intro u set hr h24 hh uw uf us
      have en : lft (rd g 198) 0 v1 = (hr - f).toNat := by unfold lft; rw [ef]; omega
      rcases hc with ⟨z, _⟩ | ⟨_, ri, rb⟩
      · exact absurd ⟨c, c2⟩ z
      · have er : zand (zor set (zshr set 10)) 1023 = r := by
          refine bit_ext (zand_i _ _) ri (fun a a0 a1 => ?_)
          rw [rb a a0 a1, en, bit_and a0 a1, bit_or a0 a1, bit_1023' a0 a1]
          unfold rmN
          rw [ef]
          constructor
          · rintro ⟨y | y, a9⟩
            · exact ⟨a, a0, by omega, by omega, (us a a0 a1).mp y⟩
            · rw [bit_shr (by decide) a0 (by omega)] at y
              exact ⟨10 + a, by omega, by omega, by omega, (us _ (by omega) (by omega)).mp y⟩
          · rintro ⟨j, j0, j1, ja, y⟩
            refine ⟨?_, by omega⟩
            by_cases w : j < 10
            · refine Or.inl ((us a a0 a1).mpr ?_)
              rw [show a = j by omega]; exact y
            · refine Or.inr ?_
              rw [bit_shr (by decide) a0 (by omega)]
              refine (us _ (by omega) (by omega)).mpr ?_
              rw [show 10 + a = j by omega]; exact y
        rw [er]
        exact k u uw.1 (EQL_L gI EG (fun a i n1 n2 n3 => (uf a i n1 n2).trans (by rw [rd_wr, if_neg (by omega)])))
    have loop : ∀ (n : Nat) (u : LH) (set hr : Int), 24 - hr ≤ n → f ≤ hr → hr ≤ 25 → (hr ≤ 24 ∨ f = hr) → WC (key g) (rd g 198) u → frL (wr g 182 0 0) u → i32 set → (∀ j, 0 ≤ j → j < 32 → (bitZ set j ↔ Rch (key g) (rd g 198) 0 v1 (hr - f).toNat f (k0F (rd g 198) 0 v1) j)) → Rn xs xl e mm_reach 39 [some (.inr (.inr 182)), some (.inl v1), some (.inl set), some (.inl hr)] [] u Q := by
      intro n
      induction n with
      | zero =>
        intro u set hr hn h0 h1 h2 uw uf si us
        exact B_reach_39 (RF_of uw.1.1) (by omega) (by omega) ⟨fun y => fin u set hr y h2 uw uf us, fun y => by omega⟩
      | succ n ih =>
        intro u set hr hn h0 h1 h2 uw uf si us
        refine B_reach_39 (RF_of uw.1.1) (by omega) (by omega) ⟨fun y => fin u set hr y h2 uw uf us, fun y => ⟨5, by omega, G_stepOfX (by omega) uw (by decide) (by omega) (by omega) si (fun x u' uw' uf' xi xb => B_reach_53 (RF_of uw'.1.1) (by omega) (ih u' x (hr + 1) (by omega) (by omega) (by omega) (by omega) uw' (uf.trans uf') xi (fun j j0 j1 => ?_)))⟩⟩
        rw [xb j j0 j1, show (hr + 1 - f).toNat = (hr - f).toNat + 1 by omega, Rch_stp kb (by omega) (by omega) k0r.1 k0r.2, show f + (((hr - f).toNat : Nat) : Int) = hr by omega]
        exact stp_congr us j0 j1
    refine loop 24 _ _ f (by omega) (by omega) (by omega) (Or.inr rfl) w (frL.refl _) (zshl_i _ _) (fun j j0 j1 => ?_)
    rw [show (f - f).toNat = 0 by omega, bit_shl k0r.1 (by omega) j0 j1]
    exact ⟨fun y => y.symm, fun y => y.symm⟩
  refine B_reach_0 (RF_of gI.1) (by omega) ⟨fun c => no (fun z => by have := z.1; omega), fun c => ⟨fun c2 => no (fun z => by have := z.2; omega), fun c2 => ?_⟩⟩
  have m := main c c2
  obtain ⟨s0, s1, s2, s3⟩ := SB_of w (b := 0) (p := v1) (by decide) (by decide) (by omega)
  rw [show (0 : Int) + v1 + 14 = v1 + 14 by omega] at m s1
  rw [show (0 : Int) + v1 + 8 = v1 + 8 by omega] at s2
  rw [show (0 : Int) + v1 + 2 = v1 + 2 by omega] at s3
  refine ⟨by omega, by omega, by omega, by omega, fun z => ?_, fun z => ?_⟩
  · unfold k0F at m
    rw [show (0 : Int) + v1 + 8 = v1 + 8 by omega, show (0 : Int) + v1 + 2 = v1 + 2 by omega, if_neg z] at m
    exact ⟨by omega, by omega, by omega, by omega, m⟩
  · unfold k0F at m
    rw [show (0 : Int) + v1 + 8 = v1 + 8 by omega, show (0 : Int) + v1 + 2 = v1 + 2 by omega, if_pos z] at m
    exact ⟨by omega, by omega, by omega, by omega, m⟩
end PL6
