/-! plans, part t5: soonest, reach -/
/-- scene sc of the class, as person p sees it, is block b of S -/
def SV (h : LH) (sc : Int) (S : Int → Int) (b p : Int) : Prop := rd h sc 0 = S b ∧ rd h sc 1 = S (b + 1) ∧ rd h (sc + 1) p = S (b + p + 2) ∧ zand (zshr (rd h sc 2) p) 1 = S (b + p + 14) ∧ zand (zshr (rd h sc 3) p) 1 = S (b + p + 8)
section PL5
variable {xs : Nat → Int} {xl e : Nat} {h g : LH} {Q : Option LV → LH → Prop} {K : KEY} {S : Int → Int} {b p q sc c hr v1 v2 v3 v4 r : Int} {L : List Int} {X : Int → Prop}
theorem SV_of (hs : SR h sc b) (p0 : 0 ≤ p) (p1 : p < rd h 188 2) : SV h sc (rd h 198) b p := by
  obtain ⟨a, c, d, -⟩ := hs
  obtain ⟨d1, d2, d3⟩ := d p p0 p1
  exact ⟨a, c, d1, bt_v d3, bt_v d2⟩
/-- the states of a room -/
theorem tr_mod (kb : KB K p) (hk : 0 ≤ v1 ∧ v1 ≤ 19) (hd : 0 ≤ v2 ∧ v2 < K.1 1) (hh : 0 ≤ hr ∧ hr ≤ 23) : (0 ≤ tr K S b p hr v1 v2 → tr K S b p hr v1 v2 % 10 = LF K v2 (K.1 (4 * p + 116)) (v1 % 10) hr (S (b + 1)) 0 ∧ tr K S b p hr v1 v2 ≤ 19) ∧ (0 ≤ LF K v2 (K.1 (4 * p + 116)) (v1 % 10) hr (S (b + 1)) 0 → 0 ≤ tr K S b p hr v1 v2) := by
  have t := NW_ok K (S (b + 1)) (s := K.1 (4 * p + 116)) (d := v2) (room := v1 % 10) (hr := hr) (by have := kb.1; omega) kb.2.2.1 (by omega) (by omega)
  have e : NW K (S (b + 1)) (K.1 (4 * p + 116)) v2 (v1 % 10) hr = LF K v2 (K.1 (4 * p + 116)) (v1 % 10) hr (S (b + 1)) 0 := by
    unfold NW
    rw [if_pos (by omega)]
  rw [e] at t
  unfold tr
  rw [e]
  have t1 := t.1
  clear t e
  generalize LF K v2 (K.1 (4 * p + 116)) (v1 % 10) hr (S (b + 1)) 0 = x at *
  constructor
  · intro y
    by_cases c : x < 0
    · rw [if_pos c] at y; omega
    · rw [if_neg c] at y ⊢
      split <;> omega
  · intro y
    rw [if_neg (by omega)]
    split <;> omega
theorem proj_stp (kb : KB K p) (hh : 0 ≤ hr ∧ hr ≤ 23) (c0 : 0 ≤ c) : (∃ j, 0 ≤ j ∧ j ≤ 19 ∧ j % 10 = c ∧ stp K S b p hr X j) ↔ (∃ j, 0 ≤ j ∧ j ≤ 19 ∧ j % 10 = c ∧ X j) ∨ ∃ a, 0 ≤ a ∧ a ≤ 9 ∧ (∃ j, 0 ≤ j ∧ j ≤ 19 ∧ j % 10 = a ∧ X j) ∧ edg K (S (b + 1)) (K.1 (4 * p + 116)) hr a c := by
  unfold stp edg
  constructor
  · rintro ⟨j, j0, j1, jc, y | ⟨k, d, k0, k1, d0, d1, x, t0, t1⟩⟩
    · exact Or.inl ⟨j, j0, j1, jc, y⟩
    · refine Or.inr ⟨k % 10, by omega, by omega, ⟨k, k0, k1, rfl, x⟩, d, d0, d1, ?_⟩
      rw [← ((tr_mod kb ⟨k0, k1⟩ ⟨d0, d1⟩ hh).1 t0).1, t1]
      exact jc
  · rintro (⟨j, j0, j1, jc, y⟩ | ⟨a, a0, a1, ⟨k, k0, k1, rfl, x⟩, d, d0, d1, ee⟩)
    · exact ⟨j, j0, j1, jc, Or.inl y⟩
    · have t := tr_mod (S := S) (b := b) kb ⟨k0, k1⟩ ⟨d0, d1⟩ hh
      have t0 := t.2 (by rw [ee]; exact c0)
      have t1 := t.1 t0
      exact ⟨_, t0, t1.2, t1.1.trans ee, Or.inr ⟨k, d, k0, k1, d0, d1, x, t0, rfl⟩⟩
/-- rooms one can be in after so many hours -/
def rmN (K : KEY) (S : Int → Int) (b p : Int) (n : Nat) (a : Int) : Prop := ∃ j, 0 ≤ j ∧ j ≤ 19 ∧ j % 10 = a ∧ Rch K S b p n (S b + S (b + p + 14)) (k0F S b p) j
theorem rmN_next (kb : KB K p) (sb : SB S b p) {n : Nat} (hn : S b + S (b + p + 14) + n ≤ 23) (c0 : 0 ≤ c) : rmN K S b p (n + 1) c ↔ rmN K S b p n c ∨ ∃ a, 0 ≤ a ∧ a ≤ 9 ∧ rmN K S b p n a ∧ edg K (S (b + 1)) (K.1 (4 * p + 116)) (S b + S (b + p + 14) + n) a c := by
  obtain ⟨s0, s1, s2, s3⟩ := sb
  have k0r : 0 ≤ k0F S b p ∧ k0F S b p ≤ 19 := by unfold k0F; split <;> omega
  unfold rmN
  rw [← proj_stp kb (by omega) c0]
  constructor
  · rintro ⟨j, j0, j1, jc, y⟩
    exact ⟨j, j0, j1, jc, (Rch_stp kb (by omega) (by omega) k0r.1 k0r.2).mp y⟩
  · rintro ⟨j, j0, j1, jc, y⟩
    exact ⟨j, j0, j1, jc, (Rch_stp kb (by omega) (by omega) k0r.1 k0r.2).mpr y⟩
theorem rmN_0 (sb : SB S b p) : rmN K S b p 0 c ↔ c = S (b + p + 2) := by
  obtain ⟨s0, s1, s2, s3⟩ := sb
  have k0r : 0 ≤ k0F S b p ∧ k0F S b p ≤ 19 ∧ k0F S b p % 10 = S (b + p + 2) := by unfold k0F; split <;> omega
  unfold rmN
  constructor
  · rintro ⟨j, j0, j1, jc, y⟩
    have y : k0F S b p = j := y
    omega
  · intro y
    exact ⟨_, k0r.1, k0r.2.1, k0r.2.2.trans y.symm, rfl⟩
/-- the set of rooms, one hour on -/
theorem rm_set {R z : Int} {n : Nat} (kb : KB K p) (sb : SB S b p) (hn : S b + S (b + p + 14) + n ≤ 23) (hR : ∀ a, 0 ≤ a → a < 32 → (bitZ R a ↔ rmN K S b p n a)) (hz : ∀ c, 0 ≤ c → c < 32 → (bitZ z c ↔ ∃ a, 0 ≤ a ∧ a ≤ 9 ∧ bitZ R a ∧ edg K (S (b + 1)) (K.1 (4 * p + 116)) (S b + S (b + p + 14) + n) a c)) : ∀ c, 0 ≤ c → c < 32 → (bitZ (zor R z) c ↔ rmN K S b p (n + 1) c) := by
  intro c c0 c1
  rw [bit_or c0 c1, hR c c0 c1, hz c c0 c1, rmN_next kb sb hn c0]
  constructor
  · rintro (y | ⟨a, a0, a1, ra, x⟩)
    · exact Or.inl y
    · exact Or.inr ⟨a, a0, a1, (hR a a0 (by omega)).mp ra, x⟩
  · rintro (y | ⟨a, a0, a1, ra, x⟩)
    · exact Or.inl y
    · exact Or.inr ⟨a, a0, a1, (hR a a0 (by omega)).mpr ra, x⟩
/-- what the class's firstHourIn answers -/
def sooF (K : KEY) (S : Int → Int) (b p room r : Int) : Prop := (S (b + p + 2) = room ∧ r = S b) ∨ (S (b + p + 2) ≠ room ∧ fsH (S b + S (b + p + 14)) (fun x => rmN K S b p (x + 1 - (S b + S (b + p + 14))).toNat room) r)
theorem F_firstHourIn (he : 3 ≤ e) (hc : CXq h K q L) (hK : KR K) (kb : KB K v3) (sb : SB S b v3) (hsc : scn sc) (hc0 : 60 ≤ sc) (hp : 0 ≤ v3 ∧ v3 < K.1 2) (hv : SV h sc S b v3) (h4 : 0 ≤ v4 ∧ v4 ≤ 9) (k : ∀ r, sooF K S b v3 v4 r → Q (some (.inl r)) h) : Rn xs xl e mm_Plans_firstHourIn 0 [some (.inr (.inr 77)), some (.inr (.inr q)), some (.inr (.inr sc)), some (.inl v3), some (.inl v4), none, none, none] [] h Q := by
  obtain ⟨hF, hP, hq, -⟩ := id hc
  have n2 := hK.2.2.1
  have ks := (hK.2.2.2.2 v3 hp.1 hp.2).1
  have ep := (CXq_p hc hp.1 hp.2).1
  obtain ⟨e0, e1, e2, e14, e8⟩ := hv
  obtain ⟨s0, s1, s2, s3⟩ := id sb
  have loop : S (b + v3 + 2) ≠ v4 → ∀ (n : Nat) (R hr : Int), 24 - hr ≤ n → S b + S (b + v3 + 14) ≤ hr → hr ≤ 25 → (∀ a, 0 ≤ a → a < 32 → (bitZ R a ↔ rmN K S b v3 (hr - (S b + S (b + v3 + 14))).toNat a)) → (∀ x, S b + S (b + v3 + 14) ≤ x → x < hr → ¬ rmN K S b v3 (x + 1 - (S b + S (b + v3 + 14))).toNat v4) → Rn xs xl e mm_Plans_firstHourIn 44 [some (.inr (.inr 77)), some (.inr (.inr q)), some (.inr (.inr sc)), some (.inl v3), some (.inl v4), some (.inl (K.1 (4 * v3 + 116))), some (.inl R), some (.inl hr)] [] h Q := by
    intro ne n
    induction n with
    | zero =>
      intro R hr hn h0 h1 hR gn
      exact B_Plans_firstHourIn_44 hq hsc hc0 hF (by omega) (by omega) ⟨fun c => k (-1) (Or.inr ⟨ne, Or.inl ⟨rfl, fun x x0 x1 => gn x x0 (by omega)⟩⟩), fun c => by omega⟩
    | succ n ih =>
      intro R hr hn h0 h1 hR gn
      refine B_Plans_firstHourIn_44 hq hsc hc0 hF (by omega) (by omega) ⟨fun c => k (-1) (Or.inr ⟨ne, Or.inl ⟨rfl, fun x x0 x1 => gn x x0 (by omega)⟩⟩), fun c => ⟨2, by omega, F_nextRooms (by omega) hc hK hsc hc0 ks (by omega) (fun z zi zb => ?_)⟩⟩
      rw [e1] at zb
      have el : (hr + 1 - (S b + S (b + v3 + 14))).toNat = (hr - (S b + S (b + v3 + 14))).toNat + 1 := by omega
      have ec : S b + S (b + v3 + 14) + (((hr - (S b + S (b + v3 + 14))).toNat : Nat) : Int) = hr := by omega
      have nb := rm_set (z := z) (n := (hr - (S b + S (b + v3 + 14))).toNat) kb sb (by omega) hR (by rw [ec]; exact zb)
      rw [← el] at nb
      refine B_Plans_firstHourIn_64 hq hsc hc0 hF (by omega) ⟨fun y => ih _ (hr + 1) (by omega) (by omega) (by omega) nb (fun x x0 x1 => ?_), fun y => k hr (Or.inr ⟨ne, Or.inr ⟨h0, c, (nb v4 h4.1 (by omega)).mp (Classical.byContradiction (fun w => y (bitZ_n.mp w))), gn⟩⟩)⟩
      by_cases w : x = hr
      · rw [w]
        exact fun u => bitZ_n.mpr y ((nb v4 h4.1 (by omega)).mpr u)
      · exact gn x x0 (by omega)
  refine B_Plans_firstHourIn_0 hq hsc hc0 hF hP (by omega) (by omega) ⟨fun c => ⟨by omega, ?_⟩, fun c => ?_⟩
  · rw [e2] at c ⊢
    rw [ep, e0, e14]
    refine loop c 24 _ _ (by omega) (by omega) (by omega) (fun a a0 a1 => ?_) (fun x x0 x1 => by omega)
    rw [bit_shl s3.1 (by omega) a0 a1, show (S b + S (b + v3 + 14) - (S b + S (b + v3 + 14))).toNat = 0 by omega, rmN_0 sb]
  · rw [e2] at c
    rw [e0]
    exact k _ (Or.inl ⟨c, rfl⟩)
/-- soonest -/
def sooC (h : LH) (p room : Int) : Prop := (0 ≤ p ∧ p < rd h 188 2) ∧ 0 ≤ room ∧ room < rd h 188 0
def sooJ (v1 v2 : Int) (h g : LH) (r : Int) : Prop := samP h g ∧ ((¬ sooC h v1 v2 ∧ r = -1) ∨ (sooC h v1 v2 ∧ sooF (key h) (rd h 198) 0 v1 v2 r))
theorem E_soonestS (he : 8 ≤ e) (hI : INV h) (hE : EQL h) (h1 : i32 v1) (h2 : i32 v2) (k : ∀ r g, INV g → sooJ v1 v2 h g r → Q (some (.inl r)) g) : Rn xs xl e mm_OneSided_soonest 0 [some (.inr (.inr 1)), some (.inl v1), some (.inl v2)] [] h Q := by
  obtain ⟨L, hc⟩ := CXq_of hI hE
  have hK := KR_of hI
  have hq : rd h 1 1 = 5 ∨ rd h 1 1 = 32 := rQf hI.1
  obtain ⟨-, -, -, -, ⟨c0, -, c4⟩, -⟩ := id hc
  have c0' : rd h (rd h 1 1) 0 = rd h 188 0 := c0
  have c4' : rd h (rd h 1 1) 4 = rd h 188 2 := c4
  have n0 := rq_rooms hI.1
  have n2 := rq_people hI.1
  have k5 := hE.2.2.2.2.2.2.2.2.2.2.2.1
  have no : ¬ sooC h v1 v2 → Q (some (.inl (-1))) h := fun z => k (-1) h hI ⟨fun _ _ => rfl, Or.inl ⟨z, rfl⟩⟩
  refine B_OneSided_soonest_0 hq rfl (RF_of hI.1) (by omega) ⟨fun c => no (fun z => by have := z.1; omega), fun c => ⟨fun c2 => no (fun z => by have := z.1; omega), fun c2 => ⟨fun c3 => no (fun z => by have := z.2; omega), fun c3 => ⟨fun c4 => no (fun z => by have := z.2; omega), fun c4 => ⟨3, by omega, ?_⟩⟩⟩⟩⟩
  have w : WC (key h) (rd h 198) h := ⟨hI, rfl, rfl⟩
  have p2 : v1 < rd h 188 2 := by omega
  exact F_firstHourIn (Nat.le_refl 3) hc hK (KB_of w (by omega)) (SB_of w (by decide) (by decide) (by omega)) scn_60 (by decide) ⟨c, p2⟩ (SV_of k5 c p2) (by omega) (fun r hr => B_OneSided_soonest_38 (RF_of hI.1) (k r h hI ⟨fun _ _ => rfl, Or.inr ⟨⟨⟨c, p2⟩, c3, by omega⟩, hr⟩⟩))
/-- the mask of a room -/
theorem msk_bit {room j : Int} (h0 : 0 ≤ room ∧ room ≤ 9) (j0 : 0 ≤ j) (j1 : j ≤ 19) : bitZ (zor (zshl 1 room) (zshl 1 (room + 10))) j ↔ j % 10 = room := by
  rw [bit_or j0 (by omega), bit_shl h0.1 (by omega) j0 (by omega), bit_shl (by omega) (by omega) j0 (by omega)]
  omega
theorem soo_FH (sb : SB S b p) (kb : KB K p) {room r r' : Int} (h0 : 0 ≤ room ∧ room ≤ 9) (a : sooF K S b p room r) (c : FHr K S b p (zor (zshl 1 room) (zshl 1 (room + 10))) r') : r = r' := by
  obtain ⟨s0, s1, s2, s3⟩ := sb
  have k0r : 0 ≤ k0F S b p ∧ k0F S b p ≤ 19 ∧ k0F S b p % 10 = S (b + p + 2) := by unfold k0F; split <;> omega
  have m0 := msk_bit h0 k0r.1 k0r.2.1
  rcases a with ⟨a1, rfl⟩ | ⟨a1, a2⟩
  · rcases c with ⟨c1, rfl⟩ | ⟨c1, c2⟩
    · rfl
    · exact absurd (m0.mpr (k0r.2.2.trans a1)) c1
  · rcases c with ⟨c1, rfl⟩ | ⟨c1, c2⟩
    · exact absurd (k0r.2.2.symm.trans (m0.mp c1)) a1
    · refine fsH_one (by omega) (fun x x0 x1 => ?_) a2 c2
      unfold rmN
      constructor
      · rintro ⟨j, j0, j1, jc, y⟩
        exact ⟨j, j0, j1, (msk_bit h0 j0 j1).mpr jc, y⟩
      · rintro ⟨j, j0, j1, jc, y⟩
        exact ⟨j, j0, j1, (msk_bit h0 j0 j1).mp jc, y⟩
/-- the reference writes nothing that is kept -/
theorem EQL_L (hI : INV h) (hE : EQL h) (f : ∀ a i, a ≠ 196 → a ≠ 197 → ¬ (a = 182 ∧ i = 0) → rd g a i = rd h a i) : EQL g :=
  EQL_fr hI hE (f 2 0 (by decide) (by decide) (by decide)) (f 182 2 (by decide) (by decide) (by decide)) (fun a i ha => by
    obtain ⟨y1, y2, -⟩ := inK_p ha
    exact f a i (by omega) (by omega) (by omega))
theorem WC_thr (hI : INV h) : WC (key h) (rd h 198) (wr h 182 0 0) := by
  refine ⟨wF_thrown hI (by omega) (by omega), key_frs (fun a i a0 a1 => rdw_ne (by omega)) (fun i a0 a1 => rdw_nei (by omega)), funext (fun i => rdw_ne (by decide))⟩
theorem key_sam (hs : samP h g) : key g = key h := key_frs (fun a i _ _ => hs a i) (fun i _ _ => hs 182 i)
theorem G_soonestS (he : 8 ≤ e) (hI : INV h) (hE : EQL h) (gI : INV g) (hj : sooJ v1 v2 h g r) (k : ∀ g', INV g' → EQL g' → Q (some (.inl r)) g') : Rn xs xl e mm_soonest 0 [some (.inr (.inr 182)), some (.inl v1), some (.inl v2)] [] g Q := by
  obtain ⟨sm, hc⟩ := hj
  have EG := EQL_sam hI hE sm
  have ek := key_sam sm
  have e8 : rd g 198 = rd h 198 := funext (fun i => sm 198 i)
  have n0 := rq_rooms gI.1
  have n2 := rq_people gI.1
  have eC : sooC g v1 v2 ↔ sooC h v1 v2 := by
    unfold sooC
    rw [sm 188 0, sm 188 2]
  rw [← eC, ← ek, ← e8] at hc
  have no : ¬ sooC g v1 v2 → Q (some (.inl (-1))) (wr g 182 0 0) := fun z => by
    obtain ⟨i1, e1⟩ := thr gI EG
    rcases hc with ⟨_, rfl⟩ | ⟨c, _⟩
    · exact k _ i1 e1
    · exact absurd c z
  refine B_soonest_0 (RF_of gI.1) (by omega) ⟨fun c => no (fun z => by have := z.1; omega), fun c => ⟨fun c2 => no (fun z => by have := z.1; omega), fun c2 => ⟨fun c3 => no (fun z => by have := z.2; omega), fun c3 => ⟨fun c4 => no (fun z => by have := z.2; omega), fun c4 => ⟨by omega, 6, by omega, ?_⟩⟩⟩⟩⟩
  have w := WC_thr gI
  refine G_firstHourX (by omega) w (by decide) (by decide) (by omega) (fun r' u uw uf hr' => B_soonest_37 (RF_of uw.1.1) ?_)
  rcases hc with ⟨z, _⟩ | ⟨_, s⟩
  · exact absurd ⟨⟨c, c2⟩, c3, c4⟩ z
  · have er := soo_FH (SB_of w (by decide) (by decide) (by omega)) (KB_of w (by omega)) (by omega) s hr'
    rw [← er]
    exact k u uw.1 (EQL_L gI EG (fun a i n1 n2 n3 => (uf a i n1 n2).trans (by rw [rd_wr, if_neg (by omega)])))
end PL5
