/-! plans, part t7: the hour at home; stuck -/
section PL7
variable {xs : Nat → Int} {xl e : Nat} {h g : LH} {Q : Option LV → LH → Prop} {K : KEY} {S : Int → Int} {b p q sc c hr v1 v2 v3 v4 r : Int} {L : List Int} {X : Int → Prop}
theorem tr_val (kb : KB K p) (hk : 0 ≤ v1 ∧ v1 ≤ 19) (hd : 0 ≤ v2 ∧ v2 < K.1 1) (hh : 0 ≤ hr ∧ hr ≤ 23) : (LF K v2 (K.1 (4 * p + 116)) (v1 % 10) hr (S (b + 1)) 0 < 0 → tr K S b p hr v1 v2 = -1) ∧ (0 ≤ LF K v2 (K.1 (4 * p + 116)) (v1 % 10) hr (S (b + 1)) 0 → tr K S b p hr v1 v2 = LF K v2 (K.1 (4 * p + 116)) (v1 % 10) hr (S (b + 1)) 0 + (if 10 ≤ v1 ∨ LF K v2 (K.1 (4 * p + 116)) (v1 % 10) hr (S (b + 1)) 0 = K.1 (4 * p + 118) then 10 else 0)) ∧ LF K v2 (K.1 (4 * p + 116)) (v1 % 10) hr (S (b + 1)) 0 ≤ 9 := by
  have t := NW_ok K (S (b + 1)) (s := K.1 (4 * p + 116)) (d := v2) (room := v1 % 10) (hr := hr) (by have := kb.1; omega) kb.2.2.1 (by omega) (by omega)
  have e : NW K (S (b + 1)) (K.1 (4 * p + 116)) v2 (v1 % 10) hr = LF K v2 (K.1 (4 * p + 116)) (v1 % 10) hr (S (b + 1)) 0 := by
    unfold NW
    rw [if_pos (by omega)]
  rw [e] at t
  unfold tr
  rw [e]
  exact ⟨fun y => by rw [if_pos y], fun y => by rw [if_neg (by omega)], t.1.2⟩
theorem stp_hi (kb : KB K p) (hh : 0 ≤ hr ∧ hr ≤ 23) (c0 : 0 ≤ c) (c1 : c ≤ 9) : stp K S b p hr X (c + 10) ↔ X (c + 10) ∨ (∃ a, 0 ≤ a ∧ a ≤ 9 ∧ X (a + 10) ∧ edg K (S (b + 1)) (K.1 (4 * p + 116)) hr a c) ∨ (c = K.1 (4 * p + 118) ∧ ∃ a, 0 ≤ a ∧ a ≤ 9 ∧ X a ∧ edg K (S (b + 1)) (K.1 (4 * p + 116)) hr a c) := by
  unfold stp edg
  constructor
  · rintro (y | ⟨k, d, k0, k1, d0, d1, x, t0, t1⟩)
    · exact Or.inl y
    · have t := tr_val (S := S) (b := b) kb ⟨k0, k1⟩ ⟨d0, d1⟩ hh
      by_cases z : LF K d (K.1 (4 * p + 116)) (k % 10) hr (S (b + 1)) 0 < 0
      · have := t.1 z
        omega
      · have v := t.2.1 (by omega)
        rw [v] at t1
        by_cases w : 10 ≤ k
        · rw [if_pos (Or.inl w)] at t1
          refine Or.inr (Or.inl ⟨k - 10, by omega, by omega, by rw [show k - 10 + 10 = k by omega]; exact x, d, d0, d1, ?_⟩)
          rw [show k - 10 = k % 10 by omega]
          omega
        · by_cases u : LF K d (K.1 (4 * p + 116)) (k % 10) hr (S (b + 1)) 0 = K.1 (4 * p + 118)
          · rw [if_pos (Or.inr u)] at t1
            refine Or.inr (Or.inr ⟨by omega, k, k0, by omega, x, d, d0, d1, ?_⟩)
            rw [show k = k % 10 by omega]
            omega
          · rw [if_neg (by omega)] at t1
            have := t.2.2
            omega
  · rintro (y | ⟨a, a0, a1, x, d, d0, d1, ee⟩ | ⟨ec, a, a0, a1, x, d, d0, d1, ee⟩)
    · exact Or.inl y
    · have t := tr_val (S := S) (b := b) kb (v1 := a + 10) ⟨by omega, by omega⟩ ⟨d0, d1⟩ hh
      rw [show (a + 10) % 10 = a by omega, ee] at t
      have v := t.2.1 c0
      rw [if_pos (Or.inl (by omega))] at v
      exact Or.inr ⟨a + 10, d, by omega, by omega, d0, d1, x, by omega, v⟩
    · have t := tr_val (S := S) (b := b) kb (v1 := a) ⟨a0, by omega⟩ ⟨d0, d1⟩ hh
      rw [show a % 10 = a by omega, ee] at t
      have v := t.2.1 c0
      rw [if_pos (Or.inr ec)] at v
      exact Or.inr ⟨a, d, a0, by omega, d0, d1, x, by omega, v⟩
theorem stp_lo (kb : KB K p) (hh : 0 ≤ hr ∧ hr ≤ 23) (c0 : 0 ≤ c) (c1 : c ≤ 9) : stp K S b p hr X c ↔ X c ∨ (c ≠ K.1 (4 * p + 118) ∧ ∃ a, 0 ≤ a ∧ a ≤ 9 ∧ X a ∧ edg K (S (b + 1)) (K.1 (4 * p + 116)) hr a c) := by
  unfold stp edg
  constructor
  · rintro (y | ⟨k, d, k0, k1, d0, d1, x, t0, t1⟩)
    · exact Or.inl y
    · have t := tr_val (S := S) (b := b) kb ⟨k0, k1⟩ ⟨d0, d1⟩ hh
      by_cases z : LF K d (K.1 (4 * p + 116)) (k % 10) hr (S (b + 1)) 0 < 0
      · have := t.1 z
        omega
      · have v := t.2.1 (by omega)
        rw [v] at t1
        by_cases w : 10 ≤ k ∨ LF K d (K.1 (4 * p + 116)) (k % 10) hr (S (b + 1)) 0 = K.1 (4 * p + 118)
        · rw [if_pos w] at t1
          omega
        · rw [if_neg w] at t1
          refine Or.inr ⟨by omega, k, k0, by omega, x, d, d0, d1, ?_⟩
          have e : k % 10 = k := by omega
          rw [e] at t1
          omega
  · rintro (y | ⟨ec, a, a0, a1, x, d, d0, d1, ee⟩)
    · exact Or.inl y
    · have t := tr_val (S := S) (b := b) kb (v1 := a) ⟨a0, by omega⟩ ⟨d0, d1⟩ hh
      rw [show a % 10 = a by omega, ee] at t
      have v := t.2.1 c0
      rw [if_neg (by omega), Int.add_zero] at v
      exact Or.inr ⟨a, d, a0, by omega, d0, d1, x, by omega, v⟩
/-- rooms before and after the errand, after n hours -/
def bfS (K : KEY) (S : Int → Int) (b p : Int) (n : Nat) (B A : Int) : Prop := ∀ a, 0 ≤ a → a < 32 → (bitZ B a ↔ a ≤ 9 ∧ Rch K S b p n (S b + S (b + p + 14)) (k0F S b p) a) ∧ (bitZ A a ↔ a ≤ 9 ∧ Rch K S b p n (S b + S (b + p + 14)) (k0F S b p) (a + 10))
theorem edg_9 (kr : KR K) (hs : 0 ≤ v2 ∧ v2 ≤ 3) (hh : 0 ≤ hr ∧ hr ≤ 23) (a0 : 0 ≤ v3) (a1 : v3 ≤ 9) (h : edg K v1 v2 hr v3 c) : c ≤ 9 := by
  obtain ⟨d, d0, d1, e⟩ := h
  have n1 := kr.2.1
  have t := NW_ok K v1 (s := v2) (d := d) (room := v3) (hr := hr) (by omega) hs ⟨a0, a1⟩ (by omega)
  have u : NW K v1 v2 d v3 hr = LF K d v2 v3 hr v1 0 := by
    unfold NW
    rw [if_pos (by omega)]
  rw [u, e] at t
  exact t.1.2
theorem bfS_next {B A came more : Int} {n : Nat} (kr : KR K) (kb : KB K p) (sb : SB S b p) (hn : S b + S (b + p + 14) + n ≤ 23) (hB : bfS K S b p n B A) (hc : ∀ c, 0 ≤ c → c < 32 → (bitZ came c ↔ ∃ a, 0 ≤ a ∧ a ≤ 9 ∧ bitZ B a ∧ edg K (S (b + 1)) (K.1 (4 * p + 116)) (S b + S (b + p + 14) + n) a c)) (hm : ∀ c, 0 ≤ c → c < 32 → (bitZ more c ↔ ∃ a, 0 ≤ a ∧ a ≤ 9 ∧ bitZ A a ∧ edg K (S (b + 1)) (K.1 (4 * p + 116)) (S b + S (b + p + 14) + n) a c)) : bfS K S b p (n + 1) (zor B (zand came (zxor (zshl 1 (K.1 (4 * p + 118))) (-1)))) (zor A (zor more (zand came (zshl 1 (K.1 (4 * p + 118)))))) := by
  obtain ⟨s0, s1, s2, s3⟩ := sb
  have k0r : 0 ≤ k0F S b p ∧ k0F S b p ≤ 19 := by unfold k0F; split <;> omega
  have ke := kb.2.2.2.2.1
  have ks := kb.2.2.1
  intro c c0 c1
  have e9 : ∀ a, 0 ≤ a → a ≤ 9 → edg K (S (b + 1)) (K.1 (4 * p + 116)) (S b + S (b + p + 14) + n) a c → c ≤ 9 := fun a a0 a1 x => edg_9 kr ks (by omega) a0 a1 x
  have st : ∀ j, Rch K S b p (n + 1) (S b + S (b + p + 14)) (k0F S b p) j ↔ stp K S b p (S b + S (b + p + 14) + n) (fun j => Rch K S b p n (S b + S (b + p + 14)) (k0F S b p) j) j := fun j => Rch_stp kb (by omega) (by omega) k0r.1 k0r.2
  constructor
  · rw [bit_or c0 c1, bit_and c0 c1, bit_not c0 c1, bit_shl ke.1 (by omega) c0 c1, hc c c0 c1, (hB c c0 c1).1]
    constructor
    · rintro (⟨y1, y2⟩ | ⟨⟨a, a0, a1, ra, x⟩, ne⟩)
      · refine ⟨y1, (st c).mpr ?_⟩
        rw [stp_lo kb (by omega) c0 y1]
        exact Or.inl y2
      · have c9 := e9 a a0 a1 x
        refine ⟨c9, (st c).mpr ?_⟩
        rw [stp_lo kb (by omega) c0 c9]
        exact Or.inr ⟨ne, a, a0, a1, ((hB a a0 (by omega)).1.mp ra).2, x⟩
    · rintro ⟨c9, y⟩
      have y := (st c).mp y
      rw [stp_lo kb (by omega) c0 c9] at y
      rcases y with y | ⟨ne, a, a0, a1, ra, x⟩
      · exact Or.inl ⟨c9, y⟩
      · exact Or.inr ⟨⟨a, a0, a1, (hB a a0 (by omega)).1.mpr ⟨a1, ra⟩, x⟩, ne⟩
  · rw [bit_or c0 c1, bit_or c0 c1, bit_and c0 c1, bit_shl ke.1 (by omega) c0 c1, hc c c0 c1, hm c c0 c1, (hB c c0 c1).2]
    constructor
    · rintro (⟨y1, y2⟩ | ⟨a, a0, a1, ra, x⟩ | ⟨⟨a, a0, a1, ra, x⟩, ec⟩)
      · refine ⟨y1, (st _).mpr ?_⟩
        rw [stp_hi kb (by omega) c0 y1]
        exact Or.inl y2
      · have c9 := e9 a a0 a1 x
        refine ⟨c9, (st _).mpr ?_⟩
        rw [stp_hi kb (by omega) c0 c9]
        exact Or.inr (Or.inl ⟨a, a0, a1, ((hB a a0 (by omega)).2.mp ra).2, x⟩)
      · have c9 := e9 a a0 a1 x
        refine ⟨c9, (st _).mpr ?_⟩
        rw [stp_hi kb (by omega) c0 c9]
        exact Or.inr (Or.inr ⟨ec, a, a0, a1, ((hB a a0 (by omega)).1.mp ra).2, x⟩)
    · rintro ⟨c9, y⟩
      have y := (st _).mp y
      rw [stp_hi kb (by omega) c0 c9] at y
      rcases y with y | ⟨a, a0, a1, ra, x⟩ | ⟨ec, a, a0, a1, ra, x⟩
      · exact Or.inl ⟨c9, y⟩
      · exact Or.inr (Or.inl ⟨a, a0, a1, (hB a a0 (by omega)).2.mpr ⟨a1, ra⟩, x⟩)
      · exact Or.inr (Or.inr ⟨⟨a, a0, a1, (hB a a0 (by omega)).1.mpr ⟨a1, ra⟩, x⟩, ec⟩)
/-- the state at home with the errand done -/
theorem msk_home {m j : Int} (h0 : 0 ≤ m ∧ m ≤ 9) (j0 : 0 ≤ j) (j1 : j ≤ 19) : bitZ (zshl 1 (m + 10)) j ↔ j = m + 10 := bit_shl (by omega) (by omega) j0 (by omega)
theorem FHr_one {m r r' : Int} (sb : SB S b p) (a : FHr K S b p m r) (c : FHr K S b p m r') : r = r' := by
  obtain ⟨s0, s1, s2, s3⟩ := sb
  rcases a with ⟨a1, rfl⟩ | ⟨a1, a2⟩
  · rcases c with ⟨c1, rfl⟩ | ⟨c1, c2⟩
    · rfl
    · exact absurd a1 c1
  · rcases c with ⟨c1, rfl⟩ | ⟨c1, c2⟩
    · exact absurd c1 a1
    · exact fsH_one (by omega) (fun x _ _ => Iff.rfl) a2 c2
theorem F_homeHour (he : 3 ≤ e) (hc : CXq h K q L) (hK : KR K) (kb : KB K v3) (sb : SB S b v3) (hsc : scn sc) (hc0 : 60 ≤ sc) (hp : 0 ≤ v3 ∧ v3 < K.1 2) (hv : SV h sc S b v3) (k : ∀ r, FHr K S b v3 (zshl 1 (K.1 (4 * v3 + 117) + 10)) r → Q (some (.inl r)) h) : Rn xs xl e mm_Plans_homeHour 0 [some (.inr (.inr 77)), some (.inr (.inr q)), some (.inr (.inr sc)), some (.inl v3), none, none, none, none, none, none, none] [] h Q := by
  obtain ⟨hF, hP, hq, -⟩ := id hc
  have n2 := hK.2.2.1
  obtain ⟨ep1, ep2, ep3, -⟩ := CXq_p hc hp.1 hp.2
  obtain ⟨e0, e1, e2, e14, e8⟩ := hv
  obtain ⟨s0, s1, s2, s3⟩ := id sb
  have ks := kb.2.2.1
  have kh := kb.2.2.2.1
  have ke := kb.2.2.2.2.1
  have k0r : 0 ≤ k0F S b v3 ∧ k0F S b v3 ≤ 19 := by unfold k0F; split <;> omega
  have mh : ∀ n, (∃ j, 0 ≤ j ∧ j ≤ 19 ∧ bitZ (zshl 1 (K.1 (4 * v3 + 117) + 10)) j ∧ Rch K S b v3 n (S b + S (b + v3 + 14)) (k0F S b v3) j) ↔ Rch K S b v3 n (S b + S (b + v3 + 14)) (k0F S b v3) (K.1 (4 * v3 + 117) + 10) := by
    intro n
    constructor
    · rintro ⟨j, j0, j1, jm, y⟩
      rw [msk_home kh j0 j1] at jm
      rw [← jm]; exact y
    · exact fun y => ⟨_, by omega, by omega, (msk_home kh (by omega) (by omega)).mpr rfl, y⟩
  have aft : ∀ {n : Nat} {B A : Int}, bfS K S b v3 n B A → (zand (zshr A (rd h (q + 21 + v3) 2)) 1 = 1 ↔ Rch K S b v3 n (S b + S (b + v3 + 14)) (k0F S b v3) (K.1 (4 * v3 + 117) + 10)) := fun hB => by
    rw [ep2]
    have := (hB _ kh.1 (by omega)).2
    unfold bitZ at this
    rw [this]
    exact ⟨fun y => y.2, fun y => ⟨kh.2, y⟩⟩
  have loop : ¬ bitZ (zshl 1 (K.1 (4 * v3 + 117) + 10)) (k0F S b v3) → ∀ (n : Nat) (B A hr v6 : Int) (o : Option LV), 24 - hr ≤ n → S b + S (b + v3 + 14) ≤ hr → hr ≤ 25 → bfS K S b v3 (hr - (S b + S (b + v3 + 14))).toNat B A → (∀ x, S b + S (b + v3 + 14) ≤ x → x < hr → ¬ Rch K S b v3 (x + 1 - (S b + S (b + v3 + 14))).toNat (S b + S (b + v3 + 14)) (k0F S b v3) (K.1 (4 * v3 + 117) + 10)) → Rn xs xl e mm_Plans_homeHour 98 [some (.inr (.inr 77)), some (.inr (.inr q)), some (.inr (.inr sc)), some (.inl v3), some (.inr (.inr (q + 21 + v3))), some (.inl (zshl 1 (K.1 (4 * v3 + 118)))), some (.inl v6), some (.inl B), some (.inl A), some (.inl hr), o] [] h Q := by
    intro nm n
    have stop : ∀ hr, 24 ≤ hr → (∀ x, S b + S (b + v3 + 14) ≤ x → x < hr → ¬ Rch K S b v3 (x + 1 - (S b + S (b + v3 + 14))).toNat (S b + S (b + v3 + 14)) (k0F S b v3) (K.1 (4 * v3 + 117) + 10)) → Q (some (.inl (-1))) h := fun hr c gn => k (-1) (Or.inr ⟨nm, Or.inl ⟨rfl, fun x x0 x1 y => gn x x0 (by omega) ((mh _).mp y)⟩⟩)
    induction n with
    | zero =>
      intro B A hr v6 o hn h0 h1 hB gn
      exact B_Plans_homeHour_98 hq hsc hc0 hF (by omega) (by omega) ⟨fun c => stop hr c gn, fun c => by omega⟩
    | succ n ih =>
      intro B A hr v6 o hn h0 h1 hB gn
      refine B_Plans_homeHour_98 hq hsc hc0 hF (by omega) (by omega) ⟨fun c => stop hr c gn, fun c => ⟨2, by omega, ?_⟩⟩
      rw [ep1]
      refine F_nextRooms (by omega) hc hK hsc hc0 ks (by omega) (fun came ci cb => ?_)
      refine B_Plans_homeHour_119 hq hsc hc0 hF (by omega) (by omega) ⟨2, by omega, ?_⟩
      rw [ep1]
      refine F_nextRooms (by omega) hc hK hsc hc0 ks (by omega) (fun more mi mb => ?_)
      rw [e1] at cb mb
      have el : (hr + 1 - (S b + S (b + v3 + 14))).toNat = (hr - (S b + S (b + v3 + 14))).toNat + 1 := by omega
      have ec : S b + S (b + v3 + 14) + (((hr - (S b + S (b + v3 + 14))).toNat : Nat) : Int) = hr := by omega
      have nb := bfS_next (came := came) (more := more) (n := (hr - (S b + S (b + v3 + 14))).toNat) hK kb sb (by omega) hB (by rw [ec]; exact cb) (by rw [ec]; exact mb)
      rw [← el] at nb
      have af := aft nb
      have o1 := bitZ_01 (zor A (zor more (zand came (zshl 1 (K.1 (4 * v3 + 118)))))) (rd h (q + 21 + v3) 2)
      refine B_Plans_homeHour_137 hq hsc hc0 hF (by omega) (by omega) ⟨fun y => ih _ _ (hr + 1) _ _ (by omega) (by omega) (by omega) nb (fun x x0 x1 => ?_), fun y => k hr (Or.inr ⟨nm, Or.inr ⟨h0, c, (mh _).mpr (af.mp (by omega)), fun x x0 x1 w => gn x x0 x1 ((mh _).mp w)⟩⟩)⟩
      by_cases w : x = hr
      · rw [w]
        exact fun u => by have := af.mpr u; omega
      · exact gn x x0 (by omega)
  have start : ∀ (B A v6 : Int), bfS K S b v3 0 B A → Rn xs xl e mm_Plans_homeHour 73 [some (.inr (.inr 77)), some (.inr (.inr q)), some (.inr (.inr sc)), some (.inl v3), some (.inr (.inr (q + 21 + v3))), some (.inl (zshl 1 (K.1 (4 * v3 + 118)))), some (.inl v6), some (.inl B), some (.inl A), none, none] [] h Q := by
    intro B A v6 hB
    have af := aft hB
    have o1 := bitZ_01 A (rd h (q + 21 + v3) 2)
    have m0 := msk_home (m := K.1 (4 * v3 + 117)) kh k0r.1 k0r.2
    refine B_Plans_homeHour_73 hq hsc hc0 hF (by omega) (by omega) ⟨fun y => ⟨by omega, ?_⟩, fun y => ?_⟩
    · rw [e0, e14]
      refine loop (fun w => ?_) 24 B A _ v6 none (by omega) (by omega) (by omega) (by rw [show (S b + S (b + v3 + 14) - (S b + S (b + v3 + 14))).toNat = 0 by omega]; exact hB) (fun x x0 x1 => by omega)
      have := af.mpr (m0.mp w)
      omega
    · rw [e0]
      have w : k0F S b v3 = K.1 (4 * v3 + 117) + 10 := af.mp (by omega)
      exact k _ (Or.inl ⟨m0.mpr w, rfl⟩)
  have b0 : ∀ {x : Int}, 0 ≤ x → x < 32 → (bitZ 0 x ↔ False) := fun _ _ => ⟨fun y => bit_zero y, fun y => y.elim⟩
  refine B_Plans_homeHour_0 hq hsc hc0 hF hP (by omega) ⟨fun c => ?_, fun c => ?_⟩
  · rw [e8] at c
    rw [ep3]
    refine B_Plans_homeHour_35 hq hsc hc0 hF (by omega) ⟨fun _ => ?_, fun y => absurd rfl y⟩
    rw [e2]
    refine B_Plans_homeHour_54 hq hsc hc0 hF (by omega) ⟨fun _ => start _ _ 0 (fun a a0 a1 => ?_), fun y => absurd rfl y⟩
    have ek : k0F S b v3 = S (b + v3 + 2) := by unfold k0F; rw [if_neg (by omega)]
    rw [bit_shl s3.1 (by omega) a0 a1, b0 a0 a1]
    refine ⟨⟨fun y => ⟨by omega, ek.trans y.symm⟩, fun y => ?_⟩, ⟨fun y => y.elim, fun y => ?_⟩⟩
    · have w : k0F S b v3 = a := y.2
      omega
    · have w : k0F S b v3 = a + 10 := y.2
      omega
  · rw [e8] at c
    rw [ep3]
    refine B_Plans_homeHour_35 hq hsc hc0 hF (by omega) ⟨fun y => absurd y (by decide), fun _ => ?_⟩
    refine B_Plans_homeHour_54 hq hsc hc0 hF (by omega) ⟨fun y => absurd y (by decide), fun _ => ?_⟩
    rw [e2]
    refine start _ _ 1 (fun a a0 a1 => ?_)
    have ek : k0F S b v3 = S (b + v3 + 2) + 10 := by unfold k0F; rw [if_pos (by omega)]
    rw [bit_shl s3.1 (by omega) a0 a1, b0 a0 a1]
    refine ⟨⟨fun y => y.elim, fun y => ?_⟩, ⟨fun y => ⟨by omega, ?_⟩, fun y => ?_⟩⟩
    · have w : k0F S b v3 = a := y.2
      omega
    · show k0F S b v3 = a + 10
      omega
    · have w : k0F S b v3 = a + 10 := y.2
      omega
end PL7
