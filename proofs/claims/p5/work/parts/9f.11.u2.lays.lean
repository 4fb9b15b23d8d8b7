/-! rings, part u2: the reference's laysInto, closure, homelessOf -/
/-- one comes at once from room a into room b -/
def eL (K : KEY) (s hr sh tu a b : Int) : Prop := (0 ≤ a ∧ a < K.1 0) ∧ ∃ d, 0 ≤ d ∧ d < K.1 1 ∧ LF K d s a hr sh tu = b
/-- row into says so -/
def LAY (K : KEY) (s hr sh tu : Int) (g : LH) : Prop := ∀ r, 0 ≤ r → r < 10 → ∀ b, 0 ≤ b → b < 32 → (bitZ (rd g 203 r) b ↔ eL K s hr sh tu r b)
def frI (h g : LH) : Prop := ∀ a i, a ≠ 196 → a ≠ 197 → a ≠ 203 → rd g a i = rd h a i
section UC
variable {xs : Nat → Int} {xl e : Nat} {h g : LH} {Q : Option LV → LH → Prop} {K : KEY} {s hr sh tu a b v1 : Int}
theorem frI.trans {h h1 h2 : LH} (a : frI h h1) (c : frI h1 h2) : frI h h2 := fun x i n1 n2 n3 => (c x i n1 n2 n3).trans (a x i n1 n2 n3)
theorem frI.refl (h : LH) : frI h h := fun _ _ _ _ _ => rfl
theorem frI.key (f : frI h g) : key g = key h := key_frs (fun a i a0 a1 => f a i (by omega) (by omega) (by omega)) (fun i a0 a1 => f 182 i (by decide) (by decide) (by decide))
theorem G_laysInto (he : 4 ≤ e) (hI : INV h) (eK : key h = K) (hs : 0 ≤ s ∧ s ≤ 3) (hh : 0 ≤ hr ∧ hr ≤ 23) (k : ∀ g, INV g → frI h g → LAY K s hr sh tu g → Q none g) : Rn xs xl e mm_laysInto 0 [some (.inr (.inr 182)), some (.inl s), some (.inl hr), some (.inl sh), some (.inl tu), none, none, none] [] h Q := by
  have hK : KR K := by rw [← eK]; exact KR_of hI
  obtain ⟨k0, k1, -⟩ := hK
  have eg : ∀ {g : LH}, frI h g → rd g 188 0 = K.1 0 ∧ rd g 188 1 = K.1 1 := fun f => by
    have := f.key.trans eK
    rw [← this]
    exact ⟨rfl, rfl⟩
  have outer : ∀ (n : Nat) (g : LH) (r : Int) (o6 o7 : Option LV), 10 - r ≤ n → 0 ≤ r → r ≤ 10 → INV g → frI h g → (∀ x, 0 ≤ x → x < r → ∀ b, 0 ≤ b → b < 32 → (bitZ (rd g 203 x) b ↔ eL K s hr sh tu x b)) → Rn xs xl e mm_laysInto 3 [some (.inr (.inr 182)), some (.inl s), some (.inl hr), some (.inl sh), some (.inl tu), some (.inl r), o6, o7] [] g Q := by
    intro n
    have stop : ∀ (g : LH) (r : Int), 10 ≤ r → INV g → frI h g → (∀ x, 0 ≤ x → x < r → ∀ b, 0 ≤ b → b < 32 → (bitZ (rd g 203 x) b ↔ eL K s hr sh tu x b)) → Q none g := fun g r c gI gf gl => k g gI gf (fun x x0 x1 => gl x x0 (by omega))
    induction n with
    | zero =>
      intro g r o6 o7 hn r0 r1 gI gf gl
      exact B_laysInto_3 (RF_of gI.1) ⟨r0, r1⟩ ⟨fun c => stop g r c gI gf gl, fun c => by omega⟩
    | succ n ih =>
      intro g r o6 o7 hn r0 r1 gI gf gl
      -- the doors below d of room r
      have inner : ∀ (m : Nat) (u : LH) (d : Int) (o7 : Option LV), K.1 1 - d ≤ m → 0 ≤ d → d ≤ K.1 1 → r < 10 → INV u → frI h u → (∀ x, 0 ≤ x → x < r → ∀ b, 0 ≤ b → b < 32 → (bitZ (rd u 203 x) b ↔ eL K s hr sh tu x b)) → (∀ b, 0 ≤ b → b < 32 → (bitZ (rd u 203 r) b ↔ r < K.1 0 ∧ ∃ d', 0 ≤ d' ∧ d' < d ∧ LF K d' s r hr sh tu = b)) → Rn xs xl e mm_laysInto 21 [some (.inr (.inr 182)), some (.inl s), some (.inl hr), some (.inl sh), some (.inl tu), some (.inl r), some (.inl d), o7] [] u Q := by
        intro m
        have next : ∀ (u : LH) (d : Int) (o6 o7 : Option LV), r < 10 → (K.1 1 ≤ d ∨ K.1 0 ≤ r) → d ≤ K.1 1 → INV u → frI h u → (∀ x, 0 ≤ x → x < r → ∀ b, 0 ≤ b → b < 32 → (bitZ (rd u 203 x) b ↔ eL K s hr sh tu x b)) → (∀ b, 0 ≤ b → b < 32 → (bitZ (rd u 203 r) b ↔ r < K.1 0 ∧ ∃ d', 0 ≤ d' ∧ d' < d ∧ LF K d' s r hr sh tu = b)) → Rn xs xl e mm_laysInto 3 [some (.inr (.inr 182)), some (.inl s), some (.inl hr), some (.inl sh), some (.inl tu), some (.inl (r + 1)), o6, o7] [] u Q := by
          intro u d o6 o7 r10 hd d1 uI uf ul ur
          refine ih u (r + 1) o6 o7 (by omega) (by omega) (by omega) uI uf (fun x x0 x1 b b0 b1 => ?_)
          by_cases z : x = r
          · rw [z, ur b b0 b1]
            unfold eL
            constructor
            · rintro ⟨y, d', a0, a1, ee⟩
              exact ⟨⟨r0, y⟩, d', a0, by omega, ee⟩
            · rintro ⟨⟨_, y⟩, d', a0, a1, ee⟩
              exact ⟨y, d', a0, by omega, ee⟩
          · exact ul x x0 (by omega) b b0 b1
        induction m with
        | zero =>
          intro u d o7 hm d0 d1 r10 uI uf ul ur
          have ee := eg uf
          exact B_laysInto_21 (RF_of uI.1) ⟨r0, by omega⟩ (by omega) (by omega) ⟨fun c => next u d _ o7 r10 (by omega) d1 uI uf ul ur, fun c => by omega⟩
        | succ m im =>
          intro u d o7 hm d0 d1 r10 uI uf ul ur
          have ee := eg uf
          refine B_laysInto_21 (RF_of uI.1) ⟨r0, by omega⟩ (by omega) (by omega) ⟨fun c => next u d _ o7 r10 (by omega) d1 uI uf ul ur, fun c => ⟨fun c2 => next u d _ o7 r10 (by omega) d1 uI uf ul ur, fun c2 => ⟨3, by omega, ?_⟩⟩⟩
          have lf := LF_ok K (d := d) (s := s) (room := r) (hr := hr) sh tu (by omega) hs (by omega) (by omega)
          refine lf.2.2.2 xs xl 3 u _ (Nat.le_refl 3) uI (uf.key.trans eK) (fun u' uI' uf' => ?_)
          have fI : frI h u' := fun a i n1 n2 n3 => (uf' a i n1 n2).trans (uf a i n1 n2 n3)
          have lr := lf.1
          clear lf
          have f203 : ∀ i, rd u' 203 i = rd u 203 i := fun i => uf' 203 i (by decide) (by decide)
          have rg := rA_into uI'.1 (i := r) (by omega)
          have put : ∀ w, 0 ≤ w → w ≤ 1023 → (∀ b, 0 ≤ b → b < 32 → (bitZ w b ↔ bitZ (rd u 203 r) b ∨ (0 ≤ b ∧ LF K d s r hr sh tu = b))) → Rn xs xl e mm_laysInto 21 [some (.inr (.inr 182)), some (.inl s), some (.inl hr), some (.inl sh), some (.inl tu), some (.inl r), some (.inl (d + 1)), some (.inl (LF K d s r hr sh tu))] [] (wr u' 203 r w) Q := by
            intro w w0 w1 wb
            refine im _ (d + 1) _ (by omega) (by omega) (by omega) r10 (wA_into uI' ⟨r0, r10⟩ w0 w1) (fun a i n1 n2 n3 => by rw [rdw_ne (by omega)]; exact fI a i n1 n2 n3) (fun x x0 x1 b b0 b1 => ?_) (fun b b0 b1 => ?_)
            · rw [rdw_nei (by omega), f203]
              exact ul x x0 x1 b b0 b1
            · rw [rdw_eq, wb b b0 b1, ur b b0 b1, ex_lt d0]
              constructor
              · rintro (⟨y, x⟩ | ⟨_, x⟩)
                · exact ⟨y, Or.inl x⟩
                · exact ⟨by omega, Or.inr x⟩
              · rintro ⟨y, x | x⟩
                · exact Or.inl ⟨y, x⟩
                · exact Or.inr ⟨b0, x⟩
          refine B_laysInto_52 (RF_of uI'.1) ⟨r0, by omega⟩ ⟨d0, by omega⟩ ⟨fun z => ?_, fun z => ?_⟩
          · have zb := zshl_b (LF K d s r hr sh tu).toNat (by omega)
            rw [Int.toNat_of_nonneg z] at zb
            have zo := zor_ge10 (a := rd u' 203 r) (b := zshl 1 (LF K d s r hr sh tu)) rg.1 rg.2 (by omega) (by omega)
            refine put _ (by omega) zo.2 (fun b b0 b1 => ?_)
            rw [bit_or b0 b1, bit_shl z (by omega) b0 b1, f203]
            exact ⟨fun y => y.elim Or.inl (fun y => Or.inr ⟨b0, y.symm⟩), fun y => y.elim Or.inl (fun y => Or.inr y.2.symm)⟩
          · have zo := zor_ge10 (a := rd u' 203 r) (b := 0) rg.1 rg.2 (by omega) (by omega)
            refine put _ (by omega) zo.2 (fun b b0 b1 => ?_)
            rw [bit_or b0 b1, f203]
            exact ⟨fun y => y.elim Or.inl (fun y => absurd y bit_zero), fun y => y.elim Or.inl (fun y => by omega)⟩
      refine B_laysInto_3 (RF_of gI.1) ⟨r0, r1⟩ ⟨fun c => stop g r c gI gf gl, fun c => ⟨⟨r0, c⟩, ?_⟩⟩
      refine inner (K.1 1).toNat _ 0 o7 (by omega) (by omega) (by omega) c (wA_into gI ⟨r0, c⟩ (by omega) (by omega)) (fun a i n1 n2 n3 => by rw [rdw_ne (by omega)]; exact gf a i n1 n2 n3) (fun x x0 x1 b b0 b1 => ?_) (fun b b0 b1 => ?_)
      · rw [rdw_nei (by omega)]
        exact gl x x0 x1 b b0 b1
      · rw [rdw_eq]
        exact ⟨fun y => absurd y bit_zero, fun ⟨_, d', a0, a1, _⟩ => by omega⟩
  exact B_laysInto_0 (RF_of hI.1) (outer 10 h 0 none none (by omega) (by omega) (by omega) hI (frI.refl h) (fun x x0 x1 => by omega))
/-- the edges that the row says -/
def eR (K : KEY) (g : LH) (a b : Int) : Prop := (0 ≤ a ∧ a < K.1 0) ∧ 0 ≤ b ∧ b < 32 ∧ bitZ (rd g 203 a) b
theorem G_closure (he : 1 ≤ e) (hI : INV h) (eK : key h = K) (hv : 0 ≤ v1 ∧ v1 ≤ 9) (k : ∀ r, 1 ≤ r → r ≤ 1023 → (∀ b, 0 ≤ b → b < 32 → (bitZ r b ↔ Rea (eR K h) v1 b)) → Q (some (.inl r)) h) : Rn xs xl e mm_closure 0 [some (.inr (.inr 182)), some (.inl v1), none, none, none] [] h Q := by
  have r0 := rq_rooms hI.1
  have e0 : rd h 188 0 = K.1 0 := by rw [← eK]; rfl
  have l6 : ∀ (n : Nat) (v2 v3 : Int) (o4 : Option LV), nL o4 → 1023 - v3 < n → 0 ≤ v3 → v3 ≤ v2 → 1 ≤ v2 → v2 ≤ 1023 → (∀ b, 0 ≤ b → b < 32 → bitZ v2 b → Rea (eR K h) v1 b) → bitZ v2 v1 → (v3 = v2 → ∀ a b, bitZ v2 a → eR K h a b → bitZ v2 b) → Rn xs xl e mm_closure 6 [some (.inr (.inr 182)), some (.inl v1), some (.inl v2), some (.inl v3), o4] [] h Q := by
    intro n
    induction n with
    | zero =>
      intro v2 v3 o4 _ hn
      omega
    | succ n ih =>
      intro v2 v3 o4 no hn a0 a1 a2 a3 hr h1 hcl
      refine B_closure_6 no (RF_of hI.1) ⟨fun c => k v2 a2 a3 (fun b b0 b1 => ⟨hr b b0 b1, fun w => ?_⟩), fun c => ?_⟩
      · exact Rea_min (X := fun b => bitZ v2 b) h1 (fun x y hx ee => hcl (by omega) x y hx ee) w
      have l16 : ∀ (m : Nat) (w v4 : Int), rd h 188 0 - v4 < m → 0 ≤ v4 → v4 ≤ rd h 188 0 → v2 ≤ w → w ≤ 1023 → (∀ b, 0 ≤ b → b < 32 → bitZ v2 b → bitZ w b) → (∀ b, 0 ≤ b → b < 32 → bitZ w b → Rea (eR K h) v1 b) → (∀ a b, 0 ≤ a → a < v4 → bitZ v2 a → eR K h a b → bitZ w b) → Rn xs xl e mm_closure 16 [some (.inr (.inr 182)), some (.inl v1), some (.inl w), some (.inl v2), some (.inl v4)] [] h Q := by
        intro m
        induction m with
        | zero =>
          intro w v4 hm
          omega
        | succ m im =>
          intro w v4 hm b0 b1 b2 b3 sub hw hd
          have z0 := zor_ge10 (a := w) (b := 0) (by omega) b3 (by omega) (by omega)
          refine B_closure_16 (RF_of hI.1) he ⟨fun c2 => ih w v2 _ (fun u hu => by cases hu; rfl) (by omega) (by omega) b2 (by omega) b3 hw (sub v1 hv.1 (by omega) h1) (fun eq a b ha ee => ?_), fun c2 => ⟨fun nb => ⟨by omega, im _ _ (by omega) (by omega) (by omega) (by omega) (by omega) (fun b x0 x1 y => (bit_or x0 x1).mpr (Or.inl (sub b x0 x1 y))) (fun b x0 x1 y => hw b x0 x1 (((bit_or x0 x1).mp y).elim (fun y => y) (fun y => absurd y bit_zero))) (fun a b x0 x1 y ee => ?_)⟩, fun yb => ⟨by omega, by omega, ?_⟩⟩⟩
          · refine hd a b ee.1.1 (by have := ee.1.2; omega) (by rw [eq]; exact ha) ee
          · have i := ee.2
            refine (bit_or i.1 i.2.1).mpr (Or.inl ?_)
            by_cases z : a = v4
            · exact absurd (sub a x0 (by omega) y) (by rw [z]; exact nb)
            · exact hd a b x0 (by omega) y ee
          · have q := rA_into hI.1 (i := v4) (by omega)
            have z1 := zor_ge10 (a := w) (b := rd h 203 v4) (by omega) b3 q.1 q.2
            refine im _ _ (by omega) (by omega) (by omega) (by omega) (by omega) (fun b x0 x1 y => (bit_or x0 x1).mpr (Or.inl (sub b x0 x1 y))) (fun b x0 x1 y => ?_) (fun a b x0 x1 y ee => ?_)
            · rcases (bit_or x0 x1).mp y with y | y
              · exact hw b x0 x1 y
              · exact Rea_step (hw v4 b0 (by omega) yb) ⟨⟨b0, by omega⟩, x0, x1, y⟩
            · have i := ee.2
              rw [bit_or i.1 i.2.1]
              by_cases z : a = v4
              · rw [z] at i
                exact Or.inr i.2.2
              · exact Or.inl (hd a b x0 (by omega) y ee)
      exact l16 11 v2 0 (by omega) (by omega) (by omega) (by omega) a3 (fun _ _ _ y => y) hr (fun a b x0 x1 => by omega)
  have z := zshl_b v1.toNat (by omega)
  rw [Int.toNat_of_nonneg hv.1] at z
  refine B_closure_0 (RF_of hI.1) (l6 1025 (zshl 1 v1) 0 none (fun u hu => by cases hu) (by omega) (by omega) (by omega) z.1 z.2 (fun b b0 b1 y => ?_) ((bit_shl hv.1 (by omega) hv.1 (by omega)).mpr rfl) (fun y => by omega))
  rw [bit_shl hv.1 (by omega) b0 b1] at y
  rw [y]
  exact Rea_refl
theorem eR_eL (hl : LAY K s hr sh tu h) (hK : KR K) (hs : 0 ≤ s ∧ s ≤ 3) (hh : 0 ≤ hr ∧ hr ≤ 23) : eR K h a b ↔ 0 ≤ b ∧ eL K s hr sh tu a b := by
  unfold eR
  have k0 := hK.1
  have k1 := hK.2.1
  constructor
  · rintro ⟨a0, b0, b1, y⟩
    exact ⟨b0, (hl a a0.1 (by omega) b b0 b1).mp y⟩
  · rintro ⟨b0, y⟩
    obtain ⟨a0, d, d0, d1, ee⟩ := id y
    have lf := LF_ok K (d := d) (s := s) (room := a) (hr := hr) sh tu (by omega) hs (by omega) (by omega)
    have b9 : b ≤ 9 := by rw [← ee]; exact lf.1.2
    exact ⟨a0, b0, by omega, (hl a a0.1 (by omega) b b0 (by omega)).mpr y⟩
theorem G_homelessOf (he : 2 ≤ e) (hI : INV h) (eK : key h = K) (hv : 0 ≤ v1 ∧ v1 ≤ 9) (k : ∀ r, i32 r → (∀ b, 0 ≤ b → b < 32 → (bitZ r b ↔ b < K.1 0 ∧ ¬ Rea (eR K h) b v1)) → Q (some (.inl r)) h) : Rn xs xl e mm_homelessOf 0 [some (.inr (.inr 182)), some (.inl v1), none, none] [] h Q := by
  have r0 := rq_rooms hI.1
  have e0 : rd h 188 0 = K.1 0 := by rw [← eK]; rfl
  have loop : ∀ (n : Nat) (v2 v3 : Int), K.1 0 - v3 ≤ n → 0 ≤ v3 → v3 ≤ K.1 0 → i32 v2 → (∀ b, 0 ≤ b → b < 32 → (bitZ v2 b ↔ b < v3 ∧ ¬ Rea (eR K h) b v1)) → Rn xs xl e mm_homelessOf 4 [some (.inr (.inr 182)), some (.inl v1), some (.inl v2), some (.inl v3)] [] h Q := by
    intro n
    have stop : ∀ v2 v3, K.1 0 ≤ v3 → v3 ≤ K.1 0 → i32 v2 → (∀ b, 0 ≤ b → b < 32 → (bitZ v2 b ↔ b < v3 ∧ ¬ Rea (eR K h) b v1)) → Q (some (.inl v2)) h := fun v2 v3 a c vi vb => k v2 vi (fun b b0 b1 => by rw [show K.1 0 = v3 by omega]; exact vb b b0 b1)
    induction n with
    | zero =>
      intro v2 v3 hn a0 a1 vi vb
      exact B_homelessOf_4 (RF_of hI.1) ⟨a0, by omega⟩ (by omega) ⟨fun c => stop v2 v3 (by omega) a1 vi vb, fun c => by omega⟩
    | succ n ih =>
      intro v2 v3 hn a0 a1 vi vb
      refine B_homelessOf_4 (RF_of hI.1) ⟨a0, by omega⟩ (by omega) ⟨fun c => stop v2 v3 (by omega) a1 vi vb, fun c => ⟨1, by omega, G_closure (by omega) hI eK ⟨a0, by omega⟩ (fun r r1 r2 rb => ?_)⟩⟩
      refine B_homelessOf_18 (RF_of hI.1) ⟨a0, by omega⟩ (by omega) ⟨fun y => ih _ (v3 + 1) (by omega) (by omega) (by omega) (zor_i _ _) (fun b b0 b1 => ?_), fun y => ih _ (v3 + 1) (by omega) (by omega) (by omega) (zor_i _ _) (fun b b0 b1 => ?_)⟩
      · have nr : ¬ Rea (eR K h) v3 v1 := fun w => y ((rb v1 hv.1 (by omega)).mpr w)
        rw [bit_or b0 b1, bit_shl a0 (by omega) b0 b1, vb b b0 b1]
        constructor
        · rintro (⟨u, w⟩ | u)
          · exact ⟨by omega, w⟩
          · rw [u]; exact ⟨by omega, nr⟩
        · rintro ⟨u, w⟩
          by_cases z : b = v3
          · exact Or.inr z
          · exact Or.inl ⟨by omega, w⟩
      · have yr : Rea (eR K h) v3 v1 := (rb v1 hv.1 (by omega)).mp y
        rw [bit_or b0 b1, vb b b0 b1]
        constructor
        · rintro (⟨u, w⟩ | u)
          · exact ⟨by omega, w⟩
          · exact absurd u bit_zero
        · rintro ⟨u, w⟩
          by_cases z : b = v3
          · rw [z] at w
            exact absurd yr w
          · exact Or.inl ⟨by omega, w⟩
  exact B_homelessOf_0 (RF_of hI.1) (loop 10 0 0 (by omega) (by omega) (by omega) z32 (fun b b0 b1 => ⟨fun y => absurd y bit_zero, fun y => by omega⟩))
end UC
