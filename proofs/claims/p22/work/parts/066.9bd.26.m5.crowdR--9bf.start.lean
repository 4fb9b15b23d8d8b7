section
/-! crowd, part m5: the reference's crowd -/
section M5
variable {xs : Nat → Int} {xl e : Nat} {h g u : LH} {Q : Option LV → LH → Prop} {K : KEY} {S : Int → Int} {L sh h0 src snk n p f y d t room i j c v v1 v2 v3 r X : Int} {Z tl hd cp : Int → Int}
theorem rsd_1 {s : Int} (st : STP L tl hd cp Z n p c s) : 1 ≤ rsd cp Z c s := by
  unfold rsd
  rcases st.2 with ⟨a, -, -, b⟩ | ⟨a, -, -, b⟩
  · rw [if_pos a]
    by_cases z : c < 1000
    · rw [if_pos z]
      have := b z
      omega
    · rw [if_neg z]
      omega
  · rw [if_neg (by omega)]
    exact b
theorem G_goesBack (he : 6 ≤ e) (w : WC K S g) (hK : KR K) (hl : 0 ≤ S 0 ∧ 1 ≤ L ∧ S 0 + L ≤ 24) (eX : X = n + 10 * S 0) (hX : 0 ≤ X ∧ X ≤ 249) (ey : rd g 206 X = y) (oy : okY K y) (st : STP L (tlA K (S 0)) (hdA K (S 0)) (cpAr K (S 1) (S 0)) Z n p (arcY n y) (sgY y)) (ep : parY K (S 1) (S 0) n y = p) (sm : ZR (S 0) g (arcY n y) = Z (arcY n y)) (fz : FEA L (cpAr K (S 1) (S 0)) Z) (hB : Z (arcY n y) ≤ 100000) (k : ∀ u, WC K S u → frBk g u → (∀ c, c ≠ arcY n y → ZR (S 0) u c = ZR (S 0) g c) → ZR (S 0) u (arcY n y) = ZR (S 0) g (arcY n y) + sgY y * 1 → Q (some (.inl (p + 10 * S 0))) u) : Rn xs xl e mm_goesBack 0 [some (.inr (.inr 182)), some (.inl X), none, none, none, none] [] g Q := by
  have k1 := hK.2.1
  have hr := RMS_A (L := L) (h0 := S 0) (sh := S 1) hK ⟨by omega, by omega⟩
  obtain ⟨vc, sd⟩ := id st
  have en := endsQ hr vc
  have fc := fz _ vc
  have e5 : rd g 188 (8 * y + 5) = K.1 (8 * y + 5) := by rw [← w.2.1]; rfl
  have e6 : rd g 188 (8 * y + 6) = K.1 (8 * y + 6) := by rw [← w.2.1]; rfl
  have x1 : X / 10 = n / 10 + S 0 := by omega
  have x2 : X % 10 = n % 10 := by omega
  -- doors, waits: one number changes
  have wD : ∀ a v', arcY n y = a → a < 1000 → (∀ c, c ≠ arcY n y → ZR (S 0) (wr g 204 (14 * S 0 + a) v') c = ZR (S 0) g c) ∧ ZR (S 0) (wr g 204 (14 * S 0 + a) v') (arcY n y) = v' := fun a v' ea la => by
    rw [ea]
    refine ⟨fun c hc => ?_, ?_⟩
    · unfold ZR
      by_cases z : c < 1000
      · rw [if_pos z, if_pos z, rdw_nei (by omega)]
      · rw [if_neg z, if_neg z, rdw_ne (by decide)]
    · unfold ZR
      rw [if_pos la, rdw_eq]
  have wW : ∀ a v', arcY n y = 1000 + a → 0 ≤ a → (∀ c, c ≠ arcY n y → ZR (S 0) (wr g 205 (10 * S 0 + a) v') c = ZR (S 0) g c) ∧ ZR (S 0) (wr g 205 (10 * S 0 + a) v') (arcY n y) = v' := fun a v' ea la => by
    rw [ea]
    refine ⟨fun c hc => ?_, ?_⟩
    · unfold ZR
      by_cases z : c < 1000
      · rw [if_pos z, if_pos z, rdw_ne (by decide)]
      · rw [if_neg z, if_neg z, rdw_nei (by omega)]
    · unfold ZR
      rw [if_neg (by omega), show 10 * S 0 + (1000 + a) - 1000 = 10 * S 0 + a by omega, rdw_eq]
  have B := B_goesBack_0 (xs := xs) (xl := xl) (e := e) (Q := Q) (RF_of w.1.1) hX (by omega)
  rw [ey, e5, e6, x1, x2] at B
  refine B ⟨fun c1 => ⟨fun c2 => ⟨fun c3 => ?_, fun c3 => ?_⟩, fun c2 => ?_⟩, fun c1 => ?_⟩
  · clear B
    have yd : 0 ≤ y - 800 ∧ y - 800 < K.1 1 := by
      rcases oy with z | z | z | z
      · exact absurd z c1
      · exact absurd z c2
      · omega
      · exact z
    have ea : arcY n y = 14 * (n / 10) + (y - 800) := by
      unfold arcY
      rw [if_neg c1, if_neg c2, if_neg (by omega)]
    have es : sgY y = -1 := by
      unfold sgY
      rw [if_neg c1, if_neg c2, if_neg (by omega)]
    have pe : 10 * (n / 10 + 1) + LF K (y - 800) 0 (n % 10) (S 0 + n / 10) (S 1) 0 = p := by
      rw [← ep]
      unfold parY
      rw [if_neg c1, if_neg c2, if_neg (by omega)]
    have lv : 0 ≤ n / 10 ∧ n / 10 < L := by
      rw [ea] at vc
      rcases vc with z | z <;> omega
    have z1 : rd g 204 (14 * (n / 10 + S 0) + y - 800) = Z (arcY n y) := by
      rw [← sm, ea]
      unfold ZR
      rw [if_pos (by omega), show 14 * S 0 + (14 * (n / 10) + (y - 800)) = 14 * (n / 10 + S 0) + y - 800 by omega]
    have zp : 1 ≤ Z (arcY n y) := by
      rcases sd with ⟨s, -⟩ | ⟨-, -, -, s⟩
      · omega
      · exact s
    rw [z1]
    refine ⟨by omega, by omega, by omega, by omega, by omega, by omega, by omega, by omega, 5, by omega, ?_⟩
    have i1 := wA_flow w.1 (i := 14 * (n / 10 + S 0) + y - 800) (v := Z (arcY n y) - 1) (by omega) (by omega) (by omega)
    have w1 : WC K S (wr g 204 (14 * (n / 10 + S 0) + y - 800) (Z (arcY n y) - 1)) := WC_same w i1 (fun a i ha => rdw_ne (by omega))
    refine D_toOf (Nat.le_refl 5) w1 (by omega) (by omega) (by omega) (fun u uw uf => ?_)
    rw [NT_LF (by omega)]
    have ls := LF_st (K := K) (d := y - 800) (room := n % 10) (t := n / 10 + S 0) (sh := S 1) (by omega) (by omega) (by omega)
    refine B_goesBack_164 (RF_of uw.1.1) (by omega) ls.1 ?_
    rw [show 10 * (n / 10 + S 0) + 10 + LF K (y - 800) 0 (n % 10) (n / 10 + S 0) (S 1) 0 = p + 10 * S 0 by rw [← pe, show n / 10 + S 0 = S 0 + n / 10 by omega]; omega]
    have q := wD (14 * (n / 10) + (y - 800)) (Z (arcY n y) - 1) ea (by omega)
    rw [show 14 * S 0 + (14 * (n / 10) + (y - 800)) = 14 * (n / 10 + S 0) + y - 800 by omega] at q
    have eu : ∀ c, ZR (S 0) u c = ZR (S 0) (wr g 204 (14 * (n / 10 + S 0) + y - 800) (Z (arcY n y) - 1)) c := fun c => by
      unfold ZR
      rw [uf 204 _ (by decide) (by decide), uf 205 _ (by decide) (by decide)]
    exact k u uw (fun a i n1 n2 n3 n4 => (uf a i n1 n2).trans (rdw_ne (fun q => n3 q.symm))) (fun c hc => (eu c).trans (q.1 c hc)) (by rw [eu, q.2, sm, es]; omega)
  · clear B
    have yd : 0 ≤ y ∧ y < K.1 1 := by
      rcases oy with z | z | z | z
      · exact absurd z c1
      · exact absurd z c2
      · exact z
      · omega
    have ea : arcY n y = 14 * (n / 10 - 1) + y := by
      unfold arcY
      rw [if_neg c1, if_neg c2, if_pos c3]
    have es : sgY y = 1 := by
      unfold sgY
      rw [if_neg c1, if_neg c2, if_pos c3]
    have pe : 10 * (n / 10 - 1) + (K.1 (8 * y + 5) + K.1 (8 * y + 6) - n % 10) = p := by
      rw [← ep]
      unfold parY
      rw [if_neg c1, if_neg c2, if_pos c3]
    have lv : 1 ≤ n / 10 ∧ n / 10 - 1 < L := by
      rw [ea] at vc
      rcases vc with z | z <;> omega
    have z1 : rd g 204 (14 * (n / 10 + S 0) + y - 14) = Z (arcY n y) := by
      rw [← sm, ea]
      unfold ZR
      rw [if_pos (by omega), show 14 * S 0 + (14 * (n / 10 - 1) + y) = 14 * (n / 10 + S 0) + y - 14 by omega]
    obtain ⟨r2, r3, -⟩ := hK.2.2.2.1 y yd.1 yd.2
    have k0 := hK.1
    obtain ⟨am, ad⟩ := arc_ld (d := y) (l := n / 10 - 1) (by omega)
    have sr := st_rng (t := S 0 + (n / 10 - 1)) hK yd.1 yd.2
    have eh : hdA K (S 0) (14 * (n / 10 - 1) + y) = tE K y (S 0 + (n / 10 - 1)) := by
      unfold hdA
      rw [am, ad, if_pos yd.2]
    have hn : n = 10 * (n / 10 - 1) + 10 + tE K y (S 0 + (n / 10 - 1)) := by
      rcases sd with ⟨-, -, s, -⟩ | ⟨s, -⟩
      · rw [ea, hN_lo (by omega), ad, eh] at s
        omega
      · omega
    rw [z1]
    have i1 := wA_flow w.1 (i := 14 * (n / 10 + S 0) + y - 14) (v := Z (arcY n y) + 1) (by omega) (by omega) (by omega)
    have fin : ∀ v' : Int, v' = p + 10 * S 0 → Q (some (.inl v')) (wr g 204 (14 * (n / 10 + S 0) + y - 14) (Z (arcY n y) + 1)) := by
      intro v' hv
      rw [hv]
      have q := wD (14 * (n / 10 - 1) + y) (Z (arcY n y) + 1) ea (by omega)
      rw [show 14 * S 0 + (14 * (n / 10 - 1) + y) = 14 * (n / 10 + S 0) + y - 14 by omega] at q
      exact k _ (WC_same w i1 (fun a i ha => rdw_ne (by omega))) (fun a i n1 n2 n3 n4 => rdw_ne (fun q => n3 q.symm)) q.1 (by rw [q.2, sm, es]; omega)
    refine ⟨by omega, by omega, by omega, by omega, by omega, by omega, by omega, by omega, by omega, by omega, by omega, by omega, fun c4 => ?_, fun c4 => ?_⟩
    · exact ⟨by omega, by omega, by omega, by omega, by omega, fin _ (by omega)⟩
    · exact ⟨by omega, by omega, by omega, by omega, by omega, fin _ (by omega)⟩
  · clear B
    have ea : arcY n y = 1000 + n := by
      unfold arcY
      rw [if_neg c1, if_pos c2]
    have es : sgY y = -1 := by
      unfold sgY
      rw [if_neg c1, if_pos c2]
    have pe : n + 10 = p := by
      rw [← ep]
      unfold parY
      rw [if_neg c1, if_pos c2]
    have lv : 0 ≤ n ∧ n < 10 * L := by
      rw [ea] at vc
      rcases vc with z | z <;> omega
    have z1 : rd g 205 X = Z (arcY n y) := by
      rw [← sm, ea]
      unfold ZR
      rw [if_neg (by omega), show 10 * S 0 + (1000 + n) - 1000 = X by omega]
    rw [z1, w32_id (by unfold i32; omega), show X + 10 = p + 10 * S 0 by omega]
    have i1 := wA_waits w.1 (i := X) (v := Z (arcY n y) - 1) (by omega) (by omega) (by omega)
    have q := wW n (Z (arcY n y) - 1) ea lv.1
    rw [show 10 * S 0 + n = X by omega] at q
    exact k _ (WC_same w i1 (fun a i ha => rdw_ne (by omega))) (fun a i n1 n2 n3 n4 => rdw_ne (fun q => n4 q.symm)) q.1 (by rw [q.2, sm, es]; omega)
  · clear B
    have ea : arcY n y = 1000 + (n - 10) := by
      unfold arcY
      rw [if_pos c1]
    have es : sgY y = 1 := by
      unfold sgY
      rw [if_pos c1]
    have pe : n - 10 = p := by
      rw [← ep]
      unfold parY
      rw [if_pos c1]
    have lv : 10 ≤ n ∧ n - 10 < 10 * L := by
      rw [ea] at vc
      rcases vc with z | z <;> omega
    have z1 : rd g 205 (X - 10) = Z (arcY n y) := by
      rw [← sm, ea]
      unfold ZR
      rw [if_neg (by omega), show 10 * S 0 + (1000 + (n - 10)) - 1000 = X - 10 by omega]
    rw [z1, w32_id (by unfold i32; omega), show X - 10 = p + 10 * S 0 by omega]
    have i1 := wA_waits w.1 (i := p + 10 * S 0) (v := Z (arcY n y) + 1) (by omega) (by omega) (by omega)
    have q := wW (n - 10) (Z (arcY n y) + 1) ea (by omega)
    rw [show 10 * S 0 + (n - 10) = p + 10 * S 0 by omega] at q
    exact ⟨by omega, by omega, k _ (WC_same w i1 (fun a i ha => rdw_ne (by omega))) (fun a i n1 n2 n3 n4 => rdw_ne (fun q => n4 q.symm)) q.1 (by rw [q.2, sm, es]; omega)⟩
theorem G_isMore (he : 7 ≤ e) (w : WC K S h) (hK : KR K) (hl : 0 ≤ S 0 ∧ 1 ≤ L ∧ S 0 + L ≤ 24) (hs : 0 ≤ src ∧ src ≤ 9) (hk : 0 ≤ snk ∧ snk < 10 * L + 10) (gd : GOOD L (tlA K (S 0)) (hdA K (S 0)) (cpAr K (S 1) (S 0)) src snk (ZR (S 0) h) v) (hB : ∀ c, vldC L c → ZR (S 0) h c ≤ 100000) (a1 a2 a3 : Int) (ea1 : a1 = src + 10 * S 0) (ea2 : a2 = snk + 10 * S 0) (ea3 : a3 = S 0 + L - 1) (k1 : ∀ g, WC K S g → frCr h g → GOOD L (tlA K (S 0)) (hdA K (S 0)) (cpAr K (S 1) (S 0)) src snk (ZR (S 0) g) (v + 1) → (∀ c, vldC L c → ZR (S 0) g c ≤ ZR (S 0) h c + 1) → Q (some (.inl 1)) g) (k0 : ∀ g, WC K S g → frCr h g → (∃ V, SAT L (tlA K (S 0)) (hdA K (S 0)) (cpAr K (S 1) (S 0)) src snk (ZR (S 0) h) V) → Q (some (.inl 0)) g) : Rn xs xl e mm_isMore 0 [some (.inr (.inr 182)), some (.inl a1), some (.inl a2), some (.inl a3), none] [] h Q := by
  have hr := RMS_A (L := L) (h0 := S 0) (sh := S 1) hK ⟨by omega, by omega⟩
  have fz := gd.1
  generalize eZ : ZR (S 0) h = Z at *
  have hs1 : 0 ≤ a1 ∧ a1 ≤ 249 := by omega
  have hs2 : 0 ≤ a2 ∧ a2 ≤ 249 := by omega
  have hs3 : 0 ≤ a3 ∧ a3 ≤ 23 := by omega
  -- the way back
  have back : ∀ (G : LH), CTR K (S 1) (S 0) L Z src G → rd G 182 42 ≤ 250 → ∀ (fu : Nat) (j : Int) (g : LH), j < fu → 0 ≤ j → j < rd G 182 42 → WC K S g → frCr h g → (∀ i, rd g 206 i = rd G 206 i) → AUG L (tlA K (S 0)) (hdA K (S 0)) (cpAr K (S 1) (S 0)) Z (ZR (S 0) g) (qRf (S 0) G) (arcR (S 0) G) (rd G 182 42) src snk 1 j → Rn xs xl e mm_isMore 97 [some (.inr (.inr 182)), some (.inl a1), some (.inl a2), some (.inl a3), some (.inl (qRf (S 0) G j + 10 * S 0))] [] g Q := by
    intro G ct q5 fu
    induction fu with
    | zero =>
      intro j g hj j0
      omega
    | succ fu ih =>
      intro j g hj j0 j1 gw gf g6 ag
      refine B_isMore_97 (RF_of gw.1.1) ⟨fun c => k1 g gw gf (AUG_end gd ag (by omega)) ag.2.2.1, fun c => ⟨6, by omega, ?_⟩⟩
      have ns : qRf (S 0) G j ≠ src := by omega
      obtain ⟨vj, b⟩ := ct.1.2.1 j j0 j1
      rcases b with b | ⟨-, st, p, p0, p1, pe⟩
      · exact absurd b.2 ns
      obtain ⟨_, sm, p', p0', p1', pe', nxt⟩ := AUG_st hr ct.1 fz j0 j1 ns ag (Int.le_refl _) (rsd_1 st)
      refine G_goesBack (n := qRf (S 0) G j) (y := rd G 206 (qRf (S 0) G j + 10 * S 0)) (p := parR K (S 1) (S 0) G (qRf (S 0) G j)) (Z := Z) (Nat.le_refl 6) gw hK hl rfl vj.2 (g6 _) (ct.2.2 _ vj ns) st rfl sm fz (hB _ st.1) (fun u uw uf u1 u2 => B_isMore_109 (RF_of uw.1.1) ?_)
      have := ih p' u (by omega) p0' (by omega) uw (fun a i n1 n2 n3 n4 n5 n6 n7 => (uf a i n1 n2 n3 n4).trans (gf a i n1 n2 n3 n4 n5 n6 n7)) (fun i => (uf 206 i (by decide) (by decide) (by decide) (by decide)).trans (g6 i)) (nxt (ZR (S 0) u) u1 u2)
      rw [pe'] at this
      exact this
  have zB : ∀ {g : LH}, frB h g → ZR (S 0) g = Z := fun {g} gf => by
    rw [← eZ]
    funext c
    unfold ZR
    rw [gf 204 _ (by decide) (by decide) (by decide) (by decide) (by omega), gf 205 _ (by decide) (by decide) (by decide) (by decide) (by omega)]
  have cr : ∀ {g : LH}, frB h g → frCr h g := fun {g} gf a i n1 n2 n3 n4 n5 n6 n7 => gf a i n1 n2 n5 n6 n7
  have s82 : ∀ (g : LH) (j : Int), WC K S g → frB h g → CTR K (S 1) (S 0) L Z src g → (rd g 206 a2 = -1 → ∀ i, 0 ≤ i → i < rd g 182 42 → DN L (tlA K (S 0)) (hdA K (S 0)) (cpAr K (S 1) (S 0)) Z (visR (S 0) g) (qRf (S 0) g i)) → Rn xs xl e mm_isMore 82 [some (.inr (.inr 182)), some (.inl a1), some (.inl a2), some (.inl a3), some (.inl j)] [] g Q := by
    intro g j gw gf gt gd'
    refine B_isMore_82 (RF_of gw.1.1) hs1 hs2 hs3 ⟨fun c => ?_, fun c => ?_⟩
    · have vs : visR (S 0) g snk := ⟨by rw [← ea2]; exact c, by omega⟩
      obtain ⟨i, i0, i1, i2⟩ := gt.1.2.2.2 snk vs
      have z := back g gt (rF_tail0 gw.1.1).2 251 i g (by have := (rF_tail0 gw.1.1).2; omega) i0 i1 gw (cr gf) (fun _ => rfl) (by rw [zB gf]; exact AUG_0 fz (by decide) i2)
      rw [i2, ← ea2] at z
      exact z
    · refine k0 g gw (cr gf) ⟨visR (S 0) g, SAT_of fz ?_ (fun t => t.1 (by rw [← ea2]; exact c)) (fun n hn => ?_)⟩
      · rw [← gt.1.1.2]
        exact (gt.1.2.1 0 (Int.le_refl _) (by have := gt.1.1.1; omega)).1
      · obtain ⟨i, i0, i1, i2⟩ := gt.1.2.2.2 n hn
        rw [← i2]
        exact gd' c i i0 i1
  have s41 : ∀ (fu : Nat) (j : Int) (g : LH), 250 - j < fu → 0 ≤ j → j ≤ 250 → j ≤ rd g 182 42 → WC K S g → frB h g → CTR K (S 1) (S 0) L Z src g → (∀ i, 0 ≤ i → i < j → DN L (tlA K (S 0)) (hdA K (S 0)) (cpAr K (S 1) (S 0)) Z (visR (S 0) g) (qRf (S 0) g i)) → (∀ i, 0 ≤ i → i < rd g 182 42 → 0 ≤ qRf (S 0) g i ∧ qRf (S 0) g i < 10 * L + 10) → Rn xs xl e mm_isMore 41 [some (.inr (.inr 182)), some (.inl a1), some (.inl a2), some (.inl a3), some (.inl j)] [] g Q := by
    intro fu
    induction fu with
    | zero =>
      intro j g hj j0 j1
      omega
    | succ fu ih =>
      intro j g hj j0 j1 j2 gw gf gt gd' gq
      have t0 := rF_tail0 gw.1.1
      refine B_isMore_41 (RF_of gw.1.1) hs1 hs2 hs3 ⟨j0, j1⟩ ⟨fun c => s82 g j gw gf gt (fun _ i i0 i1 => gd' i i0 (by omega)), fun c => ⟨fun z => s82 g j gw gf gt (fun y => absurd y z), fun z => ⟨by omega, 6, by omega, ?_⟩⟩⟩
      have vj := (gt.1.2.1 j j0 c).1
      rw [show rd g 207 j = qRf (S 0) g j + 10 * S 0 by unfold qRf; omega, show a1 / 10 = S 0 by omega, ea3]
      refine G_spreads (Nat.le_refl 6) gw hK hl fz (zB gf) gt vj (gq j j0 c) (fun u vu fu' bu => ?_)
      rw [← ea3]
      refine B_isMore_76 (RF_of vu.1.1.1) (by omega) (ih (j + 1) u (by omega) (by omega) (by omega) (by have := vu.2.2.2.2.1; omega) vu.1 (gf.trans vu.2.2.2.2.2) vu.2.1 (fun i i0 i1 => ?_) (fun i i0 i1 => ?_))
      · have eq : qRf (S 0) u i = qRf (S 0) g i := by
          unfold qRf
          rw [vu.2.2.2.1 i i0 (by omega)]
        rw [eq]
        by_cases t : i = j
        · rw [t]
          exact fun c hc => ⟨fu' c hc, bu c hc⟩
        · exact DN_mono vu.2.2.1 (gd' i i0 (by omega))
      · rcases (vu.2.1.1.2.1 i i0 i1).2 with t | ⟨-, ⟨vc, t⟩, -⟩
        · rw [t.2]
          omega
        · have en := endsQ hr vc
          rcases t with ⟨-, -, t, -⟩ | ⟨-, t, -, -⟩ <;> omega
  have s3 : ∀ (fu : Nat) (g : LH) (j : Int), 250 - j < fu → 0 ≤ j → j ≤ 250 → WC K S g → frB h g → (∀ i, 0 ≤ i → i < j → rd g 206 i = -1) → Rn xs xl e mm_isMore 3 [some (.inr (.inr 182)), some (.inl a1), some (.inl a2), some (.inl a3), some (.inl j)] [] g Q := by
    intro fu
    induction fu with
    | zero =>
      intro g j hn v0 v1
      omega
    | succ fu ih =>
      intro g j hn v0 v1 gw gf gm
      refine B_isMore_3 (RF_of gw.1.1) hs1 hs2 hs3 ⟨v0, v1⟩ ⟨fun c => ⟨0, by omega, ?_⟩, fun c => ⟨by omega, ?_⟩⟩
      · have i1 := wF_tail0 gw.1 (v := 0) (by omega) (by omega)
        have B := B_comes_0 (xs := xs) (xl := xl) (e := 0) (v1 := a1) (v2 := 2000) (Q := fun r h' => Rn xs xl e mm_isMore 38 [some (.inr (.inr 182)), some (.inl a1), some (.inl a2), some (.inl a3), some (.inl j)] (r.toList ++ []) h' Q) (RF_of i1.1) hs1
        have m : ∀ i, 0 ≤ i → i < 250 → rd (wr g 182 42 0) 206 i = -1 := fun i i0 i2 => by rw [rdw_ne (by decide)]; exact gm i i0 (by omega)
        rw [show rd (wr g 182 42 0) 182 42 = 0 from rdw_eq, m a1 hs1.1 (by omega)] at B
        refine B ⟨fun q => absurd rfl q, fun _ => ⟨by omega, by omega, ?_⟩⟩
        clear B
        have i2 := wA_cameBy i1 (i := a1) (v := 2000) (by omega) (by omega) (by omega)
        have i3 := wA_queue i2 (i := 0) (v := a1) (by omega) (by omega) (by omega)
        have i4 := wF_tail0 i3 (v := 0 + 1) (by omega) (by omega)
        have up := cnt_up (c := rd (wr g 182 42 0) 206) (c' := rd (wr (wr (wr (wr g 182 42 0) 206 a1 2000) 207 0 a1) 182 42 (0 + 1)) 206) hs1 (m a1 hs1.1 (by omega)) (by
          rw [rdw_ne (by decide), rdw_ne (by decide), rdw_eq]
          decide) (fun i hi => by rw [rdw_ne (by decide), rdw_ne (by decide), rdw_nei (fun q => hi q.symm)])
        have e6 : ∀ i, i ≠ a1 → rd (wr (wr (wr (wr g 182 42 0) 206 a1 2000) 207 0 a1) 182 42 (0 + 1)) 206 i = rd (wr g 182 42 0) 206 i := fun i hi => by rw [rdw_ne (by decide), rdw_ne (by decide), rdw_nei (fun q => hi q.symm)]
        have e6x : rd (wr (wr (wr (wr g 182 42 0) 206 a1 2000) 207 0 a1) 182 42 (0 + 1)) 206 a1 = 2000 := by rw [rdw_ne (by decide), rdw_ne (by decide), rdw_eq]
        have e7 : rd (wr (wr (wr (wr g 182 42 0) 206 a1 2000) 207 0 a1) 182 42 (0 + 1)) 207 0 = a1 := by rw [rdw_ne (by decide), rdw_eq]
        have et : rd (wr (wr (wr (wr g 182 42 0) 206 a1 2000) 207 0 a1) 182 42 (0 + 1)) 182 42 = 1 := by rw [rdw_eq]; rfl
        have fr : frB g (wr (wr (wr (wr g 182 42 0) 206 a1 2000) 207 0 a1) 182 42 (0 + 1)) := by
          intro a i n1 n2 n3 n4 n5
          have n6 : ¬ ((182 : Int) = a ∧ (42 : Int) = i) := by rintro ⟨rfl, rfl⟩; exact n5 ⟨rfl, rfl⟩
          rw [rd_wr, if_neg n6, rdw_ne (fun q => n4 q.symm), rdw_ne (fun q => n3 q.symm), rd_wr, if_neg n6]
        generalize wr (wr (wr (wr g 182 42 0) 206 a1 2000) 207 0 a1) 182 42 (0 + 1) = G at *
        have q0 : qRf (S 0) G 0 = src := by
          unfold qRf
          rw [e7]
          omega
        have vG : ∀ n, visR (S 0) G n ↔ n = src := fun n => by
          unfold visR
          by_cases z : n = src
          · rw [z, ← ea1, e6x]
            exact ⟨fun _ => rfl, fun _ => by omega⟩
          · rw [e6 (n + 10 * S 0) (by omega)]
            exact ⟨fun t => absurd (m _ t.2.1 (by omega)) t.1, fun t => absurd t z⟩
        have tG : CTR K (S 1) (S 0) L Z src G := by
          refine ⟨⟨⟨by omega, q0⟩, fun j j0 j1 => ?_, fun i j i0 i1 j0 j1 _ => by omega, fun n hn => ⟨0, by omega, by omega, q0.trans ((vG n).mp hn).symm⟩⟩, by omega, fun n hn nn => absurd ((vG n).mp hn) nn⟩
          rw [show j = 0 by omega]
          exact ⟨(vG _).mpr q0, Or.inl ⟨rfl, q0⟩⟩
        refine B_isMore_38 (RF_of i4.1) (s41 251 0 G (by omega) (by omega) (by omega) (by omega) (WC_same gw i4 (fun a i ha => fr a i (by omega) (by omega) (by omega) (by omega) (by omega))) (gf.trans fr) tG (fun i i0 i1 => by omega) (fun i i0 i1 => ?_))
        rw [show i = 0 by omega, q0]
        omega
      · have i1 := wA_cameBy gw.1 (i := j) (v := -1) (by omega) (by omega) (by omega)
        have fr : frB g (wr g 206 j (-1)) := fun a i n1 n2 n3 n4 n5 => rdw_ne (fun q => n3 q.symm)
        refine ih _ (j + 1) (by omega) (by omega) (by omega) (WC_same gw i1 (fun a i ha => fr a i (by omega) (by omega) (by omega) (by omega) (by omega))) (gf.trans fr) (fun i i0 i2 => ?_)
        by_cases z : j = i
        · rw [z, rdw_eq]
        · rw [rdw_nei z]
          exact gm i i0 (by omega)
  exact B_isMore_0 (RF_of w.1.1) hs1 hs2 hs3 (s3 251 h 0 (by omega) (by omega) (by omega) w (fun _ _ _ _ _ _ _ => rfl) (fun i i0 i1 => by omega))
theorem G_crowdS (he : 8 ≤ e) (hI : INV h) (hE : EQL h) (gI : INV g) (hj : crJ v1 v2 v3 h g r) (k : ∀ g', INV g' → EQL g' → Q (some (.inl r)) g') : Rn xs xl e mm_crowd 0 [some (.inr (.inr 182)), some (.inl v1), some (.inl v2), some (.inl v3), none] [] g Q := by
  obtain ⟨gf, hc⟩ := hj
  have hK := KR_of hI
  have n0 := rq_rooms hI.1
  have k5 := hE.2.2.2.2.2.2.2.2.2.2.2.1
  have h24 := rG_60_0 hI.1
  have e60 : rd h 60 0 = rd h 198 0 := k5.1
  have gK : key g = key h := key_frs (fun a i n0 n1 => gf a i (by omega) (by omega) (by omega) (by omega) (by omega) (by omega)) (fun i _ _ => gf 182 i (by decide) (by decide) (by decide) (by decide) (by decide) (by decide))
  have gS : rd g 198 = rd h 198 := funext (fun i => gf 198 i (by decide) (by decide) (by decide) (by decide) (by decide) (by decide))
  have g188 : rd g 188 0 = rd h 188 0 := gf 188 0 (by decide) (by decide) (by decide) (by decide) (by decide) (by decide)
  have EG : EQL g := EQL_fr hI hE (gf 2 0 (by decide) (by decide) (by decide) (by decide) (by decide) (by decide)) (gf 182 2 (by decide) (by decide) (by decide) (by decide) (by decide) (by decide)) (fun a i ha => by
    obtain ⟨y1, -⟩ := inK_p ha
    exact gf a i (by omega) (by omega) (by omega) (by omega) (by omega) (by omega))
  have i0 : INV (wr g 182 0 0) := wF_thrown gI (by omega) (by omega)
  have f0 : ∀ a i, ¬ (a = 182 ∧ i = 0) → rd (wr g 182 0 0) a i = rd g a i := fun a i n => by
    rw [rd_wr, if_neg (fun q => n ⟨q.1.symm, q.2.symm⟩)]
  -- what may have changed
  have fin : ∀ (w : LH) (x : Int), INV w → frCr (wr g 182 0 0) w → x = r → Q (some (.inl x)) w := fun w x wI wf ex => by
    rw [ex]
    have f : ∀ a i, ¬ (a = 182 ∧ i = 0) → a ≠ 196 → a ≠ 197 → a ≠ 204 → a ≠ 205 → a ≠ 206 → a ≠ 207 → ¬ (a = 182 ∧ i = 42) → rd w a i = rd g a i := fun a i m0 m1 m2 m3 m4 m5 m6 m7 => (wf a i m1 m2 m3 m4 m5 m6 m7).trans (f0 a i m0)
    refine k w wI (EQL_fr gI EG (f 2 0 (by decide) (by decide) (by decide) (by decide) (by decide) (by decide) (by decide) (by decide)) (f 182 2 (by decide) (by decide) (by decide) (by decide) (by decide) (by decide) (by decide) (by decide)) (fun a i ha => ?_))
    obtain ⟨y1, y2, y3, -⟩ := inK_p ha
    exact f a i (by omega) (by omega) (by omega) (by omega) (by omega) (by omega) (by omega) (by omega)
  have no : ¬ crC h v1 v2 v3 → Q (some (.inl (-1))) (wr g 182 0 0) := fun z => fin _ (-1) i0 (fun _ _ _ _ _ _ _ _ _ => rfl) (by
    rcases hc with ⟨_, q⟩ | ⟨q, _⟩
    · exact q.symm
    · exact absurd q z)
  have gS0 : rd g 198 0 = rd h 198 0 := congrFun gS 0
  refine B_crowd_0 (RF_of gI.1) (by omega) ⟨fun c => no (fun z => by have := z.1; omega), fun b1 => ⟨fun c => no (fun z => by have := z.1; omega), fun b2 => ⟨fun c => no (fun z => by have := z.2.1; omega), fun b3 => ⟨fun c => no (fun z => by have := z.2.1; omega), fun b4 => ⟨fun c => no (fun z => z.2.2.1 c), fun b5 => ⟨fun c => no (fun z => by have := z.2.2.2; omega), fun b6 => ⟨fun c => no (fun z => by have := z.2.2.2; omega), fun b7 => ?_⟩⟩⟩⟩⟩⟩⟩
  have mx : mxA (key h) (rd h 198 1) (rd h 198 0) (v3 - rd h 198 0 + 1) v1 (10 * (v3 - rd h 198 0 + 1) + v2) r := by
    rcases hc with ⟨z, _⟩ | ⟨_, z⟩
    · exact absurd ⟨⟨b1, by omega⟩, ⟨b3, by omega⟩, b5, by omega, b7⟩ z
    · exact z
  obtain ⟨Z', V', gd', st'⟩ := mx
  have wc : WC (key h) (rd h 198) (wr g 182 0 0) := ⟨i0, (key_frs (fun a i n0 n1 => f0 a i (by omega)) (fun i i0 i1 => f0 182 i (by omega))).trans gK, (funext (fun i => f0 198 i (by omega))).trans gS⟩
  generalize eL : v3 - rd h 198 0 + 1 = L at *
  have hl : 0 ≤ rd h 198 0 ∧ 1 ≤ L ∧ rd h 198 0 + L ≤ 24 := by omega
  have hr := RMS_A (L := L) (h0 := rd h 198 0) (sh := rd h 198 1) hK ⟨by omega, by omega⟩
  generalize wr g 182 0 0 = g1 at *
  have l96 : ∀ (fu : Nat) (u : LH) (v4 : Int), 3024 - v4 < fu → 0 ≤ v4 → WC (key h) (rd h 198) u → frCr g1 u → GOOD L (tlA (key h) (rd h 198 0)) (hdA (key h) (rd h 198 0)) (cpAr (key h) (rd h 198 1) (rd h 198 0)) v1 (10 * L + v2) (ZR (rd h 198 0) u) v4 → (∀ c, vldC L c → ZR (rd h 198 0) u c ≤ v4) → Rn xs xl e mm_crowd 96 [some (.inr (.inr 182)), some (.inl v1), some (.inl v2), some (.inl v3), some (.inl v4)] [] u Q := by
    intro fu
    induction fu with
    | zero =>
      intro u v4 hf v0 uw uf ud ub
      have := val_le (to := v2) hr ud (by omega) (by omega)
      omega
    | succ fu ih =>
      intro u v4 hf v0 uw uf ud ub
      have vl := val_le (to := v2) hr ud (by omega) (by omega)
      have us : rd u 198 0 = rd h 198 0 := congrFun uw.2.2 0
      refine B_crowd_96 (RF_of uw.1.1) (by omega) (by omega) (by omega) ?_
      rw [us]
      refine ⟨by omega, by omega, 7, by omega, ?_⟩
      refine G_isMore (S := rd h 198) (L := L) (src := v1) (snk := 10 * L + v2) (Nat.le_refl 7) uw hK hl (by omega) (by omega) ud (fun c vc => by have := ub c vc; omega) _ _ _ (by omega) (by omega) (by omega) (fun w ww wf wg wb => ?_) (fun w ww wf ws => ?_)
      · exact B_crowd_120_1 (RF_of ww.1.1) ⟨by omega, ih w (v4 + 1) (by omega) (by omega) ww (fun a i n1 n2 n3 n4 n5 n6 n7 => (wf a i n1 n2 n3 n4 n5 n6 n7).trans (uf a i n1 n2 n3 n4 n5 n6 n7)) wg (fun c vc => by have a := wb c vc; have b := ub c vc; omega)⟩
      · obtain ⟨V, hV⟩ := ws
        exact B_crowd_120_0 (RF_of ww.1.1) (fin w v4 ww.1 (fun a i n1 n2 n3 n4 n5 n6 n7 => (wf a i n1 n2 n3 n4 n5 n6 n7).trans (uf a i n1 n2 n3 n4 n5 n6 n7)) (max_eq hr ud gd' hV st'))
  have l71 : ∀ (fu : Nat) (u : LH) (v4 : Int), 250 - v4 < fu → 0 ≤ v4 → v4 ≤ 250 → WC (key h) (rd h 198) u → frCr g1 u → (∀ i, 0 ≤ i → i < 336 → rd u 204 i = 0) → (∀ i, 0 ≤ i → i < v4 → rd u 205 i = 0) → Rn xs xl e mm_crowd 71 [some (.inr (.inr 182)), some (.inl v1), some (.inl v2), some (.inl v3), some (.inl v4)] [] u Q := by
    intro fu
    induction fu with
    | zero =>
      intro u v4 hn v0 v1'
      omega
    | succ fu ih =>
      intro u v4 hn v0 v1' uw uf uz uy
      refine B_crowd_71 (RF_of uw.1.1) ⟨v0, v1'⟩ ⟨fun c => ?_, fun c => ⟨by omega, ?_⟩⟩
      · have zz : ∀ c, vldC L c → ZR (rd h 198 0) u c = 0 := fun c vc => by
          unfold ZR
          rcases vc with z | z
          · rw [if_pos (by omega)]
            exact uz _ (by omega) (by omega)
          · rw [if_neg (by omega)]
            exact uy _ (by omega) (by omega)
        exact l96 3025 u 0 (by omega) (by omega) uw uf (GOOD_0 hr zz) (fun c vc => by rw [zz c vc]; exact Int.le_refl _)
      · have i1 := wA_waits uw.1 (i := v4) (v := 0) (by omega) (by omega) (by omega)
        refine ih _ (v4 + 1) (by omega) (by omega) (by omega) (WC_same uw i1 (fun a i ha => rdw_ne (by omega))) (fun a i n1 n2 n3 n4 n5 n6 n7 => (rdw_ne (fun q => n4 q.symm)).trans (uf a i n1 n2 n3 n4 n5 n6 n7)) (fun i i0 i1 => by rw [rdw_ne (by decide)]; exact uz i i0 i1) (fun i i0 i2 => ?_)
        by_cases z : v4 = i
        · rw [z, rdw_eq]
        · rw [rdw_nei z]
          exact uy i i0 (by omega)
  have l46 : ∀ (fu : Nat) (u : LH) (v4 : Int), 336 - v4 < fu → 0 ≤ v4 → v4 ≤ 336 → WC (key h) (rd h 198) u → frCr g1 u → (∀ i, 0 ≤ i → i < v4 → rd u 204 i = 0) → Rn xs xl e mm_crowd 46 [some (.inr (.inr 182)), some (.inl v1), some (.inl v2), some (.inl v3), some (.inl v4)] [] u Q := by
    intro fu
    induction fu with
    | zero =>
      intro u v4 hn v0 v1'
      omega
    | succ fu ih =>
      intro u v4 hn v0 v1' uw uf uz
      refine B_crowd_46 (RF_of uw.1.1) ⟨v0, v1'⟩ ⟨fun c => l71 251 u 0 (by omega) (by omega) (by omega) uw uf (fun i i0 i1 => uz i i0 (by omega)) (fun i i0 i1 => by omega), fun c => ⟨by omega, ?_⟩⟩
      have i1 := wA_flow uw.1 (i := v4) (v := 0) (by omega) (by omega) (by omega)
      refine ih _ (v4 + 1) (by omega) (by omega) (by omega) (WC_same uw i1 (fun a i ha => rdw_ne (by omega))) (fun a i n1 n2 n3 n4 n5 n6 n7 => (rdw_ne (fun q => n3 q.symm)).trans (uf a i n1 n2 n3 n4 n5 n6 n7)) (fun i i0 i2 => ?_)
      by_cases z : v4 = i
      · rw [z, rdw_eq]
      · rw [rdw_nei z]
        exact uz i i0 (by omega)
  exact l46 337 g1 0 (by omega) (by omega) (by omega) wc (fun _ _ _ _ _ _ _ _ _ => rfl) (fun i i0 i1 => by omega)
end M5
end
section
/-! the law's calls, one by one, and its loop, by program (wip/sc/gen_law_s.py) -/
section LA
variable {xs : Nat → Int} {xl e : Nat} {h g : LH} {Q : Option LV → LH → Prop}
theorem inK_muY {a i : Int} (ha : inK a i) : ¬ muY a i := by
  obtain ⟨y1, y2, y3, y4, y5⟩ := inK_p ha
  unfold muY
  omega
theorem inK_182 {a i : Int} (ha : inK a i) : ¬ (a = 182 ∧ (i = 0 ∨ i = 2)) := by
  obtain ⟨y1, y2, -⟩ := inK_p ha
  omega
theorem inK_2 {a i : Int} (ha : inK a i) : a ≠ 2 := by
  obtain ⟨y1, -⟩ := inK_p ha
  omega
theorem LW_0 {v3 : Int} (hxs : ∀ j, i32 (xs j)) (h0 : 0 ≤ v3) (h1 : v3 + 7 ≤ (xl : Int)) (hx : xl ≤ 3584) (hI : INV h) (hE : EQL h) (k : ∀ g, INV g → EQL g → Rn xs xl 64 mm_OneSidedLaw_law 1231 [some (.inr (.inr (-2))), some (.inr (.inr 1)), some (.inr (.inr 182)), some (.inl v3)] [] g Q) : Rn xs xl 64 mm_OneSidedLaw_law 164 [some (.inr (.inr (-2))), some (.inr (.inr 1)), some (.inr (.inr 182)), some (.inl v3)] [] h Q := by
  refine B_law_164 (RF_of hI.1) (by omega) ⟨by omega, by omega, by omega, by omega, by omega, by omega, 63, by decide, E_feedX (by decide) hI (fun g gI ge gx gf => ?_)⟩
  refine B_law_229 (RF_of gI.1) (by omega) ⟨by omega, by omega, by omega, by omega, by omega, by omega, 63, by decide, D_feedX (r64 _ _) (r64 _ _) (r64 _ _) (by decide) gI (fun g2 i2 e2 x2 f2 => ?_)⟩
  have e0 : rd g 182 2 = rd h 182 2 := gf 182 2 (by decide) (by decide)
  have x0 : rd g 183 = rd h 183 := funext (fun i => gf 183 i (by omega) (by decide))
  have e3 : rd g2 2 0 = rd g 2 0 := f2 2 0 (by decide) (by decide)
  have x3 : rd g2 3 = rd g 3 := funext (fun i => f2 3 i (by omega) (by decide))
  have hE' : rd h 2 0 = rd h 182 2 := hE.1
  rw [e0, ← hE'] at e2 x2
  rw [x0] at x2
  refine B_law_295 (RF_of i2.1) (by omega) (k g2 i2 ⟨?_, fun i i0 i1 => ?_, EQS_fr hI hE.2.2 (fun a i ha n3 n183 _ => (f2 a i (inK_182 ha) n183).trans (gf a i (fun z => inK_2 ha z.1) n3))⟩)
  · rw [e3, ge, e2]
  · rw [e3, ge] at i1
    rw [x3, gx, x2]
    exact fedX3_ag hE.2.1 i i0 i1
theorem LW_1 {v3 : Int} (hxs : ∀ j, i32 (xs j)) (h0 : 0 ≤ v3) (h1 : v3 + 7 ≤ (xl : Int)) (hx : xl ≤ 3584) (hI : INV h) (hE : EQL h) (k : ∀ g, INV g → EQL g → Rn xs xl 64 mm_OneSidedLaw_law 1231 [some (.inr (.inr (-2))), some (.inr (.inr 1)), some (.inr (.inr 182)), some (.inl v3)] [] g Q) : Rn xs xl 64 mm_OneSidedLaw_law 299 [some (.inr (.inr (-2))), some (.inr (.inr 1)), some (.inr (.inr 182)), some (.inl v3)] [] h Q := by
  exact B_law_299 (RF_of hI.1) (by omega) ⟨63, by decide, E_quarterJS (by decide) hI hE (fun g gI gj => B_law_303 (RF_of gI.1) (by omega) ⟨63, by decide, G_quarterJS (by decide) hI hE gI gj (fun g2 i2 E2 => B_law_308 (RF_of i2.1) (by omega) (k g2 i2 E2))⟩)⟩
theorem LW_2 {v3 : Int} (hxs : ∀ j, i32 (xs j)) (h0 : 0 ≤ v3) (h1 : v3 + 7 ≤ (xl : Int)) (hx : xl ≤ 3584) (hI : INV h) (hE : EQL h) (k : ∀ g, INV g → EQL g → Rn xs xl 64 mm_OneSidedLaw_law 1231 [some (.inr (.inr (-2))), some (.inr (.inr 1)), some (.inr (.inr 182)), some (.inl v3)] [] g Q) : Rn xs xl 64 mm_OneSidedLaw_law 312 [some (.inr (.inr (-2))), some (.inr (.inr 1)), some (.inr (.inr 182)), some (.inl v3)] [] h Q := by
  have day_F : ∀ {g g2 : LH}, INV g → rd g 2 0 = 0 → EQS g → rd g2 182 2 = 0 → (∀ a i, ¬ muY a i → rd g2 a i = rd g a i) → EQL g2 := fun gI gz gP e2 f2 => EQL_0 ((f2 2 0 (by unfold muY; omega)).trans gz) e2 (EQS_fr gI gP (fun a i ha _ _ _ => f2 a i (inK_muY ha)))
  have S : ∀ (r : Int) (g : LH), INV g → rd g 2 0 = 0 → EQS g → Rn xs xl 64 mm_OneSidedLaw_law 316 [some (.inr (.inr (-2))), some (.inr (.inr 1)), some (.inr (.inr 182)), some (.inl v3)] [.inl r] g Q := by
    intro r g gI gz gP
    exact B_law_316 (RF_of gI.1) (by omega) ⟨63, by decide, D_day (by decide) gI (fun r2 g2 i2 e2 f2 => B_law_321 (RF_of i2.1) (by omega) (k g2 i2 (day_F gI gz gP e2 f2)))⟩
  exact B_law_312 (RF_of hI.1) (by omega) ⟨63, by decide, root_0 TD_day (as := [.inr (.inr 1)]) rfl (Nat.le_of_ble_eq_true rfl) hI (gAr_c (g_ref 1) gAr_n) rfl (Nat.le_of_ble_eq_true rfl) rfl rfl rfl (fun r g gI gz gf => S r g gI gz (EQS_fr hI hE.2.2 (fun a i ha _ _ _ => gf a i (dsj_ok (by decide +kernel) ha))))⟩
theorem LW_3 {v3 : Int} (hxs : ∀ j, i32 (xs j)) (h0 : 0 ≤ v3) (h1 : v3 + 7 ≤ (xl : Int)) (hx : xl ≤ 3584) (hI : INV h) (hE : EQL h) (k : ∀ g, INV g → EQL g → Rn xs xl 64 mm_OneSidedLaw_law 1231 [some (.inr (.inr (-2))), some (.inr (.inr 1)), some (.inr (.inr 182)), some (.inl v3)] [] g Q) : Rn xs xl 64 mm_OneSidedLaw_law 325 [some (.inr (.inr (-2))), some (.inr (.inr 1)), some (.inr (.inr 182)), some (.inl v3)] [] h Q := by
  have S : ∀ (r : Int) (g : LH), INV g → EQL g → Rn xs xl 64 mm_OneSidedLaw_law 339 [some (.inr (.inr (-2))), some (.inr (.inr 1)), some (.inr (.inr 182)), some (.inl v3)] [.inl r] g Q := by
    intro r g gI EG
    exact B_law_339 (RF_of gI.1) (by omega) ⟨by omega, by omega, 63, by decide, root_i TR_door (as := [.inr (.inr 182), .inl (xs (v3 + 1).toNat), .inl (xs (v3 + 2).toNat)]) rfl (Nat.le_of_ble_eq_true rfl) gI (gAr_c (g_ref 182) (gAr_c (g_i (hxs _)) (gAr_c (g_i (hxs _)) gAr_n))) rfl (Nat.le_of_ble_eq_true rfl) rfl rfl rfl (by decide +kernel) (by decide +kernel) (by decide +kernel) EG (fun r2 g2 i2 E2 => B_law_354 (RF_of i2.1) (by omega) (k g2 i2 E2))⟩
  exact B_law_325 (RF_of hI.1) (by omega) ⟨by omega, by omega, 63, by decide, root_i TC_door (as := [.inr (.inr 1), .inl (xs (v3 + 1).toNat), .inl (xs (v3 + 2).toNat)]) rfl (Nat.le_of_ble_eq_true rfl) hI (gAr_c (g_ref 1) (gAr_c (g_i (hxs _)) (gAr_c (g_i (hxs _)) gAr_n))) rfl (Nat.le_of_ble_eq_true rfl) rfl rfl rfl (by decide +kernel) (by decide +kernel) (by decide +kernel) hE (fun r g gI EG => S r g gI EG)⟩
theorem LW_4 {v3 : Int} (hxs : ∀ j, i32 (xs j)) (h0 : 0 ≤ v3) (h1 : v3 + 7 ≤ (xl : Int)) (hx : xl ≤ 3584) (hI : INV h) (hE : EQL h) (k : ∀ g, INV g → EQL g → Rn xs xl 64 mm_OneSidedLaw_law 1231 [some (.inr (.inr (-2))), some (.inr (.inr 1)), some (.inr (.inr 182)), some (.inl v3)] [] g Q) : Rn xs xl 64 mm_OneSidedLaw_law 358 [some (.inr (.inr (-2))), some (.inr (.inr 1)), some (.inr (.inr 182)), some (.inl v3)] [] h Q := by
  have S : ∀ (r : Int) (g : LH), INV g → EQL g → Rn xs xl 64 mm_OneSidedLaw_law 372 [some (.inr (.inr (-2))), some (.inr (.inr 1)), some (.inr (.inr 182)), some (.inl v3)] [.inl r] g Q := by
    intro r g gI EG
    exact B_law_372 (RF_of gI.1) (by omega) ⟨by omega, by omega, 63, by decide, root_i TR_person (as := [.inr (.inr 182), .inl (xs (v3 + 1).toNat), .inl (xs (v3 + 2).toNat)]) rfl (Nat.le_of_ble_eq_true rfl) gI (gAr_c (g_ref 182) (gAr_c (g_i (hxs _)) (gAr_c (g_i (hxs _)) gAr_n))) rfl (Nat.le_of_ble_eq_true rfl) rfl rfl rfl (by decide +kernel) (by decide +kernel) (by decide +kernel) EG (fun r2 g2 i2 E2 => B_law_387 (RF_of i2.1) (by omega) (k g2 i2 E2))⟩
  exact B_law_358 (RF_of hI.1) (by omega) ⟨by omega, by omega, 63, by decide, root_i TC_person (as := [.inr (.inr 1), .inl (xs (v3 + 1).toNat), .inl (xs (v3 + 2).toNat)]) rfl (Nat.le_of_ble_eq_true rfl) hI (gAr_c (g_ref 1) (gAr_c (g_i (hxs _)) (gAr_c (g_i (hxs _)) gAr_n))) rfl (Nat.le_of_ble_eq_true rfl) rfl rfl rfl (by decide +kernel) (by decide +kernel) (by decide +kernel) hE (fun r g gI EG => S r g gI EG)⟩
theorem LW_5 {v3 : Int} (hxs : ∀ j, i32 (xs j)) (h0 : 0 ≤ v3) (h1 : v3 + 7 ≤ (xl : Int)) (hx : xl ≤ 3584) (hI : INV h) (hE : EQL h) (k : ∀ g, INV g → EQL g → Rn xs xl 64 mm_OneSidedLaw_law 1231 [some (.inr (.inr (-2))), some (.inr (.inr 1)), some (.inr (.inr 182)), some (.inl v3)] [] g Q) : Rn xs xl 64 mm_OneSidedLaw_law 391 [some (.inr (.inr (-2))), some (.inr (.inr 1)), some (.inr (.inr 182)), some (.inl v3)] [] h Q := by
  have S : ∀ (r : Int) (g : LH), INV g → EQL g → Rn xs xl 64 mm_OneSidedLaw_law 415 [some (.inr (.inr (-2))), some (.inr (.inr 1)), some (.inr (.inr 182)), some (.inl v3)] [.inl r] g Q := by
    intro r g gI EG
    exact B_law_415 (RF_of gI.1) (by omega) ⟨by omega, by omega, by omega, by omega, 63, by decide, root_i TR_leads (as := [.inr (.inr 182), .inl (xs (v3 + 1).toNat), .inl (xs (v3 + 2).toNat), .inl (xs (v3 + 3).toNat), .inl (xs (v3 + 4).toNat)]) rfl (Nat.le_of_ble_eq_true rfl) gI (gAr_c (g_ref 182) (gAr_c (g_i (hxs _)) (gAr_c (g_i (hxs _)) (gAr_c (g_i (hxs _)) (gAr_c (g_i (hxs _)) gAr_n))))) rfl (Nat.le_of_ble_eq_true rfl) rfl rfl rfl (by decide +kernel) (by decide +kernel) (by decide +kernel) EG (fun r2 g2 i2 E2 => B_law_440 (RF_of i2.1) (by omega) (k g2 i2 E2))⟩
  exact B_law_391 (RF_of hI.1) (by omega) ⟨by omega, by omega, by omega, by omega, 63, by decide, root_i TC_leads (as := [.inr (.inr 1), .inl (xs (v3 + 1).toNat), .inl (xs (v3 + 2).toNat), .inl (xs (v3 + 3).toNat), .inl (xs (v3 + 4).toNat)]) rfl (Nat.le_of_ble_eq_true rfl) hI (gAr_c (g_ref 1) (gAr_c (g_i (hxs _)) (gAr_c (g_i (hxs _)) (gAr_c (g_i (hxs _)) (gAr_c (g_i (hxs _)) gAr_n))))) rfl (Nat.le_of_ble_eq_true rfl) rfl rfl rfl (by decide +kernel) (by decide +kernel) (by decide +kernel) hE (fun r g gI EG => S r g gI EG)⟩
theorem LW_6 {v3 : Int} (hxs : ∀ j, i32 (xs j)) (h0 : 0 ≤ v3) (h1 : v3 + 7 ≤ (xl : Int)) (hx : xl ≤ 3584) (hI : INV h) (hE : EQL h) (k : ∀ g, INV g → EQL g → Rn xs xl 64 mm_OneSidedLaw_law 1231 [some (.inr (.inr (-2))), some (.inr (.inr 1)), some (.inr (.inr 182)), some (.inl v3)] [] g Q) : Rn xs xl 64 mm_OneSidedLaw_law 444 [some (.inr (.inr (-2))), some (.inr (.inr 1)), some (.inr (.inr 182)), some (.inl v3)] [] h Q := by
  exact B_law_444 (RF_of hI.1) (by omega) ⟨by omega, by omega, 63, by decide, E_goS (by decide) hI hE (hxs _) (hxs _) (fun r g gI gj => B_law_458 (RF_of gI.1) (by omega) ⟨by omega, by omega, 63, by decide, G_goS (by decide) hI hE gI gj (fun g2 i2 E2 => B_law_473 (RF_of i2.1) (by omega) (k g2 i2 E2))⟩)⟩
theorem LW_7 {v3 : Int} (hxs : ∀ j, i32 (xs j)) (h0 : 0 ≤ v3) (h1 : v3 + 7 ≤ (xl : Int)) (hx : xl ≤ 3584) (hI : INV h) (hE : EQL h) (k : ∀ g, INV g → EQL g → Rn xs xl 64 mm_OneSidedLaw_law 1231 [some (.inr (.inr (-2))), some (.inr (.inr 1)), some (.inr (.inr 182)), some (.inl v3)] [] g Q) : Rn xs xl 64 mm_OneSidedLaw_law 477 [some (.inr (.inr (-2))), some (.inr (.inr 1)), some (.inr (.inr 182)), some (.inl v3)] [] h Q := by
  exact B_law_477 (RF_of hI.1) (by omega) ⟨by omega, 63, by decide, E_hoursS (by decide) hI hE (hxs _) (fun r g gI gj => B_law_486 (RF_of gI.1) (by omega) ⟨by omega, 63, by decide, G_hoursS (by decide) hI hE gI gj (fun g2 i2 E2 => B_law_496 (RF_of i2.1) (by omega) (k g2 i2 E2))⟩)⟩
theorem LW_8 {v3 : Int} (hxs : ∀ j, i32 (xs j)) (h0 : 0 ≤ v3) (h1 : v3 + 7 ≤ (xl : Int)) (hx : xl ≤ 3584) (hI : INV h) (hE : EQL h) (k : ∀ g, INV g → EQL g → Rn xs xl 64 mm_OneSidedLaw_law 1231 [some (.inr (.inr (-2))), some (.inr (.inr 1)), some (.inr (.inr 182)), some (.inl v3)] [] g Q) : Rn xs xl 64 mm_OneSidedLaw_law 500 [some (.inr (.inr (-2))), some (.inr (.inr 1)), some (.inr (.inr 182)), some (.inl v3)] [] h Q := by
  exact B_law_500 (RF_of hI.1) (by omega) ⟨by omega, by omega, fun c => ⟨63, by decide, E_shutS (by decide) hI hE (hxs _) g_z0 (by omega) (fun r g gI gj => B_law_522 (RF_of gI.1) (by omega) ⟨by omega, by omega, fun _ => ⟨63, by decide, G_shutS (by decide) hI hE gI (by omega) gj (fun g2 i2 E2 => B_law_545 (RF_of i2.1) (by omega) (k g2 i2 E2))⟩, fun z => absurd c z⟩)⟩, fun c => ⟨63, by decide, E_shutS (by decide) hI hE (hxs _) g_z1 (by omega) (fun r g gI gj => B_law_522 (RF_of gI.1) (by omega) ⟨by omega, by omega, fun z => absurd z c, fun _ => ⟨63, by decide, G_shutS (by decide) hI hE gI (by omega) gj (fun g2 i2 E2 => B_law_545 (RF_of i2.1) (by omega) (k g2 i2 E2))⟩⟩)⟩⟩
theorem LW_9 {v3 : Int} (hxs : ∀ j, i32 (xs j)) (h0 : 0 ≤ v3) (h1 : v3 + 7 ≤ (xl : Int)) (hx : xl ≤ 3584) (hI : INV h) (hE : EQL h) (k : ∀ g, INV g → EQL g → Rn xs xl 64 mm_OneSidedLaw_law 1231 [some (.inr (.inr (-2))), some (.inr (.inr 1)), some (.inr (.inr 182)), some (.inl v3)] [] g Q) : Rn xs xl 64 mm_OneSidedLaw_law 549 [some (.inr (.inr (-2))), some (.inr (.inr 1)), some (.inr (.inr 182)), some (.inl v3)] [] h Q := by
  exact B_law_549 (RF_of hI.1) (by omega) ⟨63, by decide, E_undoS (by decide) hI hE (fun r g gI gj => B_law_553 (RF_of gI.1) (by omega) ⟨63, by decide, G_undoS (by decide) hI hE gI gj (fun g2 i2 E2 => B_law_558 (RF_of i2.1) (by omega) (k g2 i2 E2))⟩)⟩
theorem LW_10 {v3 : Int} (hxs : ∀ j, i32 (xs j)) (h0 : 0 ≤ v3) (h1 : v3 + 7 ≤ (xl : Int)) (hx : xl ≤ 3584) (hI : INV h) (hE : EQL h) (k : ∀ g, INV g → EQL g → Rn xs xl 64 mm_OneSidedLaw_law 1231 [some (.inr (.inr (-2))), some (.inr (.inr 1)), some (.inr (.inr 182)), some (.inl v3)] [] g Q) : Rn xs xl 64 mm_OneSidedLaw_law 562 [some (.inr (.inr (-2))), some (.inr (.inr 1)), some (.inr (.inr 182)), some (.inl v3)] [] h Q := by
  have S : ∀ (r : Int) (g : LH), INV g → EQL g → Rn xs xl 64 mm_OneSidedLaw_law 571 [some (.inr (.inr (-2))), some (.inr (.inr 1)), some (.inr (.inr 182)), some (.inl v3)] [.inl r] g Q := by
    intro r g gI EG
    exact B_law_571 (RF_of gI.1) (by omega) ⟨by omega, 63, by decide, D_judgedS (by decide) gI (fun r2 g2 i2 f2 => B_law_581 (RF_of i2.1) (by omega) (k g2 i2 (EQL_fr gI EG (f2 2 0 (by decide) (by decide) (fun z => absurd z (by decide)) (by decide)) (f2 182 2 (by decide) (by decide) (fun z => absurd z (by decide)) (by decide)) (fun a i ha => by obtain ⟨y1, y2, y3, -⟩ := inK_p ha; exact f2 a i (by omega) (by omega) (fun z => by omega) (by omega)))))⟩
  exact B_law_562 (RF_of hI.1) (by omega) ⟨by omega, 63, by decide, root_i TD_judged (as := [.inr (.inr 1), .inl (xs (v3 + 1).toNat)]) rfl (Nat.le_of_ble_eq_true rfl) hI (gAr_c (g_ref 1) (gAr_c (g_i (hxs _)) gAr_n)) rfl (Nat.le_of_ble_eq_true rfl) rfl rfl rfl (by decide +kernel) (by decide +kernel) (by decide +kernel) hE (fun r g gI EG => S r g gI EG)⟩
theorem LW_11 {v3 : Int} (hxs : ∀ j, i32 (xs j)) (h0 : 0 ≤ v3) (h1 : v3 + 7 ≤ (xl : Int)) (hx : xl ≤ 3584) (hI : INV h) (hE : EQL h) (k : ∀ g, INV g → EQL g → Rn xs xl 64 mm_OneSidedLaw_law 1231 [some (.inr (.inr (-2))), some (.inr (.inr 1)), some (.inr (.inr 182)), some (.inl v3)] [] g Q) : Rn xs xl 64 mm_OneSidedLaw_law 585 [some (.inr (.inr (-2))), some (.inr (.inr 1)), some (.inr (.inr 182)), some (.inl v3)] [] h Q := by
  have S : ∀ (r : Int) (g : LH), INV g → EQL g → Rn xs xl 64 mm_OneSidedLaw_law 599 [some (.inr (.inr (-2))), some (.inr (.inr 1)), some (.inr (.inr 182)), some (.inl v3)] [.inl r] g Q := by
    intro r g gI EG
    exact B_law_599 (RF_of gI.1) (by omega) ⟨by omega, by omega, 63, by decide, root_i TR_soonest (as := [.inr (.inr 182), .inl (xs (v3 + 1).toNat), .inl (xs (v3 + 2).toNat)]) rfl (Nat.le_of_ble_eq_true rfl) gI (gAr_c (g_ref 182) (gAr_c (g_i (hxs _)) (gAr_c (g_i (hxs _)) gAr_n))) rfl (Nat.le_of_ble_eq_true rfl) rfl rfl rfl (by decide +kernel) (by decide +kernel) (by decide +kernel) EG (fun r2 g2 i2 E2 => B_law_614 (RF_of i2.1) (by omega) (k g2 i2 E2))⟩
  exact B_law_585 (RF_of hI.1) (by omega) ⟨by omega, by omega, 63, by decide, root_i TC_soonest (as := [.inr (.inr 1), .inl (xs (v3 + 1).toNat), .inl (xs (v3 + 2).toNat)]) rfl (Nat.le_of_ble_eq_true rfl) hI (gAr_c (g_ref 1) (gAr_c (g_i (hxs _)) (gAr_c (g_i (hxs _)) gAr_n))) rfl (Nat.le_of_ble_eq_true rfl) rfl rfl rfl (by decide +kernel) (by decide +kernel) (by decide +kernel) hE (fun r g gI EG => S r g gI EG)⟩
theorem LW_12 {v3 : Int} (hxs : ∀ j, i32 (xs j)) (h0 : 0 ≤ v3) (h1 : v3 + 7 ≤ (xl : Int)) (hx : xl ≤ 3584) (hI : INV h) (hE : EQL h) (k : ∀ g, INV g → EQL g → Rn xs xl 64 mm_OneSidedLaw_law 1231 [some (.inr (.inr (-2))), some (.inr (.inr 1)), some (.inr (.inr 182)), some (.inl v3)] [] g Q) : Rn xs xl 64 mm_OneSidedLaw_law 618 [some (.inr (.inr (-2))), some (.inr (.inr 1)), some (.inr (.inr 182)), some (.inl v3)] [] h Q := by
  have S : ∀ (r : Int) (g : LH), INV g → EQL g → Rn xs xl 64 mm_OneSidedLaw_law 632 [some (.inr (.inr (-2))), some (.inr (.inr 1)), some (.inr (.inr 182)), some (.inl v3)] [.inl r] g Q := by
    intro r g gI EG
    exact B_law_632 (RF_of gI.1) (by omega) ⟨by omega, by omega, 63, by decide, D_errand (by decide) gI (fun r2 g2 i2 f2 => B_law_647 (RF_of i2.1) (by omega) (k g2 i2 (EQL_fr gI EG ((f2 2 0 (by decide) (by decide) (by decide) (by decide) (by decide)).trans (rdw_ne (by decide))) ((f2 182 2 (by decide) (by decide) (by decide) (by decide) (by decide)).trans (rdw_nei (by decide))) (fun a i ha => by obtain ⟨y1, y2, y3, -⟩ := inK_p ha; exact (f2 a i (by omega) (by omega) (by omega) (by omega) (by omega)).trans (by rw [rd_wr, if_neg (by omega)])))))⟩
  exact B_law_618 (RF_of hI.1) (by omega) ⟨by omega, by omega, 63, by decide, root_i TC_errand (as := [.inr (.inr 1), .inl (xs (v3 + 1).toNat), .inl (xs (v3 + 2).toNat)]) rfl (Nat.le_of_ble_eq_true rfl) hI (gAr_c (g_ref 1) (gAr_c (g_i (hxs _)) (gAr_c (g_i (hxs _)) gAr_n))) rfl (Nat.le_of_ble_eq_true rfl) rfl rfl rfl (by decide +kernel) (by decide +kernel) (by decide +kernel) hE (fun r g gI EG => S r g gI EG)⟩
theorem LW_13 {v3 : Int} (hxs : ∀ j, i32 (xs j)) (h0 : 0 ≤ v3) (h1 : v3 + 7 ≤ (xl : Int)) (hx : xl ≤ 3584) (hI : INV h) (hE : EQL h) (k : ∀ g, INV g → EQL g → Rn xs xl 64 mm_OneSidedLaw_law 1231 [some (.inr (.inr (-2))), some (.inr (.inr 1)), some (.inr (.inr 182)), some (.inl v3)] [] g Q) : Rn xs xl 64 mm_OneSidedLaw_law 651 [some (.inr (.inr (-2))), some (.inr (.inr 1)), some (.inr (.inr 182)), some (.inl v3)] [] h Q := by
  have S : ∀ (r : Int) (g : LH), INV g → EQL g → Rn xs xl 64 mm_OneSidedLaw_law 660 [some (.inr (.inr (-2))), some (.inr (.inr 1)), some (.inr (.inr 182)), some (.inl v3)] [.inl r] g Q := by
    intro r g gI EG
    exact B_law_660 (RF_of gI.1) (by omega) ⟨by omega, 63, by decide, root_i TR_reach (as := [.inr (.inr 182), .inl (xs (v3 + 1).toNat)]) rfl (Nat.le_of_ble_eq_true rfl) gI (gAr_c (g_ref 182) (gAr_c (g_i (hxs _)) gAr_n)) rfl (Nat.le_of_ble_eq_true rfl) rfl rfl rfl (by decide +kernel) (by decide +kernel) (by decide +kernel) EG (fun r2 g2 i2 E2 => B_law_670 (RF_of i2.1) (by omega) (k g2 i2 E2))⟩
  exact B_law_651 (RF_of hI.1) (by omega) ⟨by omega, 63, by decide, root_i TC_reach (as := [.inr (.inr 1), .inl (xs (v3 + 1).toNat)]) rfl (Nat.le_of_ble_eq_true rfl) hI (gAr_c (g_ref 1) (gAr_c (g_i (hxs _)) gAr_n)) rfl (Nat.le_of_ble_eq_true rfl) rfl rfl rfl (by decide +kernel) (by decide +kernel) (by decide +kernel) hE (fun r g gI EG => S r g gI EG)⟩
theorem LW_14 {v3 : Int} (hxs : ∀ j, i32 (xs j)) (h0 : 0 ≤ v3) (h1 : v3 + 7 ≤ (xl : Int)) (hx : xl ≤ 3584) (hI : INV h) (hE : EQL h) (k : ∀ g, INV g → EQL g → Rn xs xl 64 mm_OneSidedLaw_law 1231 [some (.inr (.inr (-2))), some (.inr (.inr 1)), some (.inr (.inr 182)), some (.inl v3)] [] g Q) : Rn xs xl 64 mm_OneSidedLaw_law 674 [some (.inr (.inr (-2))), some (.inr (.inr 1)), some (.inr (.inr 182)), some (.inl v3)] [] h Q := by
  have S : ∀ (r : Int) (g : LH), INV g → EQL g → Rn xs xl 64 mm_OneSidedLaw_law 678 [some (.inr (.inr (-2))), some (.inr (.inr 1)), some (.inr (.inr 182)), some (.inl v3)] [.inl r] g Q := by
    intro r g gI EG
    exact B_law_678 (RF_of gI.1) (by omega) ⟨63, by decide, root_i TR_stuck (as := [.inr (.inr 182)]) rfl (Nat.le_of_ble_eq_true rfl) gI (gAr_c (g_ref 182) gAr_n) rfl (Nat.le_of_ble_eq_true rfl) rfl rfl rfl (by decide +kernel) (by decide +kernel) (by decide +kernel) EG (fun r2 g2 i2 E2 => B_law_683 (RF_of i2.1) (by omega) (k g2 i2 E2))⟩
  exact B_law_674 (RF_of hI.1) (by omega) ⟨63, by decide, root_i TC_stuck (as := [.inr (.inr 1)]) rfl (Nat.le_of_ble_eq_true rfl) hI (gAr_c (g_ref 1) gAr_n) rfl (Nat.le_of_ble_eq_true rfl) rfl rfl rfl (by decide +kernel) (by decide +kernel) (by decide +kernel) hE (fun r g gI EG => S r g gI EG)⟩
theorem LW_15 {v3 : Int} (hxs : ∀ j, i32 (xs j)) (h0 : 0 ≤ v3) (h1 : v3 + 7 ≤ (xl : Int)) (hx : xl ≤ 3584) (hI : INV h) (hE : EQL h) (k : ∀ g, INV g → EQL g → Rn xs xl 64 mm_OneSidedLaw_law 1231 [some (.inr (.inr (-2))), some (.inr (.inr 1)), some (.inr (.inr 182)), some (.inl v3)] [] g Q) : Rn xs xl 64 mm_OneSidedLaw_law 687 [some (.inr (.inr (-2))), some (.inr (.inr 1)), some (.inr (.inr 182)), some (.inl v3)] [] h Q := by
  have S : ∀ (r : Int) (g : LH), INV g → EQL g → Rn xs xl 64 mm_OneSidedLaw_law 706 [some (.inr (.inr (-2))), some (.inr (.inr 1)), some (.inr (.inr 182)), some (.inl v3)] [.inl r] g Q := by
    intro r g gI EG
    exact B_law_706 (RF_of gI.1) (by omega) ⟨by omega, by omega, by omega, 63, by decide, root_i TR_ring (as := [.inr (.inr 182), .inl (xs (v3 + 1).toNat), .inl (xs (v3 + 2).toNat), .inl (xs (v3 + 3).toNat)]) rfl (Nat.le_of_ble_eq_true rfl) gI (gAr_c (g_ref 182) (gAr_c (g_i (hxs _)) (gAr_c (g_i (hxs _)) (gAr_c (g_i (hxs _)) gAr_n)))) rfl (Nat.le_of_ble_eq_true rfl) rfl rfl rfl (by decide +kernel) (by decide +kernel) (by decide +kernel) EG (fun r2 g2 i2 E2 => B_law_726 (RF_of i2.1) (by omega) (k g2 i2 E2))⟩
  exact B_law_687 (RF_of hI.1) (by omega) ⟨by omega, by omega, by omega, 63, by decide, root_i TC_ring (as := [.inr (.inr 1), .inl (xs (v3 + 1).toNat), .inl (xs (v3 + 2).toNat), .inl (xs (v3 + 3).toNat)]) rfl (Nat.le_of_ble_eq_true rfl) hI (gAr_c (g_ref 1) (gAr_c (g_i (hxs _)) (gAr_c (g_i (hxs _)) (gAr_c (g_i (hxs _)) gAr_n)))) rfl (Nat.le_of_ble_eq_true rfl) rfl rfl rfl (by decide +kernel) (by decide +kernel) (by decide +kernel) hE (fun r g gI EG => S r g gI EG)⟩
theorem LW_16 {v3 : Int} (hxs : ∀ j, i32 (xs j)) (h0 : 0 ≤ v3) (h1 : v3 + 7 ≤ (xl : Int)) (hx : xl ≤ 3584) (hI : INV h) (hE : EQL h) (k : ∀ g, INV g → EQL g → Rn xs xl 64 mm_OneSidedLaw_law 1231 [some (.inr (.inr (-2))), some (.inr (.inr 1)), some (.inr (.inr 182)), some (.inl v3)] [] g Q) : Rn xs xl 64 mm_OneSidedLaw_law 730 [some (.inr (.inr (-2))), some (.inr (.inr 1)), some (.inr (.inr 182)), some (.inl v3)] [] h Q := by
  have S : ∀ (r : Int) (g : LH), INV g → EQL g → Rn xs xl 64 mm_OneSidedLaw_law 749 [some (.inr (.inr (-2))), some (.inr (.inr 1)), some (.inr (.inr 182)), some (.inl v3)] [.inl r] g Q := by
    intro r g gI EG
    exact B_law_749 (RF_of gI.1) (by omega) ⟨by omega, by omega, by omega, 63, by decide, root_i TR_homeless (as := [.inr (.inr 182), .inl (xs (v3 + 1).toNat), .inl (xs (v3 + 2).toNat), .inl (xs (v3 + 3).toNat)]) rfl (Nat.le_of_ble_eq_true rfl) gI (gAr_c (g_ref 182) (gAr_c (g_i (hxs _)) (gAr_c (g_i (hxs _)) (gAr_c (g_i (hxs _)) gAr_n)))) rfl (Nat.le_of_ble_eq_true rfl) rfl rfl rfl (by decide +kernel) (by decide +kernel) (by decide +kernel) EG (fun r2 g2 i2 E2 => B_law_769 (RF_of i2.1) (by omega) (k g2 i2 E2))⟩
  exact B_law_730 (RF_of hI.1) (by omega) ⟨by omega, by omega, by omega, 63, by decide, root_i TC_homeless (as := [.inr (.inr 1), .inl (xs (v3 + 1).toNat), .inl (xs (v3 + 2).toNat), .inl (xs (v3 + 3).toNat)]) rfl (Nat.le_of_ble_eq_true rfl) hI (gAr_c (g_ref 1) (gAr_c (g_i (hxs _)) (gAr_c (g_i (hxs _)) (gAr_c (g_i (hxs _)) gAr_n)))) rfl (Nat.le_of_ble_eq_true rfl) rfl rfl rfl (by decide +kernel) (by decide +kernel) (by decide +kernel) hE (fun r g gI EG => S r g gI EG)⟩
theorem LW_17 {v3 : Int} (hxs : ∀ j, i32 (xs j)) (h0 : 0 ≤ v3) (h1 : v3 + 7 ≤ (xl : Int)) (hx : xl ≤ 3584) (hI : INV h) (hE : EQL h) (k : ∀ g, INV g → EQL g → Rn xs xl 64 mm_OneSidedLaw_law 1231 [some (.inr (.inr (-2))), some (.inr (.inr 1)), some (.inr (.inr 182)), some (.inl v3)] [] g Q) : Rn xs xl 64 mm_OneSidedLaw_law 773 [some (.inr (.inr (-2))), some (.inr (.inr 1)), some (.inr (.inr 182)), some (.inl v3)] [] h Q := by
  have S : ∀ (r : Int) (g : LH), INV g → EQL g → Rn xs xl 64 mm_OneSidedLaw_law 787 [some (.inr (.inr (-2))), some (.inr (.inr 1)), some (.inr (.inr 182)), some (.inl v3)] [.inl r] g Q := by
    intro r g gI EG
    exact B_law_787 (RF_of gI.1) (by omega) ⟨by omega, by omega, 63, by decide, root_i TR_add (as := [.inr (.inr 182), .inl (xs (v3 + 1).toNat), .inl (xs (v3 + 2).toNat)]) rfl (Nat.le_of_ble_eq_true rfl) gI (gAr_c (g_ref 182) (gAr_c (g_i (hxs _)) (gAr_c (g_i (hxs _)) gAr_n))) rfl (Nat.le_of_ble_eq_true rfl) rfl rfl rfl (by decide +kernel) (by decide +kernel) (by decide +kernel) EG (fun r2 g2 i2 E2 => B_law_802 (RF_of i2.1) (by omega) (k g2 i2 E2))⟩
  exact B_law_773 (RF_of hI.1) (by omega) ⟨by omega, by omega, 63, by decide, root_i TC_add (as := [.inr (.inr 1), .inl (xs (v3 + 1).toNat), .inl (xs (v3 + 2).toNat)]) rfl (Nat.le_of_ble_eq_true rfl) hI (gAr_c (g_ref 1) (gAr_c (g_i (hxs _)) (gAr_c (g_i (hxs _)) gAr_n))) rfl (Nat.le_of_ble_eq_true rfl) rfl rfl rfl (by decide +kernel) (by decide +kernel) (by decide +kernel) hE (fun r g gI EG => S r g gI EG)⟩
theorem LW_18 {v3 : Int} (hxs : ∀ j, i32 (xs j)) (h0 : 0 ≤ v3) (h1 : v3 + 7 ≤ (xl : Int)) (hx : xl ≤ 3584) (hI : INV h) (hE : EQL h) (k : ∀ g, INV g → EQL g → Rn xs xl 64 mm_OneSidedLaw_law 1231 [some (.inr (.inr (-2))), some (.inr (.inr 1)), some (.inr (.inr 182)), some (.inl v3)] [] g Q) : Rn xs xl 64 mm_OneSidedLaw_law 806 [some (.inr (.inr (-2))), some (.inr (.inr 1)), some (.inr (.inr 182)), some (.inl v3)] [] h Q := by
  have S : ∀ (r : Int) (g : LH), INV g → EQL g → Rn xs xl 64 mm_OneSidedLaw_law 820 [some (.inr (.inr (-2))), some (.inr (.inr 1)), some (.inr (.inr 182)), some (.inl v3)] [.inl r] g Q := by
    intro r g gI EG
    exact B_law_820 (RF_of gI.1) (by omega) ⟨by omega, by omega, 63, by decide, root_i TR_turn (as := [.inr (.inr 182), .inl (xs (v3 + 1).toNat), .inl (xs (v3 + 2).toNat)]) rfl (Nat.le_of_ble_eq_true rfl) gI (gAr_c (g_ref 182) (gAr_c (g_i (hxs _)) (gAr_c (g_i (hxs _)) gAr_n))) rfl (Nat.le_of_ble_eq_true rfl) rfl rfl rfl (by decide +kernel) (by decide +kernel) (by decide +kernel) EG (fun r2 g2 i2 E2 => B_law_835 (RF_of i2.1) (by omega) (k g2 i2 E2))⟩
  exact B_law_806 (RF_of hI.1) (by omega) ⟨by omega, by omega, 63, by decide, root_i TC_turn (as := [.inr (.inr 1), .inl (xs (v3 + 1).toNat), .inl (xs (v3 + 2).toNat)]) rfl (Nat.le_of_ble_eq_true rfl) hI (gAr_c (g_ref 1) (gAr_c (g_i (hxs _)) (gAr_c (g_i (hxs _)) gAr_n))) rfl (Nat.le_of_ble_eq_true rfl) rfl rfl rfl (by decide +kernel) (by decide +kernel) (by decide +kernel) hE (fun r g gI EG => S r g gI EG)⟩
theorem LW_19 {v3 : Int} (hxs : ∀ j, i32 (xs j)) (h0 : 0 ≤ v3) (h1 : v3 + 7 ≤ (xl : Int)) (hx : xl ≤ 3584) (hI : INV h) (hE : EQL h) (k : ∀ g, INV g → EQL g → Rn xs xl 64 mm_OneSidedLaw_law 1231 [some (.inr (.inr (-2))), some (.inr (.inr 1)), some (.inr (.inr 182)), some (.inl v3)] [] g Q) : Rn xs xl 64 mm_OneSidedLaw_law 839 [some (.inr (.inr (-2))), some (.inr (.inr 1)), some (.inr (.inr 182)), some (.inl v3)] [] h Q := by
  have S : ∀ (r : Int) (g : LH), INV g → EQL g → Rn xs xl 64 mm_OneSidedLaw_law 863 [some (.inr (.inr (-2))), some (.inr (.inr 1)), some (.inr (.inr 182)), some (.inl v3)] [.inl r] g Q := by
    intro r g gI EG
    exact B_law_863 (RF_of gI.1) (by omega) ⟨by omega, by omega, by omega, by omega, 63, by decide, root_i TR_cut (as := [.inr (.inr 182), .inl (xs (v3 + 1).toNat), .inl (xs (v3 + 2).toNat), .inl (xs (v3 + 3).toNat), .inl (xs (v3 + 4).toNat)]) rfl (Nat.le_of_ble_eq_true rfl) gI (gAr_c (g_ref 182) (gAr_c (g_i (hxs _)) (gAr_c (g_i (hxs _)) (gAr_c (g_i (hxs _)) (gAr_c (g_i (hxs _)) gAr_n))))) rfl (Nat.le_of_ble_eq_true rfl) rfl rfl rfl (by decide +kernel) (by decide +kernel) (by decide +kernel) EG (fun r2 g2 i2 E2 => B_law_888 (RF_of i2.1) (by omega) (k g2 i2 E2))⟩
  exact B_law_839 (RF_of hI.1) (by omega) ⟨by omega, by omega, by omega, by omega, 63, by decide, root_i TC_cut (as := [.inr (.inr 1), .inl (xs (v3 + 1).toNat), .inl (xs (v3 + 2).toNat), .inl (xs (v3 + 3).toNat), .inl (xs (v3 + 4).toNat)]) rfl (Nat.le_of_ble_eq_true rfl) hI (gAr_c (g_ref 1) (gAr_c (g_i (hxs _)) (gAr_c (g_i (hxs _)) (gAr_c (g_i (hxs _)) (gAr_c (g_i (hxs _)) gAr_n))))) rfl (Nat.le_of_ble_eq_true rfl) rfl rfl rfl (by decide +kernel) (by decide +kernel) (by decide +kernel) hE (fun r g gI EG => S r g gI EG)⟩
theorem LW_20 {v3 : Int} (hxs : ∀ j, i32 (xs j)) (h0 : 0 ≤ v3) (h1 : v3 + 7 ≤ (xl : Int)) (hx : xl ≤ 3584) (hI : INV h) (hE : EQL h) (k : ∀ g, INV g → EQL g → Rn xs xl 64 mm_OneSidedLaw_law 1231 [some (.inr (.inr (-2))), some (.inr (.inr 1)), some (.inr (.inr 182)), some (.inl v3)] [] g Q) : Rn xs xl 64 mm_OneSidedLaw_law 892 [some (.inr (.inr (-2))), some (.inr (.inr 1)), some (.inr (.inr 182)), some (.inl v3)] [] h Q := by
  exact B_law_892 (RF_of hI.1) (by omega) ⟨by omega, by omega, by omega, 63, by decide, E_crowdS (by decide) hI hE (hxs _) (hxs _) (hxs _) (fun r g gI gj => B_law_911 (RF_of gI.1) (by omega) ⟨by omega, by omega, by omega, 63, by decide, G_crowdS (by decide) hI hE gI gj (fun g2 i2 E2 => B_law_930 (RF_of i2.1) (by omega) ⟨fun _ => k g2 i2 E2, fun z => absurd rfl z⟩)⟩)⟩
theorem LW_21 {v3 : Int} (hxs : ∀ j, i32 (xs j)) (h0 : 0 ≤ v3) (h1 : v3 + 7 ≤ (xl : Int)) (hx : xl ≤ 3584) (hI : INV h) (hE : EQL h) (k : ∀ g, INV g → EQL g → Rn xs xl 64 mm_OneSidedLaw_law 1231 [some (.inr (.inr (-2))), some (.inr (.inr 1)), some (.inr (.inr 182)), some (.inl v3)] [] g Q) : Rn xs xl 64 mm_OneSidedLaw_law 935 [some (.inr (.inr (-2))), some (.inr (.inr 1)), some (.inr (.inr 182)), some (.inl v3)] [] h Q := by
  have S : ∀ (r : Int) (g : LH), INV g → EQL g → Rn xs xl 64 mm_OneSidedLaw_law 962 [some (.inr (.inr (-2))), some (.inr (.inr 1)), some (.inr (.inr 182)), some (.inl v3)] [.inl r] g Q := by
    intro r g gI EG
    exact B_law_962 (RF_of gI.1) (by omega) ⟨by omega, by omega, by omega, fun _ => ⟨63, by decide, root_b TR_told (as := [.inr (.inr 182), .inl (xs (v3 + 1).toNat), .inl (xs (v3 + 2).toNat), .inl 0]) rfl (Nat.le_of_ble_eq_true rfl) gI (gAr_c (g_ref 182) (gAr_c (g_i (hxs _)) (gAr_c (g_i (hxs _)) (gAr_c g_z0 gAr_n)))) rfl (Nat.le_of_ble_eq_true rfl) rfl rfl rfl rfl (by decide +kernel) (by decide +kernel) (by decide +kernel) EG (fun r2 g2 i2 E2 => B_law_990 (RF_of i2.1) (by omega) (k g2 i2 E2))⟩, fun _ => ⟨63, by decide, root_b TR_told (as := [.inr (.inr 182), .inl (xs (v3 + 1).toNat), .inl (xs (v3 + 2).toNat), .inl 1]) rfl (Nat.le_of_ble_eq_true rfl) gI (gAr_c (g_ref 182) (gAr_c (g_i (hxs _)) (gAr_c (g_i (hxs _)) (gAr_c g_z1 gAr_n)))) rfl (Nat.le_of_ble_eq_true rfl) rfl rfl rfl rfl (by decide +kernel) (by decide +kernel) (by decide +kernel) EG (fun r2 g2 i2 E2 => B_law_990 (RF_of i2.1) (by omega) (k g2 i2 E2))⟩⟩
  exact B_law_935 (RF_of hI.1) (by omega) ⟨by omega, by omega, by omega, fun _ => ⟨63, by decide, root_b TC_told (as := [.inr (.inr 1), .inl (xs (v3 + 1).toNat), .inl (xs (v3 + 2).toNat), .inl 0]) rfl (Nat.le_of_ble_eq_true rfl) hI (gAr_c (g_ref 1) (gAr_c (g_i (hxs _)) (gAr_c (g_i (hxs _)) (gAr_c g_z0 gAr_n)))) rfl (Nat.le_of_ble_eq_true rfl) rfl rfl rfl rfl (by decide +kernel) (by decide +kernel) (by decide +kernel) hE (fun r g gI EG => S r g gI EG)⟩, fun _ => ⟨63, by decide, root_b TC_told (as := [.inr (.inr 1), .inl (xs (v3 + 1).toNat), .inl (xs (v3 + 2).toNat), .inl 1]) rfl (Nat.le_of_ble_eq_true rfl) hI (gAr_c (g_ref 1) (gAr_c (g_i (hxs _)) (gAr_c (g_i (hxs _)) (gAr_c g_z1 gAr_n)))) rfl (Nat.le_of_ble_eq_true rfl) rfl rfl rfl rfl (by decide +kernel) (by decide +kernel) (by decide +kernel) hE (fun r g gI EG => S r g gI EG)⟩⟩
theorem LW_22 {v3 : Int} (hxs : ∀ j, i32 (xs j)) (h0 : 0 ≤ v3) (h1 : v3 + 7 ≤ (xl : Int)) (hx : xl ≤ 3584) (hI : INV h) (hE : EQL h) (k : ∀ g, INV g → EQL g → Rn xs xl 64 mm_OneSidedLaw_law 1231 [some (.inr (.inr (-2))), some (.inr (.inr 1)), some (.inr (.inr 182)), some (.inl v3)] [] g Q) : Rn xs xl 64 mm_OneSidedLaw_law 994 [some (.inr (.inr (-2))), some (.inr (.inr 1)), some (.inr (.inr 182)), some (.inl v3)] [] h Q := by
  have S : ∀ (r : Int) (g : LH), INV g → EQL g → Rn xs xl 64 mm_OneSidedLaw_law 1003 [some (.inr (.inr (-2))), some (.inr (.inr 1)), some (.inr (.inr 182)), some (.inl v3)] [.inl r] g Q := by
    intro r g gI EG
    exact B_law_1003 (RF_of gI.1) (by omega) ⟨by omega, 63, by decide, root_i TR_found (as := [.inr (.inr 182), .inl (xs (v3 + 1).toNat)]) rfl (Nat.le_of_ble_eq_true rfl) gI (gAr_c (g_ref 182) (gAr_c (g_i (hxs _)) gAr_n)) rfl (Nat.le_of_ble_eq_true rfl) rfl rfl rfl (by decide +kernel) (by decide +kernel) (by decide +kernel) EG (fun r2 g2 i2 E2 => B_law_1013 (RF_of i2.1) (by omega) (k g2 i2 E2))⟩
  exact B_law_994 (RF_of hI.1) (by omega) ⟨by omega, 63, by decide, root_i TC_found (as := [.inr (.inr 1), .inl (xs (v3 + 1).toNat)]) rfl (Nat.le_of_ble_eq_true rfl) hI (gAr_c (g_ref 1) (gAr_c (g_i (hxs _)) gAr_n)) rfl (Nat.le_of_ble_eq_true rfl) rfl rfl rfl (by decide +kernel) (by decide +kernel) (by decide +kernel) hE (fun r g gI EG => S r g gI EG)⟩
theorem LW_23 {v3 : Int} (hxs : ∀ j, i32 (xs j)) (h0 : 0 ≤ v3) (h1 : v3 + 7 ≤ (xl : Int)) (hx : xl ≤ 3584) (hI : INV h) (hE : EQL h) (k : ∀ g, INV g → EQL g → Rn xs xl 64 mm_OneSidedLaw_law 1231 [some (.inr (.inr (-2))), some (.inr (.inr 1)), some (.inr (.inr 182)), some (.inl v3)] [] g Q) : Rn xs xl 64 mm_OneSidedLaw_law 1017 [some (.inr (.inr (-2))), some (.inr (.inr 1)), some (.inr (.inr 182)), some (.inl v3)] [] h Q := by
  have S : ∀ (r : Int) (g : LH), INV g → EQL g → Rn xs xl 64 mm_OneSidedLaw_law 1036 [some (.inr (.inr (-2))), some (.inr (.inr 1)), some (.inr (.inr 182)), some (.inl v3)] [.inl r] g Q := by
    intro r g gI EG
    exact B_law_1036 (RF_of gI.1) (by omega) ⟨by omega, by omega, by omega, 63, by decide, root_rests (by decide) gI EG (hxs _) (hxs _) (hxs _) (fun r2 g2 i2 E2 => B_law_1056 (RF_of i2.1) (by omega) (k g2 i2 E2))⟩
  exact B_law_1017 (RF_of hI.1) (by omega) ⟨by omega, by omega, by omega, 63, by decide, root_i TC_rests (as := [.inr (.inr 1), .inl (xs (v3 + 1).toNat), .inl (xs (v3 + 2).toNat), .inl (xs (v3 + 3).toNat)]) rfl (Nat.le_of_ble_eq_true rfl) hI (gAr_c (g_ref 1) (gAr_c (g_i (hxs _)) (gAr_c (g_i (hxs _)) (gAr_c (g_i (hxs _)) gAr_n)))) rfl (Nat.le_of_ble_eq_true rfl) rfl rfl rfl (by decide +kernel) (by decide +kernel) (by decide +kernel) hE (fun r g gI EG => S r g gI EG)⟩
theorem LW_24 {v3 : Int} (hxs : ∀ j, i32 (xs j)) (h0 : 0 ≤ v3) (h1 : v3 + 7 ≤ (xl : Int)) (hx : xl ≤ 3584) (hI : INV h) (hE : EQL h) (k : ∀ g, INV g → EQL g → Rn xs xl 64 mm_OneSidedLaw_law 1231 [some (.inr (.inr (-2))), some (.inr (.inr 1)), some (.inr (.inr 182)), some (.inl v3)] [] g Q) : Rn xs xl 64 mm_OneSidedLaw_law 1060 [some (.inr (.inr (-2))), some (.inr (.inr 1)), some (.inr (.inr 182)), some (.inl v3)] [] h Q := by
  have S : ∀ (r : Int) (g : LH), INV g → EQL g → Rn xs xl 64 mm_OneSidedLaw_law 1074 [some (.inr (.inr (-2))), some (.inr (.inr 1)), some (.inr (.inr 182)), some (.inl v3)] [.inl r] g Q := by
    intro r g gI EG
    exact B_law_1074 (RF_of gI.1) (by omega) ⟨by omega, by omega, 63, by decide, root_i TR_chase (as := [.inr (.inr 182), .inl (xs (v3 + 1).toNat), .inl (xs (v3 + 2).toNat)]) rfl (Nat.le_of_ble_eq_true rfl) gI (gAr_c (g_ref 182) (gAr_c (g_i (hxs _)) (gAr_c (g_i (hxs _)) gAr_n))) rfl (Nat.le_of_ble_eq_true rfl) rfl rfl rfl (by decide +kernel) (by decide +kernel) (by decide +kernel) EG (fun r2 g2 i2 E2 => B_law_1089 (RF_of i2.1) (by omega) (k g2 i2 E2))⟩
  exact B_law_1060 (RF_of hI.1) (by omega) ⟨by omega, by omega, 63, by decide, root_i TC_chase (as := [.inr (.inr 1), .inl (xs (v3 + 1).toNat), .inl (xs (v3 + 2).toNat)]) rfl (Nat.le_of_ble_eq_true rfl) hI (gAr_c (g_ref 1) (gAr_c (g_i (hxs _)) (gAr_c (g_i (hxs _)) gAr_n))) rfl (Nat.le_of_ble_eq_true rfl) rfl rfl rfl (by decide +kernel) (by decide +kernel) (by decide +kernel) hE (fun r g gI EG => S r g gI EG)⟩
theorem LW_25 {v3 : Int} (hxs : ∀ j, i32 (xs j)) (h0 : 0 ≤ v3) (h1 : v3 + 7 ≤ (xl : Int)) (hx : xl ≤ 3584) (hI : INV h) (hE : EQL h) (k : ∀ g, INV g → EQL g → Rn xs xl 64 mm_OneSidedLaw_law 1231 [some (.inr (.inr (-2))), some (.inr (.inr 1)), some (.inr (.inr 182)), some (.inl v3)] [] g Q) : Rn xs xl 64 mm_OneSidedLaw_law 1093 [some (.inr (.inr (-2))), some (.inr (.inr 1)), some (.inr (.inr 182)), some (.inl v3)] [] h Q := by
  have S : ∀ (r : Int) (g : LH), INV g → EQL g → Rn xs xl 64 mm_OneSidedLaw_law 1102 [some (.inr (.inr (-2))), some (.inr (.inr 1)), some (.inr (.inr 182)), some (.inl v3)] [.inl r] g Q := by
    intro r g gI EG
    exact B_law_1102 (RF_of gI.1) (by omega) ⟨by omega, 63, by decide, D_run (by decide) gI (fun r2 g2 i2 f2 => B_law_1112 (RF_of i2.1) (by omega) (k g2 i2 (EQL_fr gI EG ((f2 2 0 (by decide) (by decide) (by decide) (by decide) (by decide) (by decide)).trans (rdw_ne (by decide))) ((f2 182 2 (by decide) (by decide) (by decide) (by decide) (by decide) (by decide)).trans (rdw_nei (by decide))) (fun a i ha => by obtain ⟨y1, y2, y3, -⟩ := inK_p ha; exact (f2 a i (by omega) (by omega) (by omega) (by omega) (fun z => by omega) (by omega)).trans (by rw [rd_wr, if_neg (by omega)])))))⟩
  exact B_law_1093 (RF_of hI.1) (by omega) ⟨by omega, 63, by decide, root_i TC_run (as := [.inr (.inr 1), .inl (xs (v3 + 1).toNat)]) rfl (Nat.le_of_ble_eq_true rfl) hI (gAr_c (g_ref 1) (gAr_c (g_i (hxs _)) gAr_n)) rfl (Nat.le_of_ble_eq_true rfl) rfl rfl rfl (by decide +kernel) (by decide +kernel) (by decide +kernel) hE (fun r g gI EG => S r g gI EG)⟩
theorem LW_26 {v3 : Int} (hxs : ∀ j, i32 (xs j)) (h0 : 0 ≤ v3) (h1 : v3 + 7 ≤ (xl : Int)) (hx : xl ≤ 3584) (hI : INV h) (hE : EQL h) (k : ∀ g, INV g → EQL g → Rn xs xl 64 mm_OneSidedLaw_law 1231 [some (.inr (.inr (-2))), some (.inr (.inr 1)), some (.inr (.inr 182)), some (.inl v3)] [] g Q) : Rn xs xl 64 mm_OneSidedLaw_law 1116 [some (.inr (.inr (-2))), some (.inr (.inr 1)), some (.inr (.inr 182)), some (.inl v3)] [] h Q := by
  have S : ∀ (r : Int) (g : LH), INV g → EQL g → Rn xs xl 64 mm_OneSidedLaw_law 1135 [some (.inr (.inr (-2))), some (.inr (.inr 1)), some (.inr (.inr 182)), some (.inl v3)] [.inl r] g Q := by
    intro r g gI EG
    exact B_law_1135 (RF_of gI.1) (by omega) ⟨by omega, by omega, by omega, 63, by decide, root_i TR_years (as := [.inr (.inr 182), .inl (xs (v3 + 1).toNat), .inl (xs (v3 + 2).toNat), .inl (xs (v3 + 3).toNat)]) rfl (Nat.le_of_ble_eq_true rfl) gI (gAr_c (g_ref 182) (gAr_c (g_i (hxs _)) (gAr_c (g_i (hxs _)) (gAr_c (g_i (hxs _)) gAr_n)))) rfl (Nat.le_of_ble_eq_true rfl) rfl rfl rfl (by decide +kernel) (by decide +kernel) (by decide +kernel) EG (fun r2 g2 i2 E2 => B_law_1155 (RF_of i2.1) (by omega) (k g2 i2 E2))⟩
  exact B_law_1116 (RF_of hI.1) (by omega) ⟨by omega, by omega, by omega, 63, by decide, root_i TC_years (as := [.inr (.inr 1), .inl (xs (v3 + 1).toNat), .inl (xs (v3 + 2).toNat), .inl (xs (v3 + 3).toNat)]) rfl (Nat.le_of_ble_eq_true rfl) hI (gAr_c (g_ref 1) (gAr_c (g_i (hxs _)) (gAr_c (g_i (hxs _)) (gAr_c (g_i (hxs _)) gAr_n)))) rfl (Nat.le_of_ble_eq_true rfl) rfl rfl rfl (by decide +kernel) (by decide +kernel) (by decide +kernel) hE (fun r g gI EG => S r g gI EG)⟩
theorem LW_27 {v3 : Int} (hxs : ∀ j, i32 (xs j)) (h0 : 0 ≤ v3) (h1 : v3 + 7 ≤ (xl : Int)) (hx : xl ≤ 3584) (hI : INV h) (hE : EQL h) (k : ∀ g, INV g → EQL g → Rn xs xl 64 mm_OneSidedLaw_law 1231 [some (.inr (.inr (-2))), some (.inr (.inr 1)), some (.inr (.inr 182)), some (.inl v3)] [] g Q) : Rn xs xl 64 mm_OneSidedLaw_law 1159 [some (.inr (.inr (-2))), some (.inr (.inr 1)), some (.inr (.inr 182)), some (.inl v3)] [] h Q := by
  exact B_law_1159 (RF_of hI.1) (by omega) ⟨by omega, by omega, fun c => ⟨63, by decide, E_markS (by decide) hI hE (hxs _) g_z0 (fun r g gI gj => B_law_1181 (RF_of gI.1) (by omega) ⟨by omega, by omega, fun _ => ⟨63, by decide, G_markS (by decide) hI hE gI gj (fun g2 i2 E2 => B_law_1204 (RF_of i2.1) (by omega) (k g2 i2 E2))⟩, fun z => absurd c z⟩)⟩, fun c => ⟨63, by decide, E_markS (by decide) hI hE (hxs _) g_z1 (fun r g gI gj => B_law_1181 (RF_of gI.1) (by omega) ⟨by omega, by omega, fun z => absurd z c, fun _ => ⟨63, by decide, G_markS (by decide) hI hE gI gj (fun g2 i2 E2 => B_law_1204 (RF_of i2.1) (by omega) (k g2 i2 E2))⟩⟩)⟩⟩
theorem LW_28 {v3 : Int} (hxs : ∀ j, i32 (xs j)) (h0 : 0 ≤ v3) (h1 : v3 + 7 ≤ (xl : Int)) (hx : xl ≤ 3584) (hI : INV h) (hE : EQL h) (k : ∀ g, INV g → EQL g → Rn xs xl 64 mm_OneSidedLaw_law 1231 [some (.inr (.inr (-2))), some (.inr (.inr 1)), some (.inr (.inr 182)), some (.inl v3)] [] g Q) : Rn xs xl 64 mm_OneSidedLaw_law 1208 [some (.inr (.inr (-2))), some (.inr (.inr 1)), some (.inr (.inr 182)), some (.inl v3)] [] h Q := by
  have S : ∀ (r : Int) (g : LH), INV g → EQL g → Rn xs xl 64 mm_OneSidedLaw_law 1217 [some (.inr (.inr (-2))), some (.inr (.inr 1)), some (.inr (.inr 182)), some (.inl v3)] [.inl r] g Q := by
    intro r g gI EG
    exact B_law_1217 (RF_of gI.1) (by omega) ⟨by omega, 63, by decide, root_i TR_count (as := [.inr (.inr 182), .inl (xs (v3 + 1).toNat)]) rfl (Nat.le_of_ble_eq_true rfl) gI (gAr_c (g_ref 182) (gAr_c (g_i (hxs _)) gAr_n)) rfl (Nat.le_of_ble_eq_true rfl) rfl rfl rfl (by decide +kernel) (by decide +kernel) (by decide +kernel) EG (fun r2 g2 i2 E2 => B_law_1227 (RF_of i2.1) (by omega) (k g2 i2 E2))⟩
  exact B_law_1208 (RF_of hI.1) (by omega) ⟨by omega, 63, by decide, root_i TC_count (as := [.inr (.inr 1), .inl (xs (v3 + 1).toNat)]) rfl (Nat.le_of_ble_eq_true rfl) hI (gAr_c (g_ref 1) (gAr_c (g_i (hxs _)) gAr_n)) rfl (Nat.le_of_ble_eq_true rfl) rfl rfl rfl (by decide +kernel) (by decide +kernel) (by decide +kernel) hE (fun r g gI EG => S r g gI EG)⟩
theorem law_loop (hxs : ∀ j, i32 (xs j)) (hx : xl ≤ 3584) (kq : ∀ g, INV g → Q (some (.inl 1)) g) : ∀ (m : Nat) (v3 : Int) (h : LH), 0 ≤ v3 → v3 ≤ (xl : Int) → ((xl : Int) - v3).toNat ≤ m → INV h → EQL h → Rn xs xl 64 mm_OneSidedLaw_law 18 [some (.inr (.inr (-2))), some (.inr (.inr 1)), some (.inr (.inr 182)), some (.inl v3)] [] h Q := by
  intro m
  induction m with
  | zero =>
    intro v3 h h0 h1 hm hI hE
    exact B_law_18 (RF_of hI.1) (by omega) ⟨by omega, fun _ => kq h hI, fun z => absurd z (by omega)⟩
  | succ m ih =>
    intro v3 h h0 h1 hm hI hE
    refine B_law_18 (RF_of hI.1) (by omega) ⟨by omega, fun _ => kq h hI, fun z => ?_⟩
    have z7 : v3 + 7 ≤ (xl : Int) := by omega
    have K : ∀ g, INV g → EQL g → Rn xs xl 64 mm_OneSidedLaw_law 1231 [some (.inr (.inr (-2))), some (.inr (.inr 1)), some (.inr (.inr 182)), some (.inl v3)] [] g Q := fun g gI gE => B_law_1231 (RF_of gI.1) (by omega) (ih (v3 + 7) g (by omega) (by omega) (by omega) gI gE)
    exact ⟨by omega, fun _ => LW_0 hxs h0 z7 hx hI hE K, fun _ => LW_1 hxs h0 z7 hx hI hE K, fun _ => LW_2 hxs h0 z7 hx hI hE K, fun _ => LW_3 hxs h0 z7 hx hI hE K, fun _ => LW_4 hxs h0 z7 hx hI hE K, fun _ => LW_5 hxs h0 z7 hx hI hE K, fun _ => LW_6 hxs h0 z7 hx hI hE K, fun _ => LW_7 hxs h0 z7 hx hI hE K, fun _ => LW_8 hxs h0 z7 hx hI hE K, fun _ => LW_9 hxs h0 z7 hx hI hE K, fun _ => LW_10 hxs h0 z7 hx hI hE K, fun _ => LW_11 hxs h0 z7 hx hI hE K, fun _ => LW_12 hxs h0 z7 hx hI hE K, fun _ => LW_13 hxs h0 z7 hx hI hE K, fun _ => LW_14 hxs h0 z7 hx hI hE K, fun _ => LW_15 hxs h0 z7 hx hI hE K, fun _ => LW_16 hxs h0 z7 hx hI hE K, fun _ => LW_17 hxs h0 z7 hx hI hE K, fun _ => LW_18 hxs h0 z7 hx hI hE K, fun _ => LW_19 hxs h0 z7 hx hI hE K, fun _ => LW_20 hxs h0 z7 hx hI hE K, fun _ => LW_21 hxs h0 z7 hx hI hE K, fun _ => LW_22 hxs h0 z7 hx hI hE K, fun _ => LW_23 hxs h0 z7 hx hI hE K, fun _ => LW_24 hxs h0 z7 hx hI hE K, fun _ => LW_25 hxs h0 z7 hx hI hE K, fun _ => LW_26 hxs h0 z7 hx hI hE K, fun _ => LW_27 hxs h0 z7 hx hI hE K, fun _ => LW_28 hxs h0 z7 hx hI hE K, fun _ => K h hI hE⟩
end LA
end
section
/-! LM, part 9d: the first heap; the law's run from its entry -/
def gVb (a : AV) (v : LV) : Bool := match v with
  | .inl x => a.1 == 0 && decide (-2147483648 ≤ x) && decide (x ≤ 2147483647) && decide (a.2.1 ≤ x) && decide (x ≤ a.2.2.1) && decide ((x - a.2.1) % ((a.2.2.2 : Nat) : Int) = 0)
  | .inr (.inl x) => a.1 == 1 && decide (-9223372036854775808 ≤ x) && decide (x ≤ 9223372036854775807) && decide (a.2.1 ≤ x) && decide (x ≤ a.2.2.1) && decide ((x - a.2.1) % ((a.2.2.2 : Nat) : Int) = 0)
  | .inr (.inr x) => a.1 == 2 && decide (a.2.1 ≤ x) && decide (x ≤ a.2.2.1) && decide ((x - a.2.1) % ((a.2.2.2 : Nat) : Int) = 0)
theorem gVb_ok {a : AV} {v : LV} (h : gVb a v = true) : gV a v := by
  rcases v with x | x | x
  · simp only [gVb, Bool.and_eq_true, decide_eq_true_eq, beq_iff_eq] at h
    obtain ⟨⟨⟨⟨⟨h1, h2⟩, h3⟩, h4⟩, h5⟩, h6⟩ := h
    exact ⟨h1, ⟨h2, h3⟩, h4, h5, Int.dvd_of_emod_eq_zero h6⟩
  · simp only [gVb, Bool.and_eq_true, decide_eq_true_eq, beq_iff_eq] at h
    obtain ⟨⟨⟨⟨⟨h1, h2⟩, h3⟩, h4⟩, h5⟩, h6⟩ := h
    exact ⟨h1, ⟨h2, h3⟩, h4, h5, Int.dvd_of_emod_eq_zero h6⟩
  · simp only [gVb, Bool.and_eq_true, decide_eq_true_eq, beq_iff_eq] at h
    obtain ⟨⟨⟨h1, h4⟩, h5⟩, h6⟩ := h
    exact ⟨h1, h4, h5, Int.dvd_of_emod_eq_zero h6⟩
theorem rd_mem : ∀ (h : LH) (a i : Int), (a, i, rd h a i) ∈ h ∨ (rd h a i = 0 ∧ ∀ v, (a, i, v) ∉ h)
  | [], a, i => Or.inr ⟨rfl, fun v q => by cases q⟩
  | (b, j, v) :: t, a, i => by
    by_cases c : b = a ∧ j = i
    · obtain ⟨rfl, rfl⟩ := c
      left
      show (b, j, if b = b ∧ j = j then v else rd t b j) ∈ _
      rw [if_pos ⟨rfl, rfl⟩]
      exact List.mem_cons_self
    · have e : rd ((b, j, v) :: t) a i = rd t a i := if_neg c
      rw [e]
      rcases rd_mem t a i with q | ⟨q1, q2⟩
      · exact Or.inl (List.mem_cons_of_mem _ q)
      · refine Or.inr ⟨q1, fun w hw => ?_⟩
        rcases List.mem_cons.mp hw with z | z
        · cases z
          exact c ⟨rfl, rfl⟩
        · exact q2 w z
theorem rd_none {h : LH} {a i : Int} (hn : ∀ e ∈ h, ¬ (e.1 = a ∧ e.2.1 = i)) : rd h a i = 0 := by
  rcases rd_mem h a i with q | q
  · exact absurd ⟨rfl, rfl⟩ (hn _ q)
  · exact q.1
def chkZ (h : LH) (a : Nat) : Bool :=
  if (lay a).1 = 1 ∨ (lay a).1 = 2 ∨ (lay a).1 = 3 ∨ (lay a).1 = 4 then (match RGL[a]? with
    | some L => decide (0 < L.length) && L.all (fun av => gVb av (mkv (if (lay a).1 = 2 then 1 else 0) 0))
    | none => false)
  else (List.range (lay a).2.2).all (fun i => gVb (hav a i) (mkv (lkd a i) 0) || h.any (fun e => e.1 == (a : Int) && e.2.1 == (i : Int)))
def chkR (h : LH) : Bool := h.all (fun e => gVb (hav e.1 e.2.1) (mkv (lkd e.1 e.2.1) e.2.2)) && (List.range (NC + 1)).all (chkZ h)
theorem chkR_ok {h : LH} (hc : chkR h = true) : RNG h := by
  unfold chkR at hc
  rw [Bool.and_eq_true, List.all_eq_true, List.all_eq_true] at hc
  obtain ⟨c1, c2⟩ := hc
  intro a i hv
  obtain ⟨v1, v2, v3, v4⟩ := hv
  unfold hval
  rcases rd_mem h a i with q | ⟨q1, q2⟩
  · exact gVb_ok (c1 _ q)
  · rw [q1]
    have z := c2 a.toNat (List.mem_range.mpr (by omega))
    have ea : ((a.toNat : Nat) : Int) = a := Int.toNat_of_nonneg (by omega)
    unfold chkZ at z
    by_cases k : (lay a.toNat).1 = 1 ∨ (lay a.toNat).1 = 2 ∨ (lay a.toNat).1 = 3 ∨ (lay a.toNat).1 = 4
    · rw [if_pos k] at z
      split at z
      · next L hL =>
        rw [Bool.and_eq_true, decide_eq_true_eq, List.all_eq_true] at z
        have e1 : hav a i = L.getD (i.toNat % L.length) top0 := by
          unfold hav
          rw [hL]
        have lt : i.toNat % L.length < L.length := Nat.mod_lt _ z.1
        have e2 : L.getD (i.toNat % L.length) top0 ∈ L := by
          rw [List.getD_eq_getElem?_getD, List.getElem?_eq_getElem lt]
          exact List.getElem_mem lt
        have e3 : lkd a i = if (lay a.toNat).1 = 2 then 1 else 0 := by
          rcases k with k | k | k | k
          · rw [lkd_1 k, k]; rfl
          · rw [lkd_2 k, k]; rfl
          · rw [lkd_3 k, k]; rfl
          · rw [lkd_4 k, k]; rfl
        rw [e1, e3]
        exact gVb_ok (z.2 _ e2)
      · cases z
    · rw [if_neg k, List.all_eq_true] at z
      have y := z i.toNat (List.mem_range.mpr (by omega))
      rw [ea, Int.toNat_of_nonneg v3, Bool.or_eq_true] at y
      rcases y with y | y
      · exact gVb_ok y
      · rw [List.any_eq_true] at y
        obtain ⟨e, e1, e2⟩ := y
        rw [Bool.and_eq_true, beq_iff_eq, beq_iff_eq] at e2
        obtain ⟨x, y2, w⟩ := e
        obtain ⟨rfl, rfl⟩ := e2
        exact absurd e1 (q2 w)
theorem rng0 : chkR hc_556 = true := by decide +kernel
theorem noE0 : (hc_556.all (fun e => !(e.1 == 64) && !(e.1 == 72) && !(e.1 == 107) && !(e.1 == 115) && !(e.1 == 123) && !(e.1 == 131) && !(e.1 == 184) && !(e.1 == 200) && (!(e.1 == 195) || e.2.1 == 0))) = true := by decide +kernel
theorem val0 : rd hc_556 188 3 = -1 ∧ rd hc_556 188 1 = 0 ∧ rd hc_556 188 2 = 0 ∧ rd hc_556 2 0 = rd hc_556 182 2 := ⟨by decide +kernel, by decide +kernel, by decide +kernel, by decide +kernel⟩
theorem inv0 : INV hc_556 := by
  have n := List.all_eq_true.mp noE0
  obtain ⟨v1, v2, v3, -⟩ := val0
  have c : ∀ a, (a = 64 ∨ a = 72 ∨ a = 107 ∨ a = 115 ∨ a = 123 ∨ a = 131 ∨ a = 184 ∨ a = 200) → ∀ i, rd hc_556 a i = 0 := by
    intro a ha i
    refine rd_none (fun e he q => ?_)
    have x := n e he
    simp only [Bool.and_eq_true, Bool.not_eq_true', beq_eq_false_iff_ne] at x
    omega
  have d : ∀ i, i ≠ 0 → rd hc_556 195 i = 0 := by
    intro i hi
    refine rd_none (fun e he q => ?_)
    have x := n e he
    simp only [Bool.and_eq_true, Bool.not_eq_true', beq_eq_false_iff_ne, Bool.or_eq_true, beq_iff_eq] at x
    omega
  refine ⟨chkR_ok rng0, ⟨?_, ?_, ?_, ?_, ?_, ?_, ?_, ?_⟩, ?_, ?_, ?_, ?_⟩
  · intro i _; rw [c 64 (by omega)]; omega
  · intro i _; rw [c 72 (by omega)]; omega
  · intro i _; rw [c 107 (by omega)]; omega
  · intro i _; rw [c 115 (by omega)]; omega
  · intro i _; rw [c 123 (by omega)]; omega
  · intro i _; rw [c 131 (by omega)]; omega
  · intro k k0 k1 _; rw [d _ (by omega)]; omega
  · intro m m0 m1 k k0 k1 _; rw [c 200 (by omega)]; omega
  · intro q; rw [v1] at q; omega
  · exact c 184 (by omega) 1000
  · refine ⟨fun d d0 d1 d2 => ?_, fun p p0 p1 p2 => ?_⟩
    · rw [v2] at d2; omega
    · rw [v3] at p2; omega
  · refine ⟨fun p p0 p1 p2 => ?_, fun m m0 m1 _ p p0 p1 p2 => ?_, fun j j0 j1 _ p p0 p1 p2 => ?_⟩ <;> (rw [v3] at p2; omega)
theorem mkr_chk : (∀ m : Nat, m < 4 → rd hc_556 75 (m : Int) = 102 + 8 * (m : Int) ∧ rd hc_556 199 (m : Int) = 0) ∧ rd hc_556 1 6 = 0 := ⟨by decide +kernel, by decide +kernel⟩
theorem mkr0 : MKR hc_556 := by
  obtain ⟨c1, c2⟩ := mkr_chk
  refine ⟨fun m h0 h1 => ?_, by rw [c2]; decide, fun m h0 h1 => ?_⟩
  · have y := (c1 m.toNat (by omega)).1
    rw [show ((m.toNat : Nat) : Int) = m by omega] at y
    exact y
  · have y := (c1 m.toNat (by omega)).2
    rw [show ((m.toNat : Nat) : Int) = m by omega] at y
    have z := mbit_0 m.toNat (by omega)
    rw [show ((m.toNat : Nat) : Int) = m by omega] at z
    rw [y, c2, z]
theorem scr_chk : rd hc_556 1 1 = 5 ∧ rd hc_556 5 0 = rd hc_556 188 0 ∧ rd hc_556 5 2 = 0 ∧ rd hc_556 5 4 = 0 ∧ rd hc_556 5 6 = 0 ∧ rd hc_556 182 28 = -1 ∧ rd hc_556 182 29 = -1 ∧ rd hc_556 60 0 = rd hc_556 198 0 ∧ rd hc_556 60 1 = rd hc_556 198 1 ∧ rd hc_556 60 3 = 0 ∧ rd hc_556 1 8 = 0 ∧ rd hc_556 1 9 = 0 ∧ rd hc_556 182 25 = 0 := ⟨by decide +kernel, by decide +kernel, by decide +kernel, by decide +kernel, by decide +kernel, by decide +kernel, by decide +kernel, by decide +kernel, by decide +kernel, by decide +kernel, by decide +kernel, by decide +kernel, by decide +kernel⟩
theorem scr_chk2 : (∀ d : Nat, d < 14 → rd hc_556 62 (d : Int) = 0 ∧ rd hc_556 198 ((d : Int) + 20) = 0) ∧ (∀ i : Nat, i < 16 → rd hc_556 76 (i : Int) = 134 + 3 * (i : Int)) := ⟨by decide +kernel, by decide +kernel⟩
theorem noE1 : (hc_556.all (fun e => !(e.1 == 10) && !(e.1 == 11))) = true := by decide +kernel
theorem scr0 : SCR hc_556 := by
  obtain ⟨s1, s2, s3, s4, s5, s6, s7, s8, s9, sa, sb, sc, sd⟩ := scr_chk
  obtain ⟨-, v2, v3, -⟩ := val0
  have n := List.all_eq_true.mp noE1
  have z : ∀ a, (a = 10 ∨ a = 11) → ∀ i, rd hc_556 a i = 0 := by
    intro a ha i
    refine rd_none (fun e he q => ?_)
    have x := n e he
    simp only [Bool.and_eq_true, Bool.not_eq_true', beq_eq_false_iff_ne] at x
    omega
  have st : ∀ s hr, stl hc_556 5 [] hc_556 s hr := fun s hr => by
    refine ⟨fun j j0 j1 => ?_, fun j j0 j1 => ?_⟩
    · show bitZ (rd hc_556 10 (24 * s + hr)) j ↔ (j < rd hc_556 5 2 ∧ _)
      rw [z 10 (Or.inl rfl), s3]
      exact ⟨fun y => absurd y bit_zero, fun y => by omega⟩
    · show bitZ (rd hc_556 11 (24 * s + hr)) j ↔ (j < rd hc_556 5 2 ∧ _)
      rw [z 11 (Or.inr rfl), s3]
      exact ⟨fun y => absurd y bit_zero, fun y => by omega⟩
  refine ⟨?_, ⟨[], ?_, ?_⟩, s6, s7, ⟨s8, s9, fun p p0 p1 => by omega, fun d d0 d1 => ?_, fun p p0 p1 => by rw [sa]; exact bit_zero⟩, ?_, fun m h0 h1 hm => ?_, fun i i0 i1 => ?_⟩
  · unfold QFR
    rw [s1]
    exact ⟨s2, s3.trans v2.symm, s4.trans v3.symm, fun i j hi _ => by omega, fun i j hi _ => by omega, fun _ => by rw [val0.1]; decide, fun y => by omega, by omega⟩
  · rw [s1]
    exact ⟨s5, fun i hi => absurd hi (Nat.not_lt_zero i), Nat.zero_le _, trivial, fun y => absurd y (by decide), fun c hc => absurd hc List.not_mem_nil⟩
  · rw [s1]
    exact fun s hr _ _ _ _ => st s hr
  · have y := scr_chk2.1 d.toNat (by omega)
    rw [Int.toNat_of_nonneg d0] at y
    rw [show (0 : Int) + d + 20 = d + 20 by omega, y.2]
    exact ⟨y.1, by decide, by decide⟩
  · unfold UN
    rw [sb, sc]
    exact ⟨by decide, by decide, sd, fun k k0 k1 => by omega⟩
  · have y := (mkr_chk.1 m.toNat (by omega)).2
    rw [show ((m.toNat : Nat) : Int) = m by omega] at y
    exact absurd y hm
  · have y := scr_chk2.2 i.toNat (by omega)
    rw [Int.toNat_of_nonneg i0] at y
    exact y
theorem eql0 : EQL hc_556 := ⟨val0.2.2.2, fun i i0 i1 => by rw [show rd hc_556 2 0 = 0 by decide +kernel] at i1; omega, pt0, rfl, rfl, by decide +kernel, mkr0, scr0⟩
theorem gl_0 : lmGoZ 9 2 64 mm_OneSidedLaw_law 0 [some (.inr (.inr (-2))), none, none, none] [] 0 [] = some (4, [some (.inr (.inr (-2))), none, none, none], [.inr (.inr 1), .inr (.inr 1)], 1, []) := goOk_ok (by decide +kernel)
theorem gl_7 : lmGoZ 9 3 64 mm_OneSidedLaw_law 7 [some (.inr (.inr (-2))), none, none, none] [.inr (.inr 1)] 181 hc_302 = some (12, [some (.inr (.inr (-2))), some (.inr (.inr 1)), none, none], [.inr (.inr 182), .inr (.inr 182)], 182, hc_302) := goOk_ok (by decide +kernel)
theorem gl_15 : lmGoZ 9 3 64 mm_OneSidedLaw_law 15 [some (.inr (.inr (-2))), some (.inr (.inr 1)), none, none] [.inr (.inr 182)] 212 hc_556 = some (18, [some (.inr (.inr (-2))), some (.inr (.inr 1)), some (.inr (.inr 182)), some (.inl 0)], [], 212, hc_556) := goOk_ok (by decide +kernel)
theorem dl_4 : decode mm_OneSidedLaw_law.2.1 4 = .ok (.invokespecial 9, 3) := by decide +kernel
theorem dl_12 : decode mm_OneSidedLaw_law.2.1 12 = .ok (.invokespecial 12, 3) := by decide +kernel
theorem kl_4 : lmK mm_OneSidedLaw_law.2.2.2.2.1 1 (.invokespecial 9) [.inr (.inr 1), .inr (.inr 1)] = some (0, [.inr (.inr 1)], [.inr (.inr 1)]) := callOk_ok (by decide +kernel)
theorem kl_12 : lmK mm_OneSidedLaw_law.2.2.2.2.1 182 (.invokespecial 12) [.inr (.inr 182), .inr (.inr 182)] = some (157, [.inr (.inr 182)], [.inr (.inr 182)]) := callOk_ok (by decide +kernel)
theorem run_law {xs : Nat → Int} {xl : Nat} (hxs : ∀ j, i32 (xs j)) (hx : xl ≤ 3584) : ∃ (f : Nat) (h' : LH), lmRun xs xl f 64 mm_OneSidedLaw_law 0 [some (.inr (.inr (-2))), none, none, none] [] 0 [] = some (some (.inl 1), 212, h') := by
  obtain ⟨f, r, h', q1, q2⟩ := law_loop (Q := fun r _ => r = some (.inl 1)) hxs hx (fun _ _ => rfl) xl 0 hc_556 (by omega) (by omega) (by omega) inv0 eql0
  subst q2
  have g : ∃ f, lmRun xs xl f 64 mm_OneSidedLaw_law 0 [some (.inr (.inr (-2))), none, none, none] [] 0 [] = some (some (.inl 1), 212, h') := by
    refine lmGoZ_ok _ _ _ _ _ _ _ _ _ _ _ _ _ _ gl_0 ?_
    refine run_call (d := 63) (r := none) (n' := 181) (h' := hc_302) (M' := mm_OneSided_init) dl_4 rfl rfl kl_4 rfl (by obtain ⟨f, hf⟩ := run_ini (xs := xs) (xl := xl); exact ⟨f, lmRun_le f f 8 63 _ _ _ _ _ _ _ (Nat.le_refl _) (by decide) hf⟩) ?_
    refine lmGoZ_ok _ _ _ _ _ _ _ _ _ _ _ _ _ _ gl_7 ?_
    refine run_call (d := 63) (r := none) (n' := 212) (h' := hc_556) (M' := mm_init) dl_12 rfl rfl kl_12 rfl (by obtain ⟨f, hf⟩ := run_mod (xs := xs) (xl := xl); exact ⟨f, lmRun_le f f 8 63 _ _ _ _ _ _ _ (Nat.le_refl _) (by decide) hf⟩) ?_
    refine lmGoZ_ok _ _ _ _ _ _ _ _ _ _ _ _ _ _ gl_15 ?_
    exact ⟨f, q1⟩
  obtain ⟨f2, hf2⟩ := g
  exact ⟨f2, h', hf2⟩
end
