/-! LM, part 72: the reference's run -/
theorem wF_52 {h : LH} (hh : INV h) {v : Int} (iv : i32 v) : INV (wr h 182 52 v) := wrP (lo := -2147483648) (hi := 2147483647) hh (by unfold sens; omega) (Or.inl (by decide +kernel)) (leA1 (by decide +kernel)) iv.1 iv.2 iv
theorem wF_53 {h : LH} (hh : INV h) {v : Int} (iv : i32 v) : INV (wr h 182 53 v) := wrP (lo := -2147483648) (hi := 2147483647) hh (by unfold sens; omega) (Or.inl (by decide +kernel)) (leA1 (by decide +kernel)) iv.1 iv.2 iv
def frR (h h' : LH) : Prop := ∀ a i, a ≠ 196 → a ≠ 197 → a ≠ 201 → a ≠ 202 → ¬ (a = 198 ∧ 1540 ≤ i) → ¬ (a = 182 ∧ (i = 34 ∨ i = 35 ∨ i = 36 ∨ i = 52 ∨ i = 53)) → rd h' a i = rd h a i
theorem frR.w {h g : LH} (f : frR h g) {j v : Int} (hj : j = 52 ∨ j = 53) : frR h (wr g 182 j v) := fun a i n1 n2 n3 n4 n5 n6 => by
  rw [rd_wr, if_neg (by omega)]
  exact f a i n1 n2 n3 n4 n5 n6
section RU
variable {xs : Nat → Int} {xl e : Nat} {h : LH} {Q : Option LV → LH → Prop}
theorem D_findRun (he : 9 ≤ e) (hI : INV h) (k : ∀ g, INV g → frR h g → Q none g) : Rn xs xl e mm_findRun 0 [some (.inr (.inr 182)), none, none, none, none, none] [] h Q := by
  have l266 : ∀ (n : Nat) (g : LH) (v1 v2 v3 : Int) (o4 o5 : Option LV), 6 - v3 < n → 0 ≤ v3 → v3 ≤ 6 → INV g → frR h g → Rn xs xl e mm_findRun 266 [some (.inr (.inr 182)), some (.inl v1), some (.inl v2), some (.inl v3), o4, o5] [] g Q := by
    intro n
    induction n with
    | zero =>
      intro g v1 v2 v3 o4 o5 hn
      omega
    | succ n ih =>
      intro g v1 v2 v3 o4 o5 hn a0 a1 gI gf
      have np := rq_people gI.1
      exact B_findRun_266 (RF_of gI.1) ⟨a0, a1⟩ (by omega) ⟨fun _ => k g gI gf, fun c => ⟨fun _ => ih _ _ _ _ _ _ (by omega) (by omega) (by omega) (wF_53 gI (w32_in _)) (gf.w (by omega)), fun _ => ⟨fun _ => ih _ _ _ _ _ _ (by omega) (by omega) (by omega) (wF_53 gI (w32_in _)) (gf.w (by omega)), fun _ => ih _ _ _ _ _ _ (by omega) (by omega) (by omega) (wF_53 gI (w32_in _)) (gf.w (by omega))⟩⟩⟩
  have t259 : ∀ (g : LH) (v1 v2 : Int) (o3 o4 o5 : Option LV), INV g → frR h g → Rn xs xl e mm_findRun 259 [some (.inr (.inr 182)), some (.inl v1), some (.inl v2), o3, o4, o5] [] g Q := fun g v1 v2 o3 o4 o5 gI gf => B_findRun_259 (RF_of gI.1) (l266 7 _ _ _ 0 _ _ (by omega) (by omega) (by omega) (wF_53 gI (by unfold i32; omega)) (gf.w (by omega)))
  have l19 : ∀ (n : Nat) (g : LH) (v1 v2 : Int) (o3 o4 o5 : Option LV), (v2 = 0 ∨ 24 - rd g 198 1540 < n) → INV g → wOk g 1540 → frR h g → Rn xs xl e mm_findRun 19 [some (.inr (.inr 182)), some (.inl v1), some (.inl v2), o3, o4, o5] [] g Q := by
    intro n
    induction n with
    | zero =>
      intro g v1 v2 o3 o4 o5 hn gI gw gf
      have qh := rs_now gI.1 (i := 1540) 1540 0 (by omega) (by omega) (by omega) (by omega) (by omega) (by omega)
      exact B_findRun_19 (RF_of gI.1) ⟨fun _ => t259 g _ _ _ _ _ gI gf, fun c => by omega⟩
    | succ n ih =>
      intro g v1 v2 o3 o4 o5 hn gI gw gf
      refine B_findRun_19 (RF_of gI.1) ⟨fun _ => t259 g _ _ _ _ _ gI gf, fun c => ?_⟩
      have hH : 24 - rd g 198 1540 < (n : Int) + 1 := by omega
      generalize hHe : rd g 198 1540 = H at *
      have wp : ∀ (u : LH) (j v : Int), wOk u 1540 → wOk (wr u 182 j v) 1540 := fun u j v z => wOk_of (rdw_ne (by decide)) (rdw_ne (by decide)) (fun p _ _ => rdw_ne (by decide)) z
      have t233 : ∀ (u : LH) (v1 v2 v4 : Int) (o5 : Option LV), INV u → wOk u 1540 → frR h u → rd u 198 1540 = H → Rn xs xl e mm_findRun 233 [some (.inr (.inr 182)), some (.inl v1), some (.inl v2), some (.inl H), some (.inl v4), o5] [] u Q := by
        intro u v1 v2 v4 o5 uI uw uf uH
        refine B_findRun_233 (RF_of uI.1) ⟨fun _ => ih u _ 0 _ _ _ (Or.inl rfl) uI uw uf, fun c2 => ⟨0, by omega, D_passes uI (by omega) (by omega) (fun w wI wf wt => B_findRun_256 (RF_of wI.1) (ih w _ 1 _ _ _ (Or.inr ?_) wI ?_ ?_))⟩⟩
        · have := wt (by omega)
          omega
        · exact wOk_of (wf 188 2 (by omega)) (wf 188 0 (by omega)) (fun p p0 p1 => wf 198 _ (by omega)) uw
        · exact fun a i n1 n2 n3 n4 n5 n6 => (wf a i (by omega)).trans (uf a i n1 n2 n3 n4 n5 n6)
      have l120 : ∀ (m : Nat) (u : LH) (v1 v2 v4 : Int) (o5 : Option LV), 6 - v4 < m → 0 ≤ v4 → v4 ≤ 6 → INV u → wOk u 1540 → frR h u → rd u 198 1540 = H → Rn xs xl e mm_findRun 120 [some (.inr (.inr 182)), some (.inl v1), some (.inl v2), some (.inl H), some (.inl v4), o5] [] u Q := by
        intro m
        induction m with
        | zero =>
          intro u v1 v2 v4 o5 hm
          omega
        | succ m im =>
          intro u v1 v2 v4 o5 hm a0 a1 uI uw uf uH
          have np := rq_people uI.1
          have t172 : ∀ v5 : Int, v4 ≤ 5 → Rn xs xl e mm_findRun 172 [some (.inr (.inr 182)), some (.inl v1), some (.inl v2), some (.inl H), some (.inl v4), some (.inl v5)] [] u Q := by
            intro v5 l
            have nx : ∀ (w v : Int), i32 v → Rn xs xl e mm_findRun 120 [some (.inr (.inr 182)), some (.inl w), some (.inl v2), some (.inl H), some (.inl (v4 + 1)), some (.inl v5)] [] (wr u 182 52 v) Q := fun w v iv => im _ _ _ _ _ (by omega) (by omega) (by omega) (wF_52 uI iv) (wp _ _ _ uw) (uf.w (by omega)) (by rw [rdw_ne (by decide)]; exact uH)
            exact B_findRun_172 (RF_of uI.1) ⟨a0, l⟩ (by omega) ⟨fun _ => nx _ _ (w32_in _), fun _ => ⟨fun _ => ⟨fun _ => nx _ _ (w32_in _), fun _ => nx _ _ (w32_in _)⟩, fun _ => nx _ _ (w32_in _)⟩⟩
          exact B_findRun_120 (RF_of uI.1) ⟨a0, a1⟩ (by omega) ⟨fun _ => t233 u _ _ _ _ uI uw uf uH, fun c2 => ⟨fun _ => t172 _ (by omega), fun _ => ⟨fun _ => t172 _ (by omega), fun _ => t172 _ (by omega)⟩⟩⟩
      have l35 : ∀ (m : Nat) (u : LH) (v1 v2 v4 : Int) (o5 : Option LV), 6 - v4 < m → 0 ≤ v4 → v4 ≤ 6 → INV u → wOk u 1540 → frR h u → rd u 198 1540 = H → Rn xs xl e mm_findRun 35 [some (.inr (.inr 182)), some (.inl v1), some (.inl v2), some (.inl H), some (.inl v4), o5] [] u Q := by
        intro m
        induction m with
        | zero =>
          intro u v1 v2 v4 o5 hm
          omega
        | succ m im =>
          intro u v1 v2 v4 o5 hm a0 a1 uI uw uf uH
          have np := rq_people uI.1
          have t90 : ∀ (y : LH) (v5 : Int), v4 ≤ 5 → INV y → wOk y 1540 → frR h y → rd y 198 1540 = H → (v5 ≠ 0 → rd y 202 0 < rd y 188 1) → Rn xs xl e mm_findRun 90 [some (.inr (.inr 182)), some (.inl v1), some (.inl v2), some (.inl H), some (.inl v4), some (.inl v5)] [] y Q := by
            intro y v5 l yI yw yf yH yd
            refine B_findRun_90 (RF_of yI.1) ⟨a0, l⟩ ⟨fun _ => im y _ _ _ _ (by omega) (by omega) (by omega) yI yw yf yH, fun c5 => ⟨5, by omega, ?_⟩⟩
            have dd := rA_wayDoors yI.1 (i := 0) (by omega)
            have lt := yd c5
            refine D_goes (by omega) yI (by omega) ⟨a0, l⟩ dd (by omega) (fun r w wI r0 r1 rl wf => B_findRun_110 (RF_of wI.1) ⟨a0, l⟩ (im w _ _ _ _ (by omega) (by omega) (by omega) wI ?_ ?_ ?_))
            · intro x x0 x1 x2
              rw [wf.1 188 2 (by decide) (by decide) (by omega)] at x2
              rw [wf.1 188 0 (by decide) (by decide) (by omega)]
              have old := yw x x0 x1 x2
              by_cases z : x = v4
              · subst z
                rw [show 1540 + 2 + x = 1540 + x + 2 by omega] at old ⊢
                rcases wf.2 with q | q
                · rw [q]
                  exact old
                · rw [q]
                  have rr := rq_rooms yI.1
                  by_cases rz : 0 ≤ r
                  · exact rl lt rz
                  · have wh := rs_where yI.1 (i := 1540 + x + 2) 1540 x (by omega) (by omega) (by omega) (by omega) (by omega) (by omega)
                    omega
              · rw [wf.1 198 (1540 + 2 + x) (by decide) (by decide) (by omega)]
                exact old
            · exact fun a i n1 n2 n3 n4 n5 n6 => (wf.1 a i n1 n2 (by omega)).trans (yf a i n1 n2 n3 n4 n5 n6)
            · rw [wf.1 198 1540 (by decide) (by decide) (by omega)]
              exact yH
          refine B_findRun_35 (RF_of uI.1) ⟨a0, a1⟩ (by omega) ⟨fun _ => B_findRun_117 (RF_of uI.1) (l120 7 u _ _ 0 _ (by omega) (by omega) (by omega) uI uw uf uH), fun c2 => ⟨fun _ => t90 u 0 (by omega) uI uw uf uH (fun q => absurd rfl q), fun _ => ⟨fun _ => t90 u 0 (by omega) uI uw uf uH (fun q => absurd rfl q), fun _ => ⟨8, by omega, ?_⟩⟩⟩⟩
          refine D_findWay (K := key u) (S := rd u 198) (by omega) ⟨uI, rfl, rfl⟩ (by omega) (by omega) (by omega) ?_ (fun r y yc yf r0 r1 _ yd => ?_)
          · have := uw v4 a0 (by omega) c2
            rw [show 1540 + 2 + v4 = 1540 + v4 + 2 by omega] at this
            exact this
          · have y8 : ∀ i, rd y 198 i = rd u 198 i := fun i => by rw [yc.2.2]
            have yq : ∀ i, rd y 188 i = rd u 188 i := fun i => yf 188 i (by decide) (by decide) (by decide) (by decide) (by omega)
            have yw : wOk y 1540 := wOk_of (yq _) (yq _) (fun p _ _ => y8 _) uw
            have yf' : frR h y := fun a i n1 n2 n3 n4 n5 n6 => (yf a i n1 n2 n3 n4 (by omega)).trans (uf a i n1 n2 n3 n4 n5 n6)
            have yH : rd y 198 1540 = H := (y8 _).trans uH
            exact B_findRun_73 (RF_of yc.1.1) ⟨fun _ => t90 y 0 (by omega) yc.1 yw yf' yH (fun q => absurd rfl q), fun _ => ⟨fun _ => t90 y 0 (by omega) yc.1 yw yf' yH (fun q => absurd rfl q), fun c4 => t90 y 1 (by omega) yc.1 yw yf' yH (fun _ => by rw [yq 1]; exact yd c4)⟩⟩
      exact l35 7 g _ _ 0 _ (by omega) (by omega) (by omega) gI gw gf hHe
  refine B_findRun_0 (RF_of hI.1) ⟨0, by omega, D_copies hI.1 (by omega) (by omega) (by omega) (fun u ur uf uc => ?_)⟩
  have uI : INV u := INV_far hI ur (fun a i n _ _ => uf a i (by omega))
  have uw : wOk u 1540 := wOk_cp1 ⟨uf, uc⟩ (by omega) (INVw hI).1
  have uR : frR h u := fun a i _ _ _ _ n _ => uf a i (by omega)
  have i1 : INV (wr u 182 52 0) := wF_52 uI (by unfold i32; omega)
  have qh := rs_now i1.1 (i := 1540) 1540 0 (by omega) (by omega) (by omega) (by omega) (by omega) (by omega)
  exact B_findRun_10 (RF_of ur) (l19 25 _ _ _ _ _ _ (Or.inr (by omega)) i1 (wOk_of (rdw_ne (by decide)) (rdw_ne (by decide)) (fun p _ _ => rdw_ne (by decide)) uw) (uR.w (by omega)))
/-- run, a root -/
theorem D_run {v1 : Int} (he : 10 ≤ e) (hI : INV h) (k : ∀ r g, INV g → frR (wr h 182 0 0) g → Q (some (.inl r)) g) : Rn xs xl e mm_run 0 [some (.inr (.inr 182)), some (.inl v1)] [] h Q := by
  have i0 : INV (wr h 182 0 0) := wF_thrown hI (by omega) (by omega)
  exact B_run_0 (RF_of hI.1) ⟨9, by omega, D_findRun (by omega) i0 (fun g gI gf => B_run_9 (RF_of gI.1) ⟨fun _ => ⟨fun _ => k _ _ gI gf, fun _ => k _ _ gI gf⟩, fun _ => k _ _ gI gf⟩)⟩
end RU
