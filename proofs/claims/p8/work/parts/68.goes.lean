/-! LM, part 68: the reference's goes -/
def frG (b p d r : Int) (h g : LH) : Prop := (∀ a i, a ≠ 196 → a ≠ 197 → ¬ (a = 198 ∧ (i = b + p + 2 ∨ i = b + p + 14 ∨ i = b + d + 20 ∨ i = b + p + 8)) → rd g a i = rd h a i) ∧ (rd g 198 (b + p + 2) = rd h 198 (b + p + 2) ∨ rd g 198 (b + p + 2) = r)
section GO
variable {xs : Nat → Int} {xl e : Nat} {h : LH} {Q : Option LV → LH → Prop}
theorem D_goes {b p d : Int} (he : 5 ≤ e) (hI : INV h) (hb : b = 0 ∨ b = 1470 ∨ b = 1540) (hp : 0 ≤ p ∧ p ≤ 5) (hd : 0 ≤ d ∧ d ≤ 13) (hdoor : b = 0 → d < rd h 188 1) (k : ∀ r g, INV g → -1 ≤ r → r ≤ 9 → (d < rd h 188 1 → 0 ≤ r → r < rd h 188 0) → frG b p d r h g → Q (some (.inl r)) g) : Rn xs xl e mm_goes 0 [some (.inr (.inr 182)), some (.inl b), some (.inl p), some (.inl d), none] [] h Q := by
  have rr := rq_rooms hI.1
  have none1 : Rn xs xl e mm_goes 70 [some (.inr (.inr 182)), some (.inl b), some (.inl p), some (.inl d), none] [.inl (-1)] h Q := B_goes_70 (RF_of hI.1) (by omega) hp hd (by omega) (by omega) ⟨fun _ => k _ _ hI (by omega) (by omega) (fun _ q => by omega) ⟨fun _ _ _ _ _ => rfl, Or.inl rfl⟩, fun q => by omega⟩
  refine B_goes_0 (RF_of hI.1) (by omega) hp hd (by omega) ⟨fun _ => none1, fun c1 => ⟨fun c2 => ⟨4, by omega, ?_⟩, fun _ => none1⟩⟩
  have qs := rq_p0 hI.1 (i := 4 * p + 116) (d := p) (by omega) (by omega) (by omega)
  have qr := rs_where hI.1 (i := b + p + 2) b p (by omega) (by omega) (by omega) (by omega) (by omega) (by omega)
  have qh := rs_now hI.1 (i := b) b 0 (by omega) (by omega) (by omega) (by omega) (by omega) (by omega)
  have cap := rq_d6 hI.1 (i := 8 * d + 10) (d := d) (by omega) (by omega) (by omega)
  refine D_leadsNow (K := key h) (S := rd h 198) (by omega) ⟨hI, rfl, rfl⟩ (by omega) hd qs qr (by omega) (fun u uw uf => ?_)
  have nw := NW_ok (key h) (rd h 198 (b + 1)) (s := rd h 188 (4 * p + 116)) (d := d) (room := rd h 198 (b + p + 2)) (hr := rd h 198 b) hd qs qr (by omega)
  generalize NW (key h) (rd h 198 (b + 1)) (rd h 188 (4 * p + 116)) d (rd h 198 (b + p + 2)) (rd h 198 b) = r at *
  have lt : d < rd h 188 1 → 0 ≤ r → r < rd h 188 0 := by
    intro q1 q2
    obtain ⟨a1, a2⟩ := nw.2 q2
    have sq := (INV4 hI).2.2.2.1 d hd.1 hd.2 q1
    rw [show 5 + 8 * d = 8 * d + 5 by omega, show 6 + 8 * d = 8 * d + 6 by omega] at sq
    have a1' : r = rd h 188 (8 * d + 5) + rd h 188 (8 * d + 6) - rd h 198 (b + p + 2) := a1
    have a2' : rd h 198 (b + p + 2) = rd h 188 (8 * d + 5) ∨ rd h 198 (b + p + 2) = rd h 188 (8 * d + 6) := a2
    clear a1 a2
    omega
  have nw1 := nw.1
  clear nw
  have u8 : ∀ i, rd u 198 i = rd h 198 i := fun i => uf 198 i (by decide) (by decide)
  have fin : ∀ N V : Int, 0 ≤ r → i32 N → 0 ≤ V → V ≤ 1 → Q (some (.inl r)) (wr (wr (wr (wr u 198 (b + p + 2) r) 198 (b + p + 14) 1) 198 (b + d + 20) N) 198 (b + p + 8) V) := by
    intro N V r0 iN v0 v1
    have r1 := ws uw.1.1 (i := b + p + 2) (v := r) 2 7 0 9 (by omega) (by omega) (by omega) (by decide +kernel) (by omega) (by omega) (by unfold i32; omega)
    have r2 := ws r1 (i := b + p + 14) (v := 1) 14 19 0 1 (by omega) (by omega) (by omega) (by decide +kernel) (by omega) (by omega) (by unfold i32; omega)
    have r3 := ws r2 (i := b + d + 20) (v := N) 20 33 (-2147483648) 2147483647 (by omega) (by omega) (by omega) (by decide +kernel) iN.1 iN.2 iN
    have r4 := ws r3 (i := b + p + 8) (v := V) 8 13 0 1 (by omega) (by omega) (by omega) (by decide +kernel) v0 v1 (by unfold i32; omega)
    have fr : ∀ a i, ¬ (a = 198 ∧ (i = b + p + 2 ∨ i = b + p + 14 ∨ i = b + d + 20 ∨ i = b + p + 8)) → rd (wr (wr (wr (wr u 198 (b + p + 2) r) 198 (b + p + 14) 1) 198 (b + d + 20) N) 198 (b + p + 8) V) a i = rd u a i := by
      intro a i n
      rw [rd_wr, if_neg (by omega), rd_wr, if_neg (by omega), rd_wr, if_neg (by omega), rd_wr, if_neg (by omega)]
    have wx : rd (wr (wr (wr (wr u 198 (b + p + 2) r) 198 (b + p + 14) 1) 198 (b + d + 20) N) 198 (b + p + 8) V) 198 (b + p + 2) = r := by
      rw [rdw_nei (by omega), rdw_nei (by omega), rdw_nei (by omega), rdw_eq]
    generalize wr (wr (wr (wr u 198 (b + p + 2) r) 198 (b + p + 14) 1) 198 (b + d + 20) N) 198 (b + p + 8) V = G at *
    have w := INVw uw.1
    have far : ∀ c, (∀ x, 0 ≤ x → x ≤ 5 → ¬ (c + 2 + x = b + p + 2 ∨ c + 2 + x = b + p + 14 ∨ c + 2 + x = b + d + 20 ∨ c + 2 + x = b + p + 8)) → wOk u c → wOk G c := fun c n z => wOk_of (fr 188 2 (by omega)) (fr 188 0 (by omega)) (fun x x0 x1 => fr 198 _ (fun q => n x x0 x1 q.2)) z
    refine k _ _ (INV_of r4 (SP4_of (fun b' j _ m1 _ _ => fr b' j (fun q => m1 q.1)) (INV4 uw.1)) ⟨?_, ?_, ?_⟩) nw1.1 nw1.2 lt ⟨fun a i n1 n2 n3 => (fr a i n3).trans (uf a i n1 n2), Or.inr wx⟩
    · by_cases z : b = 0
      · intro x x0 x1 x2
        rw [fr 188 2 (by omega)] at x2
        rw [fr 188 0 (by omega)]
        by_cases y : x = p
        · rw [y, show 0 + 2 + p = b + p + 2 by omega, wx, uf 188 0 (by decide) (by decide)]
          exact lt (hdoor z) r0
        · rw [fr 198 (0 + 2 + x) (by omega)]
          exact w.1 x x0 x1 x2
      · exact far 0 (fun x x0 x1 => by omega) w.1
    · intro m m0 m1 q
      rw [fr 199 m (by omega)] at q
      exact far _ (fun x x0 x1 => by omega) (w.2.1 m m0 m1 q)
    · intro j j0 j1 q
      rw [fr 182 25 (by omega)] at q
      exact far _ (fun x x0 x1 => by omega) (w.2.2 j j0 j1 q)
  refine B_goes_70 (RF_of uw.1.1) (by omega) hp hd nw1 (by omega) ⟨fun q => k _ _ uw.1 nw1.1 nw1.2 lt ⟨fun a i n1 n2 _ => uf a i n1 n2, Or.inl (u8 _)⟩, fun q => ?_⟩
  have e20 : rd (wr (wr u 198 (b + p + 2) r) 198 (b + p + 14) 1) 198 (b + d + 20) = rd h 198 (b + d + 20) := by
    rw [rdw_nei (by omega), rdw_nei (by omega)]
    exact u8 _
  have l20 := rX_state hI.1 (i := b + d + 20) (by omega) (ix := (0, 0, 1609, 1)) (lo := -2147483648) (hi := 2147483647) (st := 1) (by decide +kernel) (invs (s := 1) (k := b + d + 20) (by omega) (by omega) (by omega))
  rw [e20]
  refine ⟨by omega, fun _ => fin _ _ q (by unfold i32; omega) ?_ ?_, fun _ => fin _ _ q (by unfold i32; omega) (by omega) (by omega)⟩
  all_goals
    rw [rdw_nei (by omega), rdw_nei (by omega), rdw_nei (by omega), u8]
    have z := rs_done hI.1 (i := b + p + 8) b p (by omega) (by omega) (by omega) (by omega) (by omega) (by omega)
    omega
end GO
