/-! LM, part 77: the reference's errand -/
section ER
variable {xs : Nat → Int} {xl e : Nat} {h : LH} {Q : Option LV → LH → Prop}
/-- errand, a root -/
theorem D_errand {v1 v2 : Int} (he : 9 ≤ e) (hI : INV h) (k : ∀ r g, INV g → frW (wr h 182 0 0) g → Q (some (.inl r)) g) : Rn xs xl e mm_errand 0 [some (.inr (.inr 182)), some (.inl v1), some (.inl v2), none] [] h Q := by
  have i0 : INV (wr h 182 0 0) := wF_thrown hI (by omega) (by omega)
  have wrong : Q (some (.inl (-2))) (wr h 182 0 0) := k _ _ i0 (fun _ _ _ _ _ _ _ => rfl)
  have np := rq_people hI.1
  refine B_errand_0 (RF_of hI.1) (by omega) ⟨fun _ => wrong, fun c1 => ⟨fun _ => wrong, fun c2 => ⟨fun _ => wrong, fun c3 => ⟨8, by omega, ?_⟩⟩⟩⟩
  refine D_findWay (K := key (wr h 182 0 0)) (S := rd (wr h 182 0 0) 198) (by omega) ⟨i0, rfl, rfl⟩ (by omega) (by omega) (by omega) ?_ (fun r y yc yf r0 r1 ym yd => ?_)
  · have w := (INVw i0).1 v1 c1 (by omega) (by rw [rdw_ne (by decide)]; exact c2)
    rw [show 0 + 2 + v1 = 0 + v1 + 2 by omega] at w
    exact w
  · have m := rF_wayMany yc.1.1
    exact B_errand_24 (RF_of yc.1.1) (by omega) ⟨fun _ => k _ _ yc.1 yf, fun _ => ⟨fun a => ⟨fun b => ⟨fun c => ⟨by omega, by omega, k _ _ yc.1 yf⟩, fun c => ⟨by omega, by omega, by omega, by omega, fun _ => k _ _ yc.1 yf, fun _ => k _ _ yc.1 yf⟩⟩, fun _ => k _ _ yc.1 yf⟩, fun _ => k _ _ yc.1 yf⟩⟩
end ER
