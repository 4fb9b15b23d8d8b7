/-! p3, part b9: the reference's rooms, numbers behind words -/
section CK
variable {xs : Nat → Int} {xl e : Nat} {h : LH} {Q : Option LV → LH → Prop} {v1 v2 v3 : Int} {T : Int → Int} {n : Int} {V : Int → Int} {m : Nat} {s : Int × Nat}
theorem G_takeAfter (he : 3 ≤ e) (hs : RSK T n V m h s) (hw : 0 ≤ v1 ∧ v1 < 29) (hx : i32 v2 ∧ i32 v3) (k : ∀ h' r, RSK T n V m h' (tkN (tO T n) (tV T n 37) (tP T n) v2 v3 (tkW (tW T n 37 V) (tP T n) v1 s)) → frT h h' → ((tkN (tO T n) (tV T n 37) (tP T n) v2 v3 (tkW (tW T n 37 V) (tP T n) v1 s)).1 = 0 → r = tV T n 37 (tkW (tW T n 37 V) (tP T n) v1 s).2 ∧ v2 ≤ r ∧ r ≤ v3) → ((tkN (tO T n) (tV T n 37) (tP T n) v2 v3 (tkW (tW T n 37 V) (tP T n) v1 s)).1 ≠ 0 → r = 0) → Q (some (.inl r)) h') :
    Rn xs xl e mm_takeAfter 0 [some (.inr (.inr 182)), some (.inl v1), some (.inl v2), some (.inl v3)] [] h Q :=
  B_takeAfter_0 hs.1.1 ⟨2, by omega, G_takeWord (by omega) hs hw (fun h1 c1 f1 => B_takeAfter_5 c1.1.1 ⟨1, by omega, G_takeNumber (by omega) c1 hx (fun h2 r c2 f2 r1 r2 => B_takeAfter_11 c2.1.1 (k h2 r c2 (f1.trans f2) r1 r2))⟩)⟩
theorem G_takeRoom (he : 2 ≤ e) (hs : RSK T n V m h s) {R : Int} (hR : rd h 188 150 = R) (hr : 0 ≤ R ∧ R ≤ 10) (k : ∀ h' r, RSK T n V m h' (tkN (tO T n) (tV T n 37) (tP T n) 0 (R - 1) s) → frT h h' → ((tkN (tO T n) (tV T n 37) (tP T n) 0 (R - 1) s).1 = 0 → r = tV T n 37 s.2 ∧ 0 ≤ r ∧ r ≤ R - 1) → ((tkN (tO T n) (tV T n 37) (tP T n) 0 (R - 1) s).1 ≠ 0 → r = 0) → Q (some (.inl r)) h') :
    Rn xs xl e mm_takeRoom 0 [some (.inr (.inr 182))] [] h Q := by
  refine B_takeRoom_0 hs.1.1 ⟨by omega, 1, by omega, ?_⟩
  rw [hR]
  exact G_takeNumber (by omega) hs ⟨by unfold i32; omega, by unfold i32; omega⟩ (fun h2 r c2 f2 r1 r2 => B_takeRoom_15 c2.1.1 (k h2 r c2 f2 r1 r2))
end CK
