section
/-! p3, part c3: a door's line, as the reference reads it -/
section CN
variable {xs : Nat → Int} {xl e : Nat} {h : LH} {Q : Option LV → LH → Prop} {T : Int → Int} {n : Int} {V : Int → Int} {m : Nat} {s : Int × Nat} {N : List Nat} {D v1 v3 v4 w2 : Int}
theorem G_drT4 (he : 2 ≤ e) (hd : 0 ≤ D ∧ D < 14) (hs : RSK T n V m h s) (hD : rd h 188 151 = D)
    (k : ∀ h', RSK T n V m h' (opN (tO T n) (tV T n 37) (tW T n 37 V) (tP T n) 6 0 9 s) → ((opN (tO T n) (tV T n 37) (tW T n 37 V) (tP T n) 6 0 9 s).1 = 0 → rd h' 188 (8 * D + 154 + 7) = opV (tV T n 37) (tW T n 37 V) 6 0 s) → rd h' 188 151 = D + 1 → rd h' 188 (8 * D + 154 + 6) = w2 → (∀ a i, ¬ muTK a i → ¬ (a = 188 ∧ (i = 151 ∨ i = 8 * D + 154 + 6 ∨ i = 8 * D + 154 + 7)) → rd h' a i = rd h a i) → Q none h') :
    Rn xs xl e mm_readDoor 268 [some (.inr (.inr 182)), some (.inl v1), some (.inl (8 * D + 154)), some (.inl v3), some (.inl v4)] [.inl w2, .inl (8 * D + 154 + 6), .inr (.inr 188)] h Q := by
  have fin : ∀ h2 r, RSK T n V m h2 (opN (tO T n) (tV T n 37) (tW T n 37 V) (tP T n) 6 0 9 s) → frT (wr h 188 (8 * D + 154 + 6) w2) h2 → ((opN (tO T n) (tV T n 37) (tW T n 37 V) (tP T n) 6 0 9 s).1 = 0 → r = opV (tV T n 37) (tW T n 37 V) 6 0 s) → Rn xs xl e mm_readDoor 297 [some (.inr (.inr 182)), some (.inl v1), some (.inl (8 * D + 154)), some (.inl v3), some (.inl v4)] [.inl r, .inl (8 * D + 154 + 7), .inr (.inr 188)] h2 Q := by
    intro h2 r c2 f2 q2
    have D2 : rd (wr h2 188 (8 * D + 154 + 7) r) 188 151 = D := by rw [rdw_nei (by omega), f2 _ _ (by unfold muTK; omega), rdw_nei (by omega), hD]
    refine B_readDoor_297 c2.1.1 ⟨by omega, by omega, ?_⟩
    rw [D2]
    refine k _ (RSK_w (RSK_w c2)) (fun z => ?_) rdw_eq ?_ (fun a i n1 n2 => ?_)
    · rw [rdw_nei (by omega), rdw_eq]; exact q2 z
    · rw [rdw_nei (by omega), rdw_nei (by omega), f2 _ _ (by unfold muTK; omega), rdw_eq]
    · rw [rd_wr, if_neg (fun z => n2 (by omega)), rd_wr, if_neg (fun z => n2 (by omega)), f2 _ _ n1, rd_wr, if_neg (fun z => n2 (by omega))]
  refine B_readDoor_268 hs.1.1 ⟨by omega, by omega, 1, by omega, G_hasWord (by omega) (RSK_w hs) (by omega) (fun h1 s1 f1 => ?_)⟩
  by_cases b : tkB (tW T n 37 V) 6 s = true
  · rw [if_pos b] at s1 ⊢
    refine B_readDoor_283 s1.1.1 ⟨fun c => absurd c (by decide), fun _ => ⟨1, by omega, G_takeNumber (by omega) s1 ⟨by unfold i32; omega, by unfold i32; omega⟩ (fun h2 r s2 f2 q2 _ => B_readDoor_293 s2.1.1 (fin h2 r ?_ (f1.trans f2) ?_))⟩⟩
    · unfold opN; rw [if_pos b]; exact s2
    · unfold opN opV; rw [if_pos b, if_pos b]; exact fun z => (q2 z).1
  · rw [if_neg b] at s1 ⊢
    refine B_readDoor_283 s1.1.1 ⟨fun _ => fin h1 0 ?_ f1 ?_, fun c => absurd rfl c⟩
    · unfold opN; rw [if_neg b]; exact s1
    · unfold opV; rw [if_neg b]; exact fun _ => rfl
theorem G_drT3 (he : 2 ≤ e) (hd : 0 ≤ D ∧ D < 14) (hs : RSK T n V m h s) (hD : rd h 188 151 = D)
    (k : ∀ h', RSK T n V m h' (opN (tO T n) (tV T n 37) (tW T n 37 V) (tP T n) 6 0 9 (opN (tO T n) (tV T n 37) (tW T n 37 V) (tP T n) 5 1 9 s)) → ((opN (tO T n) (tV T n 37) (tW T n 37 V) (tP T n) 6 0 9 (opN (tO T n) (tV T n 37) (tW T n 37 V) (tP T n) 5 1 9 s)).1 = 0 → rd h' 188 (8 * D + 154 + 6) = opV (tV T n 37) (tW T n 37 V) 5 1 s ∧ rd h' 188 (8 * D + 154 + 7) = opV (tV T n 37) (tW T n 37 V) 6 0 (opN (tO T n) (tV T n 37) (tW T n 37 V) (tP T n) 5 1 9 s)) → rd h' 188 151 = D + 1 → rd h' 188 (8 * D + 154 + 5) = w2 → (∀ a i, ¬ muTK a i → ¬ (a = 188 ∧ (i = 151 ∨ (8 * D + 154 + 5 ≤ i ∧ i ≤ 8 * D + 154 + 7))) → rd h' a i = rd h a i) → Q none h') :
    Rn xs xl e mm_readDoor 240 [some (.inr (.inr 182)), some (.inl v1), some (.inl (8 * D + 154)), some (.inl v3), some (.inl v4)] [.inl w2, .inl (8 * D + 154 + 5), .inr (.inr 188)] h Q := by
  have fin : ∀ h2 r, RSK T n V m h2 (opN (tO T n) (tV T n 37) (tW T n 37 V) (tP T n) 5 1 9 s) → frT (wr h 188 (8 * D + 154 + 5) w2) h2 → ((opN (tO T n) (tV T n 37) (tW T n 37 V) (tP T n) 5 1 9 s).1 = 0 → r = opV (tV T n 37) (tW T n 37 V) 5 1 s) → Rn xs xl e mm_readDoor 268 [some (.inr (.inr 182)), some (.inl v1), some (.inl (8 * D + 154)), some (.inl v3), some (.inl v4)] [.inl r, .inl (8 * D + 154 + 6), .inr (.inr 188)] h2 Q := by
    intro h2 r c2 f2 q2
    refine G_drT4 he hd c2 (by rw [f2 _ _ (by unfold muTK; omega), rdw_nei (by omega), hD]) (fun h3 c3 q3 d3 w3 f3 => ?_)
    refine k h3 c3 (fun z => ⟨w3.trans (q2 (opN_z z)), q3 z⟩) d3 ?_ (fun a i n1 n2 => ?_)
    · rw [f3 _ _ (by unfold muTK; omega) (by omega), f2 _ _ (by unfold muTK; omega), rdw_eq]
    · rw [f3 a i n1 (fun z => n2 (by omega)), f2 a i n1, rd_wr, if_neg (fun z => n2 (by omega))]
  refine B_readDoor_240 hs.1.1 ⟨by omega, by omega, 1, by omega, G_hasWord (by omega) (RSK_w hs) (by omega) (fun h1 s1 f1 => ?_)⟩
  by_cases b : tkB (tW T n 37 V) 5 s = true
  · rw [if_pos b] at s1 ⊢
    refine B_readDoor_254 s1.1.1 ⟨fun c => absurd c (by decide), fun _ => ⟨1, by omega, G_takeNumber (by omega) s1 ⟨by unfold i32; omega, by unfold i32; omega⟩ (fun h2 r s2 f2 q2 _ => B_readDoor_264 s2.1.1 (fin h2 r ?_ (f1.trans f2) ?_))⟩⟩
    · unfold opN; rw [if_pos b]; exact s2
    · unfold opN opV; rw [if_pos b, if_pos b]; exact fun z => (q2 z).1
  · rw [if_neg b] at s1 ⊢
    refine B_readDoor_254 s1.1.1 ⟨fun _ => fin h1 1 ?_ f1 ?_, fun c => absurd rfl c⟩
    · unfold opN; rw [if_neg b]; exact s1
    · unfold opV; rw [if_neg b]; exact fun _ => rfl
theorem G_drT2 (he : 3 ≤ e) (hd : 0 ≤ D ∧ D < 14) (hs : RSK T n V m h s) (hD : rd h 188 151 = D)
    (k : ∀ h', RSK T n V m h' (opN (tO T n) (tV T n 37) (tW T n 37 V) (tP T n) 6 0 9 (opN (tO T n) (tV T n 37) (tW T n 37 V) (tP T n) 5 1 9 (opS (tW T n 37 V) (tP T n) s))) → ((opN (tO T n) (tV T n 37) (tW T n 37 V) (tP T n) 6 0 9 (opN (tO T n) (tV T n 37) (tW T n 37 V) (tP T n) 5 1 9 (opS (tW T n 37 V) (tP T n) s))).1 = 0 → rd h' 188 (8 * D + 154 + 5) = opT (tW T n 37 V) s ∧ rd h' 188 (8 * D + 154 + 6) = opV (tV T n 37) (tW T n 37 V) 5 1 (opS (tW T n 37 V) (tP T n) s) ∧ rd h' 188 (8 * D + 154 + 7) = opV (tV T n 37) (tW T n 37 V) 6 0 (opN (tO T n) (tV T n 37) (tW T n 37 V) (tP T n) 5 1 9 (opS (tW T n 37 V) (tP T n) s))) → rd h' 188 151 = D + 1 → rd h' 188 (8 * D + 154 + 4) = w2 → (∀ a i, ¬ muTK a i → ¬ (a = 188 ∧ (i = 151 ∨ (8 * D + 154 + 4 ≤ i ∧ i ≤ 8 * D + 154 + 7))) → rd h' a i = rd h a i) → Q none h') :
    Rn xs xl e mm_readDoor 216 [some (.inr (.inr 182)), some (.inl v1), some (.inl (8 * D + 154)), some (.inl v3), some (.inl v4)] [.inl w2, .inl (8 * D + 154 + 4), .inr (.inr 188)] h Q := by
  have fin : ∀ h2 r, RSK T n V m h2 (opS (tW T n 37 V) (tP T n) s) → frT (wr h 188 (8 * D + 154 + 4) w2) h2 → ((opS (tW T n 37 V) (tP T n) s).1 = 0 → r = opT (tW T n 37 V) s) → Rn xs xl e mm_readDoor 240 [some (.inr (.inr 182)), some (.inl v1), some (.inl (8 * D + 154)), some (.inl v3), some (.inl v4)] [.inl r, .inl (8 * D + 154 + 5), .inr (.inr 188)] h2 Q := by
    intro h2 r c2 f2 q2
    refine G_drT3 (by omega) hd c2 (by rw [f2 _ _ (by unfold muTK; omega), rdw_nei (by omega), hD]) (fun h3 c3 q3 d3 w3 f3 => ?_)
    refine k h3 c3 (fun z => ⟨w3.trans (q2 (opN_z (opN_z z))), q3 z⟩) d3 ?_ (fun a i n1 n2 => ?_)
    · rw [f3 _ _ (by unfold muTK; omega) (by omega), f2 _ _ (by unfold muTK; omega), rdw_eq]
    · rw [f3 a i n1 (fun z => n2 (by omega)), f2 a i n1, rd_wr, if_neg (fun z => n2 (by omega))]
  refine B_readDoor_216 hs.1.1 ⟨by omega, by omega, 1, by omega, G_hasWord (by omega) (RSK_w hs) (by omega) (fun h1 s1 f1 => ?_)⟩
  by_cases b : tkB (tW T n 37 V) 4 s = true
  · rw [if_pos b] at s1 ⊢
    refine B_readDoor_229 s1.1.1 ⟨fun c => absurd c (by decide), fun _ => ⟨2, by omega, G_takeSort (by omega) s1 (fun h2 r s2 f2 q2 _ _ => B_readDoor_236 s2.1.1 (fin h2 r ?_ (f1.trans f2) ?_))⟩⟩
    · unfold opS; rw [if_pos b]; exact s2
    · unfold opS opT; rw [if_pos b, if_pos b]; exact q2
  · rw [if_neg b] at s1 ⊢
    refine B_readDoor_229 s1.1.1 ⟨fun _ => fin h1 (-1) ?_ f1 ?_, fun c => absurd rfl c⟩
    · unfold opS; rw [if_neg b]; exact s1
    · unfold opT; rw [if_neg b]; exact fun _ => rfl
/-- what stands in a door's places 3 .. 7 -/
def drFl (T : Int → Int) (n : Int) (V : Int → Int) (h' : LH) (D : Int) (s : Int × Nat) : Prop :=
  rd h' 188 (8 * D + 154 + 3) = opV (tV T n 37) (tW T n 37 V) 3 0 s ∧ rd h' 188 (8 * D + 154 + 4) = opC (tO T n) (tV T n 37) (tW T n 37 V) (tP T n) s ∧ rd h' 188 (8 * D + 154 + 5) = opT (tW T n 37 V) (opF (tO T n) (tV T n 37) (tW T n 37 V) (tP T n) s) ∧ rd h' 188 (8 * D + 154 + 6) = opV (tV T n 37) (tW T n 37 V) 5 1 (opS (tW T n 37 V) (tP T n) (opF (tO T n) (tV T n 37) (tW T n 37 V) (tP T n) s)) ∧ rd h' 188 (8 * D + 154 + 7) = opV (tV T n 37) (tW T n 37 V) 6 0 (opN (tO T n) (tV T n 37) (tW T n 37 V) (tP T n) 5 1 9 (opS (tW T n 37 V) (tP T n) (opF (tO T n) (tV T n 37) (tW T n 37 V) (tP T n) s)))
theorem G_drT1 (he : 4 ≤ e) (hd : 0 ≤ D ∧ D < 14) (hs : RSK T n V m h (if tkB (tW T n 37 V) 3 s = true then tkA s else s)) (hD : rd h 188 151 = D)
    (k : ∀ h', RSK T n V m h' (opL (tO T n) (tV T n 37) (tW T n 37 V) (tP T n) s) → ((opL (tO T n) (tV T n 37) (tW T n 37 V) (tP T n) s).1 = 0 → drFl T n V h' D s) → rd h' 188 151 = D + 1 → (∀ a i, ¬ muTK a i → ¬ (a = 188 ∧ (i = 151 ∨ (8 * D + 154 + 3 ≤ i ∧ i ≤ 8 * D + 154 + 7))) → rd h' a i = rd h a i) → Q none h') :
    Rn xs xl e mm_readDoor 156 [some (.inr (.inr 182)), some (.inl v1), some (.inl (8 * D + 154)), some (.inl v3), none] [.inl (if tkB (tW T n 37 V) 3 s = true then 1 else 0)] h Q := by
  have fin : ∀ h2 h1 r c, RSK T n V m h2 (opF (tO T n) (tV T n 37) (tW T n 37 V) (tP T n) s) → frT (wr h1 188 (8 * D + 154 + 3) r) h2 → frT h h1 → ((opF (tO T n) (tV T n 37) (tW T n 37 V) (tP T n) s).1 = 0 → r = opV (tV T n 37) (tW T n 37 V) 3 0 s ∧ c = opC (tO T n) (tV T n 37) (tW T n 37 V) (tP T n) s) → ∀ v4, Rn xs xl e mm_readDoor 216 [some (.inr (.inr 182)), some (.inl v1), some (.inl (8 * D + 154)), some (.inl v3), some (.inl v4)] [.inl c, .inl (8 * D + 154 + 4), .inr (.inr 188)] h2 Q := by
    intro h2 h1 r c c2 f2 f1 q2 v4
    refine G_drT2 (by omega) hd c2 (by rw [f2 _ _ (by unfold muTK; omega), rdw_nei (by omega), f1 _ _ (by unfold muTK; omega), hD]) (fun h3 c3 q3 d3 w3 f3 => ?_)
    refine k h3 c3 (fun z => ⟨?_, w3.trans (q2 (opS_z (opN_z (opN_z z)))).2, q3 z⟩) d3 (fun a i n1 n2 => ?_)
    · rw [f3 _ _ (by unfold muTK; omega) (by omega), f2 _ _ (by unfold muTK; omega), rdw_eq]
      exact (q2 (opS_z (opN_z (opN_z z)))).1
    · rw [f3 a i n1 (fun z => n2 (by omega)), f2 a i n1, rd_wr, if_neg (fun z => n2 (by omega)), f1 a i n1]
  by_cases b : tkB (tW T n 37 V) 3 s = true
  · rw [if_pos b] at hs ⊢
    refine B_readDoor_156 hs.1.1 ⟨by omega, fun c => absurd c (by decide), fun _ => ⟨1, by omega, G_takeNumber (by omega) hs ⟨by unfold i32; omega, by unfold i32; omega⟩ (fun h1 r s1 f1 q1 r1 => B_readDoor_177 s1.1.1 ?_)⟩⟩
    have rin : 0 ≤ r ∧ r ≤ 23 := by
      by_cases z : (tkN (tO T n) (tV T n 37) (tP T n) 0 23 (tkA s)).1 = 0
      · exact (q1 z).2
      · rw [r1 z]; decide
    have er : rd (wr h1 188 (8 * D + 154 + 3) r) 188 (8 * D + 154 + 3) = r := rdw_eq
    refine B_readDoor_181 s1.1.1 ⟨by omega, by omega, fun c => absurd c (by decide), fun _ => ⟨by omega, by omega, by rw [er]; omega, 3, by omega, ?_⟩⟩
    rw [er]
    refine G_takeAfter (by omega) (RSK_w s1) (by omega) ⟨by unfold i32; omega, by unfold i32; omega⟩ (fun h2 c s2 f2 q2 _ => B_readDoor_211 s2.1.1 (fin h2 h1 r c ?_ f2 f1 ?_ _))
    · by_cases z : (tkN (tO T n) (tV T n 37) (tP T n) 0 23 (tkA s)).1 = 0
      · unfold opF opE; rw [if_pos b, if_pos b, ← (q1 z).1]; exact s2
      · unfold opF opE; rw [if_pos b, if_pos b]; rw [tkW_f z, tkN_f z] at s2 ⊢; exact s2
    · intro z
      have b' : opF (tO T n) (tV T n 37) (tW T n 37 V) (tP T n) s = tkN (tO T n) (tV T n 37) (tP T n) (tV T n 37 (tkA s).2 + 1) 24 (tkW (tW T n 37 V) (tP T n) 2 (tkN (tO T n) (tV T n 37) (tP T n) 0 23 (tkA s))) := by
        unfold opF opE; rw [if_pos b, if_pos b]
      rw [b'] at z
      have z1 := tkW_z (tkN_z z)
      have e1 := (q1 z1).1
      rw [← e1] at z
      refine ⟨?_, ?_⟩
      · unfold opV; rw [if_pos b]; exact e1
      · unfold opC opE; rw [if_pos b, if_pos b]; exact (q2 z).1
  · rw [if_neg b] at hs ⊢
    refine B_readDoor_156 hs.1.1 ⟨by omega, fun _ => ?_, fun c => absurd rfl c⟩
    refine B_readDoor_181 hs.1.1 ⟨by omega, by omega, fun _ => fin _ h 0 24 ?_ frT.refl frT.refl (fun _ => ⟨?_, ?_⟩) _, fun c => absurd rfl c⟩
    · unfold opF; rw [if_neg b]; exact RSK_w hs
    · unfold opV; rw [if_neg b]
    · unfold opC; rw [if_neg b]
end CN
end
section
/-! p3, part c4: a door's line from its begin, as the reference reads it -/
section CO
variable {xs : Nat → Int} {xl e : Nat} {h : LH} {Q : Option LV → LH → Prop} {T : Int → Int} {n : Int} {V : Int → Int} {m : Nat} {s : Int × Nat} {N : List Nat} {D v1 v3 v4 w2 R : Int}
theorem wr_c {x z : LH} {a j r i : Int} (q : rd x a i = rd z a i) : rd (wr x a j r) a i = rd (wr z a j r) a i := by rw [rd_wr, rd_wr, q]
/-- one back: the second room is the first -/
theorem RS_back {k : Nat} (hs : RSK T n V m h (0, k + 1)) : RSK T n V m (wr h 182 7 (rd h 182 7 - 1)) (0, k) := by
  obtain ⟨a, b⟩ := hs.2.2.2.2 rfl
  have a' : rd h 182 7 = ((k + 1 : Nat) : Int) := a
  have b' : k + 1 ≤ m := b
  have c := hs.2.2.2.1
  refine ⟨RXK_T hs.1 fr7, (rdw_nei (by decide)).trans hs.2.1, hs.2.2.1, ?_, fun _ => ⟨?_, ?_⟩⟩
  · rw [rdw_eq]; omega
  · rw [rdw_eq, a']; show ((k + 1 : Nat) : Int) - 1 = (k : Int); omega
  · show k ≤ m; omega
theorem tkN_ok {o v p : Nat → Int} {a b : Int} (h : (tkN o v p a b s).1 = 0) (hp : ∀ c : Int, 1 ≤ c → (tkE p c s).1 ≠ 0) : s.1 = 0 ∧ o s.2 = 2 ∧ a ≤ v s.2 ∧ v s.2 ≤ b ∧ tkN o v p a b s = (0, s.2 + 1) := by
  have z := tkN_z h
  unfold tkN at h ⊢
  by_cases c1 : o s.2 = 2
  · rw [if_pos c1] at h ⊢
    by_cases c2 : a ≤ v s.2 ∧ v s.2 ≤ b
    · rw [if_pos c2]
      exact ⟨z, c1, c2.1, c2.2, tkA_0 z⟩
    · rw [if_neg c2] at h
      exact absurd h (hp 4 (by decide))
  · rw [if_neg c1] at h
    exact absurd h (hp 1 (by decide))
/-- a put into 188 and 182 7/8 alone -/
def muDR (D a i : Int) : Prop := muNK a i ∨ (a = 188 ∧ (i = 151 ∨ (8 * D + 154 ≤ i ∧ i ≤ 8 * D + 154 + 7)))
theorem G_readDoor (he : 5 ≤ e) (hs : RSK T n V m h s) (hz : s.1 = 0) (ho : tO T n s.2 ≠ 0) (hN : NRK T n h N) (hl : N.length < 20) (hR : rd h 188 150 = R) (hr : 0 ≤ R ∧ R ≤ 10) (hD : rd h 188 151 = D) (hd : 0 ≤ D ∧ D < 14)
    (k : ∀ h', RSK T n V m h' (drL (tO T n) (tV T n 37) (tW T n 37 V) (tP T n) R N s) → ((drL (tO T n) (tV T n 37) (tW T n 37 V) (tP T n) R N s).1 = 0 → NRK T n h' (N ++ [s.2 + 1]) ∧ rd h' 188 151 = D + 1 ∧ rd h' 188 (8 * D + 154) = tW T n 37 V (drC (tO T n) (tV T n 37) (tW T n 37 V) (tP T n) R N s).2 - 14 ∧ rd h' 188 (8 * D + 154 + 1) = tV T n 37 (drA (tO T n) (tV T n 37) (tW T n 37 V) (tP T n) N s).2 ∧ rd h' 188 (8 * D + 154 + 2) = tV T n 37 (drB (tO T n) (tV T n 37) (tW T n 37 V) (tP T n) R N s).2 ∧ drFl T n V h' D (drD (tO T n) (tV T n 37) (tW T n 37 V) (tP T n) R N s)) → (∀ a i, ¬ muDR D a i → rd h' a i = rd h a i) → Q none h') :
    Rn xs xl e mm_readDoor 0 [some (.inr (.inr 182)), none, none, none, none] [] h Q := by
  refine B_readDoor_0 hs.1.1 ⟨fun _ => ⟨3, by omega, ?_⟩, fun c => by omega⟩
  rw [hD]
  refine G_readName (by omega) hs hz ho hN hl (by omega) (fun h1 s1 n1 f1 => ?_)
  have b1 : ∀ i, rd h1 188 i = rd h 188 i := fun i => f1 _ _ (by unfold muNK; omega)
  refine B_readDoor_26 s1.1.1 ⟨by omega, by omega, by omega, 2, by omega, G_takeRoom (by omega) s1 ((b1 _).trans hR) hr (fun h2 r2 s2 f2 q2 _ => ?_)⟩
  refine B_readDoor_46 s2.1.1 ⟨by omega, 2, by omega, G_takeWord (by omega) (RSK_w s2) (by omega) (fun h3 s3 f3 => ?_)⟩
  have b3 : ∀ i, rd h3 188 i = rd (wr h 188 (8 * D + 155) r2) 188 i := by
    intro i
    rw [f3 _ _ (by unfold muTK; omega), rd_wr, rd_wr, f2 _ _ (by unfold muTK; omega), b1]
  have s3' : RSK T n V m h3 (drB (tO T n) (tV T n 37) (tW T n 37 V) (tP T n) R N s) := s3
  have q2' : (drB (tO T n) (tV T n 37) (tW T n 37 V) (tP T n) R N s).1 = 0 → r2 = tV T n 37 (drA (tO T n) (tV T n 37) (tW T n 37 V) (tP T n) N s).2 ∧ 0 ≤ r2 ∧ r2 ≤ R - 1 := fun z => q2 (tkW_z z)
  refine B_readDoor_52 s3.1.1 ⟨by omega, 2, by omega, G_takeRoom (by omega) s3' (by rw [b3, rdw_nei (by omega), hR]) hr (fun h4 r4 s4 f4 q4 _ => ?_)⟩
  have b4 : ∀ i, rd (wr h4 188 (8 * D + 154 + 2) r4) 188 i = rd (wr (wr h 188 (8 * D + 155) r2) 188 (8 * D + 154 + 2) r4) 188 i := by
    intro i
    exact wr_c ((f4 _ _ (by unfold muTK; omega)).trans (b3 i))
  have e41 : rd (wr h4 188 (8 * D + 154 + 2) r4) 188 (8 * D + 154 + 1) = r2 := by rw [b4, rdw_nei (by omega), show 8 * D + 154 + 1 = 8 * D + 155 by omega, rdw_eq]
  have e42 : rd (wr h4 188 (8 * D + 154 + 2) r4) 188 (8 * D + 154 + 2) = r4 := rdw_eq
  have hp : ∀ c : Int, 1 ≤ c → (tkE (tP T n) c (drB (tO T n) (tV T n 37) (tW T n 37 V) (tP T n) R N s)).1 ≠ 0 := fun c hc => tkE_ne' s3' hc
  -- what comes behind the second room
  have tail : ∀ h5, RSK T n V m h5 (drC (tO T n) (tV T n 37) (tW T n 37 V) (tP T n) R N s) → frT (wr h4 188 (8 * D + 154 + 2) r4) h5 → ((drC (tO T n) (tV T n 37) (tW T n 37 V) (tP T n) R N s).1 = 0 → r4 = tV T n 37 (drB (tO T n) (tV T n 37) (tW T n 37 V) (tP T n) R N s).2) → Rn xs xl e mm_readDoor 105 [some (.inr (.inr 182)), some (.inl D), some (.inl (8 * D + 154)), none, none] [] h5 Q := by
    intro h5 s5 f5 q5
    have b5 : ∀ i, rd h5 188 i = rd (wr (wr h 188 (8 * D + 155) r2) 188 (8 * D + 154 + 2) r4) 188 i := fun i => (f5 _ _ (by unfold muTK; omega)).trans (b4 i)
    have fr5 : ∀ a i, ¬ muDR D a i → rd h5 a i = rd h a i := by
      intro a i hn
      have n1 : ¬ muNK a i := fun z => hn (Or.inl z)
      have n2 : ¬ muTK a i := fun z => n1 (by unfold muTK at z; unfold muNK; omega)
      have n3 : ¬ (a = 188 ∧ (8 * D + 154 ≤ i ∧ i ≤ 8 * D + 154 + 7)) := fun z => hn (Or.inr ⟨z.1, Or.inr z.2⟩)
      rw [f5 a i n2, rd_wr, if_neg (fun z => n3 (by omega)), f4 a i n2, f3 a i n2, rd_wr, if_neg (fun z => n3 (by omega)), f2 a i n2, f1 a i n1]
    have n5 : (drC (tO T n) (tV T n 37) (tW T n 37 V) (tP T n) R N s).1 = 0 → NRK T n h5 (N ++ [s.2 + 1]) := by
      intro z
      have nn := n1 (tkN_z (tkW_z (tkR_z z)))
      have same : ∀ a i, a ≠ 188 → ¬ muTK a i → rd h5 a i = rd h1 a i := by
        intro a i h8 hn
        rw [f5 a i hn, rdw_ne (fun z => h8 z.symm), f4 a i hn, f3 a i hn, rdw_ne (fun z => h8 z.symm), f2 a i hn]
      refine ⟨(same _ _ (by decide) (by unfold muTK; omega)).trans nn.1, fun i hi => ?_⟩
      rw [same 192 _ (by decide) (by unfold muTK; omega), same 194 _ (by decide) (by unfold muTK; omega)]
      exact nn.2 i hi
    have e8 := s5.2.1
    have p0 := s5.2.2.1
    have a7 := s5.2.2.2.1
    have bad : ∀ w0 : Int, w0 < 0 → drD (tO T n) (tV T n 37) (tW T n 37 V) (tP T n) R N s = tkE (tP T n) 1 (drC (tO T n) (tV T n 37) (tW T n 37 V) (tP T n) R N s) → Rn xs xl e mm_readDoor 123 [some (.inr (.inr 182)), some (.inl D), some (.inl (8 * D + 154)), none, none] [.inl w0] h5 Q := by
      intro w0 hw0 ef
      have ne := tkE_ne' s5 (v1 := 1) (by decide)
      have eL : drL (tO T n) (tV T n 37) (tW T n 37 V) (tP T n) R N s = tkE (tP T n) 1 (drC (tO T n) (tV T n 37) (tW T n 37 V) (tP T n) R N s) := by
        unfold drL; rw [ef, opL_f ne]
      refine B_readDoor_123 s5.1.1 ⟨fun c => by omega, fun _ => ⟨0, by omega, G_wrong s5 (by omega) (fun h6 s6 f6 => B_readDoor_133 s6.1.1 (k h6 ?_ ?_ (fun a i hn => ?_)))⟩⟩
      · rw [eL]; exact s6
      · rw [eL]; exact fun z => absurd z ne
      · have n1 : ¬ muNK a i := fun z => hn (Or.inl z)
        rw [f6 a i (fun z => n1 (by unfold muTK at z; unfold muNK; omega)), fr5 a i hn]
    by_cases z5 : (drC (tO T n) (tV T n 37) (tW T n 37 V) (tP T n) R N s).1 = 0
    · refine B_readDoor_105 s5.1.1 ⟨fun _ => ⟨1, by omega, G_wordHere (by omega) s5 (by omega) ?_⟩, fun c => by omega⟩
      by_cases q : 14 ≤ tW T n 37 V (drC (tO T n) (tV T n 37) (tW T n 37 V) (tP T n) R N s).2 ∧ tW T n 37 V (drC (tO T n) (tV T n 37) (tW T n 37 V) (tP T n) R N s).2 ≤ 14 + 3
      · have ef : drD (tO T n) (tV T n 37) (tW T n 37 V) (tP T n) R N s = tkA (drC (tO T n) (tV T n 37) (tW T n 37 V) (tP T n) R N s) := by unfold drD tkF; rw [if_pos q]
        have ew : whr (tW T n 37 V) (drC (tO T n) (tV T n 37) (tW T n 37 V) (tP T n) R N s) 14 4 = tW T n 37 V (drC (tO T n) (tV T n 37) (tW T n 37 V) (tP T n) R N s).2 - 14 := by unfold whr; rw [if_pos ⟨z5, by omega, by omega⟩]
        rw [ew]
        have s6 := RS_adv s5 z5 (by rw [tW_o (W := V) (b := 37) (by omega)]; decide)
        rw [← ef] at s6
        refine B_readDoor_123 s5.1.1 ⟨fun _ => ⟨by omega, by omega, 1, by omega, G_hasWord (by omega) (RSK_w s6) (by omega) (fun h7 s7 f7 => ?_)⟩, fun c => by omega⟩
        have b7 : ∀ i, rd h7 188 i = rd (wr (wr (wr h 188 (8 * D + 155) r2) 188 (8 * D + 154 + 2) r4) 188 (8 * D + 154) (tW T n 37 V (drC (tO T n) (tV T n 37) (tW T n 37 V) (tP T n) R N s).2 - 14)) 188 i := by
          intro i
          exact (f7 _ _ (by unfold muTK; omega)).trans (wr_c ((rdw_ne (by decide)).trans (b5 i)))
        refine G_drT1 (by omega) hd s7 (by rw [b7, rdw_nei (by omega), rdw_nei (by omega), rdw_nei (by omega), hD]) (fun h8 s8 q8 d8 f8 => k h8 s8 (fun z => ⟨?_, d8, ?_, ?_, ?_, q8 z⟩) (fun a i hn => ?_))
        · have nn := n5 z5
          have same : ∀ a i, a ≠ 188 → ¬ muTK a i → rd h8 a i = rd h5 a i := by
            intro a i h9 hn
            rw [f8 a i hn (fun z => h9 z.1), f7 a i hn, rdw_ne (fun z => h9 z.symm), rd_wr, if_neg (fun z => hn (by unfold muTK; omega))]
          refine ⟨(same _ _ (by decide) (by unfold muTK; omega)).trans nn.1, fun i hi => ?_⟩
          rw [same 192 _ (by decide) (by unfold muTK; omega), same 194 _ (by decide) (by unfold muTK; omega)]
          exact nn.2 i hi
        · rw [f8 _ _ (by unfold muTK; omega) (by omega), b7, rdw_eq]
        · rw [f8 _ _ (by unfold muTK; omega) (by omega), b7, rdw_nei (by omega), rdw_nei (by omega), show 8 * D + 154 + 1 = 8 * D + 155 by omega, rdw_eq]
          exact (q2' (tkR_z z5)).1
        · rw [f8 _ _ (by unfold muTK; omega) (by omega), b7, rdw_nei (by omega), rdw_eq]
          exact q5 z5
        · have n1 : ¬ muNK a i := fun z => hn (Or.inl z)
          have n2 : ¬ muTK a i := fun z => n1 (by unfold muTK at z; unfold muNK; omega)
          have n3 : ¬ (a = 188 ∧ (i = 151 ∨ (8 * D + 154 ≤ i ∧ i ≤ 8 * D + 154 + 7))) := fun z => hn (Or.inr z)
          rw [f8 a i n2 (fun z => n3 (by omega)), f7 a i n2, rd_wr, if_neg (fun z => n3 (by omega)), rd_wr, if_neg (fun z => n2 (by unfold muTK; omega)), fr5 a i hn]
      · have ew : whr (tW T n 37 V) (drC (tO T n) (tV T n 37) (tW T n 37 V) (tP T n) R N s) 14 4 = -1 := by unfold whr; rw [if_neg (by omega)]
        rw [ew]
        exact bad (-1) (by decide) (by unfold drD tkF; rw [if_neg q])
    · exact B_readDoor_105 s5.1.1 ⟨fun c => by omega, fun _ => bad (-1) (by decide) (by unfold drD; rw [tkF_f z5, tkE_f z5])⟩
  have e8 := s4.2.1
  have a7 := s4.2.2.2.1
  by_cases z4 : (tkN (tO T n) (tV T n 37) (tP T n) 0 (R - 1) (drB (tO T n) (tV T n 37) (tW T n 37 V) (tP T n) R N s)).1 = 0
  · obtain ⟨zB, oB, _, _, eN⟩ := tkN_ok z4 hp
    have r4e := (q4 z4).1
    have r2e := (q2' zB).1
    refine B_readDoor_63 s4.1.1 ⟨by omega, fun c => absurd (e8.trans z4) c, fun _ => ⟨by omega, by omega, by omega, by omega, fun c => ?_, fun c => ⟨by omega, 0, by omega, ?_⟩⟩⟩
    · rw [e41, e42] at c
      have eC : drC (tO T n) (tV T n 37) (tW T n 37 V) (tP T n) R N s = tkN (tO T n) (tV T n 37) (tP T n) 0 (R - 1) (drB (tO T n) (tV T n 37) (tW T n 37 V) (tP T n) R N s) := by
        unfold drC tkR
        rw [if_neg (fun z => c (by rw [r2e, r4e, z.2]))]
      exact tail _ (by rw [eC]; exact RSK_w s4) frT.refl (fun _ => r4e)
    · rw [e41, e42] at c
      have eC : drC (tO T n) (tV T n 37) (tW T n 37 V) (tP T n) R N s = tkE (tP T n) 3 (drB (tO T n) (tV T n 37) (tW T n 37 V) (tP T n) R N s) := by
        unfold drC tkR
        rw [if_pos ⟨oB, by rw [← r2e, ← r4e, c]⟩]
      have s5 : RSK T n V m (wr (wr h4 188 (8 * D + 154 + 2) r4) 182 7 (rd (wr h4 188 (8 * D + 154 + 2) r4) 182 7 - 1)) (0, (drB (tO T n) (tV T n 37) (tW T n 37 V) (tP T n) R N s).2) := by
        refine RS_back (RSK_w ?_)
        rw [eN] at s4
        exact s4
      have e7 : rd (wr h4 188 (8 * D + 154 + 2) r4) 182 7 = rd h4 182 7 := rdw_ne (by decide)
      rw [e7] at s5
      have eB : drB (tO T n) (tV T n 37) (tW T n 37 V) (tP T n) R N s = (0, (drB (tO T n) (tV T n 37) (tW T n 37 V) (tP T n) R N s).2) := Prod.ext zB rfl
      rw [← eB] at s5
      refine G_wrong s5 (by omega) (fun h6 s6 f6 => tail h6 (by rw [eC]; exact s6) (fr7.trans f6) ?_)
      rw [eC]
      exact fun z => absurd z (hp 3 (by decide))
  · have eC : drC (tO T n) (tV T n 37) (tW T n 37 V) (tP T n) R N s = tkN (tO T n) (tV T n 37) (tP T n) 0 (R - 1) (drB (tO T n) (tV T n 37) (tW T n 37 V) (tP T n) R N s) := by
      unfold drC tkR
      by_cases q : tO T n (drB (tO T n) (tV T n 37) (tW T n 37 V) (tP T n) R N s).2 = 2 ∧ tV T n 37 (drB (tO T n) (tV T n 37) (tW T n 37 V) (tP T n) R N s).2 = tV T n 37 (drA (tO T n) (tV T n 37) (tW T n 37 V) (tP T n) N s).2
      · by_cases zB : (drB (tO T n) (tV T n 37) (tW T n 37 V) (tP T n) R N s).1 = 0
        · obtain ⟨u1, u2, u3⟩ := q2' zB
          refine absurd ?_ z4
          unfold tkN
          rw [if_pos q.1, if_pos (by rw [q.2, ← u1]; exact ⟨u2, u3⟩), tkA_0 zB]
        · rw [tkN_f zB, tkE_f zB, ite_self]
      · rw [if_neg q]
    exact B_readDoor_63 s4.1.1 ⟨by omega, fun _ => tail _ (by rw [eC]; exact RSK_w s4) frT.refl (fun z => absurd (by rw [← eC]; exact z) z4), fun c => absurd (e8.symm.trans c) z4⟩
theorem G_readDoorX (hs : RSK T n V m h s) (he : 1 ≤ e) (hD : rd h 188 151 = 14) (k : ∀ h', RSK T n V m h' (tkE (tP T n) 5 s) → frT h h' → Q none h') : Rn xs xl e mm_readDoor 0 [some (.inr (.inr 182)), none, none, none, none] [] h Q :=
  B_readDoor_0 hs.1.1 ⟨fun c => absurd hD c, fun _ => ⟨0, by omega, G_wrong hs (by omega) (fun h1 s1 f1 => B_readDoor_20 s1.1.1 (k h1 s1 f1))⟩⟩
end CO
end
section
/-! LM, by program (wip/p2/hand.py): p3: rows of the class's lines -/
def mm_Reader_takeNewName : LM_M := (⟨"OneSided$Reader", "takeNewName", "(LOneSided$Quarter;)J"⟩, prog_9_method_18_code, 4, (some .long), 7, 2, 0, 648, 647, 1000012)
theorem dd_Quarter_doorNamed_0 : decode mm_Quarter_doorNamed.2.1 0 = .ok (.iconst 0, 1) := by decide +kernel
theorem dd_Quarter_doorNamed_1 : decode mm_Quarter_doorNamed.2.1 1 = .ok (.istore_n 3, 1) := by decide +kernel
theorem dd_Quarter_doorNamed_2 : decode mm_Quarter_doorNamed.2.1 2 = .ok (.iload_n 3, 1) := by decide +kernel
theorem dd_Quarter_doorNamed_3 : decode mm_Quarter_doorNamed.2.1 3 = .ok (.aload_n 0, 1) := by decide +kernel
theorem dd_Quarter_doorNamed_4 : decode mm_Quarter_doorNamed.2.1 4 = .ok (.getfield 42, 3) := by decide +kernel
theorem fd_6_42 : fld 6 42 = some (6, 2) := by decide +kernel
theorem dd_Quarter_doorNamed_7 : decode mm_Quarter_doorNamed.2.1 7 = .ok (.if_icmp .ge (25), 3) := by decide +kernel
theorem dd_Quarter_doorNamed_32 : decode mm_Quarter_doorNamed.2.1 32 = .ok (.iconst (-1), 1) := by decide +kernel
theorem dd_Quarter_doorNamed_33 : decode mm_Quarter_doorNamed.2.1 33 = .ok (.ireturn, 1) := by decide +kernel
theorem dd_Quarter_doorNamed_10 : decode mm_Quarter_doorNamed.2.1 10 = .ok (.aload_n 0, 1) := by decide +kernel
theorem dd_Quarter_doorNamed_11 : decode mm_Quarter_doorNamed.2.1 11 = .ok (.getfield 17, 3) := by decide +kernel
theorem fd_6_17 : fld 6 17 = some (6, 1) := by decide +kernel
theorem dd_Quarter_doorNamed_14 : decode mm_Quarter_doorNamed.2.1 14 = .ok (.iload_n 3, 1) := by decide +kernel
theorem dd_Quarter_doorNamed_15 : decode mm_Quarter_doorNamed.2.1 15 = .ok (.aaload, 1) := by decide +kernel
theorem dd_Quarter_doorNamed_16 : decode mm_Quarter_doorNamed.2.1 16 = .ok (.getfield 51, 3) := by decide +kernel
theorem fd_6_51 : fld 6 51 = some (1, 0) := by decide +kernel
theorem dd_Quarter_doorNamed_19 : decode mm_Quarter_doorNamed.2.1 19 = .ok (.lload_n 1, 1) := by decide +kernel
theorem dd_Quarter_doorNamed_20 : decode mm_Quarter_doorNamed.2.1 20 = .ok (.lcmp, 1) := by decide +kernel
theorem dd_Quarter_doorNamed_21 : decode mm_Quarter_doorNamed.2.1 21 = .ok (.ifCond .ne (5), 3) := by decide +kernel
theorem dd_Quarter_doorNamed_26 : decode mm_Quarter_doorNamed.2.1 26 = .ok (.iinc 3 1, 3) := by decide +kernel
theorem dd_Quarter_doorNamed_29 : decode mm_Quarter_doorNamed.2.1 29 = .ok (.goto (-27), 3) := by decide +kernel
theorem dd_Quarter_doorNamed_24 : decode mm_Quarter_doorNamed.2.1 24 = .ok (.iload_n 3, 1) := by decide +kernel
theorem dd_Quarter_doorNamed_25 : decode mm_Quarter_doorNamed.2.1 25 = .ok (.ireturn, 1) := by decide +kernel
theorem dd_Quarter_personNamed_0 : decode mm_Quarter_personNamed.2.1 0 = .ok (.iconst 0, 1) := by decide +kernel
theorem dd_Quarter_personNamed_1 : decode mm_Quarter_personNamed.2.1 1 = .ok (.istore_n 3, 1) := by decide +kernel
theorem dd_Quarter_personNamed_2 : decode mm_Quarter_personNamed.2.1 2 = .ok (.iload_n 3, 1) := by decide +kernel
theorem dd_Quarter_personNamed_3 : decode mm_Quarter_personNamed.2.1 3 = .ok (.aload_n 0, 1) := by decide +kernel
theorem dd_Quarter_personNamed_4 : decode mm_Quarter_personNamed.2.1 4 = .ok (.getfield 45, 3) := by decide +kernel
theorem fd_6_45 : fld 6 45 = some (6, 4) := by decide +kernel
theorem dd_Quarter_personNamed_7 : decode mm_Quarter_personNamed.2.1 7 = .ok (.if_icmp .ge (25), 3) := by decide +kernel
theorem dd_Quarter_personNamed_32 : decode mm_Quarter_personNamed.2.1 32 = .ok (.iconst (-1), 1) := by decide +kernel
theorem dd_Quarter_personNamed_33 : decode mm_Quarter_personNamed.2.1 33 = .ok (.ireturn, 1) := by decide +kernel
theorem dd_Quarter_personNamed_10 : decode mm_Quarter_personNamed.2.1 10 = .ok (.aload_n 0, 1) := by decide +kernel
theorem dd_Quarter_personNamed_11 : decode mm_Quarter_personNamed.2.1 11 = .ok (.getfield 23, 3) := by decide +kernel
theorem fd_6_23 : fld 6 23 = some (6, 3) := by decide +kernel
theorem dd_Quarter_personNamed_14 : decode mm_Quarter_personNamed.2.1 14 = .ok (.iload_n 3, 1) := by decide +kernel
theorem dd_Quarter_personNamed_15 : decode mm_Quarter_personNamed.2.1 15 = .ok (.aaload, 1) := by decide +kernel
theorem dd_Quarter_personNamed_16 : decode mm_Quarter_personNamed.2.1 16 = .ok (.getfield 55, 3) := by decide +kernel
theorem fd_6_55 : fld 6 55 = some (4, 0) := by decide +kernel
theorem dd_Quarter_personNamed_19 : decode mm_Quarter_personNamed.2.1 19 = .ok (.lload_n 1, 1) := by decide +kernel
theorem dd_Quarter_personNamed_20 : decode mm_Quarter_personNamed.2.1 20 = .ok (.lcmp, 1) := by decide +kernel
theorem dd_Quarter_personNamed_21 : decode mm_Quarter_personNamed.2.1 21 = .ok (.ifCond .ne (5), 3) := by decide +kernel
theorem dd_Quarter_personNamed_26 : decode mm_Quarter_personNamed.2.1 26 = .ok (.iinc 3 1, 3) := by decide +kernel
theorem dd_Quarter_personNamed_29 : decode mm_Quarter_personNamed.2.1 29 = .ok (.goto (-27), 3) := by decide +kernel
theorem dd_Quarter_personNamed_24 : decode mm_Quarter_personNamed.2.1 24 = .ok (.iload_n 3, 1) := by decide +kernel
theorem dd_Quarter_personNamed_25 : decode mm_Quarter_personNamed.2.1 25 = .ok (.ireturn, 1) := by decide +kernel
theorem dd_Reader_takeNewName_0 : decode mm_Reader_takeNewName.2.1 0 = .ok (.aload_n 0, 1) := by decide +kernel
theorem dd_Reader_takeNewName_1 : decode mm_Reader_takeNewName.2.1 1 = .ok (.getfield 174, 3) := by decide +kernel
theorem dd_Reader_takeNewName_4 : decode mm_Reader_takeNewName.2.1 4 = .ok (.lstore_n 2, 1) := by decide +kernel
theorem dd_Reader_takeNewName_5 : decode mm_Reader_takeNewName.2.1 5 = .ok (.aload_n 0, 1) := by decide +kernel
theorem dd_Reader_takeNewName_6 : decode mm_Reader_takeNewName.2.1 6 = .ok (.invokevirtual 205, 3) := by decide +kernel
theorem dd_Reader_takeNewName_9 : decode mm_Reader_takeNewName.2.1 9 = .ok (.ifCond .ne (11), 3) := by decide +kernel
theorem dd_Reader_takeNewName_20 : decode mm_Reader_takeNewName.2.1 20 = .ok (.aload_n 1, 1) := by decide +kernel
theorem dd_Reader_takeNewName_21 : decode mm_Reader_takeNewName.2.1 21 = .ok (.lload_n 2, 1) := by decide +kernel
theorem dd_Reader_takeNewName_22 : decode mm_Reader_takeNewName.2.1 22 = .ok (.invokevirtual 184, 3) := by decide +kernel
theorem dd_Reader_takeNewName_12 : decode mm_Reader_takeNewName.2.1 12 = .ok (.aload_n 0, 1) := by decide +kernel
theorem dd_Reader_takeNewName_13 : decode mm_Reader_takeNewName.2.1 13 = .ok (.iconst 1, 1) := by decide +kernel
theorem dd_Reader_takeNewName_14 : decode mm_Reader_takeNewName.2.1 14 = .ok (.invokevirtual 80, 3) := by decide +kernel
theorem dd_Reader_takeNewName_17 : decode mm_Reader_takeNewName.2.1 17 = .ok (.goto 33, 3) := by decide +kernel
theorem dd_Reader_takeNewName_50 : decode mm_Reader_takeNewName.2.1 50 = .ok (.lload_n 2, 1) := by decide +kernel
theorem dd_Reader_takeNewName_51 : decode mm_Reader_takeNewName.2.1 51 = .ok (.lreturn, 1) := by decide +kernel
theorem dd_Reader_takeNewName_25 : decode mm_Reader_takeNewName.2.1 25 = .ok (.iconst (-1), 1) := by decide +kernel
theorem dd_Reader_takeNewName_26 : decode mm_Reader_takeNewName.2.1 26 = .ok (.if_icmp .ne (12), 3) := by decide +kernel
theorem dd_Reader_takeNewName_38 : decode mm_Reader_takeNewName.2.1 38 = .ok (.aload_n 0, 1) := by decide +kernel
theorem dd_Reader_takeNewName_39 : decode mm_Reader_takeNewName.2.1 39 = .ok (.iconst 3, 1) := by decide +kernel
theorem dd_Reader_takeNewName_40 : decode mm_Reader_takeNewName.2.1 40 = .ok (.invokevirtual 80, 3) := by decide +kernel
theorem dd_Reader_takeNewName_29 : decode mm_Reader_takeNewName.2.1 29 = .ok (.aload_n 1, 1) := by decide +kernel
theorem dd_Reader_takeNewName_30 : decode mm_Reader_takeNewName.2.1 30 = .ok (.lload_n 2, 1) := by decide +kernel
theorem dd_Reader_takeNewName_31 : decode mm_Reader_takeNewName.2.1 31 = .ok (.invokevirtual 177, 3) := by decide +kernel
theorem dd_Reader_takeNewName_34 : decode mm_Reader_takeNewName.2.1 34 = .ok (.iconst (-1), 1) := by decide +kernel
theorem dd_Reader_takeNewName_35 : decode mm_Reader_takeNewName.2.1 35 = .ok (.if_icmp .eq (11), 3) := by decide +kernel
theorem dd_Reader_takeNewName_46 : decode mm_Reader_takeNewName.2.1 46 = .ok (.aload_n 0, 1) := by decide +kernel
theorem dd_Reader_takeNewName_47 : decode mm_Reader_takeNewName.2.1 47 = .ok (.invokevirtual 99, 3) := by decide +kernel
theorem dd_Reader_takeNewName_43 : decode mm_Reader_takeNewName.2.1 43 = .ok (.goto 7, 3) := by decide +kernel
/-- the quarters' doors and people lie where they were made -/
def PT (h : LH) : Prop := ∀ q : Int, (q = 5 ∨ q = 32) → (∀ i : Int, 0 ≤ i → i < 14 → rd h (q + 1) i = q + 7 + i) ∧ (∀ i : Int, 0 ≤ i → i < 6 → rd h (q + 2) i = q + 21 + i)
theorem rq_d {h : LH} {q i : Int} (hP : PT h) (hq : q = 5 ∨ q = 32) (hi : 0 ≤ i ∧ i < 14) : rd h (q + 1) i = q + 7 + i := (hP q hq).1 i hi.1 hi.2
theorem rq_p {h : LH} {q i : Int} (hP : PT h) (hq : q = 5 ∨ q = 32) (hi : 0 ≤ i ∧ i < 6) : rd h (q + 2) i = q + 21 + i := (hP q hq).2 i hi.1 hi.2
theorem rq_ppl {h : LH} {q : Int} (hF : RF h) (hq : q = 5 ∨ q = 32) : rd h q ((3 : Nat) : Int) = q + 2 := by
  rcases hq with rfl | rfl
  · exact hF 5 3 7 (by decide +kernel) (by decide +kernel)
  · exact hF 32 3 34 (by decide +kernel) (by decide +kernel)
theorem ia_pq {q : Int} (hq : q = 5 ∨ q = 32) : isA NC (q + 2) 5 = true := by
  rcases hq with rfl | rfl <;> decide +kernel
theorem la_pq {q : Int} (hq : q = 5 ∨ q = 32) : (lay (q + 2).toNat).2.2 = 6 := by
  rcases hq with rfl | rfl <;> decide +kernel
theorem io_d {q d : Int} (hq : q = 5 ∨ q = 32) (hd : q + 7 ≤ d ∧ d ≤ q + 20) : isO NC d 1 = true := by
  have key : ∀ k : Nat, k < 14 → isO NC (12 + (k : Int)) 1 = true ∧ isO NC (39 + (k : Int)) 1 = true := by decide +kernel
  have k := key (d - (q + 7)).toNat (by omega)
  rcases hq with rfl | rfl
  · rw [show d = 12 + (((d - (5 + 7)).toNat : Nat) : Int) by omega]; exact k.1
  · rw [show d = 39 + (((d - (32 + 7)).toNat : Nat) : Int) by omega]; exact k.2
theorem io_p {q p : Int} (hq : q = 5 ∨ q = 32) (hp : q + 21 ≤ p ∧ p ≤ q + 26) : isO NC p 4 = true := by
  have key : ∀ k : Nat, k < 6 → isO NC (26 + (k : Int)) 4 = true ∧ isO NC (53 + (k : Int)) 4 = true := by decide +kernel
  have k := key (p - (q + 21)).toNat (by omega)
  rcases hq with rfl | rfl
  · rw [show p = 26 + (((p - (5 + 21)).toNat : Nat) : Int) by omega]; exact k.1
  · rw [show p = 53 + (((p - (32 + 21)).toNat : Nat) : Int) by omega]; exact k.2
section RW5
variable {xs : Nat → Int} {xl d : Nat} {M : LM_M} {pc p' : Nat} {ls : LL} {st : List LV} {h : LH} {Q : Option LV → LH → Prop}
theorem R_lsj {df x v f : Int} {ps : Array (Int × Int)} {len : Nat} (hd : decode M.2.1 pc = .ok (.lookupswitch df ps, len)) (hx : x = v) (hs : (ps.toList.zip (ps.toList.drop 1)).all (fun (a, b) => a.1 < b.1) = true) (ho : Op.lookupswitch.offset ps.toList df v = f) (hp : (pc : Int) + f = (p' : Int)) (k : Rn xs xl d M p' ls st h Q) : Rn xs xl d M pc ls (.inl x :: st) h Q := by
  subst hx
  refine R_J hd rfl rfl ?_ hp k
  simp only [lmJ]
  rw [if_pos hs, ho]
theorem R_lsd3 {df x a1 a2 a3 b1 b2 b3 : Int} {len : Nat} (hd : decode M.2.1 pc = .ok (.lookupswitch df #[(a1, b1), (a2, b2), (a3, b3)], len)) (hx : x ≠ a1 ∧ x ≠ a2 ∧ x ≠ a3) (hs : ([(a1, b1), (a2, b2), (a3, b3)].zip ([(a1, b1), (a2, b2), (a3, b3)].drop 1)).all (fun (a, b) => a.1 < b.1) = true) (hp : (pc : Int) + df = (p' : Int)) (k : Rn xs xl d M p' ls st h Q) : Rn xs xl d M pc ls (.inl x :: st) h Q := by
  refine R_J hd rfl rfl ?_ hp k
  have e : Op.lookupswitch.offset [(a1, b1), (a2, b2), (a3, b3)] df x = df := by
    simp only [Op.lookupswitch.offset]
    rw [if_neg (fun q => hx.1 q.symm), if_neg (fun q => hx.2.1 q.symm), if_neg (fun q => hx.2.2 q.symm)]
  simp only [lmJ]
  rw [if_pos hs, e]
end RW5
theorem B_Quarter_doorNamed_0 {xs : Nat → Int} {xl e : Nat} {h : LH} {Q : Option LV → LH → Prop} {v1 : Int} {q : Int} (hq : q = 5 ∨ q = 32) (hF : RF h)
    (k : Rn xs xl e mm_Quarter_doorNamed 2 [some (.inr (.inr q)), some (.inr (.inl v1)), none, some (.inl 0)] [] h Q) :
    Rn xs xl e mm_Quarter_doorNamed 0 [some (.inr (.inr q)), some (.inr (.inl v1)), none, none] [] h Q := by
  refine R_ic dd_Quarter_doorNamed_0 (by decide) rfl ?_
  refine R_st (ls' := [some (.inr (.inr q)), some (.inr (.inl v1)), none, some (.inl 0)]) dd_Quarter_doorNamed_1 rfl rfl rfl (Nat.le_of_ble_eq_true rfl) rfl rfl ?_
  exact k
theorem B_doorNamed_in {xs : Nat → Int} {xl e : Nat} {h : LH} {Q : Option LV → LH → Prop} {v1 v3 : Int} {q : Int} (hq : q = 5 ∨ q = 32) (hF : RF h) (hP : PT h) (r_v3 : 0 ≤ v3 ∧ v3 ≤ 14)
    (k : ((rd h q 2) ≤ v3 →
        Q (some (.inl (-1))) h) ∧
      (v3 < (rd h q 2) →
        (0 ≤ v3 ∧ v3 < 14) ∧
        ((lcmp_ (rd h (q + 7 + v3) 0) v1) ≠ 0 →
          Rn xs xl e mm_Quarter_doorNamed 2 [some (.inr (.inr q)), some (.inr (.inl v1)), none, some (.inl (v3 + 1))] [] h Q) ∧
        ((lcmp_ (rd h (q + 7 + v3) 0) v1) = 0 →
          Q (some (.inl v3)) h))) :
    Rn xs xl e mm_Quarter_doorNamed 2 [some (.inr (.inr q)), some (.inr (.inl v1)), none, some (.inl v3)] [] h Q := by
  refine R_ld (v := .inl v3) dd_Quarter_doorNamed_2 rfl rfl rfl rfl ?_
  refine R_ld (v := .inr (.inr q)) dd_Quarter_doorNamed_3 rfl rfl rfl rfl ?_
  refine R_gf (v := .inl (rd h q 2)) dd_Quarter_doorNamed_4 fd_6_42 (io_q hq) (congrArg (fun z : Int => (Sum.inl z : LV)) (rfl)) rfl ?_
  refine R_icmp dd_Quarter_doorNamed_7 rfl rfl (fun (c2 : (rd h q 2) ≤ v3) => ?_) (fun (c2 : v3 < (rd h q 2)) => ?_)
  · replace k := k.1 c2
    refine R_ic dd_Quarter_doorNamed_32 (by decide) rfl ?_
    exact R_iret dd_Quarter_doorNamed_33 rfl k
  · replace k := k.2 c2
    refine R_ld (v := .inr (.inr q)) dd_Quarter_doorNamed_10 rfl rfl rfl rfl ?_
    refine R_gf (v := .inr (.inr (q + 1))) dd_Quarter_doorNamed_11 fd_6_17 (io_q hq) (congrArg (fun z : Int => (Sum.inr (Sum.inr z) : LV)) (rq_arr hF hq)) rfl ?_
    refine R_ld (v := .inl v3) dd_Quarter_doorNamed_14 rfl rfl rfl rfl ?_
    obtain ⟨s1, k⟩ := k
    refine R_aald (v := (q + 7 + v3)) (n := 14) dd_Quarter_doorNamed_15 (ia_dq hq) (la_dq hq) s1 (rq_d hP hq s1) rfl ?_
    refine R_gf (v := .inr (.inl (rd h (q + 7 + v3) 0))) dd_Quarter_doorNamed_16 fd_6_51 (io_d hq (by omega)) (congrArg (fun z : Int => (Sum.inr (Sum.inl z) : LV)) (rfl)) rfl ?_
    refine R_ld (v := .inr (.inl v1)) dd_Quarter_doorNamed_19 rfl rfl rfl rfl ?_
    refine R_A dd_Quarter_doorNamed_20 rfl rfl rfl rfl ?_
    refine R_if dd_Quarter_doorNamed_21 rfl rfl (fun (c3 : (lcmp_ (rd h (q + 7 + v3) 0) v1) ≠ 0) => ?_) (fun (c3 : (lcmp_ (rd h (q + 7 + v3) 0) v1) = 0) => ?_)
    · replace k := k.1 c3
      refine R_inc (y := v3 + 1) (ls' := [some (.inr (.inr q)), some (.inr (.inl v1)), none, some (.inl (v3 + 1))]) dd_Quarter_doorNamed_26 rfl (by decide) (by omega) (by omega) rfl rfl ?_
      refine R_goto dd_Quarter_doorNamed_29 rfl ?_
      exact k
    · replace k := k.2 c3
      refine R_ld (v := .inl v3) dd_Quarter_doorNamed_24 rfl rfl rfl rfl ?_
      exact R_iret dd_Quarter_doorNamed_25 rfl k
theorem B_Quarter_personNamed_0 {xs : Nat → Int} {xl e : Nat} {h : LH} {Q : Option LV → LH → Prop} {v1 : Int} {q : Int} (hq : q = 5 ∨ q = 32) (hF : RF h)
    (k : Rn xs xl e mm_Quarter_personNamed 2 [some (.inr (.inr q)), some (.inr (.inl v1)), none, some (.inl 0)] [] h Q) :
    Rn xs xl e mm_Quarter_personNamed 0 [some (.inr (.inr q)), some (.inr (.inl v1)), none, none] [] h Q := by
  refine R_ic dd_Quarter_personNamed_0 (by decide) rfl ?_
  refine R_st (ls' := [some (.inr (.inr q)), some (.inr (.inl v1)), none, some (.inl 0)]) dd_Quarter_personNamed_1 rfl rfl rfl (Nat.le_of_ble_eq_true rfl) rfl rfl ?_
  exact k
theorem B_personNamed_in {xs : Nat → Int} {xl e : Nat} {h : LH} {Q : Option LV → LH → Prop} {v1 v3 : Int} {q : Int} (hq : q = 5 ∨ q = 32) (hF : RF h) (hP : PT h) (r_v3 : 0 ≤ v3 ∧ v3 ≤ 6)
    (k : ((rd h q 4) ≤ v3 →
        Q (some (.inl (-1))) h) ∧
      (v3 < (rd h q 4) →
        (0 ≤ v3 ∧ v3 < 6) ∧
        ((lcmp_ (rd h (q + 21 + v3) 0) v1) ≠ 0 →
          Rn xs xl e mm_Quarter_personNamed 2 [some (.inr (.inr q)), some (.inr (.inl v1)), none, some (.inl (v3 + 1))] [] h Q) ∧
        ((lcmp_ (rd h (q + 21 + v3) 0) v1) = 0 →
          Q (some (.inl v3)) h))) :
    Rn xs xl e mm_Quarter_personNamed 2 [some (.inr (.inr q)), some (.inr (.inl v1)), none, some (.inl v3)] [] h Q := by
  refine R_ld (v := .inl v3) dd_Quarter_personNamed_2 rfl rfl rfl rfl ?_
  refine R_ld (v := .inr (.inr q)) dd_Quarter_personNamed_3 rfl rfl rfl rfl ?_
  refine R_gf (v := .inl (rd h q 4)) dd_Quarter_personNamed_4 fd_6_45 (io_q hq) (congrArg (fun z : Int => (Sum.inl z : LV)) (rfl)) rfl ?_
  refine R_icmp dd_Quarter_personNamed_7 rfl rfl (fun (c2 : (rd h q 4) ≤ v3) => ?_) (fun (c2 : v3 < (rd h q 4)) => ?_)
  · replace k := k.1 c2
    refine R_ic dd_Quarter_personNamed_32 (by decide) rfl ?_
    exact R_iret dd_Quarter_personNamed_33 rfl k
  · replace k := k.2 c2
    refine R_ld (v := .inr (.inr q)) dd_Quarter_personNamed_10 rfl rfl rfl rfl ?_
    refine R_gf (v := .inr (.inr (q + 2))) dd_Quarter_personNamed_11 fd_6_23 (io_q hq) (congrArg (fun z : Int => (Sum.inr (Sum.inr z) : LV)) (rq_ppl hF hq)) rfl ?_
    refine R_ld (v := .inl v3) dd_Quarter_personNamed_14 rfl rfl rfl rfl ?_
    obtain ⟨s1, k⟩ := k
    refine R_aald (v := (q + 21 + v3)) (n := 6) dd_Quarter_personNamed_15 (ia_pq hq) (la_pq hq) s1 (rq_p hP hq s1) rfl ?_
    refine R_gf (v := .inr (.inl (rd h (q + 21 + v3) 0))) dd_Quarter_personNamed_16 fd_6_55 (io_p hq (by omega)) (congrArg (fun z : Int => (Sum.inr (Sum.inl z) : LV)) (rfl)) rfl ?_
    refine R_ld (v := .inr (.inl v1)) dd_Quarter_personNamed_19 rfl rfl rfl rfl ?_
    refine R_A dd_Quarter_personNamed_20 rfl rfl rfl rfl ?_
    refine R_if dd_Quarter_personNamed_21 rfl rfl (fun (c3 : (lcmp_ (rd h (q + 21 + v3) 0) v1) ≠ 0) => ?_) (fun (c3 : (lcmp_ (rd h (q + 21 + v3) 0) v1) = 0) => ?_)
    · replace k := k.1 c3
      refine R_inc (y := v3 + 1) (ls' := [some (.inr (.inr q)), some (.inr (.inl v1)), none, some (.inl (v3 + 1))]) dd_Quarter_personNamed_26 rfl (by decide) (by omega) (by omega) rfl rfl ?_
      refine R_goto dd_Quarter_personNamed_29 rfl ?_
      exact k
    · replace k := k.2 c3
      refine R_ld (v := .inl v3) dd_Quarter_personNamed_24 rfl rfl rfl rfl ?_
      exact R_iret dd_Quarter_personNamed_25 rfl k
theorem B_Reader_takeNewName_0 {xs : Nat → Int} {xl e : Nat} {h : LH} {Q : Option LV → LH → Prop} {q : Int} (hq : q = 5 ∨ q = 32) (hF : RF h)
    (k : (∃ c, c < e ∧ Rn xs xl c mm_Reader_isName 0 [some (.inr (.inr 2))] [] h (fun r h' => Rn xs xl e mm_Reader_takeNewName 9 [some (.inr (.inr 2)), some (.inr (.inr q)), some (.inr (.inl (rd h 2 6))), none] (r.toList ++ []) h' Q))) :
    Rn xs xl e mm_Reader_takeNewName 0 [some (.inr (.inr 2)), some (.inr (.inr q)), none, none] [] h Q := by
  refine R_ld (v := .inr (.inr 2)) dd_Reader_takeNewName_0 rfl rfl rfl rfl ?_
  refine R_gf (v := .inr (.inl (rd h 2 6))) dd_Reader_takeNewName_1 fd_7_174 io_2 (congrArg (fun z : Int => (Sum.inr (Sum.inl z) : LV)) (rfl)) rfl ?_
  refine R_st (ls' := [some (.inr (.inr 2)), some (.inr (.inr q)), some (.inr (.inl (rd h 2 6))), none]) dd_Reader_takeNewName_4 rfl rfl rfl (Nat.le_of_ble_eq_true rfl) rfl rfl ?_
  refine R_ld (v := .inr (.inr 2)) dd_Reader_takeNewName_5 rfl rfl rfl rfl ?_
  obtain ⟨c, hc, k⟩ := k
  exact R_call (as := [.inr (.inr 2)]) (rest := []) (M' := mm_Reader_isName) (ls0 := [some (.inr (.inr 2))]) dd_Reader_takeNewName_6 rfl rfl (cw_v cw_7_205 io_2 rfl rfl (Nat.le_of_ble_eq_true rfl) (Nat.le_of_ble_eq_true rfl)) mt_Reader_isName rfl hc rfl k
theorem B_Reader_takeNewName_9 {xs : Nat → Int} {xl e : Nat} {h : LH} {Q : Option LV → LH → Prop} {v2 w0 : Int} {q : Int} (hq : q = 5 ∨ q = 32) (hF : RF h)
    (k : (w0 ≠ 0 →
        (∃ c, c < e ∧ Rn xs xl c mm_Quarter_doorNamed 0 [some (.inr (.inr q)), some (.inr (.inl v2)), none, none] [] h (fun r h' => Rn xs xl e mm_Reader_takeNewName 25 [some (.inr (.inr 2)), some (.inr (.inr q)), some (.inr (.inl v2)), none] (r.toList ++ []) h' Q))) ∧
      (w0 = 0 →
        (∃ c, c < e ∧ Rn xs xl c mm_Reader_fail 0 [some (.inr (.inr 2)), some (.inl 1)] [] h (fun r h' => Rn xs xl e mm_Reader_takeNewName 17 [some (.inr (.inr 2)), some (.inr (.inr q)), some (.inr (.inl v2)), none] (r.toList ++ []) h' Q)))) :
    Rn xs xl e mm_Reader_takeNewName 9 [some (.inr (.inr 2)), some (.inr (.inr q)), some (.inr (.inl v2)), none] [.inl w0] h Q := by
  refine R_if dd_Reader_takeNewName_9 rfl rfl (fun (c3 : w0 ≠ 0) => ?_) (fun (c3 : w0 = 0) => ?_)
  · replace k := k.1 c3
    refine R_ld (v := .inr (.inr q)) dd_Reader_takeNewName_20 rfl rfl rfl rfl ?_
    refine R_ld (v := .inr (.inl v2)) dd_Reader_takeNewName_21 rfl rfl rfl rfl ?_
    obtain ⟨c, hc, k⟩ := k
    exact R_call (as := [.inr (.inr q), .inr (.inl v2)]) (rest := []) (M' := mm_Quarter_doorNamed) (ls0 := [some (.inr (.inr q)), some (.inr (.inl v2)), none, none]) dd_Reader_takeNewName_22 rfl rfl (cw_v cw_7_184 (io_q hq) rfl rfl (Nat.le_of_ble_eq_true rfl) (Nat.le_of_ble_eq_true rfl)) mt_Quarter_doorNamed rfl hc rfl k
  · replace k := k.2 c3
    refine R_ld (v := .inr (.inr 2)) dd_Reader_takeNewName_12 rfl rfl rfl rfl ?_
    refine R_ic dd_Reader_takeNewName_13 (by decide) rfl ?_
    obtain ⟨c, hc, k⟩ := k
    exact R_call (as := [.inr (.inr 2), .inl 1]) (rest := []) (M' := mm_Reader_fail) (ls0 := [some (.inr (.inr 2)), some (.inl 1)]) dd_Reader_takeNewName_14 rfl rfl (cw_v cw_7_80 io_2 rfl rfl (Nat.le_of_ble_eq_true rfl) (Nat.le_of_ble_eq_true rfl)) mt_Reader_fail rfl hc rfl k
theorem B_Reader_takeNewName_17 {xs : Nat → Int} {xl e : Nat} {h : LH} {Q : Option LV → LH → Prop} {v2 : Int} {q : Int} (hq : q = 5 ∨ q = 32) (hF : RF h)
    (k : Q (some (.inr (.inl v2))) h) :
    Rn xs xl e mm_Reader_takeNewName 17 [some (.inr (.inr 2)), some (.inr (.inr q)), some (.inr (.inl v2)), none] [] h Q := by
  refine R_goto dd_Reader_takeNewName_17 rfl ?_
  refine R_ld (v := .inr (.inl v2)) dd_Reader_takeNewName_50 rfl rfl rfl rfl ?_
  exact R_lret dd_Reader_takeNewName_51 rfl k
theorem B_Reader_takeNewName_25 {xs : Nat → Int} {xl e : Nat} {h : LH} {Q : Option LV → LH → Prop} {v2 w0 : Int} {q : Int} (hq : q = 5 ∨ q = 32) (hF : RF h)
    (k : (w0 ≠ (-1) →
        (∃ c, c < e ∧ Rn xs xl c mm_Reader_fail 0 [some (.inr (.inr 2)), some (.inl 3)] [] h (fun r h' => Rn xs xl e mm_Reader_takeNewName 43 [some (.inr (.inr 2)), some (.inr (.inr q)), some (.inr (.inl v2)), none] (r.toList ++ []) h' Q))) ∧
      (w0 = (-1) →
        (∃ c, c < e ∧ Rn xs xl c mm_Quarter_personNamed 0 [some (.inr (.inr q)), some (.inr (.inl v2)), none, none] [] h (fun r h' => Rn xs xl e mm_Reader_takeNewName 34 [some (.inr (.inr 2)), some (.inr (.inr q)), some (.inr (.inl v2)), none] (r.toList ++ []) h' Q)))) :
    Rn xs xl e mm_Reader_takeNewName 25 [some (.inr (.inr 2)), some (.inr (.inr q)), some (.inr (.inl v2)), none] [.inl w0] h Q := by
  refine R_ic dd_Reader_takeNewName_25 (by decide) rfl ?_
  refine R_icmp dd_Reader_takeNewName_26 rfl rfl (fun (c3 : w0 ≠ (-1)) => ?_) (fun (c3 : w0 = (-1)) => ?_)
  · replace k := k.1 c3
    refine R_ld (v := .inr (.inr 2)) dd_Reader_takeNewName_38 rfl rfl rfl rfl ?_
    refine R_ic dd_Reader_takeNewName_39 (by decide) rfl ?_
    obtain ⟨c, hc, k⟩ := k
    exact R_call (as := [.inr (.inr 2), .inl 3]) (rest := []) (M' := mm_Reader_fail) (ls0 := [some (.inr (.inr 2)), some (.inl 3)]) dd_Reader_takeNewName_40 rfl rfl (cw_v cw_7_80 io_2 rfl rfl (Nat.le_of_ble_eq_true rfl) (Nat.le_of_ble_eq_true rfl)) mt_Reader_fail rfl hc rfl k
  · replace k := k.2 c3
    refine R_ld (v := .inr (.inr q)) dd_Reader_takeNewName_29 rfl rfl rfl rfl ?_
    refine R_ld (v := .inr (.inl v2)) dd_Reader_takeNewName_30 rfl rfl rfl rfl ?_
    obtain ⟨c, hc, k⟩ := k
    exact R_call (as := [.inr (.inr q), .inr (.inl v2)]) (rest := []) (M' := mm_Quarter_personNamed) (ls0 := [some (.inr (.inr q)), some (.inr (.inl v2)), none, none]) dd_Reader_takeNewName_31 rfl rfl (cw_v cw_7_177 (io_q hq) rfl rfl (Nat.le_of_ble_eq_true rfl) (Nat.le_of_ble_eq_true rfl)) mt_Quarter_personNamed rfl hc rfl k
theorem B_Reader_takeNewName_34 {xs : Nat → Int} {xl e : Nat} {h : LH} {Q : Option LV → LH → Prop} {v2 w0 : Int} {q : Int} (hq : q = 5 ∨ q = 32) (hF : RF h)
    (k : (w0 = (-1) →
        (∃ c, c < e ∧ Rn xs xl c mm_Reader_step 0 [some (.inr (.inr 2)), none] [] h (fun r h' => Rn xs xl e mm_Reader_takeNewName 50 [some (.inr (.inr 2)), some (.inr (.inr q)), some (.inr (.inl v2)), none] (r.toList ++ []) h' Q))) ∧
      (w0 ≠ (-1) →
        (∃ c, c < e ∧ Rn xs xl c mm_Reader_fail 0 [some (.inr (.inr 2)), some (.inl 3)] [] h (fun r h' => Rn xs xl e mm_Reader_takeNewName 43 [some (.inr (.inr 2)), some (.inr (.inr q)), some (.inr (.inl v2)), none] (r.toList ++ []) h' Q)))) :
    Rn xs xl e mm_Reader_takeNewName 34 [some (.inr (.inr 2)), some (.inr (.inr q)), some (.inr (.inl v2)), none] [.inl w0] h Q := by
  refine R_ic dd_Reader_takeNewName_34 (by decide) rfl ?_
  refine R_icmp dd_Reader_takeNewName_35 rfl rfl (fun (c3 : w0 = (-1)) => ?_) (fun (c3 : w0 ≠ (-1)) => ?_)
  · replace k := k.1 c3
    refine R_ld (v := .inr (.inr 2)) dd_Reader_takeNewName_46 rfl rfl rfl rfl ?_
    obtain ⟨c, hc, k⟩ := k
    exact R_call (as := [.inr (.inr 2)]) (rest := []) (M' := mm_Reader_step) (ls0 := [some (.inr (.inr 2)), none]) dd_Reader_takeNewName_47 rfl rfl (cw_v cw_7_99 io_2 rfl rfl (Nat.le_of_ble_eq_true rfl) (Nat.le_of_ble_eq_true rfl)) mt_Reader_step rfl hc rfl k
  · replace k := k.2 c3
    refine R_ld (v := .inr (.inr 2)) dd_Reader_takeNewName_38 rfl rfl rfl rfl ?_
    refine R_ic dd_Reader_takeNewName_39 (by decide) rfl ?_
    obtain ⟨c, hc, k⟩ := k
    exact R_call (as := [.inr (.inr 2), .inl 3]) (rest := []) (M' := mm_Reader_fail) (ls0 := [some (.inr (.inr 2)), some (.inl 3)]) dd_Reader_takeNewName_40 rfl rfl (cw_v cw_7_80 io_2 rfl rfl (Nat.le_of_ble_eq_true rfl) (Nat.le_of_ble_eq_true rfl)) mt_Reader_fail rfl hc rfl k
theorem B_Reader_takeNewName_43 {xs : Nat → Int} {xl e : Nat} {h : LH} {Q : Option LV → LH → Prop} {v2 : Int} {q : Int} (hq : q = 5 ∨ q = 32) (hF : RF h)
    (k : Q (some (.inr (.inl v2))) h) :
    Rn xs xl e mm_Reader_takeNewName 43 [some (.inr (.inr 2)), some (.inr (.inr q)), some (.inr (.inl v2)), none] [] h Q := by
  refine R_goto dd_Reader_takeNewName_43 rfl ?_
  refine R_ld (v := .inr (.inl v2)) dd_Reader_takeNewName_50 rfl rfl rfl rfl ?_
  exact R_lret dd_Reader_takeNewName_51 rfl k
theorem B_Reader_takeNewName_50 {xs : Nat → Int} {xl e : Nat} {h : LH} {Q : Option LV → LH → Prop} {v2 : Int} {q : Int} (hq : q = 5 ∨ q = 32) (hF : RF h)
    (k : Q (some (.inr (.inl v2))) h) :
    Rn xs xl e mm_Reader_takeNewName 50 [some (.inr (.inr 2)), some (.inr (.inr q)), some (.inr (.inl v2)), none] [] h Q := by
  refine R_ld (v := .inr (.inl v2)) dd_Reader_takeNewName_50 rfl rfl rfl rfl ?_
  exact R_lret dd_Reader_takeNewName_51 rfl k
end
section
/-! LM, by program (wip/p2/hand.py): p3: rows of the class's door line -/
def mm_Reader_doorLine : LM_M := (⟨"OneSided$Reader", "doorLine", "(LOneSided$Quarter;)V"⟩, prog_9_method_5_code, 4, none, 7, 2, 0, 644, 643, 1000011)
theorem dd_Reader_doorLine_0 : decode mm_Reader_doorLine.2.1 0 = .ok (.aload_n 1, 1) := by decide +kernel
theorem dd_Reader_doorLine_1 : decode mm_Reader_doorLine.2.1 1 = .ok (.getfield 92, 3) := by decide +kernel
theorem fd_7_92 : fld 7 92 = some (6, 2) := by decide +kernel
theorem dd_Reader_doorLine_4 : decode mm_Reader_doorLine.2.1 4 = .ok (.bipush 14, 2) := by decide +kernel
theorem dd_Reader_doorLine_6 : decode mm_Reader_doorLine.2.1 6 = .ok (.if_icmp .lt (9), 3) := by decide +kernel
theorem dd_Reader_doorLine_15 : decode mm_Reader_doorLine.2.1 15 = .ok (.aload_n 1, 1) := by decide +kernel
theorem dd_Reader_doorLine_16 : decode mm_Reader_doorLine.2.1 16 = .ok (.getfield 95, 3) := by decide +kernel
theorem fd_7_95 : fld 7 95 = some (6, 1) := by decide +kernel
theorem dd_Reader_doorLine_19 : decode mm_Reader_doorLine.2.1 19 = .ok (.aload_n 1, 1) := by decide +kernel
theorem dd_Reader_doorLine_20 : decode mm_Reader_doorLine.2.1 20 = .ok (.getfield 92, 3) := by decide +kernel
theorem dd_Reader_doorLine_23 : decode mm_Reader_doorLine.2.1 23 = .ok (.aaload, 1) := by decide +kernel
theorem dd_Reader_doorLine_24 : decode mm_Reader_doorLine.2.1 24 = .ok (.astore_n 2, 1) := by decide +kernel
theorem dd_Reader_doorLine_25 : decode mm_Reader_doorLine.2.1 25 = .ok (.aload_n 0, 1) := by decide +kernel
theorem dd_Reader_doorLine_26 : decode mm_Reader_doorLine.2.1 26 = .ok (.invokevirtual 99, 3) := by decide +kernel
theorem dd_Reader_doorLine_9 : decode mm_Reader_doorLine.2.1 9 = .ok (.aload_n 0, 1) := by decide +kernel
theorem dd_Reader_doorLine_10 : decode mm_Reader_doorLine.2.1 10 = .ok (.iconst 5, 1) := by decide +kernel
theorem dd_Reader_doorLine_11 : decode mm_Reader_doorLine.2.1 11 = .ok (.invokevirtual 80, 3) := by decide +kernel
theorem dd_Reader_doorLine_14 : decode mm_Reader_doorLine.2.1 14 = .ok (.return_, 1) := by decide +kernel
theorem dd_Reader_doorLine_29 : decode mm_Reader_doorLine.2.1 29 = .ok (.aload_n 2, 1) := by decide +kernel
theorem dd_Reader_doorLine_30 : decode mm_Reader_doorLine.2.1 30 = .ok (.aload_n 0, 1) := by decide +kernel
theorem dd_Reader_doorLine_31 : decode mm_Reader_doorLine.2.1 31 = .ok (.aload_n 1, 1) := by decide +kernel
theorem dd_Reader_doorLine_32 : decode mm_Reader_doorLine.2.1 32 = .ok (.invokevirtual 102, 3) := by decide +kernel
theorem cw_7_102 : cwOk 7 102 0 31 2 4 7 = true := by decide +kernel
theorem mt_Reader_takeNewName : MTB 31 = some mm_Reader_takeNewName := rfl
theorem dd_Reader_doorLine_35 : decode mm_Reader_doorLine.2.1 35 = .ok (.putfield 106, 3) := by decide +kernel
theorem fd_7_106 : fld 7 106 = some (1, 0) := by decide +kernel
theorem fn_1_0 : fin 1 0 = false := by decide +kernel
theorem dd_Reader_doorLine_38 : decode mm_Reader_doorLine.2.1 38 = .ok (.aload_n 2, 1) := by decide +kernel
theorem dd_Reader_doorLine_39 : decode mm_Reader_doorLine.2.1 39 = .ok (.aload_n 0, 1) := by decide +kernel
theorem dd_Reader_doorLine_40 : decode mm_Reader_doorLine.2.1 40 = .ok (.iconst 0, 1) := by decide +kernel
theorem dd_Reader_doorLine_41 : decode mm_Reader_doorLine.2.1 41 = .ok (.aload_n 1, 1) := by decide +kernel
theorem dd_Reader_doorLine_42 : decode mm_Reader_doorLine.2.1 42 = .ok (.getfield 54, 3) := by decide +kernel
theorem fd_7_54 : fld 7 54 = some (6, 0) := by decide +kernel
theorem dd_Reader_doorLine_45 : decode mm_Reader_doorLine.2.1 45 = .ok (.iconst 1, 1) := by decide +kernel
theorem dd_Reader_doorLine_46 : decode mm_Reader_doorLine.2.1 46 = .ok (.isub, 1) := by decide +kernel
theorem dd_Reader_doorLine_47 : decode mm_Reader_doorLine.2.1 47 = .ok (.invokevirtual 50, 3) := by decide +kernel
theorem dd_Reader_doorLine_50 : decode mm_Reader_doorLine.2.1 50 = .ok (.putfield 112, 3) := by decide +kernel
theorem fd_7_112 : fld 7 112 = some (1, 2) := by decide +kernel
theorem fn_1_2 : fin 1 2 = false := by decide +kernel
theorem dd_Reader_doorLine_53 : decode mm_Reader_doorLine.2.1 53 = .ok (.aload_n 0, 1) := by decide +kernel
theorem dd_Reader_doorLine_54 : decode mm_Reader_doorLine.2.1 54 = .ok (.iconst 2, 1) := by decide +kernel
theorem dd_Reader_doorLine_55 : decode mm_Reader_doorLine.2.1 55 = .ok (.invokevirtual 46, 3) := by decide +kernel
theorem cw_7_46 : cwOk 7 46 0 25 2 2 7 = true := by decide +kernel
theorem mt_Reader_takeWord : MTB 25 = some mm_Reader_takeWord := rfl
theorem dd_Reader_doorLine_58 : decode mm_Reader_doorLine.2.1 58 = .ok (.aload_n 2, 1) := by decide +kernel
theorem dd_Reader_doorLine_59 : decode mm_Reader_doorLine.2.1 59 = .ok (.aload_n 0, 1) := by decide +kernel
theorem dd_Reader_doorLine_60 : decode mm_Reader_doorLine.2.1 60 = .ok (.aload_n 2, 1) := by decide +kernel
theorem dd_Reader_doorLine_61 : decode mm_Reader_doorLine.2.1 61 = .ok (.getfield 112, 3) := by decide +kernel
theorem dd_Reader_doorLine_64 : decode mm_Reader_doorLine.2.1 64 = .ok (.aload_n 1, 1) := by decide +kernel
theorem dd_Reader_doorLine_65 : decode mm_Reader_doorLine.2.1 65 = .ok (.getfield 54, 3) := by decide +kernel
theorem dd_Reader_doorLine_68 : decode mm_Reader_doorLine.2.1 68 = .ok (.invokevirtual 115, 3) := by decide +kernel
theorem cw_7_115 : cwOk 7 115 0 35 3 3 7 = true := by decide +kernel
theorem mt_Reader_takeOtherRoom : MTB 35 = some mm_Reader_takeOtherRoom := rfl
theorem dd_Reader_doorLine_71 : decode mm_Reader_doorLine.2.1 71 = .ok (.putfield 118, 3) := by decide +kernel
theorem fd_7_118 : fld 7 118 = some (1, 3) := by decide +kernel
theorem fn_1_3 : fin 1 3 = false := by decide +kernel
theorem dd_Reader_doorLine_74 : decode mm_Reader_doorLine.2.1 74 = .ok (.aload_n 2, 1) := by decide +kernel
theorem dd_Reader_doorLine_75 : decode mm_Reader_doorLine.2.1 75 = .ok (.aload_n 0, 1) := by decide +kernel
theorem dd_Reader_doorLine_76 : decode mm_Reader_doorLine.2.1 76 = .ok (.bipush 14, 2) := by decide +kernel
theorem dd_Reader_doorLine_78 : decode mm_Reader_doorLine.2.1 78 = .ok (.invokevirtual 121, 3) := by decide +kernel
theorem cw_7_121 : cwOk 7 121 0 36 2 3 7 = true := by decide +kernel
theorem mt_Reader_takeOneOfFour : MTB 36 = some mm_Reader_takeOneOfFour := rfl
theorem dd_Reader_doorLine_81 : decode mm_Reader_doorLine.2.1 81 = .ok (.putfield 125, 3) := by decide +kernel
theorem fd_7_125 : fld 7 125 = some (1, 1) := by decide +kernel
theorem fn_1_1 : fin 1 1 = false := by decide +kernel
theorem dd_Reader_doorLine_84 : decode mm_Reader_doorLine.2.1 84 = .ok (.aload_n 0, 1) := by decide +kernel
theorem dd_Reader_doorLine_85 : decode mm_Reader_doorLine.2.1 85 = .ok (.iconst 3, 1) := by decide +kernel
theorem dd_Reader_doorLine_86 : decode mm_Reader_doorLine.2.1 86 = .ok (.invokevirtual 126, 3) := by decide +kernel
theorem cw_7_126 : cwOk 7 126 0 37 2 2 7 = true := by decide +kernel
theorem mt_Reader_skipWord : MTB 37 = some mm_Reader_skipWord := rfl
theorem dd_Reader_doorLine_89 : decode mm_Reader_doorLine.2.1 89 = .ok (.istore_n 3, 1) := by decide +kernel
theorem dd_Reader_doorLine_90 : decode mm_Reader_doorLine.2.1 90 = .ok (.aload_n 2, 1) := by decide +kernel
theorem dd_Reader_doorLine_91 : decode mm_Reader_doorLine.2.1 91 = .ok (.iload_n 3, 1) := by decide +kernel
theorem dd_Reader_doorLine_92 : decode mm_Reader_doorLine.2.1 92 = .ok (.ifCond .eq (13), 3) := by decide +kernel
theorem dd_Reader_doorLine_105 : decode mm_Reader_doorLine.2.1 105 = .ok (.iconst 0, 1) := by decide +kernel
theorem dd_Reader_doorLine_95 : decode mm_Reader_doorLine.2.1 95 = .ok (.aload_n 0, 1) := by decide +kernel
theorem dd_Reader_doorLine_96 : decode mm_Reader_doorLine.2.1 96 = .ok (.iconst 0, 1) := by decide +kernel
theorem dd_Reader_doorLine_97 : decode mm_Reader_doorLine.2.1 97 = .ok (.bipush 23, 2) := by decide +kernel
theorem dd_Reader_doorLine_99 : decode mm_Reader_doorLine.2.1 99 = .ok (.invokevirtual 50, 3) := by decide +kernel
theorem dd_Reader_doorLine_102 : decode mm_Reader_doorLine.2.1 102 = .ok (.goto 4, 3) := by decide +kernel
theorem dd_Reader_doorLine_106 : decode mm_Reader_doorLine.2.1 106 = .ok (.putfield 130, 3) := by decide +kernel
theorem fd_7_130 : fld 7 130 = some (1, 4) := by decide +kernel
theorem fn_1_4 : fin 1 4 = false := by decide +kernel
theorem dd_Reader_doorLine_109 : decode mm_Reader_doorLine.2.1 109 = .ok (.iload_n 3, 1) := by decide +kernel
theorem dd_Reader_doorLine_110 : decode mm_Reader_doorLine.2.1 110 = .ok (.ifCond .eq (8), 3) := by decide +kernel
theorem dd_Reader_doorLine_113 : decode mm_Reader_doorLine.2.1 113 = .ok (.aload_n 0, 1) := by decide +kernel
theorem dd_Reader_doorLine_114 : decode mm_Reader_doorLine.2.1 114 = .ok (.iconst 2, 1) := by decide +kernel
theorem dd_Reader_doorLine_115 : decode mm_Reader_doorLine.2.1 115 = .ok (.invokevirtual 46, 3) := by decide +kernel
theorem dd_Reader_doorLine_118 : decode mm_Reader_doorLine.2.1 118 = .ok (.aload_n 2, 1) := by decide +kernel
theorem dd_Reader_doorLine_119 : decode mm_Reader_doorLine.2.1 119 = .ok (.iload_n 3, 1) := by decide +kernel
theorem dd_Reader_doorLine_120 : decode mm_Reader_doorLine.2.1 120 = .ok (.ifCond .eq (18), 3) := by decide +kernel
theorem dd_Reader_doorLine_138 : decode mm_Reader_doorLine.2.1 138 = .ok (.bipush 24, 2) := by decide +kernel
theorem dd_Reader_doorLine_123 : decode mm_Reader_doorLine.2.1 123 = .ok (.aload_n 0, 1) := by decide +kernel
theorem dd_Reader_doorLine_124 : decode mm_Reader_doorLine.2.1 124 = .ok (.aload_n 2, 1) := by decide +kernel
theorem dd_Reader_doorLine_125 : decode mm_Reader_doorLine.2.1 125 = .ok (.getfield 130, 3) := by decide +kernel
theorem dd_Reader_doorLine_128 : decode mm_Reader_doorLine.2.1 128 = .ok (.iconst 1, 1) := by decide +kernel
theorem dd_Reader_doorLine_129 : decode mm_Reader_doorLine.2.1 129 = .ok (.iadd, 1) := by decide +kernel
theorem dd_Reader_doorLine_130 : decode mm_Reader_doorLine.2.1 130 = .ok (.bipush 24, 2) := by decide +kernel
theorem dd_Reader_doorLine_132 : decode mm_Reader_doorLine.2.1 132 = .ok (.invokevirtual 50, 3) := by decide +kernel
theorem dd_Reader_doorLine_135 : decode mm_Reader_doorLine.2.1 135 = .ok (.goto 5, 3) := by decide +kernel
theorem dd_Reader_doorLine_140 : decode mm_Reader_doorLine.2.1 140 = .ok (.putfield 133, 3) := by decide +kernel
theorem fd_7_133 : fld 7 133 = some (1, 5) := by decide +kernel
theorem fn_1_5 : fin 1 5 = false := by decide +kernel
theorem dd_Reader_doorLine_143 : decode mm_Reader_doorLine.2.1 143 = .ok (.aload_n 2, 1) := by decide +kernel
theorem dd_Reader_doorLine_144 : decode mm_Reader_doorLine.2.1 144 = .ok (.aload_n 0, 1) := by decide +kernel
theorem dd_Reader_doorLine_145 : decode mm_Reader_doorLine.2.1 145 = .ok (.iconst 4, 1) := by decide +kernel
theorem dd_Reader_doorLine_146 : decode mm_Reader_doorLine.2.1 146 = .ok (.invokevirtual 126, 3) := by decide +kernel
theorem dd_Reader_doorLine_149 : decode mm_Reader_doorLine.2.1 149 = .ok (.ifCond .eq (12), 3) := by decide +kernel
theorem dd_Reader_doorLine_161 : decode mm_Reader_doorLine.2.1 161 = .ok (.iconst (-1), 1) := by decide +kernel
theorem dd_Reader_doorLine_152 : decode mm_Reader_doorLine.2.1 152 = .ok (.aload_n 0, 1) := by decide +kernel
theorem dd_Reader_doorLine_153 : decode mm_Reader_doorLine.2.1 153 = .ok (.bipush 18, 2) := by decide +kernel
theorem dd_Reader_doorLine_155 : decode mm_Reader_doorLine.2.1 155 = .ok (.invokevirtual 121, 3) := by decide +kernel
theorem dd_Reader_doorLine_158 : decode mm_Reader_doorLine.2.1 158 = .ok (.goto 4, 3) := by decide +kernel
theorem dd_Reader_doorLine_162 : decode mm_Reader_doorLine.2.1 162 = .ok (.putfield 136, 3) := by decide +kernel
theorem fd_7_136 : fld 7 136 = some (1, 6) := by decide +kernel
theorem fn_1_6 : fin 1 6 = false := by decide +kernel
theorem dd_Reader_doorLine_165 : decode mm_Reader_doorLine.2.1 165 = .ok (.aload_n 2, 1) := by decide +kernel
theorem dd_Reader_doorLine_166 : decode mm_Reader_doorLine.2.1 166 = .ok (.aload_n 0, 1) := by decide +kernel
theorem dd_Reader_doorLine_167 : decode mm_Reader_doorLine.2.1 167 = .ok (.iconst 5, 1) := by decide +kernel
theorem dd_Reader_doorLine_168 : decode mm_Reader_doorLine.2.1 168 = .ok (.invokevirtual 126, 3) := by decide +kernel
theorem dd_Reader_doorLine_171 : decode mm_Reader_doorLine.2.1 171 = .ok (.ifCond .eq (13), 3) := by decide +kernel
theorem dd_Reader_doorLine_184 : decode mm_Reader_doorLine.2.1 184 = .ok (.iconst 1, 1) := by decide +kernel
theorem dd_Reader_doorLine_174 : decode mm_Reader_doorLine.2.1 174 = .ok (.aload_n 0, 1) := by decide +kernel
theorem dd_Reader_doorLine_175 : decode mm_Reader_doorLine.2.1 175 = .ok (.iconst 1, 1) := by decide +kernel
theorem dd_Reader_doorLine_176 : decode mm_Reader_doorLine.2.1 176 = .ok (.bipush 9, 2) := by decide +kernel
theorem dd_Reader_doorLine_178 : decode mm_Reader_doorLine.2.1 178 = .ok (.invokevirtual 50, 3) := by decide +kernel
theorem dd_Reader_doorLine_181 : decode mm_Reader_doorLine.2.1 181 = .ok (.goto 4, 3) := by decide +kernel
theorem dd_Reader_doorLine_185 : decode mm_Reader_doorLine.2.1 185 = .ok (.putfield 139, 3) := by decide +kernel
theorem fd_7_139 : fld 7 139 = some (1, 7) := by decide +kernel
theorem fn_1_7 : fin 1 7 = false := by decide +kernel
theorem dd_Reader_doorLine_188 : decode mm_Reader_doorLine.2.1 188 = .ok (.aload_n 2, 1) := by decide +kernel
theorem dd_Reader_doorLine_189 : decode mm_Reader_doorLine.2.1 189 = .ok (.aload_n 0, 1) := by decide +kernel
theorem dd_Reader_doorLine_190 : decode mm_Reader_doorLine.2.1 190 = .ok (.bipush 6, 2) := by decide +kernel
theorem dd_Reader_doorLine_192 : decode mm_Reader_doorLine.2.1 192 = .ok (.invokevirtual 126, 3) := by decide +kernel
theorem dd_Reader_doorLine_195 : decode mm_Reader_doorLine.2.1 195 = .ok (.ifCond .eq (13), 3) := by decide +kernel
theorem dd_Reader_doorLine_208 : decode mm_Reader_doorLine.2.1 208 = .ok (.iconst 0, 1) := by decide +kernel
theorem dd_Reader_doorLine_198 : decode mm_Reader_doorLine.2.1 198 = .ok (.aload_n 0, 1) := by decide +kernel
theorem dd_Reader_doorLine_199 : decode mm_Reader_doorLine.2.1 199 = .ok (.iconst 0, 1) := by decide +kernel
theorem dd_Reader_doorLine_200 : decode mm_Reader_doorLine.2.1 200 = .ok (.bipush 9, 2) := by decide +kernel
theorem dd_Reader_doorLine_202 : decode mm_Reader_doorLine.2.1 202 = .ok (.invokevirtual 50, 3) := by decide +kernel
theorem dd_Reader_doorLine_205 : decode mm_Reader_doorLine.2.1 205 = .ok (.goto 4, 3) := by decide +kernel
theorem dd_Reader_doorLine_209 : decode mm_Reader_doorLine.2.1 209 = .ok (.putfield 142, 3) := by decide +kernel
theorem fd_7_142 : fld 7 142 = some (1, 8) := by decide +kernel
theorem fn_1_8 : fin 1 8 = false := by decide +kernel
theorem dd_Reader_doorLine_212 : decode mm_Reader_doorLine.2.1 212 = .ok (.aload_n 0, 1) := by decide +kernel
theorem dd_Reader_doorLine_213 : decode mm_Reader_doorLine.2.1 213 = .ok (.bipush 59, 2) := by decide +kernel
theorem dd_Reader_doorLine_215 : decode mm_Reader_doorLine.2.1 215 = .ok (.invokevirtual 57, 3) := by decide +kernel
theorem dd_Reader_doorLine_218 : decode mm_Reader_doorLine.2.1 218 = .ok (.aload_n 1, 1) := by decide +kernel
theorem dd_Reader_doorLine_219 : decode mm_Reader_doorLine.2.1 219 = .ok (.dup, 1) := by decide +kernel
theorem dd_Reader_doorLine_220 : decode mm_Reader_doorLine.2.1 220 = .ok (.getfield 92, 3) := by decide +kernel
theorem dd_Reader_doorLine_223 : decode mm_Reader_doorLine.2.1 223 = .ok (.iconst 1, 1) := by decide +kernel
theorem dd_Reader_doorLine_224 : decode mm_Reader_doorLine.2.1 224 = .ok (.iadd, 1) := by decide +kernel
theorem dd_Reader_doorLine_225 : decode mm_Reader_doorLine.2.1 225 = .ok (.putfield 92, 3) := by decide +kernel
theorem fn_6_2 : fin 6 2 = false := by decide +kernel
theorem dd_Reader_doorLine_228 : decode mm_Reader_doorLine.2.1 228 = .ok (.return_, 1) := by decide +kernel
theorem B_Reader_doorLine_0 {xs : Nat → Int} {xl e : Nat} {h : LH} {Q : Option LV → LH → Prop} {q : Int} (hq : q = 5 ∨ q = 32) (hF : RF h) (hP : PT h)
    (k : ((rd h q 2) < 14 →
        (0 ≤ (rd h q 2) ∧ (rd h q 2) < 14) ∧
        (∃ c, c < e ∧ Rn xs xl c mm_Reader_step 0 [some (.inr (.inr 2)), none] [] h (fun r h' => Rn xs xl e mm_Reader_doorLine 29 [some (.inr (.inr 2)), some (.inr (.inr q)), some (.inr (.inr (q + 7 + (rd h q 2)))), none] (r.toList ++ []) h' Q))) ∧
      (14 ≤ (rd h q 2) →
        (∃ c, c < e ∧ Rn xs xl c mm_Reader_fail 0 [some (.inr (.inr 2)), some (.inl 5)] [] h (fun r h' => Rn xs xl e mm_Reader_doorLine 14 [some (.inr (.inr 2)), some (.inr (.inr q)), none, none] (r.toList ++ []) h' Q)))) :
    Rn xs xl e mm_Reader_doorLine 0 [some (.inr (.inr 2)), some (.inr (.inr q)), none, none] [] h Q := by
  refine R_ld (v := .inr (.inr q)) dd_Reader_doorLine_0 rfl rfl rfl rfl ?_
  refine R_gf (v := .inl (rd h q 2)) dd_Reader_doorLine_1 fd_7_92 (io_q hq) (congrArg (fun z : Int => (Sum.inl z : LV)) (rfl)) rfl ?_
  refine R_bi dd_Reader_doorLine_4 (by decide) rfl ?_
  refine R_icmp dd_Reader_doorLine_6 rfl rfl (fun (c4 : (rd h q 2) < 14) => ?_) (fun (c4 : 14 ≤ (rd h q 2)) => ?_)
  · replace k := k.1 c4
    refine R_ld (v := .inr (.inr q)) dd_Reader_doorLine_15 rfl rfl rfl rfl ?_
    refine R_gf (v := .inr (.inr (q + 1))) dd_Reader_doorLine_16 fd_7_95 (io_q hq) (congrArg (fun z : Int => (Sum.inr (Sum.inr z) : LV)) (rq_arr hF hq)) rfl ?_
    refine R_ld (v := .inr (.inr q)) dd_Reader_doorLine_19 rfl rfl rfl rfl ?_
    refine R_gf (v := .inl (rd h q 2)) dd_Reader_doorLine_20 fd_7_92 (io_q hq) (congrArg (fun z : Int => (Sum.inl z : LV)) (rfl)) rfl ?_
    obtain ⟨s1, k⟩ := k
    refine R_aald (v := (q + 7 + (rd h q 2))) (n := 14) dd_Reader_doorLine_23 (ia_dq hq) (la_dq hq) s1 (rq_d hP hq s1) rfl ?_
    refine R_st (ls' := [some (.inr (.inr 2)), some (.inr (.inr q)), some (.inr (.inr (q + 7 + (rd h q 2)))), none]) dd_Reader_doorLine_24 rfl rfl rfl (Nat.le_of_ble_eq_true rfl) rfl rfl ?_
    refine R_ld (v := .inr (.inr 2)) dd_Reader_doorLine_25 rfl rfl rfl rfl ?_
    obtain ⟨c, hc, k⟩ := k
    exact R_call (as := [.inr (.inr 2)]) (rest := []) (M' := mm_Reader_step) (ls0 := [some (.inr (.inr 2)), none]) dd_Reader_doorLine_26 rfl rfl (cw_v cw_7_99 io_2 rfl rfl (Nat.le_of_ble_eq_true rfl) (Nat.le_of_ble_eq_true rfl)) mt_Reader_step rfl hc rfl k
  · replace k := k.2 c4
    refine R_ld (v := .inr (.inr 2)) dd_Reader_doorLine_9 rfl rfl rfl rfl ?_
    refine R_ic dd_Reader_doorLine_10 (by decide) rfl ?_
    obtain ⟨c, hc, k⟩ := k
    exact R_call (as := [.inr (.inr 2), .inl 5]) (rest := []) (M' := mm_Reader_fail) (ls0 := [some (.inr (.inr 2)), some (.inl 5)]) dd_Reader_doorLine_11 rfl rfl (cw_v cw_7_80 io_2 rfl rfl (Nat.le_of_ble_eq_true rfl) (Nat.le_of_ble_eq_true rfl)) mt_Reader_fail rfl hc rfl k
theorem B_Reader_doorLine_14 {xs : Nat → Int} {xl e : Nat} {h : LH} {Q : Option LV → LH → Prop} {q : Int} (hq : q = 5 ∨ q = 32) (hF : RF h)
    (k : Q none h) :
    Rn xs xl e mm_Reader_doorLine 14 [some (.inr (.inr 2)), some (.inr (.inr q)), none, none] [] h Q := by
  exact R_vret dd_Reader_doorLine_14 rfl k
theorem B_Reader_doorLine_29 {xs : Nat → Int} {xl e : Nat} {h : LH} {Q : Option LV → LH → Prop} {q : Int} (hq : q = 5 ∨ q = 32) {d : Int} (hd : q + 7 ≤ d ∧ d ≤ q + 20) (hF : RF h)
    (k : (∃ c, c < e ∧ Rn xs xl c mm_Reader_takeNewName 0 [some (.inr (.inr 2)), some (.inr (.inr q)), none, none] [] h (fun r h' => Rn xs xl e mm_Reader_doorLine 35 [some (.inr (.inr 2)), some (.inr (.inr q)), some (.inr (.inr d)), none] (r.toList ++ [.inr (.inr d)]) h' Q))) :
    Rn xs xl e mm_Reader_doorLine 29 [some (.inr (.inr 2)), some (.inr (.inr q)), some (.inr (.inr d)), none] [] h Q := by
  refine R_ld (v := .inr (.inr d)) dd_Reader_doorLine_29 rfl rfl rfl rfl ?_
  refine R_ld (v := .inr (.inr 2)) dd_Reader_doorLine_30 rfl rfl rfl rfl ?_
  refine R_ld (v := .inr (.inr q)) dd_Reader_doorLine_31 rfl rfl rfl rfl ?_
  obtain ⟨c, hc, k⟩ := k
  exact R_call (as := [.inr (.inr 2), .inr (.inr q)]) (rest := [.inr (.inr d)]) (M' := mm_Reader_takeNewName) (ls0 := [some (.inr (.inr 2)), some (.inr (.inr q)), none, none]) dd_Reader_doorLine_32 rfl rfl (cw_v cw_7_102 io_2 rfl rfl (Nat.le_of_ble_eq_true rfl) (Nat.le_of_ble_eq_true rfl)) mt_Reader_takeNewName rfl hc rfl k
theorem B_Reader_doorLine_35 {xs : Nat → Int} {xl e : Nat} {h : LH} {Q : Option LV → LH → Prop} {w1 : Int} {q : Int} (hq : q = 5 ∨ q = 32) {d : Int} (hd : q + 7 ≤ d ∧ d ≤ q + 20) (hF : RF h)
    (k : (-2147483648 ≤ (rd h q 0) - 1 ∧ (rd h q 0) - 1 ≤ 2147483647) ∧
      (∃ c, c < e ∧ Rn xs xl c mm_Reader_takeNumber 0 [some (.inr (.inr 2)), some (.inl 0), some (.inl ((rd h q 0) - 1)), none] [] (wr h d 0 w1) (fun r h' => Rn xs xl e mm_Reader_doorLine 50 [some (.inr (.inr 2)), some (.inr (.inr q)), some (.inr (.inr d)), none] (r.toList ++ [.inr (.inr d)]) h' Q))) :
    Rn xs xl e mm_Reader_doorLine 35 [some (.inr (.inr 2)), some (.inr (.inr q)), some (.inr (.inr d)), none] [.inr (.inl w1), .inr (.inr d)] h Q := by
  refine R_pf (z := w1) dd_Reader_doorLine_35 fd_7_106 (io_d hq hd) fn_1_0 rfl rfl ?_
  refine R_ld (v := .inr (.inr d)) dd_Reader_doorLine_38 rfl rfl rfl rfl ?_
  refine R_ld (v := .inr (.inr 2)) dd_Reader_doorLine_39 rfl rfl rfl rfl ?_
  refine R_ic dd_Reader_doorLine_40 (by decide) rfl ?_
  refine R_ld (v := .inr (.inr q)) dd_Reader_doorLine_41 rfl rfl rfl rfl ?_
  refine R_gf (v := .inl (rd h q 0)) dd_Reader_doorLine_42 fd_7_54 (io_q hq) (congrArg (fun z : Int => (Sum.inl z : LV)) (rdw_ne (by omega))) rfl ?_
  refine R_ic dd_Reader_doorLine_45 (by decide) rfl ?_
  obtain ⟨s1, k⟩ := k
  refine R_isub (c := (rd h q 0) - 1) dd_Reader_doorLine_46 (by omega) s1 rfl ?_
  obtain ⟨c, hc, k⟩ := k
  exact R_call (as := [.inr (.inr 2), .inl 0, .inl ((rd h q 0) - 1)]) (rest := [.inr (.inr d)]) (M' := mm_Reader_takeNumber) (ls0 := [some (.inr (.inr 2)), some (.inl 0), some (.inl ((rd h q 0) - 1)), none]) dd_Reader_doorLine_47 rfl rfl (cw_v cw_7_50 io_2 rfl rfl (Nat.le_of_ble_eq_true rfl) (Nat.le_of_ble_eq_true rfl)) mt_Reader_takeNumber rfl hc rfl k
theorem B_Reader_doorLine_50 {xs : Nat → Int} {xl e : Nat} {h : LH} {Q : Option LV → LH → Prop} {w1 : Int} {q : Int} (hq : q = 5 ∨ q = 32) {d : Int} (hd : q + 7 ≤ d ∧ d ≤ q + 20) (hF : RF h)
    (k : (∃ c, c < e ∧ Rn xs xl c mm_Reader_takeWord 0 [some (.inr (.inr 2)), some (.inl 2)] [] (wr h d 2 w1) (fun r h' => Rn xs xl e mm_Reader_doorLine 58 [some (.inr (.inr 2)), some (.inr (.inr q)), some (.inr (.inr d)), none] (r.toList ++ []) h' Q))) :
    Rn xs xl e mm_Reader_doorLine 50 [some (.inr (.inr 2)), some (.inr (.inr q)), some (.inr (.inr d)), none] [.inl w1, .inr (.inr d)] h Q := by
  refine R_pf (z := w1) dd_Reader_doorLine_50 fd_7_112 (io_d hq hd) fn_1_2 rfl rfl ?_
  refine R_ld (v := .inr (.inr 2)) dd_Reader_doorLine_53 rfl rfl rfl rfl ?_
  refine R_ic dd_Reader_doorLine_54 (by decide) rfl ?_
  obtain ⟨c, hc, k⟩ := k
  exact R_call (as := [.inr (.inr 2), .inl 2]) (rest := []) (M' := mm_Reader_takeWord) (ls0 := [some (.inr (.inr 2)), some (.inl 2)]) dd_Reader_doorLine_55 rfl rfl (cw_v cw_7_46 io_2 rfl rfl (Nat.le_of_ble_eq_true rfl) (Nat.le_of_ble_eq_true rfl)) mt_Reader_takeWord rfl hc rfl k
theorem B_Reader_doorLine_58 {xs : Nat → Int} {xl e : Nat} {h : LH} {Q : Option LV → LH → Prop} {q : Int} (hq : q = 5 ∨ q = 32) {d : Int} (hd : q + 7 ≤ d ∧ d ≤ q + 20) (hF : RF h)
    (k : (∃ c, c < e ∧ Rn xs xl c mm_Reader_takeOtherRoom 0 [some (.inr (.inr 2)), some (.inl (rd h d 2)), some (.inl (rd h q 0))] [] h (fun r h' => Rn xs xl e mm_Reader_doorLine 71 [some (.inr (.inr 2)), some (.inr (.inr q)), some (.inr (.inr d)), none] (r.toList ++ [.inr (.inr d)]) h' Q))) :
    Rn xs xl e mm_Reader_doorLine 58 [some (.inr (.inr 2)), some (.inr (.inr q)), some (.inr (.inr d)), none] [] h Q := by
  refine R_ld (v := .inr (.inr d)) dd_Reader_doorLine_58 rfl rfl rfl rfl ?_
  refine R_ld (v := .inr (.inr 2)) dd_Reader_doorLine_59 rfl rfl rfl rfl ?_
  refine R_ld (v := .inr (.inr d)) dd_Reader_doorLine_60 rfl rfl rfl rfl ?_
  refine R_gf (v := .inl (rd h d 2)) dd_Reader_doorLine_61 fd_7_112 (io_d hq hd) (congrArg (fun z : Int => (Sum.inl z : LV)) (rfl)) rfl ?_
  refine R_ld (v := .inr (.inr q)) dd_Reader_doorLine_64 rfl rfl rfl rfl ?_
  refine R_gf (v := .inl (rd h q 0)) dd_Reader_doorLine_65 fd_7_54 (io_q hq) (congrArg (fun z : Int => (Sum.inl z : LV)) (rfl)) rfl ?_
  obtain ⟨c, hc, k⟩ := k
  exact R_call (as := [.inr (.inr 2), .inl (rd h d 2), .inl (rd h q 0)]) (rest := [.inr (.inr d)]) (M' := mm_Reader_takeOtherRoom) (ls0 := [some (.inr (.inr 2)), some (.inl (rd h d 2)), some (.inl (rd h q 0))]) dd_Reader_doorLine_68 rfl rfl (cw_v cw_7_115 io_2 rfl rfl (Nat.le_of_ble_eq_true rfl) (Nat.le_of_ble_eq_true rfl)) mt_Reader_takeOtherRoom rfl hc rfl k
theorem B_Reader_doorLine_71 {xs : Nat → Int} {xl e : Nat} {h : LH} {Q : Option LV → LH → Prop} {w1 : Int} {q : Int} (hq : q = 5 ∨ q = 32) {d : Int} (hd : q + 7 ≤ d ∧ d ≤ q + 20) (hF : RF h)
    (k : (∃ c, c < e ∧ Rn xs xl c mm_Reader_takeOneOfFour 0 [some (.inr (.inr 2)), some (.inl 14), none] [] (wr h d 3 w1) (fun r h' => Rn xs xl e mm_Reader_doorLine 81 [some (.inr (.inr 2)), some (.inr (.inr q)), some (.inr (.inr d)), none] (r.toList ++ [.inr (.inr d)]) h' Q))) :
    Rn xs xl e mm_Reader_doorLine 71 [some (.inr (.inr 2)), some (.inr (.inr q)), some (.inr (.inr d)), none] [.inl w1, .inr (.inr d)] h Q := by
  refine R_pf (z := w1) dd_Reader_doorLine_71 fd_7_118 (io_d hq hd) fn_1_3 rfl rfl ?_
  refine R_ld (v := .inr (.inr d)) dd_Reader_doorLine_74 rfl rfl rfl rfl ?_
  refine R_ld (v := .inr (.inr 2)) dd_Reader_doorLine_75 rfl rfl rfl rfl ?_
  refine R_bi dd_Reader_doorLine_76 (by decide) rfl ?_
  obtain ⟨c, hc, k⟩ := k
  exact R_call (as := [.inr (.inr 2), .inl 14]) (rest := [.inr (.inr d)]) (M' := mm_Reader_takeOneOfFour) (ls0 := [some (.inr (.inr 2)), some (.inl 14), none]) dd_Reader_doorLine_78 rfl rfl (cw_v cw_7_121 io_2 rfl rfl (Nat.le_of_ble_eq_true rfl) (Nat.le_of_ble_eq_true rfl)) mt_Reader_takeOneOfFour rfl hc rfl k
theorem B_Reader_doorLine_81 {xs : Nat → Int} {xl e : Nat} {h : LH} {Q : Option LV → LH → Prop} {w1 : Int} {q : Int} (hq : q = 5 ∨ q = 32) {d : Int} (hd : q + 7 ≤ d ∧ d ≤ q + 20) (hF : RF h)
    (k : (∃ c, c < e ∧ Rn xs xl c mm_Reader_skipWord 0 [some (.inr (.inr 2)), some (.inl 3)] [] (wr h d 1 w1) (fun r h' => Rn xs xl e mm_Reader_doorLine 89 [some (.inr (.inr 2)), some (.inr (.inr q)), some (.inr (.inr d)), none] (r.toList ++ []) h' Q))) :
    Rn xs xl e mm_Reader_doorLine 81 [some (.inr (.inr 2)), some (.inr (.inr q)), some (.inr (.inr d)), none] [.inl w1, .inr (.inr d)] h Q := by
  refine R_pf (z := w1) dd_Reader_doorLine_81 fd_7_125 (io_d hq hd) fn_1_1 rfl rfl ?_
  refine R_ld (v := .inr (.inr 2)) dd_Reader_doorLine_84 rfl rfl rfl rfl ?_
  refine R_ic dd_Reader_doorLine_85 (by decide) rfl ?_
  obtain ⟨c, hc, k⟩ := k
  exact R_call (as := [.inr (.inr 2), .inl 3]) (rest := []) (M' := mm_Reader_skipWord) (ls0 := [some (.inr (.inr 2)), some (.inl 3)]) dd_Reader_doorLine_86 rfl rfl (cw_v cw_7_126 io_2 rfl rfl (Nat.le_of_ble_eq_true rfl) (Nat.le_of_ble_eq_true rfl)) mt_Reader_skipWord rfl hc rfl k
theorem B_Reader_doorLine_89 {xs : Nat → Int} {xl e : Nat} {h : LH} {Q : Option LV → LH → Prop} {w0 : Int} {q : Int} (hq : q = 5 ∨ q = 32) {d : Int} (hd : q + 7 ≤ d ∧ d ≤ q + 20) (hF : RF h)
    (k : (w0 = 0 →
        Rn xs xl e mm_Reader_doorLine 106 [some (.inr (.inr 2)), some (.inr (.inr q)), some (.inr (.inr d)), some (.inl w0)] [.inl 0, .inr (.inr d)] h Q) ∧
      (w0 ≠ 0 →
        (∃ c, c < e ∧ Rn xs xl c mm_Reader_takeNumber 0 [some (.inr (.inr 2)), some (.inl 0), some (.inl 23), none] [] h (fun r h' => Rn xs xl e mm_Reader_doorLine 102 [some (.inr (.inr 2)), some (.inr (.inr q)), some (.inr (.inr d)), some (.inl w0)] (r.toList ++ [.inr (.inr d)]) h' Q)))) :
    Rn xs xl e mm_Reader_doorLine 89 [some (.inr (.inr 2)), some (.inr (.inr q)), some (.inr (.inr d)), none] [.inl w0] h Q := by
  refine R_st (ls' := [some (.inr (.inr 2)), some (.inr (.inr q)), some (.inr (.inr d)), some (.inl w0)]) dd_Reader_doorLine_89 rfl rfl rfl (Nat.le_of_ble_eq_true rfl) rfl rfl ?_
  refine R_ld (v := .inr (.inr d)) dd_Reader_doorLine_90 rfl rfl rfl rfl ?_
  refine R_ld (v := .inl w0) dd_Reader_doorLine_91 rfl rfl rfl rfl ?_
  refine R_if dd_Reader_doorLine_92 rfl rfl (fun (c2 : w0 = 0) => ?_) (fun (c2 : w0 ≠ 0) => ?_)
  · replace k := k.1 c2
    refine R_ic dd_Reader_doorLine_105 (by decide) rfl ?_
    exact k
  · replace k := k.2 c2
    refine R_ld (v := .inr (.inr 2)) dd_Reader_doorLine_95 rfl rfl rfl rfl ?_
    refine R_ic dd_Reader_doorLine_96 (by decide) rfl ?_
    refine R_bi dd_Reader_doorLine_97 (by decide) rfl ?_
    obtain ⟨c, hc, k⟩ := k
    exact R_call (as := [.inr (.inr 2), .inl 0, .inl 23]) (rest := [.inr (.inr d)]) (M' := mm_Reader_takeNumber) (ls0 := [some (.inr (.inr 2)), some (.inl 0), some (.inl 23), none]) dd_Reader_doorLine_99 rfl rfl (cw_v cw_7_50 io_2 rfl rfl (Nat.le_of_ble_eq_true rfl) (Nat.le_of_ble_eq_true rfl)) mt_Reader_takeNumber rfl hc rfl k
theorem B_Reader_doorLine_102 {xs : Nat → Int} {xl e : Nat} {h : LH} {Q : Option LV → LH → Prop} {v3 w1 : Int} {q : Int} (hq : q = 5 ∨ q = 32) {d : Int} (hd : q + 7 ≤ d ∧ d ≤ q + 20) (hF : RF h)
    (k : Rn xs xl e mm_Reader_doorLine 106 [some (.inr (.inr 2)), some (.inr (.inr q)), some (.inr (.inr d)), some (.inl v3)] [.inl w1, .inr (.inr d)] h Q) :
    Rn xs xl e mm_Reader_doorLine 102 [some (.inr (.inr 2)), some (.inr (.inr q)), some (.inr (.inr d)), some (.inl v3)] [.inl w1, .inr (.inr d)] h Q := by
  refine R_goto dd_Reader_doorLine_102 rfl ?_
  exact k
theorem B_Reader_doorLine_106 {xs : Nat → Int} {xl e : Nat} {h : LH} {Q : Option LV → LH → Prop} {v3 w1 : Int} {q : Int} (hq : q = 5 ∨ q = 32) {d : Int} (hd : q + 7 ≤ d ∧ d ≤ q + 20) (hF : RF h)
    (k : (v3 = 0 →
        Rn xs xl e mm_Reader_doorLine 118 [some (.inr (.inr 2)), some (.inr (.inr q)), some (.inr (.inr d)), some (.inl v3)] [] (wr h d 4 w1) Q) ∧
      (v3 ≠ 0 →
        (∃ c, c < e ∧ Rn xs xl c mm_Reader_takeWord 0 [some (.inr (.inr 2)), some (.inl 2)] [] (wr h d 4 w1) (fun r h' => Rn xs xl e mm_Reader_doorLine 118 [some (.inr (.inr 2)), some (.inr (.inr q)), some (.inr (.inr d)), some (.inl v3)] (r.toList ++ []) h' Q)))) :
    Rn xs xl e mm_Reader_doorLine 106 [some (.inr (.inr 2)), some (.inr (.inr q)), some (.inr (.inr d)), some (.inl v3)] [.inl w1, .inr (.inr d)] h Q := by
  refine R_pf (z := w1) dd_Reader_doorLine_106 fd_7_130 (io_d hq hd) fn_1_4 rfl rfl ?_
  refine R_ld (v := .inl v3) dd_Reader_doorLine_109 rfl rfl rfl rfl ?_
  refine R_if dd_Reader_doorLine_110 rfl rfl (fun (c2 : v3 = 0) => ?_) (fun (c2 : v3 ≠ 0) => ?_)
  · replace k := k.1 c2
    exact k
  · replace k := k.2 c2
    refine R_ld (v := .inr (.inr 2)) dd_Reader_doorLine_113 rfl rfl rfl rfl ?_
    refine R_ic dd_Reader_doorLine_114 (by decide) rfl ?_
    obtain ⟨c, hc, k⟩ := k
    exact R_call (as := [.inr (.inr 2), .inl 2]) (rest := []) (M' := mm_Reader_takeWord) (ls0 := [some (.inr (.inr 2)), some (.inl 2)]) dd_Reader_doorLine_115 rfl rfl (cw_v cw_7_46 io_2 rfl rfl (Nat.le_of_ble_eq_true rfl) (Nat.le_of_ble_eq_true rfl)) mt_Reader_takeWord rfl hc rfl k
theorem B_Reader_doorLine_118 {xs : Nat → Int} {xl e : Nat} {h : LH} {Q : Option LV → LH → Prop} {v3 : Int} {q : Int} (hq : q = 5 ∨ q = 32) {d : Int} (hd : q + 7 ≤ d ∧ d ≤ q + 20) (hF : RF h)
    (k : (v3 = 0 →
        Rn xs xl e mm_Reader_doorLine 140 [some (.inr (.inr 2)), some (.inr (.inr q)), some (.inr (.inr d)), some (.inl v3)] [.inl 24, .inr (.inr d)] h Q) ∧
      (v3 ≠ 0 →
        (-2147483648 ≤ (rd h d 4) + 1 ∧ (rd h d 4) + 1 ≤ 2147483647) ∧
        (∃ c, c < e ∧ Rn xs xl c mm_Reader_takeNumber 0 [some (.inr (.inr 2)), some (.inl ((rd h d 4) + 1)), some (.inl 24), none] [] h (fun r h' => Rn xs xl e mm_Reader_doorLine 135 [some (.inr (.inr 2)), some (.inr (.inr q)), some (.inr (.inr d)), some (.inl v3)] (r.toList ++ [.inr (.inr d)]) h' Q)))) :
    Rn xs xl e mm_Reader_doorLine 118 [some (.inr (.inr 2)), some (.inr (.inr q)), some (.inr (.inr d)), some (.inl v3)] [] h Q := by
  refine R_ld (v := .inr (.inr d)) dd_Reader_doorLine_118 rfl rfl rfl rfl ?_
  refine R_ld (v := .inl v3) dd_Reader_doorLine_119 rfl rfl rfl rfl ?_
  refine R_if dd_Reader_doorLine_120 rfl rfl (fun (c3 : v3 = 0) => ?_) (fun (c3 : v3 ≠ 0) => ?_)
  · replace k := k.1 c3
    refine R_bi dd_Reader_doorLine_138 (by decide) rfl ?_
    exact k
  · replace k := k.2 c3
    refine R_ld (v := .inr (.inr 2)) dd_Reader_doorLine_123 rfl rfl rfl rfl ?_
    refine R_ld (v := .inr (.inr d)) dd_Reader_doorLine_124 rfl rfl rfl rfl ?_
    refine R_gf (v := .inl (rd h d 4)) dd_Reader_doorLine_125 fd_7_130 (io_d hq hd) (congrArg (fun z : Int => (Sum.inl z : LV)) (rfl)) rfl ?_
    refine R_ic dd_Reader_doorLine_128 (by decide) rfl ?_
    obtain ⟨s1, k⟩ := k
    refine R_iadd (c := (rd h d 4) + 1) dd_Reader_doorLine_129 (by omega) s1 rfl ?_
    refine R_bi dd_Reader_doorLine_130 (by decide) rfl ?_
    obtain ⟨c, hc, k⟩ := k
    exact R_call (as := [.inr (.inr 2), .inl ((rd h d 4) + 1), .inl 24]) (rest := [.inr (.inr d)]) (M' := mm_Reader_takeNumber) (ls0 := [some (.inr (.inr 2)), some (.inl ((rd h d 4) + 1)), some (.inl 24), none]) dd_Reader_doorLine_132 rfl rfl (cw_v cw_7_50 io_2 rfl rfl (Nat.le_of_ble_eq_true rfl) (Nat.le_of_ble_eq_true rfl)) mt_Reader_takeNumber rfl hc rfl k
theorem B_Reader_doorLine_135 {xs : Nat → Int} {xl e : Nat} {h : LH} {Q : Option LV → LH → Prop} {v3 w1 : Int} {q : Int} (hq : q = 5 ∨ q = 32) {d : Int} (hd : q + 7 ≤ d ∧ d ≤ q + 20) (hF : RF h)
    (k : Rn xs xl e mm_Reader_doorLine 140 [some (.inr (.inr 2)), some (.inr (.inr q)), some (.inr (.inr d)), some (.inl v3)] [.inl w1, .inr (.inr d)] h Q) :
    Rn xs xl e mm_Reader_doorLine 135 [some (.inr (.inr 2)), some (.inr (.inr q)), some (.inr (.inr d)), some (.inl v3)] [.inl w1, .inr (.inr d)] h Q := by
  refine R_goto dd_Reader_doorLine_135 rfl ?_
  exact k
theorem B_Reader_doorLine_140 {xs : Nat → Int} {xl e : Nat} {h : LH} {Q : Option LV → LH → Prop} {v3 w1 : Int} {q : Int} (hq : q = 5 ∨ q = 32) {d : Int} (hd : q + 7 ≤ d ∧ d ≤ q + 20) (hF : RF h)
    (k : (∃ c, c < e ∧ Rn xs xl c mm_Reader_skipWord 0 [some (.inr (.inr 2)), some (.inl 4)] [] (wr h d 5 w1) (fun r h' => Rn xs xl e mm_Reader_doorLine 149 [some (.inr (.inr 2)), some (.inr (.inr q)), some (.inr (.inr d)), some (.inl v3)] (r.toList ++ [.inr (.inr d)]) h' Q))) :
    Rn xs xl e mm_Reader_doorLine 140 [some (.inr (.inr 2)), some (.inr (.inr q)), some (.inr (.inr d)), some (.inl v3)] [.inl w1, .inr (.inr d)] h Q := by
  refine R_pf (z := w1) dd_Reader_doorLine_140 fd_7_133 (io_d hq hd) fn_1_5 rfl rfl ?_
  refine R_ld (v := .inr (.inr d)) dd_Reader_doorLine_143 rfl rfl rfl rfl ?_
  refine R_ld (v := .inr (.inr 2)) dd_Reader_doorLine_144 rfl rfl rfl rfl ?_
  refine R_ic dd_Reader_doorLine_145 (by decide) rfl ?_
  obtain ⟨c, hc, k⟩ := k
  exact R_call (as := [.inr (.inr 2), .inl 4]) (rest := [.inr (.inr d)]) (M' := mm_Reader_skipWord) (ls0 := [some (.inr (.inr 2)), some (.inl 4)]) dd_Reader_doorLine_146 rfl rfl (cw_v cw_7_126 io_2 rfl rfl (Nat.le_of_ble_eq_true rfl) (Nat.le_of_ble_eq_true rfl)) mt_Reader_skipWord rfl hc rfl k
theorem B_Reader_doorLine_149 {xs : Nat → Int} {xl e : Nat} {h : LH} {Q : Option LV → LH → Prop} {v3 w1 : Int} {q : Int} (hq : q = 5 ∨ q = 32) {d : Int} (hd : q + 7 ≤ d ∧ d ≤ q + 20) (hF : RF h)
    (k : (w1 = 0 →
        Rn xs xl e mm_Reader_doorLine 162 [some (.inr (.inr 2)), some (.inr (.inr q)), some (.inr (.inr d)), some (.inl v3)] [.inl (-1), .inr (.inr d)] h Q) ∧
      (w1 ≠ 0 →
        (∃ c, c < e ∧ Rn xs xl c mm_Reader_takeOneOfFour 0 [some (.inr (.inr 2)), some (.inl 18), none] [] h (fun r h' => Rn xs xl e mm_Reader_doorLine 158 [some (.inr (.inr 2)), some (.inr (.inr q)), some (.inr (.inr d)), some (.inl v3)] (r.toList ++ [.inr (.inr d)]) h' Q)))) :
    Rn xs xl e mm_Reader_doorLine 149 [some (.inr (.inr 2)), some (.inr (.inr q)), some (.inr (.inr d)), some (.inl v3)] [.inl w1, .inr (.inr d)] h Q := by
  refine R_if dd_Reader_doorLine_149 rfl rfl (fun (c2 : w1 = 0) => ?_) (fun (c2 : w1 ≠ 0) => ?_)
  · replace k := k.1 c2
    refine R_ic dd_Reader_doorLine_161 (by decide) rfl ?_
    exact k
  · replace k := k.2 c2
    refine R_ld (v := .inr (.inr 2)) dd_Reader_doorLine_152 rfl rfl rfl rfl ?_
    refine R_bi dd_Reader_doorLine_153 (by decide) rfl ?_
    obtain ⟨c, hc, k⟩ := k
    exact R_call (as := [.inr (.inr 2), .inl 18]) (rest := [.inr (.inr d)]) (M' := mm_Reader_takeOneOfFour) (ls0 := [some (.inr (.inr 2)), some (.inl 18), none]) dd_Reader_doorLine_155 rfl rfl (cw_v cw_7_121 io_2 rfl rfl (Nat.le_of_ble_eq_true rfl) (Nat.le_of_ble_eq_true rfl)) mt_Reader_takeOneOfFour rfl hc rfl k
theorem B_Reader_doorLine_158 {xs : Nat → Int} {xl e : Nat} {h : LH} {Q : Option LV → LH → Prop} {v3 w1 : Int} {q : Int} (hq : q = 5 ∨ q = 32) {d : Int} (hd : q + 7 ≤ d ∧ d ≤ q + 20) (hF : RF h)
    (k : Rn xs xl e mm_Reader_doorLine 162 [some (.inr (.inr 2)), some (.inr (.inr q)), some (.inr (.inr d)), some (.inl v3)] [.inl w1, .inr (.inr d)] h Q) :
    Rn xs xl e mm_Reader_doorLine 158 [some (.inr (.inr 2)), some (.inr (.inr q)), some (.inr (.inr d)), some (.inl v3)] [.inl w1, .inr (.inr d)] h Q := by
  refine R_goto dd_Reader_doorLine_158 rfl ?_
  exact k
theorem B_Reader_doorLine_162 {xs : Nat → Int} {xl e : Nat} {h : LH} {Q : Option LV → LH → Prop} {v3 w1 : Int} {q : Int} (hq : q = 5 ∨ q = 32) {d : Int} (hd : q + 7 ≤ d ∧ d ≤ q + 20) (hF : RF h)
    (k : (∃ c, c < e ∧ Rn xs xl c mm_Reader_skipWord 0 [some (.inr (.inr 2)), some (.inl 5)] [] (wr h d 6 w1) (fun r h' => Rn xs xl e mm_Reader_doorLine 171 [some (.inr (.inr 2)), some (.inr (.inr q)), some (.inr (.inr d)), some (.inl v3)] (r.toList ++ [.inr (.inr d)]) h' Q))) :
    Rn xs xl e mm_Reader_doorLine 162 [some (.inr (.inr 2)), some (.inr (.inr q)), some (.inr (.inr d)), some (.inl v3)] [.inl w1, .inr (.inr d)] h Q := by
  refine R_pf (z := w1) dd_Reader_doorLine_162 fd_7_136 (io_d hq hd) fn_1_6 rfl rfl ?_
  refine R_ld (v := .inr (.inr d)) dd_Reader_doorLine_165 rfl rfl rfl rfl ?_
  refine R_ld (v := .inr (.inr 2)) dd_Reader_doorLine_166 rfl rfl rfl rfl ?_
  refine R_ic dd_Reader_doorLine_167 (by decide) rfl ?_
  obtain ⟨c, hc, k⟩ := k
  exact R_call (as := [.inr (.inr 2), .inl 5]) (rest := [.inr (.inr d)]) (M' := mm_Reader_skipWord) (ls0 := [some (.inr (.inr 2)), some (.inl 5)]) dd_Reader_doorLine_168 rfl rfl (cw_v cw_7_126 io_2 rfl rfl (Nat.le_of_ble_eq_true rfl) (Nat.le_of_ble_eq_true rfl)) mt_Reader_skipWord rfl hc rfl k
theorem B_Reader_doorLine_171 {xs : Nat → Int} {xl e : Nat} {h : LH} {Q : Option LV → LH → Prop} {v3 w1 : Int} {q : Int} (hq : q = 5 ∨ q = 32) {d : Int} (hd : q + 7 ≤ d ∧ d ≤ q + 20) (hF : RF h)
    (k : (w1 = 0 →
        Rn xs xl e mm_Reader_doorLine 185 [some (.inr (.inr 2)), some (.inr (.inr q)), some (.inr (.inr d)), some (.inl v3)] [.inl 1, .inr (.inr d)] h Q) ∧
      (w1 ≠ 0 →
        (∃ c, c < e ∧ Rn xs xl c mm_Reader_takeNumber 0 [some (.inr (.inr 2)), some (.inl 1), some (.inl 9), none] [] h (fun r h' => Rn xs xl e mm_Reader_doorLine 181 [some (.inr (.inr 2)), some (.inr (.inr q)), some (.inr (.inr d)), some (.inl v3)] (r.toList ++ [.inr (.inr d)]) h' Q)))) :
    Rn xs xl e mm_Reader_doorLine 171 [some (.inr (.inr 2)), some (.inr (.inr q)), some (.inr (.inr d)), some (.inl v3)] [.inl w1, .inr (.inr d)] h Q := by
  refine R_if dd_Reader_doorLine_171 rfl rfl (fun (c2 : w1 = 0) => ?_) (fun (c2 : w1 ≠ 0) => ?_)
  · replace k := k.1 c2
    refine R_ic dd_Reader_doorLine_184 (by decide) rfl ?_
    exact k
  · replace k := k.2 c2
    refine R_ld (v := .inr (.inr 2)) dd_Reader_doorLine_174 rfl rfl rfl rfl ?_
    refine R_ic dd_Reader_doorLine_175 (by decide) rfl ?_
    refine R_bi dd_Reader_doorLine_176 (by decide) rfl ?_
    obtain ⟨c, hc, k⟩ := k
    exact R_call (as := [.inr (.inr 2), .inl 1, .inl 9]) (rest := [.inr (.inr d)]) (M' := mm_Reader_takeNumber) (ls0 := [some (.inr (.inr 2)), some (.inl 1), some (.inl 9), none]) dd_Reader_doorLine_178 rfl rfl (cw_v cw_7_50 io_2 rfl rfl (Nat.le_of_ble_eq_true rfl) (Nat.le_of_ble_eq_true rfl)) mt_Reader_takeNumber rfl hc rfl k
theorem B_Reader_doorLine_181 {xs : Nat → Int} {xl e : Nat} {h : LH} {Q : Option LV → LH → Prop} {v3 w1 : Int} {q : Int} (hq : q = 5 ∨ q = 32) {d : Int} (hd : q + 7 ≤ d ∧ d ≤ q + 20) (hF : RF h)
    (k : Rn xs xl e mm_Reader_doorLine 185 [some (.inr (.inr 2)), some (.inr (.inr q)), some (.inr (.inr d)), some (.inl v3)] [.inl w1, .inr (.inr d)] h Q) :
    Rn xs xl e mm_Reader_doorLine 181 [some (.inr (.inr 2)), some (.inr (.inr q)), some (.inr (.inr d)), some (.inl v3)] [.inl w1, .inr (.inr d)] h Q := by
  refine R_goto dd_Reader_doorLine_181 rfl ?_
  exact k
theorem B_Reader_doorLine_185 {xs : Nat → Int} {xl e : Nat} {h : LH} {Q : Option LV → LH → Prop} {v3 w1 : Int} {q : Int} (hq : q = 5 ∨ q = 32) {d : Int} (hd : q + 7 ≤ d ∧ d ≤ q + 20) (hF : RF h)
    (k : (∃ c, c < e ∧ Rn xs xl c mm_Reader_skipWord 0 [some (.inr (.inr 2)), some (.inl 6)] [] (wr h d 7 w1) (fun r h' => Rn xs xl e mm_Reader_doorLine 195 [some (.inr (.inr 2)), some (.inr (.inr q)), some (.inr (.inr d)), some (.inl v3)] (r.toList ++ [.inr (.inr d)]) h' Q))) :
    Rn xs xl e mm_Reader_doorLine 185 [some (.inr (.inr 2)), some (.inr (.inr q)), some (.inr (.inr d)), some (.inl v3)] [.inl w1, .inr (.inr d)] h Q := by
  refine R_pf (z := w1) dd_Reader_doorLine_185 fd_7_139 (io_d hq hd) fn_1_7 rfl rfl ?_
  refine R_ld (v := .inr (.inr d)) dd_Reader_doorLine_188 rfl rfl rfl rfl ?_
  refine R_ld (v := .inr (.inr 2)) dd_Reader_doorLine_189 rfl rfl rfl rfl ?_
  refine R_bi dd_Reader_doorLine_190 (by decide) rfl ?_
  obtain ⟨c, hc, k⟩ := k
  exact R_call (as := [.inr (.inr 2), .inl 6]) (rest := [.inr (.inr d)]) (M' := mm_Reader_skipWord) (ls0 := [some (.inr (.inr 2)), some (.inl 6)]) dd_Reader_doorLine_192 rfl rfl (cw_v cw_7_126 io_2 rfl rfl (Nat.le_of_ble_eq_true rfl) (Nat.le_of_ble_eq_true rfl)) mt_Reader_skipWord rfl hc rfl k
theorem B_Reader_doorLine_195 {xs : Nat → Int} {xl e : Nat} {h : LH} {Q : Option LV → LH → Prop} {v3 w1 : Int} {q : Int} (hq : q = 5 ∨ q = 32) {d : Int} (hd : q + 7 ≤ d ∧ d ≤ q + 20) (hF : RF h)
    (k : (w1 = 0 →
        Rn xs xl e mm_Reader_doorLine 209 [some (.inr (.inr 2)), some (.inr (.inr q)), some (.inr (.inr d)), some (.inl v3)] [.inl 0, .inr (.inr d)] h Q) ∧
      (w1 ≠ 0 →
        (∃ c, c < e ∧ Rn xs xl c mm_Reader_takeNumber 0 [some (.inr (.inr 2)), some (.inl 0), some (.inl 9), none] [] h (fun r h' => Rn xs xl e mm_Reader_doorLine 205 [some (.inr (.inr 2)), some (.inr (.inr q)), some (.inr (.inr d)), some (.inl v3)] (r.toList ++ [.inr (.inr d)]) h' Q)))) :
    Rn xs xl e mm_Reader_doorLine 195 [some (.inr (.inr 2)), some (.inr (.inr q)), some (.inr (.inr d)), some (.inl v3)] [.inl w1, .inr (.inr d)] h Q := by
  refine R_if dd_Reader_doorLine_195 rfl rfl (fun (c2 : w1 = 0) => ?_) (fun (c2 : w1 ≠ 0) => ?_)
  · replace k := k.1 c2
    refine R_ic dd_Reader_doorLine_208 (by decide) rfl ?_
    exact k
  · replace k := k.2 c2
    refine R_ld (v := .inr (.inr 2)) dd_Reader_doorLine_198 rfl rfl rfl rfl ?_
    refine R_ic dd_Reader_doorLine_199 (by decide) rfl ?_
    refine R_bi dd_Reader_doorLine_200 (by decide) rfl ?_
    obtain ⟨c, hc, k⟩ := k
    exact R_call (as := [.inr (.inr 2), .inl 0, .inl 9]) (rest := [.inr (.inr d)]) (M' := mm_Reader_takeNumber) (ls0 := [some (.inr (.inr 2)), some (.inl 0), some (.inl 9), none]) dd_Reader_doorLine_202 rfl rfl (cw_v cw_7_50 io_2 rfl rfl (Nat.le_of_ble_eq_true rfl) (Nat.le_of_ble_eq_true rfl)) mt_Reader_takeNumber rfl hc rfl k
theorem B_Reader_doorLine_205 {xs : Nat → Int} {xl e : Nat} {h : LH} {Q : Option LV → LH → Prop} {v3 w1 : Int} {q : Int} (hq : q = 5 ∨ q = 32) {d : Int} (hd : q + 7 ≤ d ∧ d ≤ q + 20) (hF : RF h)
    (k : Rn xs xl e mm_Reader_doorLine 209 [some (.inr (.inr 2)), some (.inr (.inr q)), some (.inr (.inr d)), some (.inl v3)] [.inl w1, .inr (.inr d)] h Q) :
    Rn xs xl e mm_Reader_doorLine 205 [some (.inr (.inr 2)), some (.inr (.inr q)), some (.inr (.inr d)), some (.inl v3)] [.inl w1, .inr (.inr d)] h Q := by
  refine R_goto dd_Reader_doorLine_205 rfl ?_
  exact k
theorem B_Reader_doorLine_209 {xs : Nat → Int} {xl e : Nat} {h : LH} {Q : Option LV → LH → Prop} {v3 w1 : Int} {q : Int} (hq : q = 5 ∨ q = 32) {d : Int} (hd : q + 7 ≤ d ∧ d ≤ q + 20) (hF : RF h)
    (k : (∃ c, c < e ∧ Rn xs xl c mm_Reader_takeSign 0 [some (.inr (.inr 2)), some (.inl 59)] [] (wr h d 8 w1) (fun r h' => Rn xs xl e mm_Reader_doorLine 218 [some (.inr (.inr 2)), some (.inr (.inr q)), some (.inr (.inr d)), some (.inl v3)] (r.toList ++ []) h' Q))) :
    Rn xs xl e mm_Reader_doorLine 209 [some (.inr (.inr 2)), some (.inr (.inr q)), some (.inr (.inr d)), some (.inl v3)] [.inl w1, .inr (.inr d)] h Q := by
  refine R_pf (z := w1) dd_Reader_doorLine_209 fd_7_142 (io_d hq hd) fn_1_8 rfl rfl ?_
  refine R_ld (v := .inr (.inr 2)) dd_Reader_doorLine_212 rfl rfl rfl rfl ?_
  refine R_bi dd_Reader_doorLine_213 (by decide) rfl ?_
  obtain ⟨c, hc, k⟩ := k
  exact R_call (as := [.inr (.inr 2), .inl 59]) (rest := []) (M' := mm_Reader_takeSign) (ls0 := [some (.inr (.inr 2)), some (.inl 59)]) dd_Reader_doorLine_215 rfl rfl (cw_v cw_7_57 io_2 rfl rfl (Nat.le_of_ble_eq_true rfl) (Nat.le_of_ble_eq_true rfl)) mt_Reader_takeSign rfl hc rfl k
theorem B_Reader_doorLine_218 {xs : Nat → Int} {xl e : Nat} {h : LH} {Q : Option LV → LH → Prop} {v3 : Int} {q : Int} (hq : q = 5 ∨ q = 32) {d : Int} (hd : q + 7 ≤ d ∧ d ≤ q + 20) (hF : RF h)
    (k : (-2147483648 ≤ (rd h q 2) + 1 ∧ (rd h q 2) + 1 ≤ 2147483647) ∧
      Q none (wr h q 2 ((rd h q 2) + 1))) :
    Rn xs xl e mm_Reader_doorLine 218 [some (.inr (.inr 2)), some (.inr (.inr q)), some (.inr (.inr d)), some (.inl v3)] [] h Q := by
  refine R_ld (v := .inr (.inr q)) dd_Reader_doorLine_218 rfl rfl rfl rfl ?_
  refine R_A dd_Reader_doorLine_219 rfl rfl rfl rfl ?_
  refine R_gf (v := .inl (rd h q 2)) dd_Reader_doorLine_220 fd_7_92 (io_q hq) (congrArg (fun z : Int => (Sum.inl z : LV)) (rfl)) rfl ?_
  refine R_ic dd_Reader_doorLine_223 (by decide) rfl ?_
  obtain ⟨s1, k⟩ := k
  refine R_iadd (c := (rd h q 2) + 1) dd_Reader_doorLine_224 (by omega) s1 rfl ?_
  refine R_pf (z := ((rd h q 2) + 1)) dd_Reader_doorLine_225 fd_7_92 (io_q hq) fn_6_2 rfl rfl ?_
  exact R_vret dd_Reader_doorLine_228 rfl k
end
section
/-! LM, by program (wip/p2/hand.py): p3: rows of the class's person and let lines, readQuarter -/
def mm_Reader_personLine : LM_M := (⟨"OneSided$Reader", "personLine", "(LOneSided$Quarter;)V"⟩, prog_9_method_6_code, 3, none, 7, 2, 0, 676, 675, 1000017)
def mm_Reader_letLine : LM_M := (⟨"OneSided$Reader", "letLine", "(LOneSided$Quarter;)V"⟩, prog_9_method_7_code, 2, none, 7, 2, 0, 680, 679, 1000018)
def mm_Reader_readQuarter : LM_M := (⟨"OneSided$Reader", "readQuarter", "(LOneSided$Quarter;)I"⟩, prog_9_method_3_code, 3, (some .int), 7, 2, 0, 587, 585, 586)
def mm_Quarter_clear : LM_M := (⟨"OneSided$Quarter", "clear", "()V"⟩, prog_8_method_2_code, 1, none, 6, 1, 0, 620, 618, 619)
theorem dd_Reader_personLine_0 : decode mm_Reader_personLine.2.1 0 = .ok (.aload_n 1, 1) := by decide +kernel
theorem dd_Reader_personLine_1 : decode mm_Reader_personLine.2.1 1 = .ok (.getfield 145, 3) := by decide +kernel
theorem fd_7_145 : fld 7 145 = some (6, 4) := by decide +kernel
theorem dd_Reader_personLine_4 : decode mm_Reader_personLine.2.1 4 = .ok (.bipush 6, 2) := by decide +kernel
theorem dd_Reader_personLine_6 : decode mm_Reader_personLine.2.1 6 = .ok (.if_icmp .lt (9), 3) := by decide +kernel
theorem dd_Reader_personLine_15 : decode mm_Reader_personLine.2.1 15 = .ok (.aload_n 1, 1) := by decide +kernel
theorem dd_Reader_personLine_16 : decode mm_Reader_personLine.2.1 16 = .ok (.getfield 148, 3) := by decide +kernel
theorem fd_7_148 : fld 7 148 = some (6, 3) := by decide +kernel
theorem dd_Reader_personLine_19 : decode mm_Reader_personLine.2.1 19 = .ok (.aload_n 1, 1) := by decide +kernel
theorem dd_Reader_personLine_20 : decode mm_Reader_personLine.2.1 20 = .ok (.getfield 145, 3) := by decide +kernel
theorem dd_Reader_personLine_23 : decode mm_Reader_personLine.2.1 23 = .ok (.aaload, 1) := by decide +kernel
theorem dd_Reader_personLine_24 : decode mm_Reader_personLine.2.1 24 = .ok (.astore_n 2, 1) := by decide +kernel
theorem dd_Reader_personLine_25 : decode mm_Reader_personLine.2.1 25 = .ok (.aload_n 0, 1) := by decide +kernel
theorem dd_Reader_personLine_26 : decode mm_Reader_personLine.2.1 26 = .ok (.invokevirtual 99, 3) := by decide +kernel
theorem dd_Reader_personLine_9 : decode mm_Reader_personLine.2.1 9 = .ok (.aload_n 0, 1) := by decide +kernel
theorem dd_Reader_personLine_10 : decode mm_Reader_personLine.2.1 10 = .ok (.iconst 5, 1) := by decide +kernel
theorem dd_Reader_personLine_11 : decode mm_Reader_personLine.2.1 11 = .ok (.invokevirtual 80, 3) := by decide +kernel
theorem dd_Reader_personLine_14 : decode mm_Reader_personLine.2.1 14 = .ok (.return_, 1) := by decide +kernel
theorem dd_Reader_personLine_29 : decode mm_Reader_personLine.2.1 29 = .ok (.aload_n 2, 1) := by decide +kernel
theorem dd_Reader_personLine_30 : decode mm_Reader_personLine.2.1 30 = .ok (.aload_n 0, 1) := by decide +kernel
theorem dd_Reader_personLine_31 : decode mm_Reader_personLine.2.1 31 = .ok (.aload_n 1, 1) := by decide +kernel
theorem dd_Reader_personLine_32 : decode mm_Reader_personLine.2.1 32 = .ok (.invokevirtual 102, 3) := by decide +kernel
theorem dd_Reader_personLine_35 : decode mm_Reader_personLine.2.1 35 = .ok (.putfield 152, 3) := by decide +kernel
theorem fd_7_152 : fld 7 152 = some (4, 0) := by decide +kernel
theorem fn_4_0 : fin 4 0 = false := by decide +kernel
theorem dd_Reader_personLine_38 : decode mm_Reader_personLine.2.1 38 = .ok (.aload_n 2, 1) := by decide +kernel
theorem dd_Reader_personLine_39 : decode mm_Reader_personLine.2.1 39 = .ok (.aload_n 0, 1) := by decide +kernel
theorem dd_Reader_personLine_40 : decode mm_Reader_personLine.2.1 40 = .ok (.bipush 18, 2) := by decide +kernel
theorem dd_Reader_personLine_42 : decode mm_Reader_personLine.2.1 42 = .ok (.invokevirtual 121, 3) := by decide +kernel
theorem dd_Reader_personLine_45 : decode mm_Reader_personLine.2.1 45 = .ok (.putfield 155, 3) := by decide +kernel
theorem fd_7_155 : fld 7 155 = some (4, 1) := by decide +kernel
theorem fn_4_1 : fin 4 1 = false := by decide +kernel
theorem dd_Reader_personLine_48 : decode mm_Reader_personLine.2.1 48 = .ok (.aload_n 0, 1) := by decide +kernel
theorem dd_Reader_personLine_49 : decode mm_Reader_personLine.2.1 49 = .ok (.bipush 8, 2) := by decide +kernel
theorem dd_Reader_personLine_51 : decode mm_Reader_personLine.2.1 51 = .ok (.invokevirtual 46, 3) := by decide +kernel
theorem dd_Reader_personLine_54 : decode mm_Reader_personLine.2.1 54 = .ok (.aload_n 2, 1) := by decide +kernel
theorem dd_Reader_personLine_55 : decode mm_Reader_personLine.2.1 55 = .ok (.aload_n 0, 1) := by decide +kernel
theorem dd_Reader_personLine_56 : decode mm_Reader_personLine.2.1 56 = .ok (.iconst 0, 1) := by decide +kernel
theorem dd_Reader_personLine_57 : decode mm_Reader_personLine.2.1 57 = .ok (.aload_n 1, 1) := by decide +kernel
theorem dd_Reader_personLine_58 : decode mm_Reader_personLine.2.1 58 = .ok (.getfield 54, 3) := by decide +kernel
theorem dd_Reader_personLine_61 : decode mm_Reader_personLine.2.1 61 = .ok (.iconst 1, 1) := by decide +kernel
theorem dd_Reader_personLine_62 : decode mm_Reader_personLine.2.1 62 = .ok (.isub, 1) := by decide +kernel
theorem dd_Reader_personLine_63 : decode mm_Reader_personLine.2.1 63 = .ok (.invokevirtual 50, 3) := by decide +kernel
theorem dd_Reader_personLine_66 : decode mm_Reader_personLine.2.1 66 = .ok (.putfield 158, 3) := by decide +kernel
theorem fd_7_158 : fld 7 158 = some (4, 2) := by decide +kernel
theorem fn_4_2 : fin 4 2 = false := by decide +kernel
theorem dd_Reader_personLine_69 : decode mm_Reader_personLine.2.1 69 = .ok (.aload_n 0, 1) := by decide +kernel
theorem dd_Reader_personLine_70 : decode mm_Reader_personLine.2.1 70 = .ok (.bipush 9, 2) := by decide +kernel
theorem dd_Reader_personLine_72 : decode mm_Reader_personLine.2.1 72 = .ok (.invokevirtual 46, 3) := by decide +kernel
theorem dd_Reader_personLine_75 : decode mm_Reader_personLine.2.1 75 = .ok (.aload_n 2, 1) := by decide +kernel
theorem dd_Reader_personLine_76 : decode mm_Reader_personLine.2.1 76 = .ok (.aload_n 0, 1) := by decide +kernel
theorem dd_Reader_personLine_77 : decode mm_Reader_personLine.2.1 77 = .ok (.iconst 0, 1) := by decide +kernel
theorem dd_Reader_personLine_78 : decode mm_Reader_personLine.2.1 78 = .ok (.aload_n 1, 1) := by decide +kernel
theorem dd_Reader_personLine_79 : decode mm_Reader_personLine.2.1 79 = .ok (.getfield 54, 3) := by decide +kernel
theorem dd_Reader_personLine_82 : decode mm_Reader_personLine.2.1 82 = .ok (.iconst 1, 1) := by decide +kernel
theorem dd_Reader_personLine_83 : decode mm_Reader_personLine.2.1 83 = .ok (.isub, 1) := by decide +kernel
theorem dd_Reader_personLine_84 : decode mm_Reader_personLine.2.1 84 = .ok (.invokevirtual 50, 3) := by decide +kernel
theorem dd_Reader_personLine_87 : decode mm_Reader_personLine.2.1 87 = .ok (.putfield 161, 3) := by decide +kernel
theorem fd_7_161 : fld 7 161 = some (4, 3) := by decide +kernel
theorem fn_4_3 : fin 4 3 = false := by decide +kernel
theorem dd_Reader_personLine_90 : decode mm_Reader_personLine.2.1 90 = .ok (.aload_n 0, 1) := by decide +kernel
theorem dd_Reader_personLine_91 : decode mm_Reader_personLine.2.1 91 = .ok (.bipush 10, 2) := by decide +kernel
theorem dd_Reader_personLine_93 : decode mm_Reader_personLine.2.1 93 = .ok (.invokevirtual 46, 3) := by decide +kernel
theorem dd_Reader_personLine_96 : decode mm_Reader_personLine.2.1 96 = .ok (.aload_n 2, 1) := by decide +kernel
theorem dd_Reader_personLine_97 : decode mm_Reader_personLine.2.1 97 = .ok (.aload_n 0, 1) := by decide +kernel
theorem dd_Reader_personLine_98 : decode mm_Reader_personLine.2.1 98 = .ok (.iconst 1, 1) := by decide +kernel
theorem dd_Reader_personLine_99 : decode mm_Reader_personLine.2.1 99 = .ok (.bipush 24, 2) := by decide +kernel
theorem dd_Reader_personLine_101 : decode mm_Reader_personLine.2.1 101 = .ok (.invokevirtual 50, 3) := by decide +kernel
theorem dd_Reader_personLine_104 : decode mm_Reader_personLine.2.1 104 = .ok (.putfield 164, 3) := by decide +kernel
theorem fd_7_164 : fld 7 164 = some (4, 4) := by decide +kernel
theorem fn_4_4 : fin 4 4 = false := by decide +kernel
theorem dd_Reader_personLine_107 : decode mm_Reader_personLine.2.1 107 = .ok (.aload_n 0, 1) := by decide +kernel
theorem dd_Reader_personLine_108 : decode mm_Reader_personLine.2.1 108 = .ok (.bipush 59, 2) := by decide +kernel
theorem dd_Reader_personLine_110 : decode mm_Reader_personLine.2.1 110 = .ok (.invokevirtual 57, 3) := by decide +kernel
theorem dd_Reader_personLine_113 : decode mm_Reader_personLine.2.1 113 = .ok (.aload_n 1, 1) := by decide +kernel
theorem dd_Reader_personLine_114 : decode mm_Reader_personLine.2.1 114 = .ok (.dup, 1) := by decide +kernel
theorem dd_Reader_personLine_115 : decode mm_Reader_personLine.2.1 115 = .ok (.getfield 145, 3) := by decide +kernel
theorem dd_Reader_personLine_118 : decode mm_Reader_personLine.2.1 118 = .ok (.iconst 1, 1) := by decide +kernel
theorem dd_Reader_personLine_119 : decode mm_Reader_personLine.2.1 119 = .ok (.iadd, 1) := by decide +kernel
theorem dd_Reader_personLine_120 : decode mm_Reader_personLine.2.1 120 = .ok (.putfield 145, 3) := by decide +kernel
theorem fn_6_4 : fin 6 4 = false := by decide +kernel
theorem dd_Reader_personLine_123 : decode mm_Reader_personLine.2.1 123 = .ok (.return_, 1) := by decide +kernel
theorem dd_Reader_letLine_0 : decode mm_Reader_letLine.2.1 0 = .ok (.aload_n 1, 1) := by decide +kernel
theorem dd_Reader_letLine_1 : decode mm_Reader_letLine.2.1 1 = .ok (.getfield 167, 3) := by decide +kernel
theorem fd_7_167 : fld 7 167 = some (6, 6) := by decide +kernel
theorem dd_Reader_letLine_4 : decode mm_Reader_letLine.2.1 4 = .ok (.ifCond .le (9), 3) := by decide +kernel
theorem dd_Reader_letLine_13 : decode mm_Reader_letLine.2.1 13 = .ok (.aload_n 0, 1) := by decide +kernel
theorem dd_Reader_letLine_14 : decode mm_Reader_letLine.2.1 14 = .ok (.invokevirtual 99, 3) := by decide +kernel
theorem dd_Reader_letLine_7 : decode mm_Reader_letLine.2.1 7 = .ok (.aload_n 0, 1) := by decide +kernel
theorem dd_Reader_letLine_8 : decode mm_Reader_letLine.2.1 8 = .ok (.iconst 3, 1) := by decide +kernel
theorem dd_Reader_letLine_9 : decode mm_Reader_letLine.2.1 9 = .ok (.invokevirtual 80, 3) := by decide +kernel
theorem dd_Reader_letLine_12 : decode mm_Reader_letLine.2.1 12 = .ok (.return_, 1) := by decide +kernel
theorem dd_Reader_letLine_17 : decode mm_Reader_letLine.2.1 17 = .ok (.aload_n 0, 1) := by decide +kernel
theorem dd_Reader_letLine_18 : decode mm_Reader_letLine.2.1 18 = .ok (.aload_n 1, 1) := by decide +kernel
theorem dd_Reader_letLine_19 : decode mm_Reader_letLine.2.1 19 = .ok (.iconst 0, 1) := by decide +kernel
theorem dd_Reader_letLine_20 : decode mm_Reader_letLine.2.1 20 = .ok (.iconst 0, 1) := by decide +kernel
theorem dd_Reader_letLine_21 : decode mm_Reader_letLine.2.1 21 = .ok (.invokevirtual 170, 3) := by decide +kernel
theorem dd_Reader_letLine_24 : decode mm_Reader_letLine.2.1 24 = .ok (.aload_n 0, 1) := by decide +kernel
theorem dd_Reader_letLine_25 : decode mm_Reader_letLine.2.1 25 = .ok (.bipush 59, 2) := by decide +kernel
theorem dd_Reader_letLine_27 : decode mm_Reader_letLine.2.1 27 = .ok (.invokevirtual 57, 3) := by decide +kernel
theorem dd_Reader_letLine_30 : decode mm_Reader_letLine.2.1 30 = .ok (.return_, 1) := by decide +kernel
theorem dd_Reader_readQuarter_0 : decode mm_Reader_readQuarter.2.1 0 = .ok (.aload_n 0, 1) := by decide +kernel
theorem dd_Reader_readQuarter_1 : decode mm_Reader_readQuarter.2.1 1 = .ok (.invokevirtual 38, 3) := by decide +kernel
theorem cw_7_38 : cwOk 7 38 0 17 1 1 7 = true := by decide +kernel
theorem mt_Reader_begin : MTB 17 = some mm_Reader_begin := rfl
theorem dd_Reader_readQuarter_4 : decode mm_Reader_readQuarter.2.1 4 = .ok (.aload_n 1, 1) := by decide +kernel
theorem dd_Reader_readQuarter_5 : decode mm_Reader_readQuarter.2.1 5 = .ok (.invokevirtual 41, 3) := by decide +kernel
theorem cw_7_41 : cwOk 7 41 0 24 1 1 6 = true := by decide +kernel
theorem mt_Quarter_clear : MTB 24 = some mm_Quarter_clear := rfl
theorem dd_Quarter_clear_0 : decode mm_Quarter_clear.2.1 0 = .ok (.aload_n 0, 1) := by decide +kernel
theorem dd_Quarter_clear_1 : decode mm_Quarter_clear.2.1 1 = .ok (.iconst 2, 1) := by decide +kernel
theorem dd_Quarter_clear_2 : decode mm_Quarter_clear.2.1 2 = .ok (.putfield 9, 3) := by decide +kernel
theorem fd_6_9 : fld 6 9 = some (6, 0) := by decide +kernel
theorem fn_6_0 : fin 6 0 = false := by decide +kernel
theorem dd_Quarter_clear_5 : decode mm_Quarter_clear.2.1 5 = .ok (.aload_n 0, 1) := by decide +kernel
theorem dd_Quarter_clear_6 : decode mm_Quarter_clear.2.1 6 = .ok (.iconst 0, 1) := by decide +kernel
theorem dd_Quarter_clear_7 : decode mm_Quarter_clear.2.1 7 = .ok (.putfield 42, 3) := by decide +kernel
theorem dd_Quarter_clear_10 : decode mm_Quarter_clear.2.1 10 = .ok (.aload_n 0, 1) := by decide +kernel
theorem dd_Quarter_clear_11 : decode mm_Quarter_clear.2.1 11 = .ok (.iconst 0, 1) := by decide +kernel
theorem dd_Quarter_clear_12 : decode mm_Quarter_clear.2.1 12 = .ok (.putfield 45, 3) := by decide +kernel
theorem dd_Quarter_clear_15 : decode mm_Quarter_clear.2.1 15 = .ok (.aload_n 0, 1) := by decide +kernel
theorem dd_Quarter_clear_16 : decode mm_Quarter_clear.2.1 16 = .ok (.iconst 0, 1) := by decide +kernel
theorem dd_Quarter_clear_17 : decode mm_Quarter_clear.2.1 17 = .ok (.putfield 48, 3) := by decide +kernel
theorem dd_Quarter_clear_20 : decode mm_Quarter_clear.2.1 20 = .ok (.return_, 1) := by decide +kernel
theorem dd_Reader_readQuarter_8 : decode mm_Reader_readQuarter.2.1 8 = .ok (.aload_n 0, 1) := by decide +kernel
theorem dd_Reader_readQuarter_9 : decode mm_Reader_readQuarter.2.1 9 = .ok (.iconst 0, 1) := by decide +kernel
theorem dd_Reader_readQuarter_10 : decode mm_Reader_readQuarter.2.1 10 = .ok (.invokevirtual 46, 3) := by decide +kernel
theorem dd_Reader_readQuarter_13 : decode mm_Reader_readQuarter.2.1 13 = .ok (.aload_n 1, 1) := by decide +kernel
theorem dd_Reader_readQuarter_14 : decode mm_Reader_readQuarter.2.1 14 = .ok (.aload_n 0, 1) := by decide +kernel
theorem dd_Reader_readQuarter_15 : decode mm_Reader_readQuarter.2.1 15 = .ok (.iconst 2, 1) := by decide +kernel
theorem dd_Reader_readQuarter_16 : decode mm_Reader_readQuarter.2.1 16 = .ok (.bipush 10, 2) := by decide +kernel
theorem dd_Reader_readQuarter_18 : decode mm_Reader_readQuarter.2.1 18 = .ok (.invokevirtual 50, 3) := by decide +kernel
theorem dd_Reader_readQuarter_21 : decode mm_Reader_readQuarter.2.1 21 = .ok (.putfield 54, 3) := by decide +kernel
theorem dd_Reader_readQuarter_24 : decode mm_Reader_readQuarter.2.1 24 = .ok (.aload_n 0, 1) := by decide +kernel
theorem dd_Reader_readQuarter_25 : decode mm_Reader_readQuarter.2.1 25 = .ok (.bipush 59, 2) := by decide +kernel
theorem dd_Reader_readQuarter_27 : decode mm_Reader_readQuarter.2.1 27 = .ok (.invokevirtual 57, 3) := by decide +kernel
theorem dd_Reader_readQuarter_30 : decode mm_Reader_readQuarter.2.1 30 = .ok (.iconst 0, 1) := by decide +kernel
theorem dd_Reader_readQuarter_31 : decode mm_Reader_readQuarter.2.1 31 = .ok (.istore_n 2, 1) := by decide +kernel
theorem dd_Reader_readQuarter_32 : decode mm_Reader_readQuarter.2.1 32 = .ok (.iload_n 2, 1) := by decide +kernel
theorem dd_Reader_readQuarter_33 : decode mm_Reader_readQuarter.2.1 33 = .ok (.sipush 1000, 3) := by decide +kernel
theorem dd_Reader_readQuarter_36 : decode mm_Reader_readQuarter.2.1 36 = .ok (.if_icmp .ge (91), 3) := by decide +kernel
theorem dd_Reader_readQuarter_39 : decode mm_Reader_readQuarter.2.1 39 = .ok (.aload_n 0, 1) := by decide +kernel
theorem dd_Reader_readQuarter_40 : decode mm_Reader_readQuarter.2.1 40 = .ok (.getfield 61, 3) := by decide +kernel
theorem dd_Reader_readQuarter_43 : decode mm_Reader_readQuarter.2.1 43 = .ok (.ifCond .ne (84), 3) := by decide +kernel
theorem dd_Reader_readQuarter_46 : decode mm_Reader_readQuarter.2.1 46 = .ok (.aload_n 0, 1) := by decide +kernel
theorem dd_Reader_readQuarter_47 : decode mm_Reader_readQuarter.2.1 47 = .ok (.getfield 64, 3) := by decide +kernel
theorem dd_Reader_readQuarter_50 : decode mm_Reader_readQuarter.2.1 50 = .ok (.ifCond .eq (77), 3) := by decide +kernel
theorem dd_Reader_readQuarter_53 : decode mm_Reader_readQuarter.2.1 53 = .ok (.aload_n 0, 1) := by decide +kernel
theorem dd_Reader_readQuarter_54 : decode mm_Reader_readQuarter.2.1 54 = .ok (.getfield 67, 3) := by decide +kernel
theorem dd_Reader_readQuarter_57 : decode mm_Reader_readQuarter.2.1 57 = .ok (.lookupswitch (59) #[(1, 35), (7, 43), (11, 51)], 35) := by decide +kernel
theorem dd_Reader_readQuarter_92 : decode mm_Reader_readQuarter.2.1 92 = .ok (.aload_n 0, 1) := by decide +kernel
theorem dd_Reader_readQuarter_93 : decode mm_Reader_readQuarter.2.1 93 = .ok (.aload_n 1, 1) := by decide +kernel
theorem dd_Reader_readQuarter_94 : decode mm_Reader_readQuarter.2.1 94 = .ok (.invokevirtual 70, 3) := by decide +kernel
theorem cw_7_70 : cwOk 7 70 0 30 2 4 7 = true := by decide +kernel
theorem mt_Reader_doorLine : MTB 30 = some mm_Reader_doorLine := rfl
theorem dd_Reader_readQuarter_100 : decode mm_Reader_readQuarter.2.1 100 = .ok (.aload_n 0, 1) := by decide +kernel
theorem dd_Reader_readQuarter_101 : decode mm_Reader_readQuarter.2.1 101 = .ok (.aload_n 1, 1) := by decide +kernel
theorem dd_Reader_readQuarter_102 : decode mm_Reader_readQuarter.2.1 102 = .ok (.invokevirtual 74, 3) := by decide +kernel
theorem cw_7_74 : cwOk 7 74 0 38 2 3 7 = true := by decide +kernel
theorem mt_Reader_personLine : MTB 38 = some mm_Reader_personLine := rfl
theorem dd_Reader_readQuarter_108 : decode mm_Reader_readQuarter.2.1 108 = .ok (.aload_n 0, 1) := by decide +kernel
theorem dd_Reader_readQuarter_109 : decode mm_Reader_readQuarter.2.1 109 = .ok (.aload_n 1, 1) := by decide +kernel
theorem dd_Reader_readQuarter_110 : decode mm_Reader_readQuarter.2.1 110 = .ok (.invokevirtual 77, 3) := by decide +kernel
theorem cw_7_77 : cwOk 7 77 0 39 2 2 7 = true := by decide +kernel
theorem mt_Reader_letLine : MTB 39 = some mm_Reader_letLine := rfl
theorem dd_Reader_readQuarter_116 : decode mm_Reader_readQuarter.2.1 116 = .ok (.aload_n 0, 1) := by decide +kernel
theorem dd_Reader_readQuarter_117 : decode mm_Reader_readQuarter.2.1 117 = .ok (.iconst 1, 1) := by decide +kernel
theorem dd_Reader_readQuarter_118 : decode mm_Reader_readQuarter.2.1 118 = .ok (.invokevirtual 80, 3) := by decide +kernel
theorem dd_Reader_readQuarter_97 : decode mm_Reader_readQuarter.2.1 97 = .ok (.goto 24, 3) := by decide +kernel
theorem dd_Reader_readQuarter_105 : decode mm_Reader_readQuarter.2.1 105 = .ok (.goto 16, 3) := by decide +kernel
theorem dd_Reader_readQuarter_113 : decode mm_Reader_readQuarter.2.1 113 = .ok (.goto 8, 3) := by decide +kernel
theorem dd_Reader_readQuarter_121 : decode mm_Reader_readQuarter.2.1 121 = .ok (.iinc 2 1, 3) := by decide +kernel
theorem dd_Reader_readQuarter_124 : decode mm_Reader_readQuarter.2.1 124 = .ok (.goto (-92), 3) := by decide +kernel
theorem dd_Reader_readQuarter_127 : decode mm_Reader_readQuarter.2.1 127 = .ok (.aload_n 0, 1) := by decide +kernel
theorem dd_Reader_readQuarter_128 : decode mm_Reader_readQuarter.2.1 128 = .ok (.iconst 0, 1) := by decide +kernel
theorem dd_Reader_readQuarter_129 : decode mm_Reader_readQuarter.2.1 129 = .ok (.putfield 35, 3) := by decide +kernel
theorem dd_Reader_readQuarter_132 : decode mm_Reader_readQuarter.2.1 132 = .ok (.aload_n 0, 1) := by decide +kernel
theorem dd_Reader_readQuarter_133 : decode mm_Reader_readQuarter.2.1 133 = .ok (.getfield 61, 3) := by decide +kernel
theorem dd_Reader_readQuarter_136 : decode mm_Reader_readQuarter.2.1 136 = .ok (.ireturn, 1) := by decide +kernel
theorem B_Reader_personLine_0 {xs : Nat → Int} {xl e : Nat} {h : LH} {Q : Option LV → LH → Prop} {q : Int} (hq : q = 5 ∨ q = 32) (hF : RF h) (hP : PT h)
    (k : ((rd h q 4) < 6 →
        (0 ≤ (rd h q 4) ∧ (rd h q 4) < 6) ∧
        (∃ c, c < e ∧ Rn xs xl c mm_Reader_step 0 [some (.inr (.inr 2)), none] [] h (fun r h' => Rn xs xl e mm_Reader_personLine 29 [some (.inr (.inr 2)), some (.inr (.inr q)), some (.inr (.inr (q + 21 + (rd h q 4))))] (r.toList ++ []) h' Q))) ∧
      (6 ≤ (rd h q 4) →
        (∃ c, c < e ∧ Rn xs xl c mm_Reader_fail 0 [some (.inr (.inr 2)), some (.inl 5)] [] h (fun r h' => Rn xs xl e mm_Reader_personLine 14 [some (.inr (.inr 2)), some (.inr (.inr q)), none] (r.toList ++ []) h' Q)))) :
    Rn xs xl e mm_Reader_personLine 0 [some (.inr (.inr 2)), some (.inr (.inr q)), none] [] h Q := by
  refine R_ld (v := .inr (.inr q)) dd_Reader_personLine_0 rfl rfl rfl rfl ?_
  refine R_gf (v := .inl (rd h q 4)) dd_Reader_personLine_1 fd_7_145 (io_q hq) (congrArg (fun z : Int => (Sum.inl z : LV)) (rfl)) rfl ?_
  refine R_bi dd_Reader_personLine_4 (by decide) rfl ?_
  refine R_icmp dd_Reader_personLine_6 rfl rfl (fun (c4 : (rd h q 4) < 6) => ?_) (fun (c4 : 6 ≤ (rd h q 4)) => ?_)
  · replace k := k.1 c4
    refine R_ld (v := .inr (.inr q)) dd_Reader_personLine_15 rfl rfl rfl rfl ?_
    refine R_gf (v := .inr (.inr (q + 2))) dd_Reader_personLine_16 fd_7_148 (io_q hq) (congrArg (fun z : Int => (Sum.inr (Sum.inr z) : LV)) (rq_ppl hF hq)) rfl ?_
    refine R_ld (v := .inr (.inr q)) dd_Reader_personLine_19 rfl rfl rfl rfl ?_
    refine R_gf (v := .inl (rd h q 4)) dd_Reader_personLine_20 fd_7_145 (io_q hq) (congrArg (fun z : Int => (Sum.inl z : LV)) (rfl)) rfl ?_
    obtain ⟨s1, k⟩ := k
    refine R_aald (v := (q + 21 + (rd h q 4))) (n := 6) dd_Reader_personLine_23 (ia_pq hq) (la_pq hq) s1 (rq_p hP hq s1) rfl ?_
    refine R_st (ls' := [some (.inr (.inr 2)), some (.inr (.inr q)), some (.inr (.inr (q + 21 + (rd h q 4))))]) dd_Reader_personLine_24 rfl rfl rfl (Nat.le_of_ble_eq_true rfl) rfl rfl ?_
    refine R_ld (v := .inr (.inr 2)) dd_Reader_personLine_25 rfl rfl rfl rfl ?_
    obtain ⟨c, hc, k⟩ := k
    exact R_call (as := [.inr (.inr 2)]) (rest := []) (M' := mm_Reader_step) (ls0 := [some (.inr (.inr 2)), none]) dd_Reader_personLine_26 rfl rfl (cw_v cw_7_99 io_2 rfl rfl (Nat.le_of_ble_eq_true rfl) (Nat.le_of_ble_eq_true rfl)) mt_Reader_step rfl hc rfl k
  · replace k := k.2 c4
    refine R_ld (v := .inr (.inr 2)) dd_Reader_personLine_9 rfl rfl rfl rfl ?_
    refine R_ic dd_Reader_personLine_10 (by decide) rfl ?_
    obtain ⟨c, hc, k⟩ := k
    exact R_call (as := [.inr (.inr 2), .inl 5]) (rest := []) (M' := mm_Reader_fail) (ls0 := [some (.inr (.inr 2)), some (.inl 5)]) dd_Reader_personLine_11 rfl rfl (cw_v cw_7_80 io_2 rfl rfl (Nat.le_of_ble_eq_true rfl) (Nat.le_of_ble_eq_true rfl)) mt_Reader_fail rfl hc rfl k
theorem B_Reader_personLine_14 {xs : Nat → Int} {xl e : Nat} {h : LH} {Q : Option LV → LH → Prop} {q : Int} (hq : q = 5 ∨ q = 32) (hF : RF h)
    (k : Q none h) :
    Rn xs xl e mm_Reader_personLine 14 [some (.inr (.inr 2)), some (.inr (.inr q)), none] [] h Q := by
  exact R_vret dd_Reader_personLine_14 rfl k
theorem B_Reader_personLine_29 {xs : Nat → Int} {xl e : Nat} {h : LH} {Q : Option LV → LH → Prop} {q : Int} (hq : q = 5 ∨ q = 32) {p : Int} (hp : q + 21 ≤ p ∧ p ≤ q + 26) (hF : RF h)
    (k : (∃ c, c < e ∧ Rn xs xl c mm_Reader_takeNewName 0 [some (.inr (.inr 2)), some (.inr (.inr q)), none, none] [] h (fun r h' => Rn xs xl e mm_Reader_personLine 35 [some (.inr (.inr 2)), some (.inr (.inr q)), some (.inr (.inr p))] (r.toList ++ [.inr (.inr p)]) h' Q))) :
    Rn xs xl e mm_Reader_personLine 29 [some (.inr (.inr 2)), some (.inr (.inr q)), some (.inr (.inr p))] [] h Q := by
  refine R_ld (v := .inr (.inr p)) dd_Reader_personLine_29 rfl rfl rfl rfl ?_
  refine R_ld (v := .inr (.inr 2)) dd_Reader_personLine_30 rfl rfl rfl rfl ?_
  refine R_ld (v := .inr (.inr q)) dd_Reader_personLine_31 rfl rfl rfl rfl ?_
  obtain ⟨c, hc, k⟩ := k
  exact R_call (as := [.inr (.inr 2), .inr (.inr q)]) (rest := [.inr (.inr p)]) (M' := mm_Reader_takeNewName) (ls0 := [some (.inr (.inr 2)), some (.inr (.inr q)), none, none]) dd_Reader_personLine_32 rfl rfl (cw_v cw_7_102 io_2 rfl rfl (Nat.le_of_ble_eq_true rfl) (Nat.le_of_ble_eq_true rfl)) mt_Reader_takeNewName rfl hc rfl k
theorem B_Reader_personLine_35 {xs : Nat → Int} {xl e : Nat} {h : LH} {Q : Option LV → LH → Prop} {w1 : Int} {q : Int} (hq : q = 5 ∨ q = 32) {p : Int} (hp : q + 21 ≤ p ∧ p ≤ q + 26) (hF : RF h)
    (k : (∃ c, c < e ∧ Rn xs xl c mm_Reader_takeOneOfFour 0 [some (.inr (.inr 2)), some (.inl 18), none] [] (wr h p 0 w1) (fun r h' => Rn xs xl e mm_Reader_personLine 45 [some (.inr (.inr 2)), some (.inr (.inr q)), some (.inr (.inr p))] (r.toList ++ [.inr (.inr p)]) h' Q))) :
    Rn xs xl e mm_Reader_personLine 35 [some (.inr (.inr 2)), some (.inr (.inr q)), some (.inr (.inr p))] [.inr (.inl w1), .inr (.inr p)] h Q := by
  refine R_pf (z := w1) dd_Reader_personLine_35 fd_7_152 (io_p hq hp) fn_4_0 rfl rfl ?_
  refine R_ld (v := .inr (.inr p)) dd_Reader_personLine_38 rfl rfl rfl rfl ?_
  refine R_ld (v := .inr (.inr 2)) dd_Reader_personLine_39 rfl rfl rfl rfl ?_
  refine R_bi dd_Reader_personLine_40 (by decide) rfl ?_
  obtain ⟨c, hc, k⟩ := k
  exact R_call (as := [.inr (.inr 2), .inl 18]) (rest := [.inr (.inr p)]) (M' := mm_Reader_takeOneOfFour) (ls0 := [some (.inr (.inr 2)), some (.inl 18), none]) dd_Reader_personLine_42 rfl rfl (cw_v cw_7_121 io_2 rfl rfl (Nat.le_of_ble_eq_true rfl) (Nat.le_of_ble_eq_true rfl)) mt_Reader_takeOneOfFour rfl hc rfl k
theorem B_Reader_personLine_45 {xs : Nat → Int} {xl e : Nat} {h : LH} {Q : Option LV → LH → Prop} {w1 : Int} {q : Int} (hq : q = 5 ∨ q = 32) {p : Int} (hp : q + 21 ≤ p ∧ p ≤ q + 26) (hF : RF h)
    (k : (∃ c, c < e ∧ Rn xs xl c mm_Reader_takeWord 0 [some (.inr (.inr 2)), some (.inl 8)] [] (wr h p 1 w1) (fun r h' => Rn xs xl e mm_Reader_personLine 54 [some (.inr (.inr 2)), some (.inr (.inr q)), some (.inr (.inr p))] (r.toList ++ []) h' Q))) :
    Rn xs xl e mm_Reader_personLine 45 [some (.inr (.inr 2)), some (.inr (.inr q)), some (.inr (.inr p))] [.inl w1, .inr (.inr p)] h Q := by
  refine R_pf (z := w1) dd_Reader_personLine_45 fd_7_155 (io_p hq hp) fn_4_1 rfl rfl ?_
  refine R_ld (v := .inr (.inr 2)) dd_Reader_personLine_48 rfl rfl rfl rfl ?_
  refine R_bi dd_Reader_personLine_49 (by decide) rfl ?_
  obtain ⟨c, hc, k⟩ := k
  exact R_call (as := [.inr (.inr 2), .inl 8]) (rest := []) (M' := mm_Reader_takeWord) (ls0 := [some (.inr (.inr 2)), some (.inl 8)]) dd_Reader_personLine_51 rfl rfl (cw_v cw_7_46 io_2 rfl rfl (Nat.le_of_ble_eq_true rfl) (Nat.le_of_ble_eq_true rfl)) mt_Reader_takeWord rfl hc rfl k
theorem B_Reader_personLine_54 {xs : Nat → Int} {xl e : Nat} {h : LH} {Q : Option LV → LH → Prop} {q : Int} (hq : q = 5 ∨ q = 32) {p : Int} (hp : q + 21 ≤ p ∧ p ≤ q + 26) (hF : RF h)
    (k : (-2147483648 ≤ (rd h q 0) - 1 ∧ (rd h q 0) - 1 ≤ 2147483647) ∧
      (∃ c, c < e ∧ Rn xs xl c mm_Reader_takeNumber 0 [some (.inr (.inr 2)), some (.inl 0), some (.inl ((rd h q 0) - 1)), none] [] h (fun r h' => Rn xs xl e mm_Reader_personLine 66 [some (.inr (.inr 2)), some (.inr (.inr q)), some (.inr (.inr p))] (r.toList ++ [.inr (.inr p)]) h' Q))) :
    Rn xs xl e mm_Reader_personLine 54 [some (.inr (.inr 2)), some (.inr (.inr q)), some (.inr (.inr p))] [] h Q := by
  refine R_ld (v := .inr (.inr p)) dd_Reader_personLine_54 rfl rfl rfl rfl ?_
  refine R_ld (v := .inr (.inr 2)) dd_Reader_personLine_55 rfl rfl rfl rfl ?_
  refine R_ic dd_Reader_personLine_56 (by decide) rfl ?_
  refine R_ld (v := .inr (.inr q)) dd_Reader_personLine_57 rfl rfl rfl rfl ?_
  refine R_gf (v := .inl (rd h q 0)) dd_Reader_personLine_58 fd_7_54 (io_q hq) (congrArg (fun z : Int => (Sum.inl z : LV)) (rfl)) rfl ?_
  refine R_ic dd_Reader_personLine_61 (by decide) rfl ?_
  obtain ⟨s1, k⟩ := k
  refine R_isub (c := (rd h q 0) - 1) dd_Reader_personLine_62 (by omega) s1 rfl ?_
  obtain ⟨c, hc, k⟩ := k
  exact R_call (as := [.inr (.inr 2), .inl 0, .inl ((rd h q 0) - 1)]) (rest := [.inr (.inr p)]) (M' := mm_Reader_takeNumber) (ls0 := [some (.inr (.inr 2)), some (.inl 0), some (.inl ((rd h q 0) - 1)), none]) dd_Reader_personLine_63 rfl rfl (cw_v cw_7_50 io_2 rfl rfl (Nat.le_of_ble_eq_true rfl) (Nat.le_of_ble_eq_true rfl)) mt_Reader_takeNumber rfl hc rfl k
theorem B_Reader_personLine_66 {xs : Nat → Int} {xl e : Nat} {h : LH} {Q : Option LV → LH → Prop} {w1 : Int} {q : Int} (hq : q = 5 ∨ q = 32) {p : Int} (hp : q + 21 ≤ p ∧ p ≤ q + 26) (hF : RF h)
    (k : (∃ c, c < e ∧ Rn xs xl c mm_Reader_takeWord 0 [some (.inr (.inr 2)), some (.inl 9)] [] (wr h p 2 w1) (fun r h' => Rn xs xl e mm_Reader_personLine 75 [some (.inr (.inr 2)), some (.inr (.inr q)), some (.inr (.inr p))] (r.toList ++ []) h' Q))) :
    Rn xs xl e mm_Reader_personLine 66 [some (.inr (.inr 2)), some (.inr (.inr q)), some (.inr (.inr p))] [.inl w1, .inr (.inr p)] h Q := by
  refine R_pf (z := w1) dd_Reader_personLine_66 fd_7_158 (io_p hq hp) fn_4_2 rfl rfl ?_
  refine R_ld (v := .inr (.inr 2)) dd_Reader_personLine_69 rfl rfl rfl rfl ?_
  refine R_bi dd_Reader_personLine_70 (by decide) rfl ?_
  obtain ⟨c, hc, k⟩ := k
  exact R_call (as := [.inr (.inr 2), .inl 9]) (rest := []) (M' := mm_Reader_takeWord) (ls0 := [some (.inr (.inr 2)), some (.inl 9)]) dd_Reader_personLine_72 rfl rfl (cw_v cw_7_46 io_2 rfl rfl (Nat.le_of_ble_eq_true rfl) (Nat.le_of_ble_eq_true rfl)) mt_Reader_takeWord rfl hc rfl k
theorem B_Reader_personLine_75 {xs : Nat → Int} {xl e : Nat} {h : LH} {Q : Option LV → LH → Prop} {q : Int} (hq : q = 5 ∨ q = 32) {p : Int} (hp : q + 21 ≤ p ∧ p ≤ q + 26) (hF : RF h)
    (k : (-2147483648 ≤ (rd h q 0) - 1 ∧ (rd h q 0) - 1 ≤ 2147483647) ∧
      (∃ c, c < e ∧ Rn xs xl c mm_Reader_takeNumber 0 [some (.inr (.inr 2)), some (.inl 0), some (.inl ((rd h q 0) - 1)), none] [] h (fun r h' => Rn xs xl e mm_Reader_personLine 87 [some (.inr (.inr 2)), some (.inr (.inr q)), some (.inr (.inr p))] (r.toList ++ [.inr (.inr p)]) h' Q))) :
    Rn xs xl e mm_Reader_personLine 75 [some (.inr (.inr 2)), some (.inr (.inr q)), some (.inr (.inr p))] [] h Q := by
  refine R_ld (v := .inr (.inr p)) dd_Reader_personLine_75 rfl rfl rfl rfl ?_
  refine R_ld (v := .inr (.inr 2)) dd_Reader_personLine_76 rfl rfl rfl rfl ?_
  refine R_ic dd_Reader_personLine_77 (by decide) rfl ?_
  refine R_ld (v := .inr (.inr q)) dd_Reader_personLine_78 rfl rfl rfl rfl ?_
  refine R_gf (v := .inl (rd h q 0)) dd_Reader_personLine_79 fd_7_54 (io_q hq) (congrArg (fun z : Int => (Sum.inl z : LV)) (rfl)) rfl ?_
  refine R_ic dd_Reader_personLine_82 (by decide) rfl ?_
  obtain ⟨s1, k⟩ := k
  refine R_isub (c := (rd h q 0) - 1) dd_Reader_personLine_83 (by omega) s1 rfl ?_
  obtain ⟨c, hc, k⟩ := k
  exact R_call (as := [.inr (.inr 2), .inl 0, .inl ((rd h q 0) - 1)]) (rest := [.inr (.inr p)]) (M' := mm_Reader_takeNumber) (ls0 := [some (.inr (.inr 2)), some (.inl 0), some (.inl ((rd h q 0) - 1)), none]) dd_Reader_personLine_84 rfl rfl (cw_v cw_7_50 io_2 rfl rfl (Nat.le_of_ble_eq_true rfl) (Nat.le_of_ble_eq_true rfl)) mt_Reader_takeNumber rfl hc rfl k
theorem B_Reader_personLine_87 {xs : Nat → Int} {xl e : Nat} {h : LH} {Q : Option LV → LH → Prop} {w1 : Int} {q : Int} (hq : q = 5 ∨ q = 32) {p : Int} (hp : q + 21 ≤ p ∧ p ≤ q + 26) (hF : RF h)
    (k : (∃ c, c < e ∧ Rn xs xl c mm_Reader_takeWord 0 [some (.inr (.inr 2)), some (.inl 10)] [] (wr h p 3 w1) (fun r h' => Rn xs xl e mm_Reader_personLine 96 [some (.inr (.inr 2)), some (.inr (.inr q)), some (.inr (.inr p))] (r.toList ++ []) h' Q))) :
    Rn xs xl e mm_Reader_personLine 87 [some (.inr (.inr 2)), some (.inr (.inr q)), some (.inr (.inr p))] [.inl w1, .inr (.inr p)] h Q := by
  refine R_pf (z := w1) dd_Reader_personLine_87 fd_7_161 (io_p hq hp) fn_4_3 rfl rfl ?_
  refine R_ld (v := .inr (.inr 2)) dd_Reader_personLine_90 rfl rfl rfl rfl ?_
  refine R_bi dd_Reader_personLine_91 (by decide) rfl ?_
  obtain ⟨c, hc, k⟩ := k
  exact R_call (as := [.inr (.inr 2), .inl 10]) (rest := []) (M' := mm_Reader_takeWord) (ls0 := [some (.inr (.inr 2)), some (.inl 10)]) dd_Reader_personLine_93 rfl rfl (cw_v cw_7_46 io_2 rfl rfl (Nat.le_of_ble_eq_true rfl) (Nat.le_of_ble_eq_true rfl)) mt_Reader_takeWord rfl hc rfl k
theorem B_Reader_personLine_96 {xs : Nat → Int} {xl e : Nat} {h : LH} {Q : Option LV → LH → Prop} {q : Int} (hq : q = 5 ∨ q = 32) {p : Int} (hp : q + 21 ≤ p ∧ p ≤ q + 26) (hF : RF h)
    (k : (∃ c, c < e ∧ Rn xs xl c mm_Reader_takeNumber 0 [some (.inr (.inr 2)), some (.inl 1), some (.inl 24), none] [] h (fun r h' => Rn xs xl e mm_Reader_personLine 104 [some (.inr (.inr 2)), some (.inr (.inr q)), some (.inr (.inr p))] (r.toList ++ [.inr (.inr p)]) h' Q))) :
    Rn xs xl e mm_Reader_personLine 96 [some (.inr (.inr 2)), some (.inr (.inr q)), some (.inr (.inr p))] [] h Q := by
  refine R_ld (v := .inr (.inr p)) dd_Reader_personLine_96 rfl rfl rfl rfl ?_
  refine R_ld (v := .inr (.inr 2)) dd_Reader_personLine_97 rfl rfl rfl rfl ?_
  refine R_ic dd_Reader_personLine_98 (by decide) rfl ?_
  refine R_bi dd_Reader_personLine_99 (by decide) rfl ?_
  obtain ⟨c, hc, k⟩ := k
  exact R_call (as := [.inr (.inr 2), .inl 1, .inl 24]) (rest := [.inr (.inr p)]) (M' := mm_Reader_takeNumber) (ls0 := [some (.inr (.inr 2)), some (.inl 1), some (.inl 24), none]) dd_Reader_personLine_101 rfl rfl (cw_v cw_7_50 io_2 rfl rfl (Nat.le_of_ble_eq_true rfl) (Nat.le_of_ble_eq_true rfl)) mt_Reader_takeNumber rfl hc rfl k
theorem B_Reader_personLine_104 {xs : Nat → Int} {xl e : Nat} {h : LH} {Q : Option LV → LH → Prop} {w1 : Int} {q : Int} (hq : q = 5 ∨ q = 32) {p : Int} (hp : q + 21 ≤ p ∧ p ≤ q + 26) (hF : RF h)
    (k : (∃ c, c < e ∧ Rn xs xl c mm_Reader_takeSign 0 [some (.inr (.inr 2)), some (.inl 59)] [] (wr h p 4 w1) (fun r h' => Rn xs xl e mm_Reader_personLine 113 [some (.inr (.inr 2)), some (.inr (.inr q)), some (.inr (.inr p))] (r.toList ++ []) h' Q))) :
    Rn xs xl e mm_Reader_personLine 104 [some (.inr (.inr 2)), some (.inr (.inr q)), some (.inr (.inr p))] [.inl w1, .inr (.inr p)] h Q := by
  refine R_pf (z := w1) dd_Reader_personLine_104 fd_7_164 (io_p hq hp) fn_4_4 rfl rfl ?_
  refine R_ld (v := .inr (.inr 2)) dd_Reader_personLine_107 rfl rfl rfl rfl ?_
  refine R_bi dd_Reader_personLine_108 (by decide) rfl ?_
  obtain ⟨c, hc, k⟩ := k
  exact R_call (as := [.inr (.inr 2), .inl 59]) (rest := []) (M' := mm_Reader_takeSign) (ls0 := [some (.inr (.inr 2)), some (.inl 59)]) dd_Reader_personLine_110 rfl rfl (cw_v cw_7_57 io_2 rfl rfl (Nat.le_of_ble_eq_true rfl) (Nat.le_of_ble_eq_true rfl)) mt_Reader_takeSign rfl hc rfl k
theorem B_Reader_personLine_113 {xs : Nat → Int} {xl e : Nat} {h : LH} {Q : Option LV → LH → Prop} {q : Int} (hq : q = 5 ∨ q = 32) {p : Int} (hp : q + 21 ≤ p ∧ p ≤ q + 26) (hF : RF h)
    (k : (-2147483648 ≤ (rd h q 4) + 1 ∧ (rd h q 4) + 1 ≤ 2147483647) ∧
      Q none (wr h q 4 ((rd h q 4) + 1))) :
    Rn xs xl e mm_Reader_personLine 113 [some (.inr (.inr 2)), some (.inr (.inr q)), some (.inr (.inr p))] [] h Q := by
  refine R_ld (v := .inr (.inr q)) dd_Reader_personLine_113 rfl rfl rfl rfl ?_
  refine R_A dd_Reader_personLine_114 rfl rfl rfl rfl ?_
  refine R_gf (v := .inl (rd h q 4)) dd_Reader_personLine_115 fd_7_145 (io_q hq) (congrArg (fun z : Int => (Sum.inl z : LV)) (rfl)) rfl ?_
  refine R_ic dd_Reader_personLine_118 (by decide) rfl ?_
  obtain ⟨s1, k⟩ := k
  refine R_iadd (c := (rd h q 4) + 1) dd_Reader_personLine_119 (by omega) s1 rfl ?_
  refine R_pf (z := ((rd h q 4) + 1)) dd_Reader_personLine_120 fd_7_145 (io_q hq) fn_6_4 rfl rfl ?_
  exact R_vret dd_Reader_personLine_123 rfl k
theorem B_Reader_letLine_0 {xs : Nat → Int} {xl e : Nat} {h : LH} {Q : Option LV → LH → Prop} {q : Int} (hq : q = 5 ∨ q = 32) (hF : RF h)
    (k : ((rd h q 6) ≤ 0 →
        (∃ c, c < e ∧ Rn xs xl c mm_Reader_step 0 [some (.inr (.inr 2)), none] [] h (fun r h' => Rn xs xl e mm_Reader_letLine 17 [some (.inr (.inr 2)), some (.inr (.inr q))] (r.toList ++ []) h' Q))) ∧
      (0 < (rd h q 6) →
        (∃ c, c < e ∧ Rn xs xl c mm_Reader_fail 0 [some (.inr (.inr 2)), some (.inl 3)] [] h (fun r h' => Rn xs xl e mm_Reader_letLine 12 [some (.inr (.inr 2)), some (.inr (.inr q))] (r.toList ++ []) h' Q)))) :
    Rn xs xl e mm_Reader_letLine 0 [some (.inr (.inr 2)), some (.inr (.inr q))] [] h Q := by
  refine R_ld (v := .inr (.inr q)) dd_Reader_letLine_0 rfl rfl rfl rfl ?_
  refine R_gf (v := .inl (rd h q 6)) dd_Reader_letLine_1 fd_7_167 (io_q hq) (congrArg (fun z : Int => (Sum.inl z : LV)) (rfl)) rfl ?_
  refine R_if dd_Reader_letLine_4 rfl rfl (fun (c3 : (rd h q 6) ≤ 0) => ?_) (fun (c3 : 0 < (rd h q 6)) => ?_)
  · replace k := k.1 c3
    refine R_ld (v := .inr (.inr 2)) dd_Reader_letLine_13 rfl rfl rfl rfl ?_
    obtain ⟨c, hc, k⟩ := k
    exact R_call (as := [.inr (.inr 2)]) (rest := []) (M' := mm_Reader_step) (ls0 := [some (.inr (.inr 2)), none]) dd_Reader_letLine_14 rfl rfl (cw_v cw_7_99 io_2 rfl rfl (Nat.le_of_ble_eq_true rfl) (Nat.le_of_ble_eq_true rfl)) mt_Reader_step rfl hc rfl k
  · replace k := k.2 c3
    refine R_ld (v := .inr (.inr 2)) dd_Reader_letLine_7 rfl rfl rfl rfl ?_
    refine R_ic dd_Reader_letLine_8 (by decide) rfl ?_
    obtain ⟨c, hc, k⟩ := k
    exact R_call (as := [.inr (.inr 2), .inl 3]) (rest := []) (M' := mm_Reader_fail) (ls0 := [some (.inr (.inr 2)), some (.inl 3)]) dd_Reader_letLine_9 rfl rfl (cw_v cw_7_80 io_2 rfl rfl (Nat.le_of_ble_eq_true rfl) (Nat.le_of_ble_eq_true rfl)) mt_Reader_fail rfl hc rfl k
theorem B_Reader_letLine_12 {xs : Nat → Int} {xl e : Nat} {h : LH} {Q : Option LV → LH → Prop} {q : Int} (hq : q = 5 ∨ q = 32) (hF : RF h)
    (k : Q none h) :
    Rn xs xl e mm_Reader_letLine 12 [some (.inr (.inr 2)), some (.inr (.inr q))] [] h Q := by
  exact R_vret dd_Reader_letLine_12 rfl k
theorem B_Reader_letLine_17 {xs : Nat → Int} {xl e : Nat} {h : LH} {Q : Option LV → LH → Prop} {q : Int} (hq : q = 5 ∨ q = 32) (hF : RF h)
    (k : (∃ c, c < e ∧ Rn xs xl c mm_Reader_expression 0 [some (.inr (.inr 2)), some (.inr (.inr q)), some (.inl 0), some (.inl 0), none, none] [] h (fun r h' => Rn xs xl e mm_Reader_letLine 24 [some (.inr (.inr 2)), some (.inr (.inr q))] (r.toList ++ []) h' Q))) :
    Rn xs xl e mm_Reader_letLine 17 [some (.inr (.inr 2)), some (.inr (.inr q))] [] h Q := by
  refine R_ld (v := .inr (.inr 2)) dd_Reader_letLine_17 rfl rfl rfl rfl ?_
  refine R_ld (v := .inr (.inr q)) dd_Reader_letLine_18 rfl rfl rfl rfl ?_
  refine R_ic dd_Reader_letLine_19 (by decide) rfl ?_
  refine R_ic dd_Reader_letLine_20 (by decide) rfl ?_
  obtain ⟨c, hc, k⟩ := k
  exact R_call (as := [.inr (.inr 2), .inr (.inr q), .inl 0, .inl 0]) (rest := []) (M' := mm_Reader_expression) (ls0 := [some (.inr (.inr 2)), some (.inr (.inr q)), some (.inl 0), some (.inl 0), none, none]) dd_Reader_letLine_21 rfl rfl (cw_v cw_7_170 io_2 rfl rfl (Nat.le_of_ble_eq_true rfl) (Nat.le_of_ble_eq_true rfl)) mt_Reader_expression rfl hc rfl k
theorem B_Reader_letLine_24 {xs : Nat → Int} {xl e : Nat} {h : LH} {Q : Option LV → LH → Prop} {q : Int} (hq : q = 5 ∨ q = 32) (hF : RF h)
    (k : (∃ c, c < e ∧ Rn xs xl c mm_Reader_takeSign 0 [some (.inr (.inr 2)), some (.inl 59)] [] h (fun r h' => Rn xs xl e mm_Reader_letLine 30 [some (.inr (.inr 2)), some (.inr (.inr q))] (r.toList ++ []) h' Q))) :
    Rn xs xl e mm_Reader_letLine 24 [some (.inr (.inr 2)), some (.inr (.inr q))] [] h Q := by
  refine R_ld (v := .inr (.inr 2)) dd_Reader_letLine_24 rfl rfl rfl rfl ?_
  refine R_bi dd_Reader_letLine_25 (by decide) rfl ?_
  obtain ⟨c, hc, k⟩ := k
  exact R_call (as := [.inr (.inr 2), .inl 59]) (rest := []) (M' := mm_Reader_takeSign) (ls0 := [some (.inr (.inr 2)), some (.inl 59)]) dd_Reader_letLine_27 rfl rfl (cw_v cw_7_57 io_2 rfl rfl (Nat.le_of_ble_eq_true rfl) (Nat.le_of_ble_eq_true rfl)) mt_Reader_takeSign rfl hc rfl k
theorem B_Reader_letLine_30 {xs : Nat → Int} {xl e : Nat} {h : LH} {Q : Option LV → LH → Prop} {q : Int} (hq : q = 5 ∨ q = 32) (hF : RF h)
    (k : Q none h) :
    Rn xs xl e mm_Reader_letLine 30 [some (.inr (.inr 2)), some (.inr (.inr q))] [] h Q := by
  exact R_vret dd_Reader_letLine_30 rfl k
theorem B_Reader_readQuarter_0 {xs : Nat → Int} {xl e : Nat} {h : LH} {Q : Option LV → LH → Prop} {q : Int} (hq : q = 5 ∨ q = 32) (hF : RF h)
    (k : (∃ c, c < e ∧ Rn xs xl c mm_Reader_begin 0 [some (.inr (.inr 2))] [] h (fun r h' => Rn xs xl e mm_Reader_readQuarter 4 [some (.inr (.inr 2)), some (.inr (.inr q)), none] (r.toList ++ []) h' Q))) :
    Rn xs xl e mm_Reader_readQuarter 0 [some (.inr (.inr 2)), some (.inr (.inr q)), none] [] h Q := by
  refine R_ld (v := .inr (.inr 2)) dd_Reader_readQuarter_0 rfl rfl rfl rfl ?_
  obtain ⟨c, hc, k⟩ := k
  exact R_call (as := [.inr (.inr 2)]) (rest := []) (M' := mm_Reader_begin) (ls0 := [some (.inr (.inr 2))]) dd_Reader_readQuarter_1 rfl rfl (cw_v cw_7_38 io_2 rfl rfl (Nat.le_of_ble_eq_true rfl) (Nat.le_of_ble_eq_true rfl)) mt_Reader_begin rfl hc rfl k
theorem B_Reader_readQuarter_4 {xs : Nat → Int} {xl e : Nat} {h : LH} {Q : Option LV → LH → Prop} {q : Int} (hq : q = 5 ∨ q = 32) (hF : RF h) (he : 1 ≤ e)
    (k : (∃ c, c < e ∧ Rn xs xl c mm_Reader_takeWord 0 [some (.inr (.inr 2)), some (.inl 0)] [] (wr (wr (wr (wr h q 0 2) q 2 0) q 4 0) q 6 0) (fun r h' => Rn xs xl e mm_Reader_readQuarter 13 [some (.inr (.inr 2)), some (.inr (.inr q)), none] (r.toList ++ []) h' Q))) :
    Rn xs xl e mm_Reader_readQuarter 4 [some (.inr (.inr 2)), some (.inr (.inr q)), none] [] h Q := by
  refine R_ld (v := .inr (.inr q)) dd_Reader_readQuarter_4 rfl rfl rfl rfl ?_
  refine R_call (as := [.inr (.inr q)]) (rest := []) (M' := mm_Quarter_clear) (ls0 := [some (.inr (.inr q))]) dd_Reader_readQuarter_5 rfl rfl (cw_v cw_7_41 (io_q hq) rfl rfl (Nat.le_of_ble_eq_true rfl) (Nat.le_of_ble_eq_true rfl)) mt_Quarter_clear rfl (c := e - 1) (by omega) rfl ?_
  refine R_ld (v := .inr (.inr q)) dd_Quarter_clear_0 rfl rfl rfl rfl ?_
  refine R_ic dd_Quarter_clear_1 (by decide) rfl ?_
  refine R_pf (z := 2) dd_Quarter_clear_2 fd_6_9 (io_q hq) fn_6_0 rfl rfl ?_
  refine R_ld (v := .inr (.inr q)) dd_Quarter_clear_5 rfl rfl rfl rfl ?_
  refine R_ic dd_Quarter_clear_6 (by decide) rfl ?_
  refine R_pf (z := 0) dd_Quarter_clear_7 fd_6_42 (io_q hq) fn_6_2 rfl rfl ?_
  refine R_ld (v := .inr (.inr q)) dd_Quarter_clear_10 rfl rfl rfl rfl ?_
  refine R_ic dd_Quarter_clear_11 (by decide) rfl ?_
  refine R_pf (z := 0) dd_Quarter_clear_12 fd_6_45 (io_q hq) fn_6_4 rfl rfl ?_
  refine R_ld (v := .inr (.inr q)) dd_Quarter_clear_15 rfl rfl rfl rfl ?_
  refine R_ic dd_Quarter_clear_16 (by decide) rfl ?_
  refine R_pf (z := 0) dd_Quarter_clear_17 fd_6_48 (io_q hq) fn_6_6 rfl rfl ?_
  refine R_vret dd_Quarter_clear_20 rfl ?_
  change Rn xs xl e mm_Reader_readQuarter 8 [some (.inr (.inr 2)), some (.inr (.inr q)), none] [] (wr (wr (wr (wr h q 0 2) q 2 0) q 4 0) q 6 0) _
  refine R_ld (v := .inr (.inr 2)) dd_Reader_readQuarter_8 rfl rfl rfl rfl ?_
  refine R_ic dd_Reader_readQuarter_9 (by decide) rfl ?_
  obtain ⟨c, hc, k⟩ := k
  exact R_call (as := [.inr (.inr 2), .inl 0]) (rest := []) (M' := mm_Reader_takeWord) (ls0 := [some (.inr (.inr 2)), some (.inl 0)]) dd_Reader_readQuarter_10 rfl rfl (cw_v cw_7_46 io_2 rfl rfl (Nat.le_of_ble_eq_true rfl) (Nat.le_of_ble_eq_true rfl)) mt_Reader_takeWord rfl hc rfl k
theorem B_Reader_readQuarter_13 {xs : Nat → Int} {xl e : Nat} {h : LH} {Q : Option LV → LH → Prop} {q : Int} (hq : q = 5 ∨ q = 32) (hF : RF h)
    (k : (∃ c, c < e ∧ Rn xs xl c mm_Reader_takeNumber 0 [some (.inr (.inr 2)), some (.inl 2), some (.inl 10), none] [] h (fun r h' => Rn xs xl e mm_Reader_readQuarter 21 [some (.inr (.inr 2)), some (.inr (.inr q)), none] (r.toList ++ [.inr (.inr q)]) h' Q))) :
    Rn xs xl e mm_Reader_readQuarter 13 [some (.inr (.inr 2)), some (.inr (.inr q)), none] [] h Q := by
  refine R_ld (v := .inr (.inr q)) dd_Reader_readQuarter_13 rfl rfl rfl rfl ?_
  refine R_ld (v := .inr (.inr 2)) dd_Reader_readQuarter_14 rfl rfl rfl rfl ?_
  refine R_ic dd_Reader_readQuarter_15 (by decide) rfl ?_
  refine R_bi dd_Reader_readQuarter_16 (by decide) rfl ?_
  obtain ⟨c, hc, k⟩ := k
  exact R_call (as := [.inr (.inr 2), .inl 2, .inl 10]) (rest := [.inr (.inr q)]) (M' := mm_Reader_takeNumber) (ls0 := [some (.inr (.inr 2)), some (.inl 2), some (.inl 10), none]) dd_Reader_readQuarter_18 rfl rfl (cw_v cw_7_50 io_2 rfl rfl (Nat.le_of_ble_eq_true rfl) (Nat.le_of_ble_eq_true rfl)) mt_Reader_takeNumber rfl hc rfl k
theorem B_Reader_readQuarter_21 {xs : Nat → Int} {xl e : Nat} {h : LH} {Q : Option LV → LH → Prop} {w1 : Int} {q : Int} (hq : q = 5 ∨ q = 32) (hF : RF h)
    (k : (∃ c, c < e ∧ Rn xs xl c mm_Reader_takeSign 0 [some (.inr (.inr 2)), some (.inl 59)] [] (wr h q 0 w1) (fun r h' => Rn xs xl e mm_Reader_readQuarter 30 [some (.inr (.inr 2)), some (.inr (.inr q)), none] (r.toList ++ []) h' Q))) :
    Rn xs xl e mm_Reader_readQuarter 21 [some (.inr (.inr 2)), some (.inr (.inr q)), none] [.inl w1, .inr (.inr q)] h Q := by
  refine R_pf (z := w1) dd_Reader_readQuarter_21 fd_7_54 (io_q hq) fn_6_0 rfl rfl ?_
  refine R_ld (v := .inr (.inr 2)) dd_Reader_readQuarter_24 rfl rfl rfl rfl ?_
  refine R_bi dd_Reader_readQuarter_25 (by decide) rfl ?_
  obtain ⟨c, hc, k⟩ := k
  exact R_call (as := [.inr (.inr 2), .inl 59]) (rest := []) (M' := mm_Reader_takeSign) (ls0 := [some (.inr (.inr 2)), some (.inl 59)]) dd_Reader_readQuarter_27 rfl rfl (cw_v cw_7_57 io_2 rfl rfl (Nat.le_of_ble_eq_true rfl) (Nat.le_of_ble_eq_true rfl)) mt_Reader_takeSign rfl hc rfl k
theorem B_Reader_readQuarter_30 {xs : Nat → Int} {xl e : Nat} {h : LH} {Q : Option LV → LH → Prop} {q : Int} (hq : q = 5 ∨ q = 32) (hF : RF h)
    (k : Rn xs xl e mm_Reader_readQuarter 32 [some (.inr (.inr 2)), some (.inr (.inr q)), some (.inl 0)] [] h Q) :
    Rn xs xl e mm_Reader_readQuarter 30 [some (.inr (.inr 2)), some (.inr (.inr q)), none] [] h Q := by
  refine R_ic dd_Reader_readQuarter_30 (by decide) rfl ?_
  refine R_st (ls' := [some (.inr (.inr 2)), some (.inr (.inr q)), some (.inl 0)]) dd_Reader_readQuarter_31 rfl rfl rfl (Nat.le_of_ble_eq_true rfl) rfl rfl ?_
  exact k
theorem B_Reader_readQuarter_32 {xs : Nat → Int} {xl e : Nat} {h : LH} {Q : Option LV → LH → Prop} {v2 : Int} {q : Int} (hq : q = 5 ∨ q = 32) (hF : RF h) (r_v2 : 0 ≤ v2 ∧ v2 ≤ 1000)
    (k : (1000 ≤ v2 →
        Rn xs xl e mm_Reader_readQuarter 127 [some (.inr (.inr 2)), some (.inr (.inr q)), some (.inl v2)] [] h Q) ∧
      (v2 < 1000 →
        ((rd h 2 8) ≠ 0 →
          Rn xs xl e mm_Reader_readQuarter 127 [some (.inr (.inr 2)), some (.inr (.inr q)), some (.inl v2)] [] h Q) ∧
        ((rd h 2 8) = 0 →
          ((rd h 2 3) = 0 →
            Rn xs xl e mm_Reader_readQuarter 127 [some (.inr (.inr 2)), some (.inr (.inr q)), some (.inl v2)] [] h Q) ∧
          ((rd h 2 3) ≠ 0 →
            ((rd h 2 7) = 1 →
              (∃ c, c < e ∧ Rn xs xl c mm_Reader_doorLine 0 [some (.inr (.inr 2)), some (.inr (.inr q)), none, none] [] h (fun r h' => Rn xs xl e mm_Reader_readQuarter 97 [some (.inr (.inr 2)), some (.inr (.inr q)), some (.inl v2)] (r.toList ++ []) h' Q))) ∧
            ((rd h 2 7) = 7 →
              (∃ c, c < e ∧ Rn xs xl c mm_Reader_personLine 0 [some (.inr (.inr 2)), some (.inr (.inr q)), none] [] h (fun r h' => Rn xs xl e mm_Reader_readQuarter 105 [some (.inr (.inr 2)), some (.inr (.inr q)), some (.inl v2)] (r.toList ++ []) h' Q))) ∧
            ((rd h 2 7) = 11 →
              (∃ c, c < e ∧ Rn xs xl c mm_Reader_letLine 0 [some (.inr (.inr 2)), some (.inr (.inr q))] [] h (fun r h' => Rn xs xl e mm_Reader_readQuarter 113 [some (.inr (.inr 2)), some (.inr (.inr q)), some (.inl v2)] (r.toList ++ []) h' Q))) ∧
            ((rd h 2 7) ≠ 1 ∧ (rd h 2 7) ≠ 7 ∧ (rd h 2 7) ≠ 11 →
              (∃ c, c < e ∧ Rn xs xl c mm_Reader_fail 0 [some (.inr (.inr 2)), some (.inl 1)] [] h (fun r h' => Rn xs xl e mm_Reader_readQuarter 121 [some (.inr (.inr 2)), some (.inr (.inr q)), some (.inl v2)] (r.toList ++ []) h' Q))))))) :
    Rn xs xl e mm_Reader_readQuarter 32 [some (.inr (.inr 2)), some (.inr (.inr q)), some (.inl v2)] [] h Q := by
  refine R_ld (v := .inl v2) dd_Reader_readQuarter_32 rfl rfl rfl rfl ?_
  refine R_si dd_Reader_readQuarter_33 (by decide) rfl ?_
  refine R_icmp dd_Reader_readQuarter_36 rfl rfl (fun (c5 : 1000 ≤ v2) => ?_) (fun (c5 : v2 < 1000) => ?_)
  · replace k := k.1 c5
    exact k
  · replace k := k.2 c5
    refine R_ld (v := .inr (.inr 2)) dd_Reader_readQuarter_39 rfl rfl rfl rfl ?_
    refine R_gf (v := .inl (rd h 2 8)) dd_Reader_readQuarter_40 fd_7_61 io_2 (congrArg (fun z : Int => (Sum.inl z : LV)) (rfl)) rfl ?_
    refine R_if dd_Reader_readQuarter_43 rfl rfl (fun (c6 : (rd h 2 8) ≠ 0) => ?_) (fun (c6 : (rd h 2 8) = 0) => ?_)
    · replace k := k.1 c6
      exact k
    · replace k := k.2 c6
      refine R_ld (v := .inr (.inr 2)) dd_Reader_readQuarter_46 rfl rfl rfl rfl ?_
      refine R_gf (v := .inl (rd h 2 3)) dd_Reader_readQuarter_47 fd_7_64 io_2 (congrArg (fun z : Int => (Sum.inl z : LV)) (rfl)) rfl ?_
      refine R_if dd_Reader_readQuarter_50 rfl rfl (fun (c7 : (rd h 2 3) = 0) => ?_) (fun (c7 : (rd h 2 3) ≠ 0) => ?_)
      · replace k := k.1 c7
        exact k
      · replace k := k.2 c7
        refine R_ld (v := .inr (.inr 2)) dd_Reader_readQuarter_53 rfl rfl rfl rfl ?_
        refine R_gf (v := .inl (rd h 2 7)) dd_Reader_readQuarter_54 fd_7_67 io_2 (congrArg (fun z : Int => (Sum.inl z : LV)) (rfl)) rfl ?_
        rcases (show ((rd h 2 7) = 1) ∨ ((rd h 2 7) = 7) ∨ ((rd h 2 7) = 11) ∨ ((rd h 2 7) ≠ 1 ∧ (rd h 2 7) ≠ 7 ∧ (rd h 2 7) ≠ 11) by omega) with c8 | c8 | c8 | c8
        · replace k := k.1 c8
          refine R_lsj (v := 1) (f := 35) dd_Reader_readQuarter_57 c8 rfl (by decide) rfl ?_
          refine R_ld (v := .inr (.inr 2)) dd_Reader_readQuarter_92 rfl rfl rfl rfl ?_
          refine R_ld (v := .inr (.inr q)) dd_Reader_readQuarter_93 rfl rfl rfl rfl ?_
          obtain ⟨c, hc, k⟩ := k
          exact R_call (as := [.inr (.inr 2), .inr (.inr q)]) (rest := []) (M' := mm_Reader_doorLine) (ls0 := [some (.inr (.inr 2)), some (.inr (.inr q)), none, none]) dd_Reader_readQuarter_94 rfl rfl (cw_v cw_7_70 io_2 rfl rfl (Nat.le_of_ble_eq_true rfl) (Nat.le_of_ble_eq_true rfl)) mt_Reader_doorLine rfl hc rfl k
        · replace k := k.2.1 c8
          refine R_lsj (v := 7) (f := 43) dd_Reader_readQuarter_57 c8 rfl (by decide) rfl ?_
          refine R_ld (v := .inr (.inr 2)) dd_Reader_readQuarter_100 rfl rfl rfl rfl ?_
          refine R_ld (v := .inr (.inr q)) dd_Reader_readQuarter_101 rfl rfl rfl rfl ?_
          obtain ⟨c, hc, k⟩ := k
          exact R_call (as := [.inr (.inr 2), .inr (.inr q)]) (rest := []) (M' := mm_Reader_personLine) (ls0 := [some (.inr (.inr 2)), some (.inr (.inr q)), none]) dd_Reader_readQuarter_102 rfl rfl (cw_v cw_7_74 io_2 rfl rfl (Nat.le_of_ble_eq_true rfl) (Nat.le_of_ble_eq_true rfl)) mt_Reader_personLine rfl hc rfl k
        · replace k := k.2.2.1 c8
          refine R_lsj (v := 11) (f := 51) dd_Reader_readQuarter_57 c8 rfl (by decide) rfl ?_
          refine R_ld (v := .inr (.inr 2)) dd_Reader_readQuarter_108 rfl rfl rfl rfl ?_
          refine R_ld (v := .inr (.inr q)) dd_Reader_readQuarter_109 rfl rfl rfl rfl ?_
          obtain ⟨c, hc, k⟩ := k
          exact R_call (as := [.inr (.inr 2), .inr (.inr q)]) (rest := []) (M' := mm_Reader_letLine) (ls0 := [some (.inr (.inr 2)), some (.inr (.inr q))]) dd_Reader_readQuarter_110 rfl rfl (cw_v cw_7_77 io_2 rfl rfl (Nat.le_of_ble_eq_true rfl) (Nat.le_of_ble_eq_true rfl)) mt_Reader_letLine rfl hc rfl k
        · replace k := k.2.2.2 c8
          refine R_lsd3 dd_Reader_readQuarter_57 c8 rfl rfl ?_
          refine R_ld (v := .inr (.inr 2)) dd_Reader_readQuarter_116 rfl rfl rfl rfl ?_
          refine R_ic dd_Reader_readQuarter_117 (by decide) rfl ?_
          obtain ⟨c, hc, k⟩ := k
          exact R_call (as := [.inr (.inr 2), .inl 1]) (rest := []) (M' := mm_Reader_fail) (ls0 := [some (.inr (.inr 2)), some (.inl 1)]) dd_Reader_readQuarter_118 rfl rfl (cw_v cw_7_80 io_2 rfl rfl (Nat.le_of_ble_eq_true rfl) (Nat.le_of_ble_eq_true rfl)) mt_Reader_fail rfl hc rfl k
theorem B_Reader_readQuarter_97 {xs : Nat → Int} {xl e : Nat} {h : LH} {Q : Option LV → LH → Prop} {v2 : Int} {q : Int} (hq : q = 5 ∨ q = 32) (hF : RF h)
    (k : Rn xs xl e mm_Reader_readQuarter 121 [some (.inr (.inr 2)), some (.inr (.inr q)), some (.inl v2)] [] h Q) :
    Rn xs xl e mm_Reader_readQuarter 97 [some (.inr (.inr 2)), some (.inr (.inr q)), some (.inl v2)] [] h Q := by
  refine R_goto dd_Reader_readQuarter_97 rfl ?_
  exact k
theorem B_Reader_readQuarter_105 {xs : Nat → Int} {xl e : Nat} {h : LH} {Q : Option LV → LH → Prop} {v2 : Int} {q : Int} (hq : q = 5 ∨ q = 32) (hF : RF h)
    (k : Rn xs xl e mm_Reader_readQuarter 121 [some (.inr (.inr 2)), some (.inr (.inr q)), some (.inl v2)] [] h Q) :
    Rn xs xl e mm_Reader_readQuarter 105 [some (.inr (.inr 2)), some (.inr (.inr q)), some (.inl v2)] [] h Q := by
  refine R_goto dd_Reader_readQuarter_105 rfl ?_
  exact k
theorem B_Reader_readQuarter_113 {xs : Nat → Int} {xl e : Nat} {h : LH} {Q : Option LV → LH → Prop} {v2 : Int} {q : Int} (hq : q = 5 ∨ q = 32) (hF : RF h)
    (k : Rn xs xl e mm_Reader_readQuarter 121 [some (.inr (.inr 2)), some (.inr (.inr q)), some (.inl v2)] [] h Q) :
    Rn xs xl e mm_Reader_readQuarter 113 [some (.inr (.inr 2)), some (.inr (.inr q)), some (.inl v2)] [] h Q := by
  refine R_goto dd_Reader_readQuarter_113 rfl ?_
  exact k
theorem B_Reader_readQuarter_121 {xs : Nat → Int} {xl e : Nat} {h : LH} {Q : Option LV → LH → Prop} {v2 : Int} {q : Int} (hq : q = 5 ∨ q = 32) (hF : RF h) (r_v2 : 0 ≤ v2 ∧ v2 ≤ 999)
    (k : Rn xs xl e mm_Reader_readQuarter 32 [some (.inr (.inr 2)), some (.inr (.inr q)), some (.inl (v2 + 1))] [] h Q) :
    Rn xs xl e mm_Reader_readQuarter 121 [some (.inr (.inr 2)), some (.inr (.inr q)), some (.inl v2)] [] h Q := by
  refine R_inc (y := v2 + 1) (ls' := [some (.inr (.inr 2)), some (.inr (.inr q)), some (.inl (v2 + 1))]) dd_Reader_readQuarter_121 rfl (by decide) (by omega) (by omega) rfl rfl ?_
  refine R_goto dd_Reader_readQuarter_124 rfl ?_
  exact k
theorem B_Reader_readQuarter_127 {xs : Nat → Int} {xl e : Nat} {h : LH} {Q : Option LV → LH → Prop} {v2 : Int} {q : Int} (hq : q = 5 ∨ q = 32) (hF : RF h)
    (k : Q (some (.inl (rd h 2 8))) (wr h 2 0 0)) :
    Rn xs xl e mm_Reader_readQuarter 127 [some (.inr (.inr 2)), some (.inr (.inr q)), some (.inl v2)] [] h Q := by
  refine R_ld (v := .inr (.inr 2)) dd_Reader_readQuarter_127 rfl rfl rfl rfl ?_
  refine R_ic dd_Reader_readQuarter_128 (by decide) rfl ?_
  refine R_pf (z := 0) dd_Reader_readQuarter_129 fd_7_35 io_2 fn_7_0 rfl rfl ?_
  refine R_ld (v := .inr (.inr 2)) dd_Reader_readQuarter_132 rfl rfl rfl rfl ?_
  refine R_gf (v := .inl (rd h 2 8)) dd_Reader_readQuarter_133 fd_7_61 io_2 (congrArg (fun z : Int => (Sum.inl z : LV)) (rdw_nei (by omega))) rfl ?_
  exact R_iret dd_Reader_readQuarter_136 rfl k
end
