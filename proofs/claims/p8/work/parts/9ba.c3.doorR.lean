/-! p3, part c3: a door's line, as the reference reads it -/
section CN
variable {xs : Nat → Int} {xl e : Nat} {h : LH} {Q : Option LV → LH → Prop} {T : Int → Int} {n : Int} {V : Int → Int} {m : Nat} {s : Int × Nat} {N : List Nat} {D v1 v3 v4 w2 : Int}
theorem G_drT4 (he : 2 ≤ e) (hd : 0 ≤ D ∧ D < 14) (hs : RSK T n V m h s) (hD : rd h 188 151 = D)
    (k : ∀ h', RSK T n V m h' (opN (tO T n) (tV T n 37) (tW T n 37 V) (tP T n) 6 0 9 s) → ((opN (tO T n) (tV T n 37) (tW T n 37 V) (tP T n) 6 0 9 s).1 = 0 → rd h' 188 (8 * D + 154 + 7) = opV (tV T n 37) (tW T n 37 V) 6 0 s) → rd h' 188 151 = D + 1 → rd h' 188 (8 * D + 154 + 6) = w2 → (∀ a i, ¬ muTK a i → ¬ (a = 188 ∧ (i = 151 ∨ i = 8 * D + 154 + 6 ∨ i = 8 * D + 154 + 7)) → rd h' a i = rd h a i) → Q none h') :
    Rn xs xl e mm_readDoor 268 [some (.inr (.inr 182)), some (.inl v1), some (.inl (8 * D + 154)), some (.inl v3), some (.inl v4)] [.inl w2, .inl (8 * D + 154 + 6), .inr (.inr 188)] h Q := by
  have fin : ∀ h2 r, RSK T n V m h2 (opN (tO T n) (tV T n 37) (tW T n 37 V) (tP T n) 6 0 9 s) → frT (wr h 188 (8 * D + 154 + 6) w2) h2 → ((opN (tO T n) (tV T n 37) (tW T n 37 V) (tP T n) 6 0 9 s).1 = 0 → r = opV (tV T n 37) (tW T n 37 V) 6 0 s) → Rn xs xl e mm_readDoor 297 [some (.inr (.inr 182)), some (.inl v1), some (.inl (8 * D + 154)), some (.inl v3), some (.inl v4)] [.inl r, .inl (8 * D + 154 + 7), .inr (.inr 188)] h2 Q := by
    intro h2 r c2 f2 q2
    have D2 : rd (wr h2 188 (8 * D + 154 + 7) r) 188 151 = D := by rw [rdw_nei (by omega), f2 _ _ (by unfold muTK; omega), rdw_nei (by omega), hD]
    refine B_readDoor_297 c2.1.1 ⟨by omega, by omega, ?_⟩
    rw [D2]
    refine k _ (RSK_w (RSK_w c2)) (fun z => ?_) rdw_eq ?_ (fun a i n1 n2 => ?_)
    · rw [rdw_nei (by omega), rdw_eq]; exact q2 z
    · rw [rdw_nei (by omega), rdw_nei (by omega), f2 _ _ (by unfold muTK; omega), rdw_eq]
    · rw [rd_wr, if_neg (fun z => n2 (by omega)), rd_wr, if_neg (fun z => n2 (by omega)), f2 _ _ n1, rd_wr, if_neg (fun z => n2 (by omega))]
  refine B_readDoor_268 hs.1.1 ⟨by omega, by omega, 1, by omega, G_hasWord (by omega) (RSK_w hs) (by omega) (fun h1 s1 f1 => ?_)⟩
  by_cases b : tkB (tW T n 37 V) 6 s = true
  · rw [if_pos b] at s1 ⊢
    refine B_readDoor_283 s1.1.1 ⟨fun c => absurd c (by decide), fun _ => ⟨1, by omega, G_takeNumber (by omega) s1 ⟨by unfold i32; omega, by unfold i32; omega⟩ (fun h2 r s2 f2 q2 _ => B_readDoor_293 s2.1.1 (fin h2 r ?_ (f1.trans f2) ?_))⟩⟩
    · unfold opN; rw [if_pos b]; exact s2
    · unfold opN opV; rw [if_pos b, if_pos b]; exact fun z => (q2 z).1
  · rw [if_neg b] at s1 ⊢
    refine B_readDoor_283 s1.1.1 ⟨fun _ => fin h1 0 ?_ f1 ?_, fun c => absurd rfl c⟩
    · unfold opN; rw [if_neg b]; exact s1
    · unfold opV; rw [if_neg b]; exact fun _ => rfl
theorem G_drT3 (he : 2 ≤ e) (hd : 0 ≤ D ∧ D < 14) (hs : RSK T n V m h s) (hD : rd h 188 151 = D)
    (k : ∀ h', RSK T n V m h' (opN (tO T n) (tV T n 37) (tW T n 37 V) (tP T n) 6 0 9 (opN (tO T n) (tV T n 37) (tW T n 37 V) (tP T n) 5 1 9 s)) → ((opN (tO T n) (tV T n 37) (tW T n 37 V) (tP T n) 6 0 9 (opN (tO T n) (tV T n 37) (tW T n 37 V) (tP T n) 5 1 9 s)).1 = 0 → rd h' 188 (8 * D + 154 + 6) = opV (tV T n 37) (tW T n 37 V) 5 1 s ∧ rd h' 188 (8 * D + 154 + 7) = opV (tV T n 37) (tW T n 37 V) 6 0 (opN (tO T n) (tV T n 37) (tW T n 37 V) (tP T n) 5 1 9 s)) → rd h' 188 151 = D + 1 → rd h' 188 (8 * D + 154 + 5) = w2 → (∀ a i, ¬ muTK a i → ¬ (a = 188 ∧ (i = 151 ∨ (8 * D + 154 + 5 ≤ i ∧ i ≤ 8 * D + 154 + 7))) → rd h' a i = rd h a i) → Q none h') :
    Rn xs xl e mm_readDoor 240 [some (.inr (.inr 182)), some (.inl v1), some (.inl (8 * D + 154)), some (.inl v3), some (.inl v4)] [.inl w2, .inl (8 * D + 154 + 5), .inr (.inr 188)] h Q := by
  have fin : ∀ h2 r, RSK T n V m h2 (opN (tO T n) (tV T n 37) (tW T n 37 V) (tP T n) 5 1 9 s) → frT (wr h 188 (8 * D + 154 + 5) w2) h2 → ((opN (tO T n) (tV T n 37) (tW T n 37 V) (tP T n) 5 1 9 s).1 = 0 → r = opV (tV T n 37) (tW T n 37 V) 5 1 s) → Rn xs xl e mm_readDoor 268 [some (.inr (.inr 182)), some (.inl v1), some (.inl (8 * D + 154)), some (.inl v3), some (.inl v4)] [.inl r, .inl (8 * D + 154 + 6), .inr (.inr 188)] h2 Q := by
    intro h2 r c2 f2 q2
    refine G_drT4 he hd c2 (by rw [f2 _ _ (by unfold muTK; omega), rdw_nei (by omega), hD]) (fun h3 c3 q3 d3 w3 f3 => ?_)
    refine k h3 c3 (fun z => ⟨w3.trans (q2 (opN_z z)), q3 z⟩) d3 ?_ (fun a i n1 n2 => ?_)
    · rw [f3 _ _ (by unfold muTK; omega) (by omega), f2 _ _ (by unfold muTK; omega), rdw_eq]
    · rw [f3 a i n1 (fun z => n2 (by omega)), f2 a i n1, rd_wr, if_neg (fun z => n2 (by omega))]
  refine B_readDoor_240 hs.1.1 ⟨by omega, by omega, 1, by omega, G_hasWord (by omega) (RSK_w hs) (by omega) (fun h1 s1 f1 => ?_)⟩
  by_cases b : tkB (tW T n 37 V) 5 s = true
  · rw [if_pos b] at s1 ⊢
    refine B_readDoor_254 s1.1.1 ⟨fun c => absurd c (by decide), fun _ => ⟨1, by omega, G_takeNumber (by omega) s1 ⟨by unfold i32; omega, by unfold i32; omega⟩ (fun h2 r s2 f2 q2 _ => B_readDoor_264 s2.1.1 (fin h2 r ?_ (f1.trans f2) ?_))⟩⟩
    · unfold opN; rw [if_pos b]; exact s2
    · unfold opN opV; rw [if_pos b, if_pos b]; exact fun z => (q2 z).1
  · rw [if_neg b] at s1 ⊢
    refine B_readDoor_254 s1.1.1 ⟨fun _ => fin h1 1 ?_ f1 ?_, fun c => absurd rfl c⟩
    · unfold opN; rw [if_neg b]; exact s1
    · unfold opV; rw [if_neg b]; exact fun _ => rfl
theorem G_drT2 (he : 3 ≤ e) (hd : 0 ≤ D ∧ D < 14) (hs : RSK T n V m h s) (hD : rd h 188 151 = D)
    (k : ∀ h', RSK T n V m h' (opN (tO T n) (tV T n 37) (tW T n 37 V) (tP T n) 6 0 9 (opN (tO T n) (tV T n 37) (tW T n 37 V) (tP T n) 5 1 9 (opS (tW T n 37 V) (tP T n) s))) → ((opN (tO T n) (tV T n 37) (tW T n 37 V) (tP T n) 6 0 9 (opN (tO T n) (tV T n 37) (tW T n 37 V) (tP T n) 5 1 9 (opS (tW T n 37 V) (tP T n) s))).1 = 0 → rd h' 188 (8 * D + 154 + 5) = opT (tW T n 37 V) s ∧ rd h' 188 (8 * D + 154 + 6) = opV (tV T n 37) (tW T n 37 V) 5 1 (opS (tW T n 37 V) (tP T n) s) ∧ rd h' 188 (8 * D + 154 + 7) = opV (tV T n 37) (tW T n 37 V) 6 0 (opN (tO T n) (tV T n 37) (tW T n 37 V) (tP T n) 5 1 9 (opS (tW T n 37 V) (tP T n) s))) → rd h' 188 151 = D + 1 → rd h' 188 (8 * D + 154 + 4) = w2 → (∀ a i, ¬ muTK a i → ¬ (a = 188 ∧ (i = 151 ∨ (8 * D + 154 + 4 ≤ i ∧ i ≤ 8 * D + 154 + 7))) → rd h' a i = rd h a i) → Q none h') :
    Rn xs xl e mm_readDoor 216 [some (.inr (.inr 182)), some (.inl v1), some (.inl (8 * D + 154)), some (.inl v3), some (.inl v4)] [.inl w2, .inl (8 * D + 154 + 4), .inr (.inr 188)] h Q := by
  have fin : ∀ h2 r, RSK T n V m h2 (opS (tW T n 37 V) (tP T n) s) → frT (wr h 188 (8 * D + 154 + 4) w2) h2 → ((opS (tW T n 37 V) (tP T n) s).1 = 0 → r = opT (tW T n 37 V) s) → Rn xs xl e mm_readDoor 240 [some (.inr (.inr 182)), some (.inl v1), some (.inl (8 * D + 154)), some (.inl v3), some (.inl v4)] [.inl r, .inl (8 * D + 154 + 5), .inr (.inr 188)] h2 Q := by
    intro h2 r c2 f2 q2
    refine G_drT3 (by omega) hd c2 (by rw [f2 _ _ (by unfold muTK; omega), rdw_nei (by omega), hD]) (fun h3 c3 q3 d3 w3 f3 => ?_)
    refine k h3 c3 (fun z => ⟨w3.trans (q2 (opN_z (opN_z z))), q3 z⟩) d3 ?_ (fun a i n1 n2 => ?_)
    · rw [f3 _ _ (by unfold muTK; omega) (by omega), f2 _ _ (by unfold muTK; omega), rdw_eq]
    · rw [f3 a i n1 (fun z => n2 (by omega)), f2 a i n1, rd_wr, if_neg (fun z => n2 (by omega))]
  refine B_readDoor_216 hs.1.1 ⟨by omega, by omega, 1, by omega, G_hasWord (by omega) (RSK_w hs) (by omega) (fun h1 s1 f1 => ?_)⟩
  by_cases b : tkB (tW T n 37 V) 4 s = true
  · rw [if_pos b] at s1 ⊢
    refine B_readDoor_229 s1.1.1 ⟨fun c => absurd c (by decide), fun _ => ⟨2, by omega, G_takeSort (by omega) s1 (fun h2 r s2 f2 q2 _ _ => B_readDoor_236 s2.1.1 (fin h2 r ?_ (f1.trans f2) ?_))⟩⟩
    · unfold opS; rw [if_pos b]; exact s2
    · unfold opS opT; rw [if_pos b, if_pos b]; exact q2
  · rw [if_neg b] at s1 ⊢
    refine B_readDoor_229 s1.1.1 ⟨fun _ => fin h1 (-1) ?_ f1 ?_, fun c => absurd rfl c⟩
    · unfold opS; rw [if_neg b]; exact s1
    · unfold opT; rw [if_neg b]; exact fun _ => rfl
/-- what stands in a door's places 3 .. 7 -/
def drFl (T : Int → Int) (n : Int) (V : Int → Int) (h' : LH) (D : Int) (s : Int × Nat) : Prop :=
  rd h' 188 (8 * D + 154 + 3) = opV (tV T n 37) (tW T n 37 V) 3 0 s ∧ rd h' 188 (8 * D + 154 + 4) = opC (tO T n) (tV T n 37) (tW T n 37 V) (tP T n) s ∧ rd h' 188 (8 * D + 154 + 5) = opT (tW T n 37 V) (opF (tO T n) (tV T n 37) (tW T n 37 V) (tP T n) s) ∧ rd h' 188 (8 * D + 154 + 6) = opV (tV T n 37) (tW T n 37 V) 5 1 (opS (tW T n 37 V) (tP T n) (opF (tO T n) (tV T n 37) (tW T n 37 V) (tP T n) s)) ∧ rd h' 188 (8 * D + 154 + 7) = opV (tV T n 37) (tW T n 37 V) 6 0 (opN (tO T n) (tV T n 37) (tW T n 37 V) (tP T n) 5 1 9 (opS (tW T n 37 V) (tP T n) (opF (tO T n) (tV T n 37) (tW T n 37 V) (tP T n) s)))
theorem G_drT1 (he : 4 ≤ e) (hd : 0 ≤ D ∧ D < 14) (hs : RSK T n V m h (if tkB (tW T n 37 V) 3 s = true then tkA s else s)) (hD : rd h 188 151 = D)
    (k : ∀ h', RSK T n V m h' (opL (tO T n) (tV T n 37) (tW T n 37 V) (tP T n) s) → ((opL (tO T n) (tV T n 37) (tW T n 37 V) (tP T n) s).1 = 0 → drFl T n V h' D s) → rd h' 188 151 = D + 1 → (∀ a i, ¬ muTK a i → ¬ (a = 188 ∧ (i = 151 ∨ (8 * D + 154 + 3 ≤ i ∧ i ≤ 8 * D + 154 + 7))) → rd h' a i = rd h a i) → Q none h') :
    Rn xs xl e mm_readDoor 156 [some (.inr (.inr 182)), some (.inl v1), some (.inl (8 * D + 154)), some (.inl v3), none] [.inl (if tkB (tW T n 37 V) 3 s = true then 1 else 0)] h Q := by
  have fin : ∀ h2 h1 r c, RSK T n V m h2 (opF (tO T n) (tV T n 37) (tW T n 37 V) (tP T n) s) → frT (wr h1 188 (8 * D + 154 + 3) r) h2 → frT h h1 → ((opF (tO T n) (tV T n 37) (tW T n 37 V) (tP T n) s).1 = 0 → r = opV (tV T n 37) (tW T n 37 V) 3 0 s ∧ c = opC (tO T n) (tV T n 37) (tW T n 37 V) (tP T n) s) → ∀ v4, Rn xs xl e mm_readDoor 216 [some (.inr (.inr 182)), some (.inl v1), some (.inl (8 * D + 154)), some (.inl v3), some (.inl v4)] [.inl c, .inl (8 * D + 154 + 4), .inr (.inr 188)] h2 Q := by
    intro h2 h1 r c c2 f2 f1 q2 v4
    refine G_drT2 (by omega) hd c2 (by rw [f2 _ _ (by unfold muTK; omega), rdw_nei (by omega), f1 _ _ (by unfold muTK; omega), hD]) (fun h3 c3 q3 d3 w3 f3 => ?_)
    refine k h3 c3 (fun z => ⟨?_, w3.trans (q2 (opS_z (opN_z (opN_z z)))).2, q3 z⟩) d3 (fun a i n1 n2 => ?_)
    · rw [f3 _ _ (by unfold muTK; omega) (by omega), f2 _ _ (by unfold muTK; omega), rdw_eq]
      exact (q2 (opS_z (opN_z (opN_z z)))).1
    · rw [f3 a i n1 (fun z => n2 (by omega)), f2 a i n1, rd_wr, if_neg (fun z => n2 (by omega)), f1 a i n1]
  by_cases b : tkB (tW T n 37 V) 3 s = true
  · rw [if_pos b] at hs ⊢
    refine B_readDoor_156 hs.1.1 ⟨by omega, fun c => absurd c (by decide), fun _ => ⟨1, by omega, G_takeNumber (by omega) hs ⟨by unfold i32; omega, by unfold i32; omega⟩ (fun h1 r s1 f1 q1 r1 => B_readDoor_177 s1.1.1 ?_)⟩⟩
    have rin : 0 ≤ r ∧ r ≤ 23 := by
      by_cases z : (tkN (tO T n) (tV T n 37) (tP T n) 0 23 (tkA s)).1 = 0
      · exact (q1 z).2
      · rw [r1 z]; decide
    have er : rd (wr h1 188 (8 * D + 154 + 3) r) 188 (8 * D + 154 + 3) = r := rdw_eq
    refine B_readDoor_181 s1.1.1 ⟨by omega, by omega, fun c => absurd c (by decide), fun _ => ⟨by omega, by omega, by rw [er]; omega, 3, by omega, ?_⟩⟩
    rw [er]
    refine G_takeAfter (by omega) (RSK_w s1) (by omega) ⟨by unfold i32; omega, by unfold i32; omega⟩ (fun h2 c s2 f2 q2 _ => B_readDoor_211 s2.1.1 (fin h2 h1 r c ?_ f2 f1 ?_ _))
    · by_cases z : (tkN (tO T n) (tV T n 37) (tP T n) 0 23 (tkA s)).1 = 0
      · unfold opF opE; rw [if_pos b, if_pos b, ← (q1 z).1]; exact s2
      · unfold opF opE; rw [if_pos b, if_pos b]; rw [tkW_f z, tkN_f z] at s2 ⊢; exact s2
    · intro z
      have b' : opF (tO T n) (tV T n 37) (tW T n 37 V) (tP T n) s = tkN (tO T n) (tV T n 37) (tP T n) (tV T n 37 (tkA s).2 + 1) 24 (tkW (tW T n 37 V) (tP T n) 2 (tkN (tO T n) (tV T n 37) (tP T n) 0 23 (tkA s))) := by
        unfold opF opE; rw [if_pos b, if_pos b]
      rw [b'] at z
      have z1 := tkW_z (tkN_z z)
      have e1 := (q1 z1).1
      rw [← e1] at z
      refine ⟨?_, ?_⟩
      · unfold opV; rw [if_pos b]; exact e1
      · unfold opC opE; rw [if_pos b, if_pos b]; exact (q2 z).1
  · rw [if_neg b] at hs ⊢
    refine B_readDoor_156 hs.1.1 ⟨by omega, fun _ => ?_, fun c => absurd rfl c⟩
    refine B_readDoor_181 hs.1.1 ⟨by omega, by omega, fun _ => fin _ h 0 24 ?_ frT.refl frT.refl (fun _ => ⟨?_, ?_⟩) _, fun c => absurd rfl c⟩
    · unfold opF; rw [if_neg b]; exact RSK_w hs
    · unfold opV; rw [if_neg b]
    · unfold opC; rw [if_neg b]
end CN
