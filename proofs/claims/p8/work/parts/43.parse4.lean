/-! LM, part 43: the reference's reader: lines of a quarter -/
/-- the quarter that is being read, as long as there is no fault -/
def LN (h : LH) : Prop := (rd h 188 153 = -1 ∧ rd h 182 13 = 0) ∨ (rd h 188 153 = 0 ∧ ∃ n, n + 1 = rd h 182 13 ∧ SegH h 0 n ∧ opR h n = 0)
def NQ (h : LH) : Prop := rd h 182 8 = 0 → 1 ≤ rd h 188 150 ∧ rd h 182 19 = rd h 188 151 + rd h 188 152 ∧ (∀ d, 0 ≤ d → d < rd h 188 151 → rd h 188 (155 + 8 * d) < rd h 188 150 ∧ rd h 188 (156 + 8 * d) < rd h 188 150) ∧ (∀ p, 0 ≤ p → p < rd h 188 152 → rd h 188 (267 + 4 * p) < rd h 188 150) ∧ LN h
def muA (a i : Int) : Prop := (a = 182 ∧ (i = 7 ∨ i = 8 ∨ i = 13 ∨ i = 19)) ∨ a = 192 ∨ a = 194 ∨ (a = 188 ∧ 150 ≤ i) ∨ (a = 189 ∧ 1100 ≤ i) ∨ (a = 190 ∧ 1100 ≤ i)
def PL (h h' : LH) : Prop := PB h' ∧ (rd h' 182 8 = 0 → rd h 182 8 = 0 ∧ rd h 182 7 < rd h' 182 7) ∧ NQ h' ∧ ∀ a i, ¬ muA a i → rd h' a i = rd h a i
theorem LN_same {h h' : LH} (e3 : rd h' 188 153 = rd h 188 153) (e13 : rd h' 182 13 = rd h 182 13) (e1 : ∀ i, rd h' 189 i = rd h 189 i) (e2 : ∀ i, rd h' 190 i = rd h 190 i) (hl : LN h) : LN h' := by
  rcases hl with ⟨q1, q2⟩ | ⟨q1, n, n1, n2, n3⟩
  · exact Or.inl ⟨e3.trans q1, e13.trans q2⟩
  · exact Or.inr ⟨e3.trans q1, n, n1.trans e13.symm, seg_same n2 (fun k _ _ => ⟨e1 _, e2 _⟩), (e1 _).trans n3⟩
theorem NQ_T {h h' : LH} (p : PG muT h h') (hq : NQ h) : NQ h' := by
  intro z
  obtain ⟨q1, q2, q3, q4, q5⟩ := hq (p.2.2.1 z)
  have e : ∀ i, rd h' 188 i = rd h 188 i := fun i => p.2.2.2 _ _ (by unfold muT; omega)
  have e19 : rd h' 182 19 = rd h 182 19 := p.2.2.2 _ _ (by unfold muT; omega)
  have e13 : rd h' 182 13 = rd h 182 13 := p.2.2.2 _ _ (by unfold muT; omega)
  refine ⟨by rw [e]; exact q1, by rw [e19, e, e]; exact q2, fun d d0 d1 => ?_, fun d d0 d1 => ?_, LN_same (e _) e13 (fun i => p.2.2.2 _ _ (by unfold muT; omega)) (fun i => p.2.2.2 _ _ (by unfold muT; omega)) q5⟩
  · rw [e] at d1
    rw [e, e, e]
    exact q3 d d0 d1
  · rw [e] at d1
    rw [e, e]
    exact q4 d d0 d1
theorem NQ_bad {h : LH} (q : rd h 182 8 ≠ 0) : NQ h := fun z => absurd z q
theorem PL_bad {h h' : LH} (p : PG muT h h') (q : rd h' 182 8 ≠ 0) : PL h h' := ⟨p.1, fun z => absurd z q, NQ_bad q, fun a i hn => p.2.2.2 a i (fun z => hn (by unfold muT at z; unfold muA; omega))⟩
-- a door
def DC (b1 b2 : Bool) (h0 : LH) (n : Int) (h : LH) : Prop := PG (muQ (154 + 8 * n) (162 + 8 * n)) h0 h ∧ rd h0 182 7 < rd h 182 7 ∧ (rd h 182 8 = 0 → rd h 182 19 = rd h0 182 19 + 1 ∧ (b1 = true → rd h 188 (155 + 8 * n) < rd h0 188 150) ∧ (b2 = true → rd h 188 (156 + 8 * n) < rd h0 188 150))
section DCs
variable {b1 b2 : Bool} {h0 h h' : LH} {n : Int}
theorem DC.pt (hd : DC b1 b2 h0 n h) (p : PG muT h h') : DC b1 b2 h0 n h' := by
  refine ⟨hd.1.trans (p.mono (fun x i q => muN_Q x i (muT_N x i q))), Int.lt_of_lt_of_le hd.2.1 p.2.1, fun z => ?_⟩
  have q := hd.2.2 (p.2.2.1 z)
  rw [p.2.2.2 182 19 (by unfold muT; omega), p.2.2.2 188 _ (by unfold muT; omega), p.2.2.2 188 _ (by unfold muT; omega)]
  exact q
theorem DC.wx {i v : Int} (hd : DC b1 b2 h0 n h) (hI : INV (wr h 188 i v)) (i0 : 154 + 8 * n ≤ i) (i1 : i < 162 + 8 * n) (n1 : i ≠ 155 + 8 * n) (n2 : i ≠ 156 + 8 * n) : DC b1 b2 h0 n (wr h 188 i v) := by
  refine ⟨hd.1.trans (PG_q hd.1.1 hI i0 i1), ?_, fun z => ?_⟩
  · rw [rdw_ne (by decide)]
    exact hd.2.1
  · rw [rdw_ne (by decide)] at z
    rw [rdw_ne (by decide), rdw_nei n1, rdw_nei n2]
    exact hd.2.2 z
theorem DC.w1 {v : Int} (hd : DC false b2 h0 n h) (hI : INV (wr h 188 (155 + 8 * n) v)) (hv : rd h 182 8 = 0 → v < rd h0 188 150) : DC true b2 h0 n (wr h 188 (155 + 8 * n) v) := by
  refine ⟨hd.1.trans (PG_q hd.1.1 hI (by omega) (by omega)), ?_, fun z => ?_⟩
  · rw [rdw_ne (by decide)]
    exact hd.2.1
  · rw [rdw_ne (by decide)] at z
    rw [rdw_ne (by decide), rdw_eq, rdw_nei (by omega)]
    have := hd.2.2 z
    exact ⟨this.1, fun _ => hv z, this.2.2⟩
theorem DC.w2 {v : Int} (hd : DC b1 false h0 n h) (hI : INV (wr h 188 (156 + 8 * n) v)) (hv : rd h 182 8 = 0 → v < rd h0 188 150) : DC b1 true h0 n (wr h 188 (156 + 8 * n) v) := by
  refine ⟨hd.1.trans (PG_q hd.1.1 hI (by omega) (by omega)), ?_, fun z => ?_⟩
  · rw [rdw_ne (by decide)]
    exact hd.2.1
  · rw [rdw_ne (by decide)] at z
    rw [rdw_ne (by decide), rdw_eq, rdw_nei (by omega)]
    have := hd.2.2 z
    exact ⟨this.1, this.2.1, fun _ => hv z⟩
theorem DC.rooms (hd : DC b1 b2 h0 n h) (hn : 0 ≤ n) : rd h 188 150 = rd h0 188 150 ∧ rd h 188 151 = rd h0 188 151 := ⟨hd.1.2.2.2 _ _ (by unfold muQ; omega), hd.1.2.2.2 _ _ (by unfold muQ; omega)⟩
theorem PL_DC (hd : DC b1 b2 h0 n h) (hn : 0 ≤ n) (q : rd h 182 8 ≠ 0) : PL h0 h := ⟨hd.1.1, fun z => absurd z q, NQ_bad q, fun a i hm => hd.1.2.2.2 a i (fun z => hm (by unfold muQ at z; unfold muA; omega))⟩
/-- the door is one more -/
theorem PL_door (hq : NQ h0) (hd : DC true true h0 n h) (en : rd h0 188 151 = n) (hn : 0 ≤ n) (h13 : n ≤ 13) : PL h0 (wr h 188 151 (rd h 188 151 + 1)) := by
  obtain ⟨r0, r1⟩ := hd.rooms hn
  have hI : INV (wr h 188 151 (rd h 188 151 + 1)) := wq_doors hd.1.inv (by omega) (by omega)
  have x7 : rd (wr h 188 151 (rd h 188 151 + 1)) 182 7 = rd h 182 7 := rdw_ne (by decide)
  have x8 : rd (wr h 188 151 (rd h 188 151 + 1)) 182 8 = rd h 182 8 := rdw_ne (by decide)
  have x13 : rd (wr h 188 151 (rd h 188 151 + 1)) 182 13 = rd h 182 13 := rdw_ne (by decide)
  have hf := hd.1.2.2.2
  refine ⟨⟨hI, trivial⟩, fun z => ⟨hd.1.2.2.1 (by rw [← x8]; exact z), by rw [x7]; exact hd.2.1⟩, fun z => ?_, fun a i hm => ?_⟩
  · rw [x8] at z
    obtain ⟨q1, q2, q3, q4, q5⟩ := hq (hd.1.2.2.1 z)
    obtain ⟨d1, d2, d3⟩ := hd.2.2 z
    have y : ∀ i, i ≠ 151 → rd (wr h 188 151 (rd h 188 151 + 1)) 188 i = rd h 188 i := fun i hi => rdw_nei (fun q => hi q.symm)
    have y1 : rd (wr h 188 151 (rd h 188 151 + 1)) 188 151 = rd h 188 151 + 1 := rdw_eq
    have y19 : rd (wr h 188 151 (rd h 188 151 + 1)) 182 19 = rd h 182 19 := rdw_ne (by decide)
    have p2 : rd h 188 152 = rd h0 188 152 := hf _ _ (by unfold muQ; omega)
    refine ⟨by rw [y 150 (by decide), r0]; exact q1, ?_, fun d dd0 dd1 => ?_, fun p p0 p1 => ?_, ?_⟩
    · rw [y19, y1, y 152 (by decide), r1, p2]
      omega
    · rw [y1] at dd1
      rw [y (155 + 8 * d) (by omega), y (156 + 8 * d) (by omega), y 150 (by decide), r0]
      by_cases hdn : d = n
      · subst hdn
        exact ⟨d2 rfl, d3 rfl⟩
      · rw [hf 188 (155 + 8 * d) (by unfold muQ; omega), hf 188 (156 + 8 * d) (by unfold muQ; omega)]
        exact q3 d dd0 (by omega)
    · rw [y 152 (by decide), p2] at p1
      rw [y (267 + 4 * p) (by omega), y 150 (by decide), r0, hf 188 (267 + 4 * p) (by unfold muQ; omega)]
      exact q4 p p0 p1
    · refine LN_same ?_ ?_ (fun i => ?_) (fun i => ?_) q5
      · rw [y 153 (by decide)]
        exact hf _ _ (by unfold muQ; omega)
      · rw [x13]
        exact hf _ _ (by unfold muQ; omega)
      · exact (rdw_ne (by decide)).trans (hf _ _ (by unfold muQ; omega))
      · exact (rdw_ne (by decide)).trans (hf _ _ (by unfold muQ; omega))
  · rw [rd_wr, if_neg]
    · exact hf a i (fun z => hm (by unfold muQ at z; unfold muA; omega))
    · rintro ⟨rfl, rfl⟩
      exact hm (by unfold muA; omega)
end DCs
section C4
variable {xs : Nat → Int} {xl e : Nat} {h : LH} {Q : Option LV → LH → Prop} {v1 v2 v3 : Int}
theorem D_readDoor (he : 4 ≤ e) (hp : PB h) (hq : NQ h) (h9 : rd h 182 7 ≤ 999) (f0 : rd h 182 8 = 0) (k : ∀ h', PL h h' → Q none h') : Rn xs xl e mm_readDoor 0 [some (.inr (.inr 182)), none, none, none, none] [] h Q := by
  have hF := RF_of hp.1.1
  have n0 := rw_doors hp.1.1
  have r0 := rw_rooms hp.1.1
  obtain ⟨q1, q2, q3, q4, q5⟩ := hq f0
  have pe := rw_people hp.1.1
  refine B_readDoor_0 hF ⟨fun c => ⟨3, by omega, D_readName (by omega) hp h9 (by omega) (fun _ => by omega) (fun h1 p1 lt1 m1 => ?_)⟩, fun c => ⟨0, by omega, D_wrong hp (by omega) (fun h' p1 p2 _ => B_readDoor_20 p1.rf (k h' (PL_bad p1 p2)))⟩⟩
  generalize hn : rd h 188 151 = n at *
  have d1 : DC false false h n h1 := ⟨p1.mono muN_Q, lt1, fun z => ⟨m1 z, fun q => absurd q (by decide), fun q => absurd q (by decide)⟩⟩
  refine B_readDoor_26 p1.rf ⟨by omega, by omega, by omega, 2, by omega, D_takeRoom (by omega) p1.1 (fun r h2 p2 a2 b2 => ?_)⟩
  have d2 := d1.pt p2
  have i3 : INV (wr h2 188 (155 + 8 * n) r) := wq_d1 p2.inv n rfl (by omega) (by omega) (by omega) (by omega)
  have d3 := d2.w1 i3 (fun z => by have := a2 z; have := d1.rooms (by omega); omega)
  rw [show (8 * n + 155 : Int) = 155 + 8 * n by omega, show (8 * n + 154 : Int) = 154 + 8 * n by omega]
  refine B_readDoor_46 p2.rf ⟨by omega, 2, by omega, D_takeWord (by omega) d3.1.1 (by omega) (fun h4 p4 => ?_)⟩
  have d4 := d3.pt p4
  refine B_readDoor_52 p4.rf ⟨by omega, 2, by omega, D_takeRoom (by omega) p4.1 (fun s h5 p5 a5 b5 => ?_)⟩
  have d5 := d4.pt p5
  rw [show (154 + 8 * n + 2 : Int) = 156 + 8 * n by omega]
  have i6 : INV (wr h5 188 (156 + 8 * n) s) := wq_d2 p5.inv n rfl (by omega) (by omega) (by omega) (by omega)
  have d6 := d5.w2 i6 (fun z => by have := a5 z; have := d4.rooms (by omega); omega)
  -- from the kind on
  have t133 : ∀ (h7 : LH) (w : Int), DC true true h n h7 → rd h7 182 8 ≠ 0 → Rn xs xl e mm_readDoor 133 [some (.inr (.inr 182)), some (.inl n), some (.inl (154 + 8 * n)), some (.inl w), none] [] h7 Q := fun h7 w d7 z => B_readDoor_133 d7.1.rf (k h7 (PL_DC d7 (by omega) z))
  have t105 : ∀ h7, DC true true h n h7 → Rn xs xl e mm_readDoor 105 [some (.inr (.inr 182)), some (.inl n), some (.inl (154 + 8 * n)), none, none] [] h7 Q := by
    intro h7 d7
    have bad : ∀ w : Int, w < 0 → Rn xs xl e mm_readDoor 123 [some (.inr (.inr 182)), some (.inl n), some (.inl (154 + 8 * n)), none, none] [.inl w] h7 Q := by
      intro w hw
      refine B_readDoor_123 d7.1.rf ⟨fun c => by omega, fun _ => ⟨0, by omega, D_wrong d7.1.1 (by omega) (fun h8 p8 z8 _ => ?_)⟩⟩
      exact t133 h8 w (d7.pt p8) z8
    refine B_readDoor_105 d7.1.rf ⟨fun _ => ⟨1, by omega, C_wordHere (by omega) d7.1.inv (by omega) (fun w w1 w2 w3 => ?_)⟩, fun _ => bad _ (by omega)⟩
    by_cases hw : w < 0
    · exact bad w hw
    have l9 := wd_lt d7.1.inv (w3 (by omega))
    have p8 := PG_at d7.1.1 (v := rd h7 182 7 + 1) (by omega) (by omega)
    have d8 := d7.pt p8
    have d9 := d8.wx (wq_d0 p8.inv (i := 154 + 8 * n) (v := w) n rfl (by omega) (by omega) (by omega) (by omega)) (by omega) (by omega) (by omega) (by omega)
    refine B_readDoor_123 d7.1.rf ⟨fun _ => ⟨by omega, by omega, 1, by omega, D_hasWord (by omega) d9.1.1 (by omega) (fun o h10 p10 ho => ?_)⟩, fun c => absurd c hw⟩
    have d10 := d9.pt p10
    -- the last parts
    have t297 : ∀ (h11 : LH) (v : Int), DC true true h n h11 → 0 ≤ v → v ≤ 9 → Rn xs xl e mm_readDoor 297 [some (.inr (.inr 182)), some (.inl n), some (.inl (154 + 8 * n)), some (.inl w), some (.inl o)] [.inl v, .inl (154 + 8 * n + 7), .inr (.inr 188)] h11 Q := by
      intro h11 v d11 v0 v1
      have d12 := d11.wx (wq_d7 d11.1.inv (i := 154 + 8 * n + 7) (v := v) n (by omega) (by omega) (by omega) v0 v1) (by omega) (by omega) (by omega) (by omega)
      have rr := d12.rooms (by omega)
      exact B_readDoor_297 d11.1.rf ⟨by omega, by omega, k _ (PL_door hq d12 hn (by omega) (by omega))⟩
    have t268 : ∀ (h11 : LH) (v : Int), DC true true h n h11 → 0 ≤ v → v ≤ 9 → Rn xs xl e mm_readDoor 268 [some (.inr (.inr 182)), some (.inl n), some (.inl (154 + 8 * n)), some (.inl w), some (.inl o)] [.inl v, .inl (154 + 8 * n + 6), .inr (.inr 188)] h11 Q := by
      intro h11 v d11 v0 v1
      have d12 := d11.wx (wq_d6 d11.1.inv (i := 154 + 8 * n + 6) (v := v) n (by omega) (by omega) (by omega) v0 v1) (by omega) (by omega) (by omega) (by omega)
      refine B_readDoor_268 d11.1.rf ⟨by omega, by omega, 1, by omega, D_hasWord (by omega) d12.1.1 (by omega) (fun o2 h13 p13 ho2 => ?_)⟩
      have d13 := d12.pt p13
      refine B_readDoor_283 p13.rf ⟨fun _ => t297 h13 0 d13 (by omega) (by omega), fun _ => ⟨1, by omega, D_takeNumber (by omega) p13.1 (by unfold i32; omega) (by unfold i32; omega) (fun r h14 p14 a14 b14 => ?_)⟩⟩
      have rb : 0 ≤ r ∧ r ≤ 9 := by
        by_cases z : rd h14 182 8 = 0
        · have := a14 z; omega
        · have := b14 z; omega
      exact B_readDoor_293 p14.rf (t297 h14 r (d13.pt p14) rb.1 rb.2)
    have t240 : ∀ (h11 : LH) (v : Int), DC true true h n h11 → -1 ≤ v → v ≤ 3 → Rn xs xl e mm_readDoor 240 [some (.inr (.inr 182)), some (.inl n), some (.inl (154 + 8 * n)), some (.inl w), some (.inl o)] [.inl v, .inl (154 + 8 * n + 5), .inr (.inr 188)] h11 Q := by
      intro h11 v d11 v0 v1
      have d12 := d11.wx (wq_d5 d11.1.inv (i := 154 + 8 * n + 5) (v := v) n (by omega) (by omega) (by omega) v0 v1) (by omega) (by omega) (by omega) (by omega)
      refine B_readDoor_240 d11.1.rf ⟨by omega, by omega, 1, by omega, D_hasWord (by omega) d12.1.1 (by omega) (fun o2 h13 p13 ho2 => ?_)⟩
      have d13 := d12.pt p13
      refine B_readDoor_254 p13.rf ⟨fun _ => t268 h13 1 d13 (by omega) (by omega), fun _ => ⟨1, by omega, D_takeNumber (by omega) p13.1 (by unfold i32; omega) (by unfold i32; omega) (fun r h14 p14 a14 b14 => ?_)⟩⟩
      have rb : 0 ≤ r ∧ r ≤ 9 := by
        by_cases z : rd h14 182 8 = 0
        · have := a14 z; omega
        · have := b14 z; omega
      exact B_readDoor_264 p14.rf (t268 h14 r (d13.pt p14) rb.1 rb.2)
    have t216 : ∀ (h11 : LH) (v : Int), DC true true h n h11 → 0 ≤ v → v ≤ 24 → Rn xs xl e mm_readDoor 216 [some (.inr (.inr 182)), some (.inl n), some (.inl (154 + 8 * n)), some (.inl w), some (.inl o)] [.inl v, .inl (154 + 8 * n + 4), .inr (.inr 188)] h11 Q := by
      intro h11 v d11 v0 v1
      have d12 := d11.wx (wq_d4 d11.1.inv (i := 154 + 8 * n + 4) (v := v) n (by omega) (by omega) (by omega) v0 v1) (by omega) (by omega) (by omega) (by omega)
      refine B_readDoor_216 d11.1.rf ⟨by omega, by omega, 1, by omega, D_hasWord (by omega) d12.1.1 (by omega) (fun o2 h13 p13 ho2 => ?_)⟩
      have d13 := d12.pt p13
      refine B_readDoor_229 p13.rf ⟨fun _ => t240 h13 (-1) d13 (by omega) (by omega), fun _ => ⟨2, by omega, D_takeSort (by omega) p13.1 (fun r h14 p14 a14 => ?_)⟩⟩
      exact B_readDoor_236 p14.rf (t240 h14 r (d13.pt p14) (by omega) (by omega))
    have t181 : ∀ (h11 : LH) (v : Int), DC true true h n h11 → 0 ≤ v → v ≤ 23 → Rn xs xl e mm_readDoor 181 [some (.inr (.inr 182)), some (.inl n), some (.inl (154 + 8 * n)), some (.inl w), some (.inl o)] [.inl v, .inl (154 + 8 * n + 3), .inr (.inr 188)] h11 Q := by
      intro h11 v d11 v0 v1
      have d12 := d11.wx (wq_d3 d11.1.inv (i := 154 + 8 * n + 3) (v := v) n (by omega) (by omega) (by omega) v0 v1) (by omega) (by omega) (by omega) (by omega)
      have ev : rd (wr h11 188 (154 + 8 * n + 3) v) 188 (154 + 8 * n + 3) = v := rdw_eq
      refine B_readDoor_181 d11.1.rf ⟨by omega, by omega, fun _ => t216 _ 24 d12 (by omega) (by omega), fun _ => ⟨by omega, by omega, by omega, 3, by omega, D_takeAfter (by omega) d12.1.1 (by omega) (by unfold i32; omega) (by unfold i32; omega) (fun r h13 p13 a13 b13 => ?_)⟩⟩
      have rb : 0 ≤ r ∧ r ≤ 24 := by
        by_cases z : rd h13 182 8 = 0
        · have := a13 z; omega
        · have := b13 z; omega
      exact B_readDoor_211 p13.rf (t216 h13 r (d12.pt p13) rb.1 rb.2)
    refine B_readDoor_156 p10.rf ⟨by omega, fun _ => t181 h10 0 d10 (by omega) (by omega), fun _ => ⟨1, by omega, D_takeNumber (by omega) p10.1 (by unfold i32; omega) (by unfold i32; omega) (fun r h11 p11 a11 b11 => ?_)⟩⟩
    have rb : 0 ≤ r ∧ r ≤ 23 := by
      by_cases z : rd h11 182 8 = 0
      · have := a11 z; omega
      · have := b11 z; omega
    exact B_readDoor_177 p11.rf (t181 h11 r (d10.pt p11) rb.1 rb.2)
  refine B_readDoor_63 p5.rf ⟨by omega, fun _ => t105 _ d6, fun z => ⟨by omega, by omega, by omega, by omega, fun _ => t105 _ d6, fun _ => ?_⟩⟩
  have b7 := a5 z
  have l4 := d4.2.1
  have at5 := rF_at p5.inv.1
  have at0 := rF_at hp.1.1
  have y7 : rd (wr (wr h5 188 (156 + 8 * n) s) 182 7 (rd h5 182 7 - 1)) 182 7 = rd h5 182 7 - 1 := rdw_eq
  have y13 : rd (wr (wr h5 188 (156 + 8 * n) s) 182 7 (rd h5 182 7 - 1)) 182 13 = rd h4 182 13 := (rdw_nei (by decide)).trans ((rdw_ne (by decide)).trans (p5.2.2.2 _ _ (by unfold muT; omega)))
  have hpb : PB (wr (wr h5 188 (156 + 8 * n) s) 182 7 (rd h5 182 7 - 1)) := ⟨wF_at i6 (by omega) (by omega), trivial⟩
  refine ⟨by omega, 0, by omega, D_wrong hpb (by omega) (fun h8 p8 z8 e8 => ?_)⟩
  refine t105 h8 ⟨⟨p8.1, by omega, fun q => absurd q z8, fun a i hn => ?_⟩, by omega, fun q => absurd q z8⟩
  rw [p8.2.2.2 a i (fun q => hn (by unfold muT at q; unfold muQ; omega)), rd_wr, if_neg]
  · exact d6.1.2.2.2 a i hn
  · rintro ⟨rfl, rfl⟩
    exact hn (by unfold muQ; omega)
end C4
