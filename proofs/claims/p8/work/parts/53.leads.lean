/-! LM, part 53: what a door answers -/
theorem bit0 (d : Int) : zand (zshr 0 d) 1 = 0 := by
  unfold zand zshr
  rw [show Int32.ofInt 0 = 0 from rfl, Int32.zero_shiftRight]
  rw [show (0 : Int32).toInt = 0 from rfl, show Int32.ofInt 0 = 0 from rfl, Int32.zero_and]
  rfl
theorem leads_det (K : KEY) {d s room hr : Int} (sh tu : Int) (hd : 0 ≤ d ∧ d ≤ 13) (hs : 0 ≤ s ∧ s ≤ 3) (hro : 0 ≤ room ∧ room ≤ 9) (hhr : 0 ≤ hr ∧ hr ≤ 25) : ∃ r, LDP K d s room hr sh tu r := by
  by_cases hex : ∃ h, INV h ∧ key h = K
  case neg => exact ⟨-1, by omega, fun q => by omega, fun q => by omega, fun xs xl e h Q he hI hk k => absurd ⟨h, hI, hk⟩ hex⟩
  obtain ⟨h0, hI0, hk0⟩ := hex
  have ek : ∀ (h : LH), key h = K → ∀ i, rd h 188 i = K.1 i := fun h hk i => by rw [← hk]; rfl
  have k5 : 0 ≤ K.1 (8 * d + 5) ∧ K.1 (8 * d + 5) ≤ 9 := by rw [← ek h0 hk0]; exact rq_d1 hI0.1 (d := d) (by omega) (by omega) (by omega)
  have k6 : 0 ≤ K.1 (8 * d + 6) ∧ K.1 (8 * d + 6) ≤ 9 := by rw [← ek h0 hk0]; exact rq_d2 hI0.1 (d := d) (by omega) (by omega) (by omega)
  -- whether it leads back
  obtain ⟨w, w01, wb, hA⟩ : ∃ w : Int, (w = 0 ∨ w = 1) ∧ (tu = 0 → (w = 1 ↔ K.1 (8 * d + 4) = 1 ∧ 12 ≤ hr)) ∧ ∀ (xs : Nat → Int) (xl e : Nat) (h : LH) (Q : Option LV → LH → Prop), 1 ≤ e → INV h → key h = K → Rn xs xl e mm_leadsTo 55 [some (.inr (.inr 182)), some (.inl d), some (.inl s), some (.inl room), some (.inl hr), some (.inl sh), some (.inl tu), none, none, none, none, none] [.inl w] h Q → Rn xs xl e mm_leadsTo 0 [some (.inr (.inr 182)), some (.inl d), some (.inl s), some (.inl room), some (.inl hr), some (.inl sh), some (.inl tu), none, none, none, none, none] [] h Q := by
    have b0 := bit0 d
    by_cases c1 : K.1 (8 * d + 4) = 1 <;> by_cases c2 : 12 ≤ hr <;> by_cases c3 : zand (zshr tu d) 1 = 1
    · refine ⟨0, Or.inl rfl, fun q => ?_, fun xs xl e h Q he hI hk k => ?_⟩
      · rw [q] at c3; omega
      have e4 := ek h hk (8 * d + 4)
      refine B_leadsTo_0 (RF_of hI.1) he ?_
      (repeat' (first | apply And.intro | intro _)) <;> (first | exact k | omega | (exfalso; omega))
    · refine ⟨1, Or.inr rfl, fun q => by omega, fun xs xl e h Q he hI hk k => ?_⟩
      have e4 := ek h hk (8 * d + 4)
      refine B_leadsTo_0 (RF_of hI.1) he ?_
      (repeat' (first | apply And.intro | intro _)) <;> (first | exact k | omega | (exfalso; omega))
    · refine ⟨1, Or.inr rfl, fun q => ?_, fun xs xl e h Q he hI hk k => ?_⟩
      · rw [q] at c3; omega
      have e4 := ek h hk (8 * d + 4)
      refine B_leadsTo_0 (RF_of hI.1) he ?_
      (repeat' (first | apply And.intro | intro _)) <;> (first | exact k | omega | (exfalso; omega))
    · refine ⟨0, Or.inl rfl, fun q => by omega, fun xs xl e h Q he hI hk k => ?_⟩
      have e4 := ek h hk (8 * d + 4)
      refine B_leadsTo_0 (RF_of hI.1) he ?_
      (repeat' (first | apply And.intro | intro _)) <;> (first | exact k | omega | (exfalso; omega))
    · refine ⟨1, Or.inr rfl, fun q => ?_, fun xs xl e h Q he hI hk k => ?_⟩
      · rw [q] at c3; omega
      have e4 := ek h hk (8 * d + 4)
      refine B_leadsTo_0 (RF_of hI.1) he ?_
      (repeat' (first | apply And.intro | intro _)) <;> (first | exact k | omega | (exfalso; omega))
    · refine ⟨0, Or.inl rfl, fun q => by omega, fun xs xl e h Q he hI hk k => ?_⟩
      have e4 := ek h hk (8 * d + 4)
      refine B_leadsTo_0 (RF_of hI.1) he ?_
      (repeat' (first | apply And.intro | intro _)) <;> (first | exact k | omega | (exfalso; omega))
    · refine ⟨1, Or.inr rfl, fun q => ?_, fun xs xl e h Q he hI hk k => ?_⟩
      · rw [q] at c3; omega
      have e4 := ek h hk (8 * d + 4)
      refine B_leadsTo_0 (RF_of hI.1) he ?_
      (repeat' (first | apply And.intro | intro _)) <;> (first | exact k | omega | (exfalso; omega))
    · refine ⟨0, Or.inl rfl, fun q => by omega, fun xs xl e h Q he hI hk k => ?_⟩
      have e4 := ek h hk (8 * d + 4)
      refine B_leadsTo_0 (RF_of hI.1) he ?_
      (repeat' (first | apply And.intro | intro _)) <;> (first | exact k | omega | (exfalso; omega))
  -- into which room
  obtain ⟨v8, v9, it, i1, i2, i3, hB⟩ : ∃ v8 v9 it : Int, (-1 ≤ it ∧ it ≤ 9) ∧ (0 ≤ it → it = K.1 (8 * d + 5) + K.1 (8 * d + 6) - room ∧ (room = K.1 (8 * d + 5) ∨ room = K.1 (8 * d + 6))) ∧ (0 ≤ it → s ≠ 3 → (w = 1 → room = K.1 (8 * d + 6)) ∧ (w = 0 → room = K.1 (8 * d + 5))) ∧ ∀ (xs : Nat → Int) (xl e : Nat) (h : LH) (Q : Option LV → LH → Prop), 1 ≤ e → INV h → key h = K → Rn xs xl e mm_leadsTo 119 [some (.inr (.inr 182)), some (.inl d), some (.inl s), some (.inl room), some (.inl hr), some (.inl sh), some (.inl tu), some (.inl w), some (.inl v8), some (.inl v9), none, none] [.inl it] h Q → Rn xs xl e mm_leadsTo 55 [some (.inr (.inr 182)), some (.inl d), some (.inl s), some (.inl room), some (.inl hr), some (.inl sh), some (.inl tu), none, none, none, none, none] [.inl w] h Q := by
    rcases w01 with rfl | rfl
    · by_cases c1 : room = K.1 (8 * d + 5)
      · refine ⟨K.1 (8 * d + 5), K.1 (8 * d + 6), K.1 (8 * d + 6), by omega, fun _ => by omega, fun _ _ => by omega, fun xs xl e h Q he hI hk k => ?_⟩
        have e5 := ek h hk (8 * d + 5)
        have e6 := ek h hk (8 * d + 6)
        rw [← e5, ← e6] at k
        refine B_leadsTo_55 (RF_of hI.1) he ?_
        (repeat' (first | apply And.intro | intro _)) <;> (first | exact k | omega | (exfalso; omega))
      · by_cases c2 : s = 3 ∧ room = K.1 (8 * d + 6)
        · refine ⟨K.1 (8 * d + 5), K.1 (8 * d + 6), K.1 (8 * d + 5), by omega, fun _ => by omega, fun _ _ => by omega, fun xs xl e h Q he hI hk k => ?_⟩
          have e5 := ek h hk (8 * d + 5)
          have e6 := ek h hk (8 * d + 6)
          rw [← e5, ← e6] at k
          refine B_leadsTo_55 (RF_of hI.1) he ?_
          (repeat' (first | apply And.intro | intro _)) <;> (first | exact k | omega | (exfalso; omega))
        · refine ⟨K.1 (8 * d + 5), K.1 (8 * d + 6), -1, by omega, fun _ => by omega, fun _ _ => by omega, fun xs xl e h Q he hI hk k => ?_⟩
          have e5 := ek h hk (8 * d + 5)
          have e6 := ek h hk (8 * d + 6)
          rw [← e5, ← e6] at k
          refine B_leadsTo_55 (RF_of hI.1) he ?_
          (repeat' (first | apply And.intro | intro _)) <;> (first | exact k | omega | (exfalso; omega))
    · by_cases c1 : room = K.1 (8 * d + 6)
      · refine ⟨K.1 (8 * d + 6), K.1 (8 * d + 5), K.1 (8 * d + 5), by omega, fun _ => by omega, fun _ _ => by omega, fun xs xl e h Q he hI hk k => ?_⟩
        have e5 := ek h hk (8 * d + 5)
        have e6 := ek h hk (8 * d + 6)
        rw [← e5, ← e6] at k
        refine B_leadsTo_55 (RF_of hI.1) he ?_
        (repeat' (first | apply And.intro | intro _)) <;> (first | exact k | omega | (exfalso; omega))
      · by_cases c2 : s = 3 ∧ room = K.1 (8 * d + 5)
        · refine ⟨K.1 (8 * d + 6), K.1 (8 * d + 5), K.1 (8 * d + 6), by omega, fun _ => by omega, fun _ _ => by omega, fun xs xl e h Q he hI hk k => ?_⟩
          have e5 := ek h hk (8 * d + 5)
          have e6 := ek h hk (8 * d + 6)
          rw [← e5, ← e6] at k
          refine B_leadsTo_55 (RF_of hI.1) he ?_
          (repeat' (first | apply And.intro | intro _)) <;> (first | exact k | omega | (exfalso; omega))
        · refine ⟨K.1 (8 * d + 6), K.1 (8 * d + 5), -1, by omega, fun _ => by omega, fun _ _ => by omega, fun xs xl e h Q he hI hk k => ?_⟩
          have e5 := ek h hk (8 * d + 5)
          have e6 := ek h hk (8 * d + 6)
          rw [← e5, ← e6] at k
          refine B_leadsTo_55 (RF_of hI.1) he ?_
          (repeat' (first | apply And.intro | intro _)) <;> (first | exact k | omega | (exfalso; omega))
  -- whether it lets one by
  obtain ⟨l, l01, l2, hC⟩ : ∃ l : Int, (l = 0 ∨ l = 1) ∧ (l = 1 → 0 ≤ it) ∧ ∀ (xs : Nat → Int) (xl e : Nat) (h : LH) (Q : Option LV → LH → Prop), 1 ≤ e → INV h → key h = K → Rn xs xl e mm_leadsTo 196 [some (.inr (.inr 182)), some (.inl d), some (.inl s), some (.inl room), some (.inl hr), some (.inl sh), some (.inl tu), some (.inl w), some (.inl v8), some (.inl v9), some (.inl it), none] [.inl l] h Q → Rn xs xl e mm_leadsTo 119 [some (.inr (.inr 182)), some (.inl d), some (.inl s), some (.inl room), some (.inl hr), some (.inl sh), some (.inl tu), some (.inl w), some (.inl v8), some (.inl v9), none, none] [.inl it] h Q := by
    by_cases c : 0 ≤ it ∧ K.1 (8 * d + 7) ≤ hr ∧ hr < K.1 (8 * d + 8) ∧ K.1 (8 * d + 4) ≠ 3 ∧ zand (zshr sh d) 1 ≠ 1 ∧ (K.1 (8 * d + 9) < 0 ∨ K.1 (8 * d + 9) = s ∨ s = 3)
    · refine ⟨1, Or.inr rfl, fun _ => c.1, fun xs xl e h Q he hI hk k => ?_⟩
      have e4 := ek h hk (8 * d + 4)
      have e7 := ek h hk (8 * d + 7)
      have e8 := ek h hk (8 * d + 8)
      have e9 := ek h hk (8 * d + 9)
      refine B_leadsTo_119 (RF_of hI.1) he ?_
      (repeat' (first | apply And.intro | intro _)) <;> (first | exact k | omega | (exfalso; omega))
    · refine ⟨0, Or.inl rfl, fun q => by omega, fun xs xl e h Q he hI hk k => ?_⟩
      have e4 := ek h hk (8 * d + 4)
      have e7 := ek h hk (8 * d + 7)
      have e8 := ek h hk (8 * d + 8)
      have e9 := ek h hk (8 * d + 9)
      refine B_leadsTo_119 (RF_of hI.1) he ?_
      (repeat' (first | apply And.intro | intro _)) <;> (first | exact k | omega | (exfalso; omega))
  have str2 : ∀ r : Int, r = it → (0 ≤ r → s ≠ 3 → tu = 0 → (K.1 (8 * d + 4) = 1 ∧ 12 ≤ hr → room = K.1 (8 * d + 6)) ∧ (¬ (K.1 (8 * d + 4) = 1 ∧ 12 ≤ hr) → room = K.1 (8 * d + 5))) := by
    intro r hr' r0 s3 t0
    subst hr'
    have z := wb t0
    have y := i3 r0 s3
    refine ⟨fun q => y.1 (z.mpr q), fun q => y.2 ?_⟩
    rcases w01 with x | x
    · exact x
    · exact absurd (z.mp x) q
  rcases l01 with rfl | rfl
  · refine ⟨-1, by omega, fun q => by omega, fun q => by omega, fun xs xl e h Q he hI hk k => ?_⟩
    exact hA xs xl e h Q (by omega) hI hk (hB xs xl e h Q (by omega) hI hk (hC xs xl e h Q (by omega) hI hk (B_leadsTo_196_0 (RF_of hI.1) (k h hI (fun _ _ _ _ => rfl)))))
  · have it0 := l2 rfl
    -- the price
    obtain ⟨p, p1, hD⟩ : ∃ p : Int, (0 ≤ p ∧ p ≤ 9) ∧ ∀ (xs : Nat → Int) (xl e : Nat) (h : LH) (Q : Option LV → LH → Prop), 2 ≤ e → INV h → key h = K → ((K.1 3 < 0 → Q (some (.inl it)) (wr (wr (wr (wr h 196 0 hr) 196 1 s) 196 2 p) 196 3 it)) ∧ (0 ≤ K.1 3 → ∃ c, c < e ∧ Rn xs xl c mm_worthAt 0 [some (.inr (.inr 182)), some (.inl 0), none, none, none] [] (wr (wr (wr (wr h 196 0 hr) 196 1 s) 196 2 p) 196 3 it) (fun r h' => Rn xs xl e mm_leadsTo 258 [some (.inr (.inr 182)), some (.inl d), some (.inl s), some (.inl room), some (.inl hr), some (.inl sh), some (.inl tu), some (.inl w), some (.inl v8), some (.inl v9), some (.inl it), some (.inl 1)] (r.toList ++ []) h' Q))) → Rn xs xl e mm_leadsTo 196 [some (.inr (.inr 182)), some (.inl d), some (.inl s), some (.inl room), some (.inl hr), some (.inl sh), some (.inl tu), some (.inl w), some (.inl v8), some (.inl v9), some (.inl it), none] [.inl 1] h Q := by
      have ko : rd h0 182 28 = K.2.2.2.1 ∧ rd h0 182 29 = K.2.2.2.2.1 ∧ rd h0 182 30 = K.2.2.2.2.2.1 ∧ rd h0 182 31 = K.2.2.2.2.2.2 := by rw [← hk0]; exact ⟨rfl, rfl, rfl, rfl⟩
      have r1 := rF_priceOne hI0.1
      have r2 := rF_priceOther hI0.1
      have r3 := rq_d7 hI0.1 (i := 8 * d + 11) (d := d) (by omega) (by omega) (by omega)
      rw [ek h0 hk0] at r3
      have kk : ∀ h, key h = K → rd h 182 28 = K.2.2.2.1 ∧ rd h 182 29 = K.2.2.2.2.1 ∧ rd h 182 30 = K.2.2.2.2.2.1 ∧ rd h 182 31 = K.2.2.2.2.2.2 := fun h hk => by rw [← hk]; exact ⟨rfl, rfl, rfl, rfl⟩
      have z3 : ∀ h, INV h → key h = K → 0 ≤ K.1 3 → rd h 188 3 = 0 := fun h hI hk q => by have := rq_let hI.1; have := ek h hk 3; omega
      by_cases c1 : d = K.2.2.2.1
      · refine ⟨K.2.2.2.2.2.1, by omega, fun xs xl e h Q he hI hk k => ?_⟩
        obtain ⟨x1, x2, x3, x4⟩ := kk h hk
        have e3 := ek h hk 3
        rw [← x3] at k
        refine B_leadsTo_196_1 (RF_of hI.1) he ⟨fun q => absurd (c1.trans x1.symm) q, fun _ => ⟨fun q => k.1 (by rw [← e3]; exact q), fun q => ?_⟩⟩
        rw [z3 h hI hk (by rw [← e3]; exact q)]
        exact k.2 (by rw [← e3]; exact q)
      · by_cases c2 : d = K.2.2.2.2.1
        · refine ⟨K.2.2.2.2.2.2, by omega, fun xs xl e h Q he hI hk k => ?_⟩
          obtain ⟨x1, x2, x3, x4⟩ := kk h hk
          have e3 := ek h hk 3
          rw [← x4] at k
          refine B_leadsTo_196_1 (RF_of hI.1) he ⟨fun _ => ⟨fun q => absurd (c2.trans x2.symm) q, fun _ => ⟨fun q => k.1 (by rw [← e3]; exact q), fun q => ?_⟩⟩, fun q => absurd (q.trans x1) c1⟩
          rw [z3 h hI hk (by rw [← e3]; exact q)]
          exact k.2 (by rw [← e3]; exact q)
        · refine ⟨K.1 (8 * d + 11), by omega, fun xs xl e h Q he hI hk k => ?_⟩
          obtain ⟨x1, x2, x3, x4⟩ := kk h hk
          have e3 := ek h hk 3
          rw [← ek h hk (8 * d + 11)] at k
          have y1 : -2147483648 ≤ 8 * d ∧ 8 * d ≤ 2147483647 := by clear k; omega
          have y2 : -2147483648 ≤ 8 * d + 4 ∧ 8 * d + 4 ≤ 2147483647 := by clear k; omega
          have y3 : -2147483648 ≤ 8 * d + 11 ∧ 8 * d + 11 ≤ 2147483647 := by clear k; omega
          have y4 : 0 ≤ 8 * d + 11 ∧ 8 * d + 11 < 300 := by clear k; omega
          refine B_leadsTo_196_1 (RF_of hI.1) he ⟨fun _ => ⟨fun _ => ⟨y1, y2, y3, y4, fun q => k.1 (by rw [← e3]; exact q), fun q => ?_⟩, fun q => absurd (q.trans x2) c2⟩, fun q => absurd (q.trans x1) c1⟩
          rw [z3 h hI hk (by rw [← e3]; exact q)]
          exact k.2 (by rw [← e3]; exact q)
    have hfI : ∀ h, INV h → INV (wr (wr (wr (wr h 196 0 hr) 196 1 s) 196 2 p) 196 3 it) := fun h hI => wA_facts (wA_facts (wA_facts (wA_facts hI (by omega) (by omega) (by omega)) (by omega) (by omega) (by omega)) (by omega) (by omega) (by omega)) (by omega) (by omega) (by omega)
    have hff : ∀ h, frL h (wr (wr (wr (wr h 196 0 hr) 196 1 s) 196 2 p) 196 3 it) := fun h a i n1 n2 => by rw [rdw_ne (fun q => n1 q.symm), rdw_ne (fun q => n1 q.symm), rdw_ne (fun q => n1 q.symm), rdw_ne (fun q => n1 q.symm)]
    have run : ∀ (r : Int), LDP K d s room hr sh tu r → True := fun _ _ => trivial
    by_cases cl : K.1 3 < 0
    · refine ⟨it, i1, i2, str2 it rfl, fun xs xl e h Q he hI hk k => ?_⟩
      exact hA xs xl e h Q (by omega) hI hk (hB xs xl e h Q (by omega) hI hk (hC xs xl e h Q (by omega) hI hk (hD xs xl e h Q (by omega) hI hk ⟨fun _ => k _ (hfI h hI) (hff h), fun q => by omega⟩)))
    · have lo : lawOk K.2.1 K.2.2.1 := by
        have q := hI0.2.2.1 (by have := rq_let hI0.1; have := ek h0 hk0 3; omega)
        have e1 : rd h0 189 = K.2.1 := by rw [← hk0]; rfl
        have e2 : rd h0 190 = K.2.2.1 := by rw [← hk0]; rfl
        rw [e1, e2] at q
        exact q
      obtain ⟨v, hv⟩ := law_det (fc := fun j => if j = 0 then hr else if j = 1 then s else if j = 2 then p else it) (fun j _ _ => by
        show i32 (if j = 0 then hr else if j = 1 then s else if j = 2 then p else it)
        unfold i32
        split
        · omega
        · split
          · omega
          · split <;> omega) lo
      have go : ∀ (xs : Nat → Int) (xl e : Nat) (h : LH) (Q : Option LV → LH → Prop), 3 ≤ e → INV h → key h = K → (∀ h', INV h' → frL h h' → Q (some (.inl (if v = 0 then -1 else it))) h') → Rn xs xl e mm_leadsTo 0 [some (.inr (.inr 182)), some (.inl d), some (.inl s), some (.inl room), some (.inl hr), some (.inl sh), some (.inl tu), none, none, none, none, none] [] h Q := by
        intro xs xl e h Q he hI hk k
        refine hA xs xl e h Q (by omega) hI hk (hB xs xl e h Q (by omega) hI hk (hC xs xl e h Q (by omega) hI hk (hD xs xl e h Q (by omega) hI hk ⟨fun q => absurd q cl, fun q => ⟨1, by omega, hv xs xl 1 _ _ (by omega) ⟨hfI h hI, ?_, ?_, fun j j0 j1 => ?_, fun _ _ _ => rfl⟩ (fun h' hI' hf' => ?_)⟩⟩)))
        · have e1 : rd h 189 = K.2.1 := by rw [← hk]; rfl
          rw [← e1]
          exact funext (fun j => hff h 189 j (by decide) (by decide))
        · have e1 : rd h 190 = K.2.2.1 := by rw [← hk]; rfl
          rw [← e1]
          exact funext (fun j => hff h 190 j (by decide) (by decide))
        · show _ = (if j = 0 then hr else if j = 1 then s else if j = 2 then p else it)
          rcases (show j = 0 ∨ j = 1 ∨ j = 2 ∨ j = 3 by omega) with rfl | rfl | rfl | rfl
          · rw [rdw_nei (by decide), rdw_nei (by decide), rdw_nei (by decide), rdw_eq, if_pos rfl]
          · rw [rdw_nei (by decide), rdw_nei (by decide), rdw_eq]
            rfl
          · rw [rdw_nei (by decide), rdw_eq]
            rfl
          · rw [rdw_eq]
            rfl
        · have fr : frL h h' := fun a i n1 n2 => (hf' a i n2).trans (hff h a i n1 n2)
          have kq := k h' hI' fr
          refine B_leadsTo_258 (RF_of hI'.1) ⟨fun q => ?_, fun q => ?_⟩
          · rw [if_pos q] at kq
            exact kq
          · rw [if_neg q] at kq
            exact kq
      by_cases cv : v = 0
      · rw [if_pos cv] at go
        exact ⟨-1, by omega, fun q => by omega, fun q => by omega, go⟩
      · rw [if_neg cv] at go
        exact ⟨it, i1, i2, str2 it rfl, go⟩
/-- what leadsTo answers -/
noncomputable def LF (K : KEY) (d s room hr sh tu : Int) : Int := Classical.epsilon (fun r => LDP K d s room hr sh tu r)
theorem LF_ok (K : KEY) {d s room hr : Int} (sh tu : Int) (hd : 0 ≤ d ∧ d ≤ 13) (hs : 0 ≤ s ∧ s ≤ 3) (hro : 0 ≤ room ∧ room ≤ 9) (hhr : 0 ≤ hr ∧ hr ≤ 25) : LDP K d s room hr sh tu (LF K d s room hr sh tu) := Classical.epsilon_spec (leads_det K sh tu hd hs hro hhr)
