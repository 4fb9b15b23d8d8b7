/-! LM, part 85, by program (wip/p2/accc.py): more rows; the class's places -/
section RW3
variable {xs : Nat → Int} {xl d : Nat} {M : LM_M} {pc p' : Nat} {ls : LL} {st : List LV} {h : LH} {Q : Option LV → LH → Prop}
theorem R_minv {x : Nat} {a b : Int} (hd : decode M.2.1 pc = .ok (.invokestatic x, 3)) (hn : noM M.2.2.2.2.1 x = true) (hq : ((PTC M.2.2.2.2.1).find? (fun q => q.1 == x)).map (fun q => q.2.1) = some 4) (hc : lcat st ≤ 8) (hp : pc + 3 = p') (k : ∀ m, m ≤ a ∧ m ≤ b ∧ (m = a ∨ m = b) → Rn xs xl d M p' ls (.inl m :: st) h Q) : Rn xs xl d M pc ls (.inl b :: .inl a :: st) h Q := by
  refine R_min hd hn hq hc hp (k _ ?_)
  split <;> omega
theorem R_bast {a i z : Int} {n : Nat} (hd : decode M.2.1 pc = .ok (.bastore, 1)) (ha : isA NC a 3 = true) (hl : (lay a.toNat).2.2 = n) (hi : 0 ≤ i ∧ i < (n : Int)) (hz : -128 ≤ z ∧ z ≤ 127) (hp : pc + 1 = p') (k : Rn xs xl d M p' ls st (wr h a i z) Q) : Rn xs xl d M pc ls (.inl z :: .inl i :: .inr (.inr a) :: st) h Q := by
  refine R_P hd rfl rfl ?_ hp k
  simp only [lmP]
  rw [ha, inA_k hl hi, decide_eq_true hz]
  simp
theorem R_sld {i : Int} (hd : decode M.2.1 pc = .ok (.iaload, 1)) (hi : 0 ≤ i ∧ i < (xl : Int)) (hp : pc + 1 = p') (k : Rn xs xl d M p' ls (.inl (xs i.toNat) :: st) h Q) : Rn xs xl d M pc ls (.inl i :: .inr (.inr (-2)) :: st) h Q := by
  refine R_G hd rfl rfl ?_ hp k
  simp only [lmG]
  rw [if_pos trivial, if_pos hi]
theorem R_slen (hd : decode M.2.1 pc = .ok (.arraylength, 1)) (hp : pc + 1 = p') (k : Rn xs xl d M p' ls (.inl (xl : Int) :: st) h Q) : Rn xs xl d M pc ls (.inr (.inr (-2)) :: st) h Q := by
  refine R_G hd rfl rfl ?_ hp k
  simp only [lmG]
  rw [if_pos trivial]
theorem R_alen {a : Int} {n : Nat} (hd : decode M.2.1 pc = .ok (.arraylength, 1)) (ha : isA NC a 1 = true) (hl : (lay a.toNat).2.2 = n) (hp : pc + 1 = p') (k : Rn xs xl d M p' ls (.inl (n : Int) :: st) h Q) : Rn xs xl d M pc ls (.inr (.inr a) :: st) h Q := by
  have h1 := (isA_of ha).1
  refine R_G hd rfl rfl ?_ hp k
  simp only [lmG]
  rw [if_neg (by omega), if_pos ha, hl]
end RW3
theorem i2b_in (a : Int) : -128 ≤ (Int32.ofInt a).toInt8.toInt32.toInt ∧ (Int32.ofInt a).toInt8.toInt32.toInt ≤ 127 := by
  rw [Int8.toInt_toInt32]
  have h1 := Int8.le_toInt (Int32.ofInt a).toInt8
  have h2 := Int8.toInt_lt (Int32.ofInt a).toInt8
  omega
theorem io_q {q : Int} (hq : q = 5 ∨ q = 32) : isO NC q 6 = true := by
  rcases hq with rfl | rfl <;> decide +kernel
theorem ia_dq {q : Int} (hq : q = 5 ∨ q = 32) : isA NC (q + 1) 5 = true := by
  rcases hq with rfl | rfl <;> decide +kernel
theorem la_dq {q : Int} (hq : q = 5 ∨ q = 32) : (lay (q + 1).toNat).2.2 = 14 := by
  rcases hq with rfl | rfl <;> decide +kernel
theorem rq_arr {h : LH} {q : Int} (hF : RF h) (hq : q = 5 ∨ q = 32) : rd h q ((1 : Nat) : Int) = q + 1 := by
  rcases hq with rfl | rfl
  · exact hF 5 1 6 (by decide +kernel) (by decide +kernel)
  · exact hF 32 1 33 (by decide +kernel) (by decide +kernel)
theorem io_drs : ∀ k : Nat, k < 14 → isO NC (12 + (k : Int)) 1 = true ∧ isO NC (39 + (k : Int)) 1 = true := by decide +kernel
theorem dr_in {h : LH} {q i : Int} (hR : RNG h) (hq : q = 5 ∨ q = 32) (hi : 0 ≤ i ∧ i < 14) : q + 7 ≤ rd h (q + 1) i ∧ rd h (q + 1) i ≤ q + 20 := by
  have e : hval h (q + 1) i = .inr (.inr (rd h (q + 1) i)) := by
    unfold hval
    rcases hq with rfl | rfl <;> rw [lkd_5 (by decide +kernel)] <;> rfl
  have e2 : hav (q + 1) i = (2, q + 7, q + 20, 1) := by
    unfold hav
    rcases hq with rfl | rfl
    · rw [show RGL[((5 : Int) + 1).toNat]? = some [(2, 12, 25, 1)] by decide +kernel]
      simp only [List.length_singleton, Nat.mod_one]
      rfl
    · rw [show RGL[((32 : Int) + 1).toNat]? = some [(2, 39, 52, 1)] by decide +kernel]
      simp only [List.length_singleton, Nat.mod_one]
      rfl
  have g := hR (q + 1) i (vldA (ia_dq hq) (la_dq hq) hi)
  rw [e, e2] at g
  exact ⟨g.2.1, g.2.2.1⟩
theorem io_dr {h : LH} {q i : Int} (hR : RNG h) (hq : q = 5 ∨ q = 32) (hi : 0 ≤ i ∧ i < 14) : isO NC (rd h (q + 1) i) 1 = true := by
  have g := dr_in hR hq hi
  generalize rd h (q + 1) i = x at g
  have k := io_drs (x - (q + 7)).toNat (by omega)
  rcases hq with rfl | rfl
  · have := k.1
    rw [show (12 : Int) + ((x - (5 + 7)).toNat : Int) = x by omega] at this
    exact this
  · have := k.2
    rw [show (39 : Int) + ((x - (32 + 7)).toNat : Int) = x by omega] at this
    exact this
theorem vld_dr {x : Int} {j : Nat} (ho : isO NC x 1 = true) (hj : j < 9) : valid x j := by
  obtain ⟨a, b, c, d⟩ := isO_of ho
  refine ⟨a, b, by omega, ?_⟩
  have e := lay_obj c
  rw [d] at e
  have e2 : (zcl[1]?).map (fun q => q.2.2) = some 9 := by decide +kernel
  have e3 : 9 = (lay x.toNat).2.2 := Option.some.inj (e2.symm.trans e)
  omega
theorem hd_firsts : ∀ k : Nat, k < 14 → hav (12 + (k : Int)) 2 = (0, 0, 9, 1) ∧ hav (39 + (k : Int)) 2 = (0, 0, 9, 1) := by decide +kernel
theorem rd_first {h : LH} {q i : Int} (hR : RNG h) (hq : q = 5 ∨ q = 32) (hi : 0 ≤ i ∧ i < 14) : 0 ≤ rd h (rd h (q + 1) i) 2 ∧ rd h (rd h (q + 1) i) 2 ≤ 9 := by
  have o := io_dr hR hq hi
  have g := dr_in hR hq hi
  generalize rd h (q + 1) i = x at o g
  have k := hd_firsts (x - (q + 7)).toNat (by omega)
  have e : hav x 2 = (0, 0, 9, 1) := by
    rcases hq with rfl | rfl
    · have := k.1
      rw [show (12 : Int) + ((x - (5 + 7)).toNat : Int) = x by omega] at this
      exact this
    · have := k.2
      rw [show (39 : Int) + ((x - (32 + 7)).toNat : Int) = x by omega] at this
      exact this
  have p := rdP (a := x) (i := 2) (lo := 0) (hi := 9) (st := 1) hR (vld_dr (j := 2) o (by decide)) (Or.inl (by rw [show (2 : Int) = ((2 : Nat) : Int) from rfl, lkd_o (isO_of o).2.2.1 (isO_of o).2.2.2]; decide +kernel)) (fun v hv => by rw [e] at hv; exact hv)
  exact ⟨p.1, p.2.1⟩
theorem hd_seconds : ∀ k : Nat, k < 14 → hav (12 + (k : Int)) 3 = (0, 0, 9, 1) ∧ hav (39 + (k : Int)) 3 = (0, 0, 9, 1) := by decide +kernel
theorem rd_second {h : LH} {q i : Int} (hR : RNG h) (hq : q = 5 ∨ q = 32) (hi : 0 ≤ i ∧ i < 14) : 0 ≤ rd h (rd h (q + 1) i) 3 ∧ rd h (rd h (q + 1) i) 3 ≤ 9 := by
  have o := io_dr hR hq hi
  have g := dr_in hR hq hi
  generalize rd h (q + 1) i = x at o g
  have k := hd_seconds (x - (q + 7)).toNat (by omega)
  have e : hav x 3 = (0, 0, 9, 1) := by
    rcases hq with rfl | rfl
    · have := k.1
      rw [show (12 : Int) + ((x - (5 + 7)).toNat : Int) = x by omega] at this
      exact this
    · have := k.2
      rw [show (39 : Int) + ((x - (32 + 7)).toNat : Int) = x by omega] at this
      exact this
  have p := rdP (a := x) (i := 3) (lo := 0) (hi := 9) (st := 1) hR (vld_dr (j := 3) o (by decide)) (Or.inl (by rw [show (3 : Int) = ((3 : Nat) : Int) from rfl, lkd_o (isO_of o).2.2.1 (isO_of o).2.2.2]; decide +kernel)) (fun v hv => by rw [e] at hv; exact hv)
  exact ⟨p.1, p.2.1⟩
theorem hd_holdss : ∀ k : Nat, k < 14 → hav (12 + (k : Int)) 7 = (0, 0, 9, 1) ∧ hav (39 + (k : Int)) 7 = (0, 0, 9, 1) := by decide +kernel
theorem rd_holds {h : LH} {q i : Int} (hR : RNG h) (hq : q = 5 ∨ q = 32) (hi : 0 ≤ i ∧ i < 14) : 0 ≤ rd h (rd h (q + 1) i) 7 ∧ rd h (rd h (q + 1) i) 7 ≤ 9 := by
  have o := io_dr hR hq hi
  have g := dr_in hR hq hi
  generalize rd h (q + 1) i = x at o g
  have k := hd_holdss (x - (q + 7)).toNat (by omega)
  have e : hav x 7 = (0, 0, 9, 1) := by
    rcases hq with rfl | rfl
    · have := k.1
      rw [show (12 : Int) + ((x - (5 + 7)).toNat : Int) = x by omega] at this
      exact this
    · have := k.2
      rw [show (39 : Int) + ((x - (32 + 7)).toNat : Int) = x by omega] at this
      exact this
  have p := rdP (a := x) (i := 7) (lo := 0) (hi := 9) (st := 1) hR (vld_dr (j := 7) o (by decide)) (Or.inl (by rw [show (7 : Int) = ((7 : Nat) : Int) from rfl, lkd_o (isO_of o).2.2.1 (isO_of o).2.2.2]; decide +kernel)) (fun v hv => by rw [e] at hv; exact hv)
  exact ⟨p.1, p.2.1⟩
theorem rq_dc {h : LH} {q : Int} (hR : RNG h) (hq : q = 5 ∨ q = 32) : 0 ≤ rd h q 2 ∧ rd h q 2 ≤ 14 := by
  rcases hq with rfl | rfl
  · have p := rdP (a := 5) (i := 2) (lo := 0) (hi := 14) (st := 1) hR (vB_ok (by decide +kernel)) (Or.inl (by decide +kernel)) (leA1 (by decide +kernel))
    exact ⟨p.1, p.2.1⟩
  · have p := rdP (a := 32) (i := 2) (lo := 0) (hi := 14) (st := 1) hR (vB_ok (by decide +kernel)) (Or.inl (by decide +kernel)) (leA1 (by decide +kernel))
    exact ⟨p.1, p.2.1⟩
theorem rG_84_5 {h : LH} (hr : RNG h) : 0 ≤ rd h 84 5 ∧ rd h 84 5 ≤ 250 := by
  have q := rdP (a := 84) (i := 5) (lo := 0) (hi := 250) (st := 1) hr (vB_ok (by decide +kernel)) (Or.inl (by decide +kernel)) (leA1 (by decide +kernel))
  exact ⟨q.1, q.2.1⟩
theorem wG_84_5 {h : LH} (hh : INV h) {v : Int} (h0 : 0 ≤ v) (h1 : v ≤ 250) : INV (wr h 84 5 v) := wrP hh (by unfold sens; omega) (Or.inl (by decide +kernel)) (leA1 (by decide +kernel)) h0 h1 ⟨by omega, by omega⟩
theorem rG_84_6 {h : LH} (hr : RNG h) : 0 ≤ rd h 84 6 ∧ rd h 84 6 ≤ 24 := by
  have q := rdP (a := 84) (i := 6) (lo := 0) (hi := 24) (st := 1) hr (vB_ok (by decide +kernel)) (Or.inl (by decide +kernel)) (leA1 (by decide +kernel))
  exact ⟨q.1, q.2.1⟩
theorem wG_84_6 {h : LH} (hh : INV h) {v : Int} (h0 : 0 ≤ v) (h1 : v ≤ 24) : INV (wr h 84 6 v) := wrP hh (by unfold sens; omega) (Or.inl (by decide +kernel)) (leA1 (by decide +kernel)) h0 h1 ⟨by omega, by omega⟩
theorem rG_84_7 {h : LH} (hr : RNG h) : 0 ≤ rd h 84 7 ∧ rd h 84 7 ≤ 24 := by
  have q := rdP (a := 84) (i := 7) (lo := 0) (hi := 24) (st := 1) hr (vB_ok (by decide +kernel)) (Or.inl (by decide +kernel)) (leA1 (by decide +kernel))
  exact ⟨q.1, q.2.1⟩
theorem wG_84_7 {h : LH} (hh : INV h) {v : Int} (h0 : 0 ≤ v) (h1 : v ≤ 24) : INV (wr h 84 7 v) := wrP hh (by unfold sens; omega) (Or.inl (by decide +kernel)) (leA1 (by decide +kernel)) h0 h1 ⟨by omega, by omega⟩
theorem rG_60_0 {h : LH} (hr : RNG h) : 0 ≤ rd h 60 0 ∧ rd h 60 0 ≤ 24 := by
  have q := rdP (a := 60) (i := 0) (lo := 0) (hi := 24) (st := 1) hr (vB_ok (by decide +kernel)) (Or.inl (by decide +kernel)) (leA1 (by decide +kernel))
  exact ⟨q.1, q.2.1⟩
theorem wG_60_0 {h : LH} (hh : INV h) {v : Int} (h0 : 0 ≤ v) (h1 : v ≤ 24) : INV (wr h 60 0 v) := wrP hh (by unfold sens; omega) (Or.inl (by decide +kernel)) (leA1 (by decide +kernel)) h0 h1 ⟨by omega, by omega⟩
theorem rG_60_1 {h : LH} (hr : RNG h) : -2147483648 ≤ rd h 60 1 ∧ rd h 60 1 ≤ 2147483647 := by
  have q := rdP (a := 60) (i := 1) (lo := -2147483648) (hi := 2147483647) (st := 1) hr (vB_ok (by decide +kernel)) (Or.inl (by decide +kernel)) (leA1 (by decide +kernel))
  exact ⟨q.1, q.2.1⟩
theorem wG_60_1 {h : LH} (hh : INV h) {v : Int} (h0 : -2147483648 ≤ v) (h1 : v ≤ 2147483647) : INV (wr h 60 1 v) := wrP hh (by unfold sens; omega) (Or.inl (by decide +kernel)) (leA1 (by decide +kernel)) h0 h1 ⟨by omega, by omega⟩
theorem rG_2_0 {h : LH} (hr : RNG h) : 0 ≤ rd h 2 0 ∧ rd h 2 0 ≤ 1000 := by
  have q := rdP (a := 2) (i := 0) (lo := 0) (hi := 1000) (st := 1) hr (vB_ok (by decide +kernel)) (Or.inl (by decide +kernel)) (leA1 (by decide +kernel))
  exact ⟨q.1, q.2.1⟩
theorem wG_2_0 {h : LH} (hh : INV h) {v : Int} (h0 : 0 ≤ v) (h1 : v ≤ 1000) : INV (wr h 2 0 v) := wrP hh (by unfold sens; omega) (Or.inl (by decide +kernel)) (leA1 (by decide +kernel)) h0 h1 ⟨by omega, by omega⟩
theorem rG_2_3 {h : LH} (hr : RNG h) : 0 ≤ rd h 2 3 ∧ rd h 2 3 ≤ 4 := by
  have q := rdP (a := 2) (i := 3) (lo := 0) (hi := 4) (st := 1) hr (vB_ok (by decide +kernel)) (Or.inl (by decide +kernel)) (leA1 (by decide +kernel))
  exact ⟨q.1, q.2.1⟩
theorem wG_2_3 {h : LH} (hh : INV h) {v : Int} (h0 : 0 ≤ v) (h1 : v ≤ 4) : INV (wr h 2 3 v) := wrP hh (by unfold sens; omega) (Or.inl (by decide +kernel)) (leA1 (by decide +kernel)) h0 h1 ⟨by omega, by omega⟩
theorem rG_2_4 {h : LH} (hr : RNG h) : 0 ≤ rd h 2 4 ∧ rd h 2 4 ≤ 1000 := by
  have q := rdP (a := 2) (i := 4) (lo := 0) (hi := 1000) (st := 1) hr (vB_ok (by decide +kernel)) (Or.inl (by decide +kernel)) (leA1 (by decide +kernel))
  exact ⟨q.1, q.2.1⟩
theorem wG_2_4 {h : LH} (hh : INV h) {v : Int} (h0 : 0 ≤ v) (h1 : v ≤ 1000) : INV (wr h 2 4 v) := wrP hh (by unfold sens; omega) (Or.inl (by decide +kernel)) (leA1 (by decide +kernel)) h0 h1 ⟨by omega, by omega⟩
theorem rG_2_7 {h : LH} (hr : RNG h) : -1 ≤ rd h 2 7 ∧ rd h 2 7 ≤ 28 := by
  have q := rdP (a := 2) (i := 7) (lo := -1) (hi := 28) (st := 1) hr (vB_ok (by decide +kernel)) (Or.inl (by decide +kernel)) (leA1 (by decide +kernel))
  exact ⟨q.1, q.2.1⟩
theorem wG_2_7 {h : LH} (hh : INV h) {v : Int} (h0 : -1 ≤ v) (h1 : v ≤ 28) : INV (wr h 2 7 v) := wrP hh (by unfold sens; omega) (Or.inl (by decide +kernel)) (leA1 (by decide +kernel)) h0 h1 ⟨by omega, by omega⟩
theorem rG_2_8 {h : LH} (hr : RNG h) : 0 ≤ rd h 2 8 ∧ rd h 2 8 ≤ 16005 := by
  have q := rdP (a := 2) (i := 8) (lo := 0) (hi := 16005) (st := 1) hr (vB_ok (by decide +kernel)) (Or.inl (by decide +kernel)) (leA1 (by decide +kernel))
  exact ⟨q.1, q.2.1⟩
theorem wG_2_8 {h : LH} (hh : INV h) {v : Int} (h0 : 0 ≤ v) (h1 : v ≤ 16005) : INV (wr h 2 8 v) := wrP hh (by unfold sens; omega) (Or.inl (by decide +kernel)) (leA1 (by decide +kernel)) h0 h1 ⟨by omega, by omega⟩
theorem rG_59_1 {h : LH} (hr : RNG h) : 0 ≤ rd h 59 1 ∧ rd h 59 1 ≤ 24 := by
  have q := rdP (a := 59) (i := 1) (lo := 0) (hi := 24) (st := 1) hr (vB_ok (by decide +kernel)) (Or.inl (by decide +kernel)) (leA1 (by decide +kernel))
  exact ⟨q.1, q.2.1⟩
theorem wG_59_1 {h : LH} (hh : INV h) {v : Int} (h0 : 0 ≤ v) (h1 : v ≤ 24) : INV (wr h 59 1 v) := wrP hh (by unfold sens; omega) (Or.inl (by decide +kernel)) (leA1 (by decide +kernel)) h0 h1 ⟨by omega, by omega⟩
theorem rG_67_1 {h : LH} (hr : RNG h) : 0 ≤ rd h 67 1 ∧ rd h 67 1 ≤ 24 := by
  have q := rdP (a := 67) (i := 1) (lo := 0) (hi := 24) (st := 1) hr (vB_ok (by decide +kernel)) (Or.inl (by decide +kernel)) (leA1 (by decide +kernel))
  exact ⟨q.1, q.2.1⟩
theorem wG_67_1 {h : LH} (hh : INV h) {v : Int} (h0 : 0 ≤ v) (h1 : v ≤ 24) : INV (wr h 67 1 v) := wrP hh (by unfold sens; omega) (Or.inl (by decide +kernel)) (leA1 (by decide +kernel)) h0 h1 ⟨by omega, by omega⟩
theorem rG_102_1 {h : LH} (hr : RNG h) : 0 ≤ rd h 102 1 ∧ rd h 102 1 ≤ 24 := by
  have q := rdP (a := 102) (i := 1) (lo := 0) (hi := 24) (st := 1) hr (vB_ok (by decide +kernel)) (Or.inl (by decide +kernel)) (leA1 (by decide +kernel))
  exact ⟨q.1, q.2.1⟩
theorem wG_102_1 {h : LH} (hh : INV h) {v : Int} (h0 : 0 ≤ v) (h1 : v ≤ 24) : INV (wr h 102 1 v) := wrP hh (by unfold sens; omega) (Or.inl (by decide +kernel)) (leA1 (by decide +kernel)) h0 h1 ⟨by omega, by omega⟩
theorem rG_110_1 {h : LH} (hr : RNG h) : 0 ≤ rd h 110 1 ∧ rd h 110 1 ≤ 24 := by
  have q := rdP (a := 110) (i := 1) (lo := 0) (hi := 24) (st := 1) hr (vB_ok (by decide +kernel)) (Or.inl (by decide +kernel)) (leA1 (by decide +kernel))
  exact ⟨q.1, q.2.1⟩
theorem wG_110_1 {h : LH} (hh : INV h) {v : Int} (h0 : 0 ≤ v) (h1 : v ≤ 24) : INV (wr h 110 1 v) := wrP hh (by unfold sens; omega) (Or.inl (by decide +kernel)) (leA1 (by decide +kernel)) h0 h1 ⟨by omega, by omega⟩
theorem rG_118_1 {h : LH} (hr : RNG h) : 0 ≤ rd h 118 1 ∧ rd h 118 1 ≤ 24 := by
  have q := rdP (a := 118) (i := 1) (lo := 0) (hi := 24) (st := 1) hr (vB_ok (by decide +kernel)) (Or.inl (by decide +kernel)) (leA1 (by decide +kernel))
  exact ⟨q.1, q.2.1⟩
theorem wG_118_1 {h : LH} (hh : INV h) {v : Int} (h0 : 0 ≤ v) (h1 : v ≤ 24) : INV (wr h 118 1 v) := wrP hh (by unfold sens; omega) (Or.inl (by decide +kernel)) (leA1 (by decide +kernel)) h0 h1 ⟨by omega, by omega⟩
theorem rG_126_1 {h : LH} (hr : RNG h) : 0 ≤ rd h 126 1 ∧ rd h 126 1 ≤ 24 := by
  have q := rdP (a := 126) (i := 1) (lo := 0) (hi := 24) (st := 1) hr (vB_ok (by decide +kernel)) (Or.inl (by decide +kernel)) (leA1 (by decide +kernel))
  exact ⟨q.1, q.2.1⟩
theorem wG_126_1 {h : LH} (hh : INV h) {v : Int} (h0 : 0 ≤ v) (h1 : v ≤ 24) : INV (wr h 126 1 v) := wrP hh (by unfold sens; omega) (Or.inl (by decide +kernel)) (leA1 (by decide +kernel)) h0 h1 ⟨by omega, by omega⟩
theorem rG_59_4 {h : LH} (hr : RNG h) : 0 ≤ rd h 59 4 ∧ rd h 59 4 ≤ 10 := by
  have q := rdP (a := 59) (i := 4) (lo := 0) (hi := 10) (st := 1) hr (vB_ok (by decide +kernel)) (Or.inl (by decide +kernel)) (leA1 (by decide +kernel))
  exact ⟨q.1, q.2.1⟩
theorem wG_59_4 {h : LH} (hh : INV h) {v : Int} (h0 : 0 ≤ v) (h1 : v ≤ 10) : INV (wr h 59 4 v) := wrP hh (by unfold sens; omega) (Or.inl (by decide +kernel)) (leA1 (by decide +kernel)) h0 h1 ⟨by omega, by omega⟩
theorem rG_102_4 {h : LH} (hr : RNG h) : 0 ≤ rd h 102 4 ∧ rd h 102 4 ≤ 10 := by
  have q := rdP (a := 102) (i := 4) (lo := 0) (hi := 10) (st := 1) hr (vB_ok (by decide +kernel)) (Or.inl (by decide +kernel)) (leA1 (by decide +kernel))
  exact ⟨q.1, q.2.1⟩
theorem wG_102_4 {h : LH} (hh : INV h) {v : Int} (h0 : 0 ≤ v) (h1 : v ≤ 10) : INV (wr h 102 4 v) := wrP hh (by unfold sens; omega) (Or.inl (by decide +kernel)) (leA1 (by decide +kernel)) h0 h1 ⟨by omega, by omega⟩
theorem rG_110_4 {h : LH} (hr : RNG h) : 0 ≤ rd h 110 4 ∧ rd h 110 4 ≤ 10 := by
  have q := rdP (a := 110) (i := 4) (lo := 0) (hi := 10) (st := 1) hr (vB_ok (by decide +kernel)) (Or.inl (by decide +kernel)) (leA1 (by decide +kernel))
  exact ⟨q.1, q.2.1⟩
theorem wG_110_4 {h : LH} (hh : INV h) {v : Int} (h0 : 0 ≤ v) (h1 : v ≤ 10) : INV (wr h 110 4 v) := wrP hh (by unfold sens; omega) (Or.inl (by decide +kernel)) (leA1 (by decide +kernel)) h0 h1 ⟨by omega, by omega⟩
theorem rG_118_4 {h : LH} (hr : RNG h) : 0 ≤ rd h 118 4 ∧ rd h 118 4 ≤ 10 := by
  have q := rdP (a := 118) (i := 4) (lo := 0) (hi := 10) (st := 1) hr (vB_ok (by decide +kernel)) (Or.inl (by decide +kernel)) (leA1 (by decide +kernel))
  exact ⟨q.1, q.2.1⟩
theorem wG_118_4 {h : LH} (hh : INV h) {v : Int} (h0 : 0 ≤ v) (h1 : v ≤ 10) : INV (wr h 118 4 v) := wrP hh (by unfold sens; omega) (Or.inl (by decide +kernel)) (leA1 (by decide +kernel)) h0 h1 ⟨by omega, by omega⟩
theorem rG_126_4 {h : LH} (hr : RNG h) : 0 ≤ rd h 126 4 ∧ rd h 126 4 ≤ 10 := by
  have q := rdP (a := 126) (i := 4) (lo := 0) (hi := 10) (st := 1) hr (vB_ok (by decide +kernel)) (Or.inl (by decide +kernel)) (leA1 (by decide +kernel))
  exact ⟨q.1, q.2.1⟩
theorem wG_126_4 {h : LH} (hh : INV h) {v : Int} (h0 : 0 ≤ v) (h1 : v ≤ 10) : INV (wr h 126 4 v) := wrP hh (by unfold sens; omega) (Or.inl (by decide +kernel)) (leA1 (by decide +kernel)) h0 h1 ⟨by omega, by omega⟩
theorem rG_59_7 {h : LH} (hr : RNG h) : -2147483648 ≤ rd h 59 7 ∧ rd h 59 7 ≤ 2147483647 := by
  have q := rdP (a := 59) (i := 7) (lo := -2147483648) (hi := 2147483647) (st := 1) hr (vB_ok (by decide +kernel)) (Or.inl (by decide +kernel)) (leA1 (by decide +kernel))
  exact ⟨q.1, q.2.1⟩
theorem wG_59_7 {h : LH} (hh : INV h) {v : Int} (h0 : -2147483648 ≤ v) (h1 : v ≤ 2147483647) : INV (wr h 59 7 v) := wrP hh (by unfold sens; omega) (Or.inl (by decide +kernel)) (leA1 (by decide +kernel)) h0 h1 ⟨by omega, by omega⟩
theorem rG_102_7 {h : LH} (hr : RNG h) : -2147483648 ≤ rd h 102 7 ∧ rd h 102 7 ≤ 2147483647 := by
  have q := rdP (a := 102) (i := 7) (lo := -2147483648) (hi := 2147483647) (st := 1) hr (vB_ok (by decide +kernel)) (Or.inl (by decide +kernel)) (leA1 (by decide +kernel))
  exact ⟨q.1, q.2.1⟩
theorem wG_102_7 {h : LH} (hh : INV h) {v : Int} (h0 : -2147483648 ≤ v) (h1 : v ≤ 2147483647) : INV (wr h 102 7 v) := wrP hh (by unfold sens; omega) (Or.inl (by decide +kernel)) (leA1 (by decide +kernel)) h0 h1 ⟨by omega, by omega⟩
theorem rG_110_7 {h : LH} (hr : RNG h) : -2147483648 ≤ rd h 110 7 ∧ rd h 110 7 ≤ 2147483647 := by
  have q := rdP (a := 110) (i := 7) (lo := -2147483648) (hi := 2147483647) (st := 1) hr (vB_ok (by decide +kernel)) (Or.inl (by decide +kernel)) (leA1 (by decide +kernel))
  exact ⟨q.1, q.2.1⟩
theorem wG_110_7 {h : LH} (hh : INV h) {v : Int} (h0 : -2147483648 ≤ v) (h1 : v ≤ 2147483647) : INV (wr h 110 7 v) := wrP hh (by unfold sens; omega) (Or.inl (by decide +kernel)) (leA1 (by decide +kernel)) h0 h1 ⟨by omega, by omega⟩
theorem rG_118_7 {h : LH} (hr : RNG h) : -2147483648 ≤ rd h 118 7 ∧ rd h 118 7 ≤ 2147483647 := by
  have q := rdP (a := 118) (i := 7) (lo := -2147483648) (hi := 2147483647) (st := 1) hr (vB_ok (by decide +kernel)) (Or.inl (by decide +kernel)) (leA1 (by decide +kernel))
  exact ⟨q.1, q.2.1⟩
theorem wG_118_7 {h : LH} (hh : INV h) {v : Int} (h0 : -2147483648 ≤ v) (h1 : v ≤ 2147483647) : INV (wr h 118 7 v) := wrP hh (by unfold sens; omega) (Or.inl (by decide +kernel)) (leA1 (by decide +kernel)) h0 h1 ⟨by omega, by omega⟩
theorem rG_126_7 {h : LH} (hr : RNG h) : -2147483648 ≤ rd h 126 7 ∧ rd h 126 7 ≤ 2147483647 := by
  have q := rdP (a := 126) (i := 7) (lo := -2147483648) (hi := 2147483647) (st := 1) hr (vB_ok (by decide +kernel)) (Or.inl (by decide +kernel)) (leA1 (by decide +kernel))
  exact ⟨q.1, q.2.1⟩
theorem wG_126_7 {h : LH} (hh : INV h) {v : Int} (h0 : -2147483648 ≤ v) (h1 : v ≤ 2147483647) : INV (wr h 126 7 v) := wrP hh (by unfold sens; omega) (Or.inl (by decide +kernel)) (leA1 (by decide +kernel)) h0 h1 ⟨by omega, by omega⟩
theorem hB_3 (i : Int) : hav 3 i = (0, -128, 127, 1) := by
  unfold hav
  rw [show RGL[(3 : Int).toNat]? = some [(0, -128, 127, 1)] by decide +kernel]
  simp only [List.length_singleton, Nat.mod_one]
  rfl
theorem rB_3 {h : LH} (hr : RNG h) {i : Int} (hi : 0 ≤ i ∧ i < 1000) : -128 ≤ rd h 3 i ∧ rd h 3 i ≤ 127 := by
  have q := rdP (a := 3) (i := i) (lo := -128) (hi := 127) (st := 1) hr (vldA (n := 1000) (k := 3) (by decide +kernel) (by decide +kernel) hi) (Or.inl (lkd_3 (by decide +kernel))) (fun v hv => by rw [hB_3] at hv; exact hv)
  exact ⟨q.1, q.2.1⟩
theorem wB_3 {h : LH} (hh : INV h) {i v : Int} (h0 : -128 ≤ v) (h1 : v ≤ 127) : INV (wr h 3 i v) := wrP hh (by unfold sens; omega) (Or.inl (lkd_3 (by decide +kernel))) (fun v hv => by rw [hB_3]; exact hv) h0 h1 ⟨by omega, by omega⟩
theorem wS_3 {h : LH} (hr : RNG h) {i v : Int} (h0 : -128 ≤ v) (h1 : v ≤ 127) : RNG (wr h 3 i v) := wrR hr (Or.inl (lkd_3 (by decide +kernel))) (fun v hv => by rw [hB_3]; exact hv) h0 h1 ⟨by omega, by omega⟩
theorem hB_85 (i : Int) : hav 85 i = (0, -2147483648, 2147483647, 1) := by
  unfold hav
  rw [show RGL[(85 : Int).toNat]? = some [(0, -2147483648, 2147483647, 1)] by decide +kernel]
  simp only [List.length_singleton, Nat.mod_one]
  rfl
theorem rB_85 {h : LH} (hr : RNG h) {i : Int} (hi : 0 ≤ i ∧ i < 336) : -2147483648 ≤ rd h 85 i ∧ rd h 85 i ≤ 2147483647 := by
  have q := rdP (a := 85) (i := i) (lo := -2147483648) (hi := 2147483647) (st := 1) hr (vldA (n := 336) (k := 1) (by decide +kernel) (by decide +kernel) hi) (Or.inl (lkd_1 (by decide +kernel))) (fun v hv => by rw [hB_85] at hv; exact hv)
  exact ⟨q.1, q.2.1⟩
theorem wB_85 {h : LH} (hh : INV h) {i v : Int} (h0 : -2147483648 ≤ v) (h1 : v ≤ 2147483647) : INV (wr h 85 i v) := wrP hh (by unfold sens; omega) (Or.inl (lkd_1 (by decide +kernel))) (fun v hv => by rw [hB_85]; exact hv) h0 h1 ⟨by omega, by omega⟩
theorem wS_85 {h : LH} (hr : RNG h) {i v : Int} (h0 : -2147483648 ≤ v) (h1 : v ≤ 2147483647) : RNG (wr h 85 i v) := wrR hr (Or.inl (lkd_1 (by decide +kernel))) (fun v hv => by rw [hB_85]; exact hv) h0 h1 ⟨by omega, by omega⟩
theorem hB_86 (i : Int) : hav 86 i = (0, -2147483648, 2147483647, 1) := by
  unfold hav
  rw [show RGL[(86 : Int).toNat]? = some [(0, -2147483648, 2147483647, 1)] by decide +kernel]
  simp only [List.length_singleton, Nat.mod_one]
  rfl
theorem rB_86 {h : LH} (hr : RNG h) {i : Int} (hi : 0 ≤ i ∧ i < 240) : -2147483648 ≤ rd h 86 i ∧ rd h 86 i ≤ 2147483647 := by
  have q := rdP (a := 86) (i := i) (lo := -2147483648) (hi := 2147483647) (st := 1) hr (vldA (n := 240) (k := 1) (by decide +kernel) (by decide +kernel) hi) (Or.inl (lkd_1 (by decide +kernel))) (fun v hv => by rw [hB_86] at hv; exact hv)
  exact ⟨q.1, q.2.1⟩
theorem wB_86 {h : LH} (hh : INV h) {i v : Int} (h0 : -2147483648 ≤ v) (h1 : v ≤ 2147483647) : INV (wr h 86 i v) := wrP hh (by unfold sens; omega) (Or.inl (lkd_1 (by decide +kernel))) (fun v hv => by rw [hB_86]; exact hv) h0 h1 ⟨by omega, by omega⟩
theorem wS_86 {h : LH} (hr : RNG h) {i v : Int} (h0 : -2147483648 ≤ v) (h1 : v ≤ 2147483647) : RNG (wr h 86 i v) := wrR hr (Or.inl (lkd_1 (by decide +kernel))) (fun v hv => by rw [hB_86]; exact hv) h0 h1 ⟨by omega, by omega⟩
theorem hB_87 (i : Int) : hav 87 i = (0, -1, 249, 1) := by
  unfold hav
  rw [show RGL[(87 : Int).toNat]? = some [(0, -1, 249, 1)] by decide +kernel]
  simp only [List.length_singleton, Nat.mod_one]
  rfl
theorem rB_87 {h : LH} (hr : RNG h) {i : Int} (hi : 0 ≤ i ∧ i < 250) : -1 ≤ rd h 87 i ∧ rd h 87 i ≤ 249 := by
  have q := rdP (a := 87) (i := i) (lo := -1) (hi := 249) (st := 1) hr (vldA (n := 250) (k := 1) (by decide +kernel) (by decide +kernel) hi) (Or.inl (lkd_1 (by decide +kernel))) (fun v hv => by rw [hB_87] at hv; exact hv)
  exact ⟨q.1, q.2.1⟩
theorem wB_87 {h : LH} (hh : INV h) {i v : Int} (h0 : -1 ≤ v) (h1 : v ≤ 249) : INV (wr h 87 i v) := wrP hh (by unfold sens; omega) (Or.inl (lkd_1 (by decide +kernel))) (fun v hv => by rw [hB_87]; exact hv) h0 h1 ⟨by omega, by omega⟩
theorem wS_87 {h : LH} (hr : RNG h) {i v : Int} (h0 : -1 ≤ v) (h1 : v ≤ 249) : RNG (wr h 87 i v) := wrR hr (Or.inl (lkd_1 (by decide +kernel))) (fun v hv => by rw [hB_87]; exact hv) h0 h1 ⟨by omega, by omega⟩
theorem hB_88 (i : Int) : hav 88 i = (0, -1, 13, 1) := by
  unfold hav
  rw [show RGL[(88 : Int).toNat]? = some [(0, -1, 13, 1)] by decide +kernel]
  simp only [List.length_singleton, Nat.mod_one]
  rfl
theorem rB_88 {h : LH} (hr : RNG h) {i : Int} (hi : 0 ≤ i ∧ i < 250) : -1 ≤ rd h 88 i ∧ rd h 88 i ≤ 13 := by
  have q := rdP (a := 88) (i := i) (lo := -1) (hi := 13) (st := 1) hr (vldA (n := 250) (k := 1) (by decide +kernel) (by decide +kernel) hi) (Or.inl (lkd_1 (by decide +kernel))) (fun v hv => by rw [hB_88] at hv; exact hv)
  exact ⟨q.1, q.2.1⟩
theorem wB_88 {h : LH} (hh : INV h) {i v : Int} (h0 : -1 ≤ v) (h1 : v ≤ 13) : INV (wr h 88 i v) := wrP hh (by unfold sens; omega) (Or.inl (lkd_1 (by decide +kernel))) (fun v hv => by rw [hB_88]; exact hv) h0 h1 ⟨by omega, by omega⟩
theorem wS_88 {h : LH} (hr : RNG h) {i v : Int} (h0 : -1 ≤ v) (h1 : v ≤ 13) : RNG (wr h 88 i v) := wrR hr (Or.inl (lkd_1 (by decide +kernel))) (fun v hv => by rw [hB_88]; exact hv) h0 h1 ⟨by omega, by omega⟩
theorem hB_89 (i : Int) : hav 89 i = (0, 0, 249, 1) := by
  unfold hav
  rw [show RGL[(89 : Int).toNat]? = some [(0, 0, 249, 1)] by decide +kernel]
  simp only [List.length_singleton, Nat.mod_one]
  rfl
theorem rB_89 {h : LH} (hr : RNG h) {i : Int} (hi : 0 ≤ i ∧ i < 250) : 0 ≤ rd h 89 i ∧ rd h 89 i ≤ 249 := by
  have q := rdP (a := 89) (i := i) (lo := 0) (hi := 249) (st := 1) hr (vldA (n := 250) (k := 1) (by decide +kernel) (by decide +kernel) hi) (Or.inl (lkd_1 (by decide +kernel))) (fun v hv => by rw [hB_89] at hv; exact hv)
  exact ⟨q.1, q.2.1⟩
theorem wB_89 {h : LH} (hh : INV h) {i v : Int} (h0 : 0 ≤ v) (h1 : v ≤ 249) : INV (wr h 89 i v) := wrP hh (by unfold sens; omega) (Or.inl (lkd_1 (by decide +kernel))) (fun v hv => by rw [hB_89]; exact hv) h0 h1 ⟨by omega, by omega⟩
theorem wS_89 {h : LH} (hr : RNG h) {i v : Int} (h0 : 0 ≤ v) (h1 : v ≤ 249) : RNG (wr h 89 i v) := wrR hr (Or.inl (lkd_1 (by decide +kernel))) (fun v hv => by rw [hB_89]; exact hv) h0 h1 ⟨by omega, by omega⟩
theorem hB_63 (i : Int) : hav 63 i = (0, -1, 5, 1) := by
  unfold hav
  rw [show RGL[(63 : Int).toNat]? = some [(0, -1, 5, 1)] by decide +kernel]
  simp only [List.length_singleton, Nat.mod_one]
  rfl
theorem rB_63 {h : LH} (hr : RNG h) {i : Int} (hi : 0 ≤ i ∧ i < 24) : -1 ≤ rd h 63 i ∧ rd h 63 i ≤ 5 := by
  have q := rdP (a := 63) (i := i) (lo := -1) (hi := 5) (st := 1) hr (vldA (n := 24) (k := 1) (by decide +kernel) (by decide +kernel) hi) (Or.inl (lkd_1 (by decide +kernel))) (fun v hv => by rw [hB_63] at hv; exact hv)
  exact ⟨q.1, q.2.1⟩
theorem wS_63 {h : LH} (hr : RNG h) {i v : Int} (h0 : -1 ≤ v) (h1 : v ≤ 5) : RNG (wr h 63 i v) := wrR hr (Or.inl (lkd_1 (by decide +kernel))) (fun v hv => by rw [hB_63]; exact hv) h0 h1 ⟨by omega, by omega⟩
theorem hB_64 (i : Int) : hav 64 i = (0, -1, 13, 1) := by
  unfold hav
  rw [show RGL[(64 : Int).toNat]? = some [(0, -1, 13, 1)] by decide +kernel]
  simp only [List.length_singleton, Nat.mod_one]
  rfl
theorem rB_64 {h : LH} (hr : RNG h) {i : Int} (hi : 0 ≤ i ∧ i < 24) : -1 ≤ rd h 64 i ∧ rd h 64 i ≤ 13 := by
  have q := rdP (a := 64) (i := i) (lo := -1) (hi := 13) (st := 1) hr (vldA (n := 24) (k := 1) (by decide +kernel) (by decide +kernel) hi) (Or.inl (lkd_1 (by decide +kernel))) (fun v hv => by rw [hB_64] at hv; exact hv)
  exact ⟨q.1, q.2.1⟩
theorem wS_64 {h : LH} (hr : RNG h) {i v : Int} (h0 : -1 ≤ v) (h1 : v ≤ 13) : RNG (wr h 64 i v) := wrR hr (Or.inl (lkd_1 (by decide +kernel))) (fun v hv => by rw [hB_64]; exact hv) h0 h1 ⟨by omega, by omega⟩
theorem hB_71 (i : Int) : hav 71 i = (0, -1, 5, 1) := by
  unfold hav
  rw [show RGL[(71 : Int).toNat]? = some [(0, -1, 5, 1)] by decide +kernel]
  simp only [List.length_singleton, Nat.mod_one]
  rfl
theorem rB_71 {h : LH} (hr : RNG h) {i : Int} (hi : 0 ≤ i ∧ i < 24) : -1 ≤ rd h 71 i ∧ rd h 71 i ≤ 5 := by
  have q := rdP (a := 71) (i := i) (lo := -1) (hi := 5) (st := 1) hr (vldA (n := 24) (k := 1) (by decide +kernel) (by decide +kernel) hi) (Or.inl (lkd_1 (by decide +kernel))) (fun v hv => by rw [hB_71] at hv; exact hv)
  exact ⟨q.1, q.2.1⟩
theorem wS_71 {h : LH} (hr : RNG h) {i v : Int} (h0 : -1 ≤ v) (h1 : v ≤ 5) : RNG (wr h 71 i v) := wrR hr (Or.inl (lkd_1 (by decide +kernel))) (fun v hv => by rw [hB_71]; exact hv) h0 h1 ⟨by omega, by omega⟩
theorem hB_72 (i : Int) : hav 72 i = (0, -1, 13, 1) := by
  unfold hav
  rw [show RGL[(72 : Int).toNat]? = some [(0, -1, 13, 1)] by decide +kernel]
  simp only [List.length_singleton, Nat.mod_one]
  rfl
theorem rB_72 {h : LH} (hr : RNG h) {i : Int} (hi : 0 ≤ i ∧ i < 24) : -1 ≤ rd h 72 i ∧ rd h 72 i ≤ 13 := by
  have q := rdP (a := 72) (i := i) (lo := -1) (hi := 13) (st := 1) hr (vldA (n := 24) (k := 1) (by decide +kernel) (by decide +kernel) hi) (Or.inl (lkd_1 (by decide +kernel))) (fun v hv => by rw [hB_72] at hv; exact hv)
  exact ⟨q.1, q.2.1⟩
theorem wS_72 {h : LH} (hr : RNG h) {i v : Int} (h0 : -1 ≤ v) (h1 : v ≤ 13) : RNG (wr h 72 i v) := wrR hr (Or.inl (lkd_1 (by decide +kernel))) (fun v hv => by rw [hB_72]; exact hv) h0 h1 ⟨by omega, by omega⟩
theorem hB_106 (i : Int) : hav 106 i = (0, -1, 5, 1) := by
  unfold hav
  rw [show RGL[(106 : Int).toNat]? = some [(0, -1, 5, 1)] by decide +kernel]
  simp only [List.length_singleton, Nat.mod_one]
  rfl
theorem rB_106 {h : LH} (hr : RNG h) {i : Int} (hi : 0 ≤ i ∧ i < 24) : -1 ≤ rd h 106 i ∧ rd h 106 i ≤ 5 := by
  have q := rdP (a := 106) (i := i) (lo := -1) (hi := 5) (st := 1) hr (vldA (n := 24) (k := 1) (by decide +kernel) (by decide +kernel) hi) (Or.inl (lkd_1 (by decide +kernel))) (fun v hv => by rw [hB_106] at hv; exact hv)
  exact ⟨q.1, q.2.1⟩
theorem wS_106 {h : LH} (hr : RNG h) {i v : Int} (h0 : -1 ≤ v) (h1 : v ≤ 5) : RNG (wr h 106 i v) := wrR hr (Or.inl (lkd_1 (by decide +kernel))) (fun v hv => by rw [hB_106]; exact hv) h0 h1 ⟨by omega, by omega⟩
theorem hB_107 (i : Int) : hav 107 i = (0, -1, 13, 1) := by
  unfold hav
  rw [show RGL[(107 : Int).toNat]? = some [(0, -1, 13, 1)] by decide +kernel]
  simp only [List.length_singleton, Nat.mod_one]
  rfl
theorem rB_107 {h : LH} (hr : RNG h) {i : Int} (hi : 0 ≤ i ∧ i < 24) : -1 ≤ rd h 107 i ∧ rd h 107 i ≤ 13 := by
  have q := rdP (a := 107) (i := i) (lo := -1) (hi := 13) (st := 1) hr (vldA (n := 24) (k := 1) (by decide +kernel) (by decide +kernel) hi) (Or.inl (lkd_1 (by decide +kernel))) (fun v hv => by rw [hB_107] at hv; exact hv)
  exact ⟨q.1, q.2.1⟩
theorem wS_107 {h : LH} (hr : RNG h) {i v : Int} (h0 : -1 ≤ v) (h1 : v ≤ 13) : RNG (wr h 107 i v) := wrR hr (Or.inl (lkd_1 (by decide +kernel))) (fun v hv => by rw [hB_107]; exact hv) h0 h1 ⟨by omega, by omega⟩
theorem hB_114 (i : Int) : hav 114 i = (0, -1, 5, 1) := by
  unfold hav
  rw [show RGL[(114 : Int).toNat]? = some [(0, -1, 5, 1)] by decide +kernel]
  simp only [List.length_singleton, Nat.mod_one]
  rfl
theorem rB_114 {h : LH} (hr : RNG h) {i : Int} (hi : 0 ≤ i ∧ i < 24) : -1 ≤ rd h 114 i ∧ rd h 114 i ≤ 5 := by
  have q := rdP (a := 114) (i := i) (lo := -1) (hi := 5) (st := 1) hr (vldA (n := 24) (k := 1) (by decide +kernel) (by decide +kernel) hi) (Or.inl (lkd_1 (by decide +kernel))) (fun v hv => by rw [hB_114] at hv; exact hv)
  exact ⟨q.1, q.2.1⟩
theorem wS_114 {h : LH} (hr : RNG h) {i v : Int} (h0 : -1 ≤ v) (h1 : v ≤ 5) : RNG (wr h 114 i v) := wrR hr (Or.inl (lkd_1 (by decide +kernel))) (fun v hv => by rw [hB_114]; exact hv) h0 h1 ⟨by omega, by omega⟩
theorem hB_115 (i : Int) : hav 115 i = (0, -1, 13, 1) := by
  unfold hav
  rw [show RGL[(115 : Int).toNat]? = some [(0, -1, 13, 1)] by decide +kernel]
  simp only [List.length_singleton, Nat.mod_one]
  rfl
theorem rB_115 {h : LH} (hr : RNG h) {i : Int} (hi : 0 ≤ i ∧ i < 24) : -1 ≤ rd h 115 i ∧ rd h 115 i ≤ 13 := by
  have q := rdP (a := 115) (i := i) (lo := -1) (hi := 13) (st := 1) hr (vldA (n := 24) (k := 1) (by decide +kernel) (by decide +kernel) hi) (Or.inl (lkd_1 (by decide +kernel))) (fun v hv => by rw [hB_115] at hv; exact hv)
  exact ⟨q.1, q.2.1⟩
theorem wS_115 {h : LH} (hr : RNG h) {i v : Int} (h0 : -1 ≤ v) (h1 : v ≤ 13) : RNG (wr h 115 i v) := wrR hr (Or.inl (lkd_1 (by decide +kernel))) (fun v hv => by rw [hB_115]; exact hv) h0 h1 ⟨by omega, by omega⟩
theorem hB_122 (i : Int) : hav 122 i = (0, -1, 5, 1) := by
  unfold hav
  rw [show RGL[(122 : Int).toNat]? = some [(0, -1, 5, 1)] by decide +kernel]
  simp only [List.length_singleton, Nat.mod_one]
  rfl
theorem rB_122 {h : LH} (hr : RNG h) {i : Int} (hi : 0 ≤ i ∧ i < 24) : -1 ≤ rd h 122 i ∧ rd h 122 i ≤ 5 := by
  have q := rdP (a := 122) (i := i) (lo := -1) (hi := 5) (st := 1) hr (vldA (n := 24) (k := 1) (by decide +kernel) (by decide +kernel) hi) (Or.inl (lkd_1 (by decide +kernel))) (fun v hv => by rw [hB_122] at hv; exact hv)
  exact ⟨q.1, q.2.1⟩
theorem wS_122 {h : LH} (hr : RNG h) {i v : Int} (h0 : -1 ≤ v) (h1 : v ≤ 5) : RNG (wr h 122 i v) := wrR hr (Or.inl (lkd_1 (by decide +kernel))) (fun v hv => by rw [hB_122]; exact hv) h0 h1 ⟨by omega, by omega⟩
theorem hB_123 (i : Int) : hav 123 i = (0, -1, 13, 1) := by
  unfold hav
  rw [show RGL[(123 : Int).toNat]? = some [(0, -1, 13, 1)] by decide +kernel]
  simp only [List.length_singleton, Nat.mod_one]
  rfl
theorem rB_123 {h : LH} (hr : RNG h) {i : Int} (hi : 0 ≤ i ∧ i < 24) : -1 ≤ rd h 123 i ∧ rd h 123 i ≤ 13 := by
  have q := rdP (a := 123) (i := i) (lo := -1) (hi := 13) (st := 1) hr (vldA (n := 24) (k := 1) (by decide +kernel) (by decide +kernel) hi) (Or.inl (lkd_1 (by decide +kernel))) (fun v hv => by rw [hB_123] at hv; exact hv)
  exact ⟨q.1, q.2.1⟩
theorem wS_123 {h : LH} (hr : RNG h) {i v : Int} (h0 : -1 ≤ v) (h1 : v ≤ 13) : RNG (wr h 123 i v) := wrR hr (Or.inl (lkd_1 (by decide +kernel))) (fun v hv => by rw [hB_123]; exact hv) h0 h1 ⟨by omega, by omega⟩
theorem hB_130 (i : Int) : hav 130 i = (0, -1, 5, 1) := by
  unfold hav
  rw [show RGL[(130 : Int).toNat]? = some [(0, -1, 5, 1)] by decide +kernel]
  simp only [List.length_singleton, Nat.mod_one]
  rfl
theorem rB_130 {h : LH} (hr : RNG h) {i : Int} (hi : 0 ≤ i ∧ i < 24) : -1 ≤ rd h 130 i ∧ rd h 130 i ≤ 5 := by
  have q := rdP (a := 130) (i := i) (lo := -1) (hi := 5) (st := 1) hr (vldA (n := 24) (k := 1) (by decide +kernel) (by decide +kernel) hi) (Or.inl (lkd_1 (by decide +kernel))) (fun v hv => by rw [hB_130] at hv; exact hv)
  exact ⟨q.1, q.2.1⟩
theorem wS_130 {h : LH} (hr : RNG h) {i v : Int} (h0 : -1 ≤ v) (h1 : v ≤ 5) : RNG (wr h 130 i v) := wrR hr (Or.inl (lkd_1 (by decide +kernel))) (fun v hv => by rw [hB_130]; exact hv) h0 h1 ⟨by omega, by omega⟩
theorem hB_131 (i : Int) : hav 131 i = (0, -1, 13, 1) := by
  unfold hav
  rw [show RGL[(131 : Int).toNat]? = some [(0, -1, 13, 1)] by decide +kernel]
  simp only [List.length_singleton, Nat.mod_one]
  rfl
theorem rB_131 {h : LH} (hr : RNG h) {i : Int} (hi : 0 ≤ i ∧ i < 24) : -1 ≤ rd h 131 i ∧ rd h 131 i ≤ 13 := by
  have q := rdP (a := 131) (i := i) (lo := -1) (hi := 13) (st := 1) hr (vldA (n := 24) (k := 1) (by decide +kernel) (by decide +kernel) hi) (Or.inl (lkd_1 (by decide +kernel))) (fun v hv => by rw [hB_131] at hv; exact hv)
  exact ⟨q.1, q.2.1⟩
theorem wS_131 {h : LH} (hr : RNG h) {i v : Int} (h0 : -1 ≤ v) (h1 : v ≤ 13) : RNG (wr h 131 i v) := wrR hr (Or.inl (lkd_1 (by decide +kernel))) (fun v hv => by rw [hB_131]; exact hv) h0 h1 ⟨by omega, by omega⟩
theorem hB_65 (i : Int) : hav 65 i = (0, 0, 9, 1) := by
  unfold hav
  rw [show RGL[(65 : Int).toNat]? = some [(0, 0, 9, 1)] by decide +kernel]
  simp only [List.length_singleton, Nat.mod_one]
  rfl
theorem rB_65 {h : LH} (hr : RNG h) {i : Int} (hi : 0 ≤ i ∧ i < 10) : 0 ≤ rd h 65 i ∧ rd h 65 i ≤ 9 := by
  have q := rdP (a := 65) (i := i) (lo := 0) (hi := 9) (st := 1) hr (vldA (n := 10) (k := 1) (by decide +kernel) (by decide +kernel) hi) (Or.inl (lkd_1 (by decide +kernel))) (fun v hv => by rw [hB_65] at hv; exact hv)
  exact ⟨q.1, q.2.1⟩
theorem wS_65 {h : LH} (hr : RNG h) {i v : Int} (h0 : 0 ≤ v) (h1 : v ≤ 9) : RNG (wr h 65 i v) := wrR hr (Or.inl (lkd_1 (by decide +kernel))) (fun v hv => by rw [hB_65]; exact hv) h0 h1 ⟨by omega, by omega⟩
theorem hB_66 (i : Int) : hav 66 i = (0, 0, 9, 1) := by
  unfold hav
  rw [show RGL[(66 : Int).toNat]? = some [(0, 0, 9, 1)] by decide +kernel]
  simp only [List.length_singleton, Nat.mod_one]
  rfl
theorem rB_66 {h : LH} (hr : RNG h) {i : Int} (hi : 0 ≤ i ∧ i < 10) : 0 ≤ rd h 66 i ∧ rd h 66 i ≤ 9 := by
  have q := rdP (a := 66) (i := i) (lo := 0) (hi := 9) (st := 1) hr (vldA (n := 10) (k := 1) (by decide +kernel) (by decide +kernel) hi) (Or.inl (lkd_1 (by decide +kernel))) (fun v hv => by rw [hB_66] at hv; exact hv)
  exact ⟨q.1, q.2.1⟩
theorem wS_66 {h : LH} (hr : RNG h) {i v : Int} (h0 : 0 ≤ v) (h1 : v ≤ 9) : RNG (wr h 66 i v) := wrR hr (Or.inl (lkd_1 (by decide +kernel))) (fun v hv => by rw [hB_66]; exact hv) h0 h1 ⟨by omega, by omega⟩
theorem hB_108 (i : Int) : hav 108 i = (0, 0, 9, 1) := by
  unfold hav
  rw [show RGL[(108 : Int).toNat]? = some [(0, 0, 9, 1)] by decide +kernel]
  simp only [List.length_singleton, Nat.mod_one]
  rfl
theorem rB_108 {h : LH} (hr : RNG h) {i : Int} (hi : 0 ≤ i ∧ i < 10) : 0 ≤ rd h 108 i ∧ rd h 108 i ≤ 9 := by
  have q := rdP (a := 108) (i := i) (lo := 0) (hi := 9) (st := 1) hr (vldA (n := 10) (k := 1) (by decide +kernel) (by decide +kernel) hi) (Or.inl (lkd_1 (by decide +kernel))) (fun v hv => by rw [hB_108] at hv; exact hv)
  exact ⟨q.1, q.2.1⟩
theorem wS_108 {h : LH} (hr : RNG h) {i v : Int} (h0 : 0 ≤ v) (h1 : v ≤ 9) : RNG (wr h 108 i v) := wrR hr (Or.inl (lkd_1 (by decide +kernel))) (fun v hv => by rw [hB_108]; exact hv) h0 h1 ⟨by omega, by omega⟩
theorem hB_109 (i : Int) : hav 109 i = (0, 0, 9, 1) := by
  unfold hav
  rw [show RGL[(109 : Int).toNat]? = some [(0, 0, 9, 1)] by decide +kernel]
  simp only [List.length_singleton, Nat.mod_one]
  rfl
theorem rB_109 {h : LH} (hr : RNG h) {i : Int} (hi : 0 ≤ i ∧ i < 10) : 0 ≤ rd h 109 i ∧ rd h 109 i ≤ 9 := by
  have q := rdP (a := 109) (i := i) (lo := 0) (hi := 9) (st := 1) hr (vldA (n := 10) (k := 1) (by decide +kernel) (by decide +kernel) hi) (Or.inl (lkd_1 (by decide +kernel))) (fun v hv => by rw [hB_109] at hv; exact hv)
  exact ⟨q.1, q.2.1⟩
theorem wS_109 {h : LH} (hr : RNG h) {i v : Int} (h0 : 0 ≤ v) (h1 : v ≤ 9) : RNG (wr h 109 i v) := wrR hr (Or.inl (lkd_1 (by decide +kernel))) (fun v hv => by rw [hB_109]; exact hv) h0 h1 ⟨by omega, by omega⟩
theorem hB_116 (i : Int) : hav 116 i = (0, 0, 9, 1) := by
  unfold hav
  rw [show RGL[(116 : Int).toNat]? = some [(0, 0, 9, 1)] by decide +kernel]
  simp only [List.length_singleton, Nat.mod_one]
  rfl
theorem rB_116 {h : LH} (hr : RNG h) {i : Int} (hi : 0 ≤ i ∧ i < 10) : 0 ≤ rd h 116 i ∧ rd h 116 i ≤ 9 := by
  have q := rdP (a := 116) (i := i) (lo := 0) (hi := 9) (st := 1) hr (vldA (n := 10) (k := 1) (by decide +kernel) (by decide +kernel) hi) (Or.inl (lkd_1 (by decide +kernel))) (fun v hv => by rw [hB_116] at hv; exact hv)
  exact ⟨q.1, q.2.1⟩
theorem wS_116 {h : LH} (hr : RNG h) {i v : Int} (h0 : 0 ≤ v) (h1 : v ≤ 9) : RNG (wr h 116 i v) := wrR hr (Or.inl (lkd_1 (by decide +kernel))) (fun v hv => by rw [hB_116]; exact hv) h0 h1 ⟨by omega, by omega⟩
theorem hB_117 (i : Int) : hav 117 i = (0, 0, 9, 1) := by
  unfold hav
  rw [show RGL[(117 : Int).toNat]? = some [(0, 0, 9, 1)] by decide +kernel]
  simp only [List.length_singleton, Nat.mod_one]
  rfl
theorem rB_117 {h : LH} (hr : RNG h) {i : Int} (hi : 0 ≤ i ∧ i < 10) : 0 ≤ rd h 117 i ∧ rd h 117 i ≤ 9 := by
  have q := rdP (a := 117) (i := i) (lo := 0) (hi := 9) (st := 1) hr (vldA (n := 10) (k := 1) (by decide +kernel) (by decide +kernel) hi) (Or.inl (lkd_1 (by decide +kernel))) (fun v hv => by rw [hB_117] at hv; exact hv)
  exact ⟨q.1, q.2.1⟩
theorem wS_117 {h : LH} (hr : RNG h) {i v : Int} (h0 : 0 ≤ v) (h1 : v ≤ 9) : RNG (wr h 117 i v) := wrR hr (Or.inl (lkd_1 (by decide +kernel))) (fun v hv => by rw [hB_117]; exact hv) h0 h1 ⟨by omega, by omega⟩
theorem hB_124 (i : Int) : hav 124 i = (0, 0, 9, 1) := by
  unfold hav
  rw [show RGL[(124 : Int).toNat]? = some [(0, 0, 9, 1)] by decide +kernel]
  simp only [List.length_singleton, Nat.mod_one]
  rfl
theorem rB_124 {h : LH} (hr : RNG h) {i : Int} (hi : 0 ≤ i ∧ i < 10) : 0 ≤ rd h 124 i ∧ rd h 124 i ≤ 9 := by
  have q := rdP (a := 124) (i := i) (lo := 0) (hi := 9) (st := 1) hr (vldA (n := 10) (k := 1) (by decide +kernel) (by decide +kernel) hi) (Or.inl (lkd_1 (by decide +kernel))) (fun v hv => by rw [hB_124] at hv; exact hv)
  exact ⟨q.1, q.2.1⟩
theorem wS_124 {h : LH} (hr : RNG h) {i v : Int} (h0 : 0 ≤ v) (h1 : v ≤ 9) : RNG (wr h 124 i v) := wrR hr (Or.inl (lkd_1 (by decide +kernel))) (fun v hv => by rw [hB_124]; exact hv) h0 h1 ⟨by omega, by omega⟩
theorem hB_125 (i : Int) : hav 125 i = (0, 0, 9, 1) := by
  unfold hav
  rw [show RGL[(125 : Int).toNat]? = some [(0, 0, 9, 1)] by decide +kernel]
  simp only [List.length_singleton, Nat.mod_one]
  rfl
theorem rB_125 {h : LH} (hr : RNG h) {i : Int} (hi : 0 ≤ i ∧ i < 10) : 0 ≤ rd h 125 i ∧ rd h 125 i ≤ 9 := by
  have q := rdP (a := 125) (i := i) (lo := 0) (hi := 9) (st := 1) hr (vldA (n := 10) (k := 1) (by decide +kernel) (by decide +kernel) hi) (Or.inl (lkd_1 (by decide +kernel))) (fun v hv => by rw [hB_125] at hv; exact hv)
  exact ⟨q.1, q.2.1⟩
theorem wS_125 {h : LH} (hr : RNG h) {i v : Int} (h0 : 0 ≤ v) (h1 : v ≤ 9) : RNG (wr h 125 i v) := wrR hr (Or.inl (lkd_1 (by decide +kernel))) (fun v hv => by rw [hB_125]; exact hv) h0 h1 ⟨by omega, by omega⟩
theorem hB_132 (i : Int) : hav 132 i = (0, 0, 9, 1) := by
  unfold hav
  rw [show RGL[(132 : Int).toNat]? = some [(0, 0, 9, 1)] by decide +kernel]
  simp only [List.length_singleton, Nat.mod_one]
  rfl
theorem rB_132 {h : LH} (hr : RNG h) {i : Int} (hi : 0 ≤ i ∧ i < 10) : 0 ≤ rd h 132 i ∧ rd h 132 i ≤ 9 := by
  have q := rdP (a := 132) (i := i) (lo := 0) (hi := 9) (st := 1) hr (vldA (n := 10) (k := 1) (by decide +kernel) (by decide +kernel) hi) (Or.inl (lkd_1 (by decide +kernel))) (fun v hv => by rw [hB_132] at hv; exact hv)
  exact ⟨q.1, q.2.1⟩
theorem wS_132 {h : LH} (hr : RNG h) {i v : Int} (h0 : 0 ≤ v) (h1 : v ≤ 9) : RNG (wr h 132 i v) := wrR hr (Or.inl (lkd_1 (by decide +kernel))) (fun v hv => by rw [hB_132]; exact hv) h0 h1 ⟨by omega, by omega⟩
theorem hB_133 (i : Int) : hav 133 i = (0, 0, 9, 1) := by
  unfold hav
  rw [show RGL[(133 : Int).toNat]? = some [(0, 0, 9, 1)] by decide +kernel]
  simp only [List.length_singleton, Nat.mod_one]
  rfl
theorem rB_133 {h : LH} (hr : RNG h) {i : Int} (hi : 0 ≤ i ∧ i < 10) : 0 ≤ rd h 133 i ∧ rd h 133 i ≤ 9 := by
  have q := rdP (a := 133) (i := i) (lo := 0) (hi := 9) (st := 1) hr (vldA (n := 10) (k := 1) (by decide +kernel) (by decide +kernel) hi) (Or.inl (lkd_1 (by decide +kernel))) (fun v hv => by rw [hB_133] at hv; exact hv)
  exact ⟨q.1, q.2.1⟩
theorem wS_133 {h : LH} (hr : RNG h) {i v : Int} (h0 : 0 ≤ v) (h1 : v ≤ 9) : RNG (wr h 133 i v) := wrR hr (Or.inl (lkd_1 (by decide +kernel))) (fun v hv => by rw [hB_133]; exact hv) h0 h1 ⟨by omega, by omega⟩
-- copies of rows
theorem rd_cp0 {g h : LH} {a b x i : Int} : ∀ k : Nat, rd (cpyL g a 0 b 0 k ++ h) x i = if x = b ∧ 0 ≤ i ∧ i < k then rd g a i else rd h x i
  | 0 => by rw [if_neg (by omega)]; rfl
  | k + 1 => by
    have ih := rd_cp0 (g := g) (h := h) (a := a) (b := b) (x := x) (i := i) k
    have e : cpyL g a 0 b 0 (k + 1) ++ h = wr (cpyL g a 0 b 0 k ++ h) b (0 + k) (rd g a (0 + k)) := rfl
    rw [e, rd_wr, ih]
    by_cases c : b = x ∧ (0 + (k : Int)) = i
    · obtain ⟨rfl, rfl⟩ := c
      rw [if_pos ⟨rfl, rfl⟩, if_pos ⟨rfl, by omega, by omega⟩]
    · rw [if_neg c]
      by_cases c2 : x = b ∧ 0 ≤ i ∧ i < k
      · rw [if_pos c2, if_pos ⟨c2.1, by omega, by omega⟩]
      · rw [if_neg c2, if_neg (by omega)]
theorem rd_cp0n {g h : LH} {a b x i : Int} {k : Nat} (hx : x ≠ b) : rd (cpyL g a 0 b 0 k ++ h) x i = rd h x i := by rw [rd_cp0, if_neg (fun q => hx q.1)]
theorem RNG_cp0 {g h : LH} {a b : Int} (hw : ∀ (f : LH) (j : Nat), RNG f → RNG (wr f b (0 + (j : Int)) (rd g a (0 + (j : Int)))) ∨ ¬ True) (hr : RNG h) : ∀ k : Nat, RNG (cpyL g a 0 b 0 k ++ h)
  | 0 => hr
  | k + 1 => by
    have ih := RNG_cp0 (g := g) (h := h) hw hr k
    exact (hw _ k ih).elim id (fun q => absurd trivial q)
theorem RNG_cpk {g h : LH} {a b : Int} {n : Nat} (hw : ∀ (f : LH) (j : Nat), j < n → RNG f → RNG (wr f b (0 + (j : Int)) (rd g a (0 + (j : Int))))) (hr : RNG h) : ∀ k : Nat, k ≤ n → RNG (cpyL g a 0 b 0 k ++ h)
  | 0, _ => hr
  | k + 1, hk => hw _ k (by omega) (RNG_cpk (g := g) (h := h) hw hr k (by omega))
