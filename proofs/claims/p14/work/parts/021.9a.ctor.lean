/-! LM, part 9a, by program (wip/p2/lmsim.py): the constructors, run by the kernel in pieces -/
/-- one instruction that reads nothing of the script -/
def lmIz (o n : Nat) (ini : Bool) (i : Instr) (pc len : Nat) (ls : LL) (st : List LV) (h : LH) : Option (Nat × LL × List LV × Nat × LH) := match i with
  | .arraylength => none
  | _ => lmI o n ini (fun _ => 0) 0 i pc len ls st h
def lmRunZ : Nat → Nat → LM_M → Nat → LL → List LV → Nat → LH → Option (Option LV × Nat × LH)
  | 0, _, _, _, _, _, _, _ => none
  | f + 1, d, M, pc, ls, st, n, h =>
    match decode M.2.1 pc with
    | .error _ => none
    | .ok (i, len) => if ilen i len = false then none else match lmR M.2.2.2.1 i st with
      | some r => some (r, n, h)
      | none => match lmK M.2.2.2.2.1 n i st with
        | some (k, as, rest) => match d with
          | 0 => none
          | d' + 1 => match MTB k with
            | none => none
            | some M' => match lmRunZ f d' M' 0 (lpad M'.2.2.1 (lent as)) [] n h with
              | none => none
              | some (r, n', h') => lmRunZ f d M (pc + 3) ls (r.toList ++ rest) n' h'
        | none => match lmIz M.2.2.2.2.1 n (M.1.name == "<init>") i pc len ls st h with
          | none => none
          | some (pc', ls', st', n', h') => lmRunZ f d M pc' ls' st' n' h'
/-- so many instructions of the top frame -/
def lmGoZ (F : Nat) : Nat → Nat → LM_M → Nat → LL → List LV → Nat → LH → Option (Nat × LL × List LV × Nat × LH)
  | 0, _, _, pc, ls, st, n, h => some (pc, ls, st, n, h)
  | k + 1, d, M, pc, ls, st, n, h =>
    match decode M.2.1 pc with
    | .error _ => none
    | .ok (i, len) => if ilen i len = false then none else match lmR M.2.2.2.1 i st with
      | some _ => none
      | none => match lmK M.2.2.2.2.1 n i st with
        | some (j, as, rest) => match d with
          | 0 => none
          | d' + 1 => match MTB j with
            | none => none
            | some M' => match lmRunZ F d' M' 0 (lpad M'.2.2.1 (lent as)) [] n h with
              | none => none
              | some (r, n', h') => lmGoZ F k d M (pc + 3) ls (r.toList ++ rest) n' h'
        | none => match lmIz M.2.2.2.2.1 n (M.1.name == "<init>") i pc len ls st h with
          | none => none
          | some (pc', ls', st', n', h') => lmGoZ F k d M pc' ls' st' n' h'
def eqLV (a b : LV) : Bool := match a, b with
  | .inl x, .inl y => decide (x = y)
  | .inr (.inl x), .inr (.inl y) => decide (x = y)
  | .inr (.inr x), .inr (.inr y) => decide (x = y)
  | _, _ => false
theorem eqLV_ok (a b : LV) (h : eqLV a b = true) : a = b := by
  rcases a with x | x | x <;> rcases b with y | y | y <;> simp only [eqLV, decide_eq_true_eq] at h <;> first | (rw [h]; done) | (cases h; done)
def eqO (a b : Option LV) : Bool := match a, b with
  | none, none => true
  | some x, some y => eqLV x y
  | _, _ => false
theorem eqO_ok (a b : Option LV) (h : eqO a b = true) : a = b := by
  cases a <;> cases b <;> simp only [eqO] at h <;> first | rfl | (rw [eqLV_ok _ _ h]; done) | (cases h; done)
def eqT (a b : Int × Int × Int) : Bool := decide (a.1 = b.1) && decide (a.2.1 = b.2.1) && decide (a.2.2 = b.2.2)
theorem eqT_ok (a b : Int × Int × Int) (h : eqT a b = true) : a = b := by
  obtain ⟨x, y, z⟩ := a
  obtain ⟨u, v, w⟩ := b
  simp only [eqT, Bool.and_eq_true, decide_eq_true_eq] at h
  rw [h.1.1, h.1.2, h.2]
def eqLs {α : Type} (f : α → α → Bool) : List α → List α → Bool
  | [], [] => true
  | a :: as, b :: bs => f a b && eqLs f as bs
  | _, _ => false
theorem eqLs_ok {α : Type} {f : α → α → Bool} (hf : ∀ a b, f a b = true → a = b) : ∀ (l m : List α), eqLs f l m = true → l = m
  | [], [], _ => rfl
  | a :: as, b :: bs, h => by
    unfold eqLs at h
    rw [Bool.and_eq_true] at h
    rw [hf a b h.1, eqLs_ok hf as bs h.2]
  | [], b :: bs, h => by cases h
  | a :: as, [], h => by cases h
def goOk (x : Option (Nat × LL × List LV × Nat × LH)) (pc : Nat) (ls : LL) (st : List LV) (n : Nat) (h : LH) : Bool := match x with
  | some (a, b, c, d, e) => decide (a = pc) && eqLs eqO b ls && eqLs eqLV c st && decide (d = n) && eqLs eqT e h
  | none => false
theorem goOk_ok {x : Option (Nat × LL × List LV × Nat × LH)} {pc : Nat} {ls : LL} {st : List LV} {n : Nat} {h : LH} (q : goOk x pc ls st n h = true) : x = some (pc, ls, st, n, h) := by
  unfold goOk at q
  split at q
  · next a b c d e =>
    simp only [Bool.and_eq_true, decide_eq_true_eq] at q
    obtain ⟨⟨⟨⟨q1, q2⟩, q3⟩, q4⟩, q5⟩ := q
    rw [q1, eqLs_ok eqO_ok _ _ q2, eqLs_ok eqLV_ok _ _ q3, q4, eqLs_ok eqT_ok _ _ q5]
  · cases q
def callOk (x : Option (Nat × List LV × List LV)) (k : Nat) (as rest : List LV) : Bool := match x with
  | some (a, b, c) => decide (a = k) && eqLs eqLV b as && eqLs eqLV c rest
  | none => false
theorem callOk_ok {x : Option (Nat × List LV × List LV)} {k : Nat} {as rest : List LV} (q : callOk x k as rest = true) : x = some (k, as, rest) := by
  unfold callOk at q
  split at q
  · next a b c =>
    simp only [Bool.and_eq_true, decide_eq_true_eq] at q
    rw [q.1.1, eqLs_ok eqLV_ok _ _ q.1.2, eqLs_ok eqLV_ok _ _ q.2]
  · cases q
theorem lmG_z {o n : Nat} {xs : Nat → Int} {xl : Nat} {i : Instr} {st st' : List LV} {h : LH} (hi : i ≠ .arraylength) (hg : lmG o n (fun _ => 0) 0 i st h = some st') : lmG o n xs xl i st h = some st' := by
  cases i with
  | arraylength => exact absurd rfl hi
  | iaload =>
    unfold lmG at hg ⊢
    simp only at hg ⊢
    split at hg
    · next a r =>
      split at hg
      · split at hg
        · next c => exact absurd c.2 (by omega)
        · cases hg
      · next c => rw [if_neg c]; exact hg
    · cases hg
  | _ => exact hg
theorem lmSt_3 {i : Instr} (h : icls i = 3) (v : LV) : lmSt i v = none := by
  cases i <;> first | rfl | (exact absurd h (show (8 : Nat) ≠ 3 by decide))
theorem lmIz_ok {o n : Nat} {ini : Bool} {xs : Nat → Int} {xl : Nat} {i : Instr} {pc len : Nat} {ls : LL} {st : List LV} {h : LH} {q : Nat × LL × List LV × Nat × LH} (hz : lmIz o n ini i pc len ls st h = some q) : lmI o n ini xs xl i pc len ls st h = some q := by
  have hi : i ≠ .arraylength := by
    intro e
    subst e
    unfold lmIz at hz
    cases hz
  have hz2 : lmI o n ini (fun _ => 0) 0 i pc len ls st h = some q := by
    unfold lmIz at hz
    split at hz
    · cases hz
    · exact hz
  clear hz
  by_cases h3 : icls i = 3
  · have a1 := cls_A (i := i) (by omega) st
    have a2 := cls_Ld (i := i) (by omega) ls
    have a4 := cls_J (i := i) (by omega) pc len st
    have a5 := cls_Inc (i := i) (by omega) ls
    have a6 := cls_P (i := i) (by omega) (by omega) o n ini st h
    have a7 := cls_C (i := i) (by omega) o
    have a8 := cls_Q (i := i) (by omega) o n st h
    have a9 := cls_N (i := i) (by omega) o n st
    have a10 := cls_X (i := i) (by omega) o st
    unfold lmI at hz2 ⊢
    rw [a1] at hz2 ⊢
    simp only at hz2 ⊢
    rw [a2] at hz2 ⊢
    simp only at hz2 ⊢
    cases hg : lmG o n (fun _ => 0) 0 i st h with
    | some st' =>
      rw [hg] at hz2
      rw [lmG_z hi hg]
      exact hz2
    | none =>
      rw [hg, a4, a5, a6, a7, a8, a9, a10] at hz2
      simp only at hz2
      split at hz2
      · next v r => rw [lmSt_3 h3 v] at hz2; cases hz2
      · cases hz2
  · have g1 := cls_G h3 o n xs xl st h
    have g2 := cls_G h3 o n (fun _ => 0) 0 st h
    unfold lmI at hz2 ⊢
    rw [g2] at hz2
    rw [g1]
    exact hz2
theorem lmRunZ_ok {xs : Nat → Int} {xl : Nat} : ∀ (f d : Nat) (M : LM_M) (pc : Nat) (ls : LL) (st : List LV) (n : Nat) (h : LH) (x : Option LV × Nat × LH), lmRunZ f d M pc ls st n h = some x → lmRun xs xl f d M pc ls st n h = some x := by
  intro f
  induction f with
  | zero => intro d M pc ls st n h x q; cases q
  | succ f ih =>
    intro d M pc ls st n h x q
    unfold lmRunZ at q
    unfold lmRun
    split at q
    · cases q
    · next i len hdec =>
      (try rw [hdec])
      (try simp only)
      by_cases hlen : ilen i len = false
      · rw [if_pos hlen] at q
        cases q
      · rw [if_neg hlen] at q ⊢
        split at q
        · next r h1 =>
          (try rw [h1])
          exact q
        · next h1 =>
          (try rw [h1])
          (try simp only)
          split at q
          · next k as rest hk =>
            (try rw [hk])
            (try simp only)
            split at q
            · cases q
            · next d1 =>
              (try simp only)
              split at q
              · cases q
              · next M' hM =>
                (try rw [hM])
                (try simp only)
                split at q
                · cases q
                · next r n' h' h2 =>
                  rw [ih _ _ _ _ _ _ _ _ h2]
                  exact ih _ _ _ _ _ _ _ _ q
          · next hk =>
            (try rw [hk])
            (try simp only)
            split at q
            · cases q
            · next pc' ls' st' n' h' hI =>
              rw [lmIz_ok hI]
              exact ih _ _ _ _ _ _ _ _ q
theorem lmGoZ_ok {xs : Nat → Int} {xl F : Nat} : ∀ (k d : Nat) (M : LM_M) (pc : Nat) (ls : LL) (st : List LV) (n : Nat) (h : LH) (pc' : Nat) (ls' : LL) (st' : List LV) (n' : Nat) (h' : LH) (x : Option LV × Nat × LH), lmGoZ F k d M pc ls st n h = some (pc', ls', st', n', h') → (∃ f, lmRun xs xl f d M pc' ls' st' n' h' = some x) → ∃ f, lmRun xs xl f d M pc ls st n h = some x := by
  intro k
  induction k with
  | zero =>
    intro d M pc ls st n h pc' ls' st' n' h' x q r
    unfold lmGoZ at q
    cases q
    exact r
  | succ k ih =>
    intro d M pc ls st n h pc' ls' st' n' h' x q r
    unfold lmGoZ at q
    split at q
    · cases q
    · next i len hdec =>
      by_cases hlen : ilen i len = false
      · rw [if_pos hlen] at q
        cases q
      · rw [if_neg hlen] at q
        split at q
        · cases q
        · next h1 =>
          split at q
          · next j as rest hk =>
            split at q
            · cases q
            · next d1 =>
              split at q
              · cases q
              · next M' hM =>
                split at q
                · cases q
                · next r2 n2 h2 hr2 =>
                  obtain ⟨f, hf⟩ := ih _ _ _ _ _ _ _ _ _ _ _ _ _ q r
                  have g2 := lmRunZ_ok (xs := xs) (xl := xl) _ _ _ _ _ _ _ _ _ hr2
                  refine ⟨max f F + 1, ?_⟩
                  unfold lmRun
                  rw [hdec]
                  simp only
                  rw [if_neg hlen, h1]
                  simp only
                  rw [hk]
                  simp only
                  rw [hM]
                  simp only
                  rw [lmRun_le F (max f F) d1 d1 _ _ _ _ _ _ _ (Nat.le_max_right _ _) (Nat.le_refl _) g2]
                  exact lmRun_le f (max f F) (d1 + 1) (d1 + 1) _ _ _ _ _ _ _ (Nat.le_max_left _ _) (Nat.le_refl _) hf
          · next hk =>
            split at q
            · cases q
            · next pc2 ls2 st2 n2 h2 hI =>
              obtain ⟨f, hf⟩ := ih _ _ _ _ _ _ _ _ _ _ _ _ _ q r
              refine ⟨f + 1, ?_⟩
              unfold lmRun
              rw [hdec]
              simp only
              rw [if_neg hlen, h1]
              simp only
              rw [hk]
              simp only
              rw [lmIz_ok hI]
              exact hf
/-- a call by what its method does -/
theorem run_call {xs : Nat → Int} {xl d : Nat} {M : LM_M} {pc : Nat} {ls : LL} {st : List LV} {n : Nat} {h : LH} {i : Instr} {k : Nat} {as rest : List LV} {M' : LM_M} {r : Option LV} {n' : Nat} {h' : LH} {x : Option LV × Nat × LH} (hdec : decode M.2.1 pc = .ok (i, 3)) (hl : ilen i 3 = true) (hR : lmR M.2.2.2.1 i st = none) (hK : lmK M.2.2.2.2.1 n i st = some (k, as, rest)) (hM : MTB k = some M') (hc : ∃ f, lmRun xs xl f d M' 0 (lpad M'.2.2.1 (lent as)) [] n h = some (r, n', h')) (kk : ∃ f, lmRun xs xl f (d + 1) M (pc + 3) ls (r.toList ++ rest) n' h' = some x) : ∃ f, lmRun xs xl f (d + 1) M pc ls st n h = some x := by
  obtain ⟨f, hf⟩ := hc
  obtain ⟨f2, hf2⟩ := kk
  refine ⟨max f f2 + 1, ?_⟩
  unfold lmRun
  rw [hdec]
  simp only
  rw [if_neg (by rw [hl]; decide), hR]
  simp only
  rw [hK]
  simp only
  rw [hM]
  simp only
  rw [lmRun_le f (max f f2) d d _ _ _ _ _ _ _ (Nat.le_max_left _ _) (Nat.le_refl _) hf]
  exact lmRun_le f2 (max f f2) (d + 1) (d + 1) _ _ _ _ _ _ _ (Nat.le_max_right _ _) (Nat.le_refl _) hf2
theorem run_ret {xs : Nat → Int} {xl d : Nat} {M : LM_M} {pc : Nat} {ls : LL} {st : List LV} {n : Nat} {h : LH} {r : Option LV} {i : Instr} {len : Nat} (hdec : decode M.2.1 pc = .ok (i, len)) (hl : ilen i len = true) (hR : lmR M.2.2.2.1 i st = some r) : ∃ f, lmRun xs xl f d M pc ls st n h = some (r, n, h) := by
  refine ⟨1, ?_⟩
  unfold lmRun
  rw [hdec]
  simp only
  rw [if_neg (by rw [hl]; decide), hR]
theorem run_step {xs : Nat → Int} {xl d : Nat} {M : LM_M} {pc : Nat} {ls : LL} {st : List LV} {n : Nat} {h : LH} {i : Instr} {len : Nat} {pc' : Nat} {ls' : LL} {st' : List LV} {n' : Nat} {h' : LH} {x : Option LV × Nat × LH} (hdec : decode M.2.1 pc = .ok (i, len)) (hl : ilen i len = true) (hR : lmR M.2.2.2.1 i st = none) (hK : lmK M.2.2.2.2.1 n i st = none) (hI : lmI M.2.2.2.2.1 n (M.1.name == "<init>") xs xl i pc len ls st h = some (pc', ls', st', n', h')) (kk : ∃ f, lmRun xs xl f d M pc' ls' st' n' h' = some x) : ∃ f, lmRun xs xl f d M pc ls st n h = some x := by
  obtain ⟨f, hf⟩ := kk
  refine ⟨f + 1, ?_⟩
  unfold lmRun
  rw [hdec]
  simp only
  rw [if_neg (by rw [hl]; decide), hR]
  simp only
  rw [hK]
  simp only
  rw [hI]
  exact hf
def mm_Reader_init : LM_M := (⟨"OneSided$Reader", "<init>", "()V"⟩, prog_9_method_1_code, 4, none, 7, 1, 0, 34, 33, 0)
def mm_OneSided_init : LM_M := (⟨"OneSided", "<init>", "()V"⟩, prog_1_method_1_code, 2, none, 11, 1, 0, 26, 25, 0)
def mm_init : LM_M := (⟨"OneSidedModel", "<init>", "()V"⟩, prog_14_method_4_code, 1, none, 12, 1, 0, 1200, 1199, 0)
def hc_10 : LH := (4, 1, 4591) :: (4, 1, 143) :: (4, 1, 4) :: (4, 0, 19381683) :: (4, 0, 605677) :: (4, 0, 18927) :: (4, 0, 591) :: (4, 0, 18) :: (2, 2, 4) :: (2, 1, 3) :: ([] : LH)
def hc_18 : LH := (4, 4, 6) :: (4, 3, 508078) :: (4, 3, 15877) :: (4, 3, 496) :: (4, 3, 15) :: (4, 2, 655) :: (4, 2, 20) :: (4, 1, 146930) :: hc_10
def hc_27 : LH := (4, 6, 530) :: (4, 6, 16) :: (4, 5, 8892563) :: (4, 5, 277892) :: (4, 5, 8684) :: (4, 5, 271) :: (4, 5, 8) :: (4, 4, 6642) :: (4, 4, 207) :: hc_18
def hc_36 : LH := (4, 7, 542723566) :: (4, 7, 16960111) :: (4, 7, 530003) :: (4, 7, 16562) :: (4, 7, 517) :: (4, 7, 16) :: (4, 6, 17376357) :: (4, 6, 543011) :: (4, 6, 16969) :: hc_27
def hc_44 : LH := (4, 9, 187237828) :: (4, 9, 5851182) :: (4, 9, 182849) :: (4, 9, 5714) :: (4, 9, 178) :: (4, 9, 5) :: (4, 8, 52) :: (4, 8, 1) :: hc_36
def hc_52 : LH := (4, 13, 8) :: (4, 12, 239) :: (4, 12, 7) :: (4, 11, 12468) :: (4, 11, 389) :: (4, 11, 12) :: (4, 10, 89) :: (4, 10, 2) :: hc_44
def hc_60 : LH := (4, 14, 17171758) :: (4, 14, 536617) :: (4, 14, 16769) :: (4, 14, 524) :: (4, 14, 16) :: (4, 13, 278194) :: (4, 13, 8693) :: (4, 13, 271) :: hc_52
def hc_69 : LH := (4, 16, 265) :: (4, 16, 8) :: (4, 15, 22198822343) :: (4, 15, 693713198) :: (4, 15, 21678537) :: (4, 15, 677454) :: (4, 15, 21170) :: (4, 15, 661) :: (4, 15, 20) :: hc_60
def hc_78 : LH := (4, 18, 20) :: (4, 17, 2491851) :: (4, 17, 77870) :: (4, 17, 2433) :: (4, 17, 76) :: (4, 17, 2) :: (4, 16, 8698085) :: (4, 16, 271815) :: (4, 16, 8494) :: hc_69
def hc_87 : LH := (4, 19, 638340) :: (4, 19, 19948) :: (4, 19, 623) :: (4, 19, 19) :: (4, 18, 676791764) :: (4, 18, 21149742) :: (4, 18, 660929) :: (4, 18, 20654) :: (4, 18, 645) :: hc_78
def hc_95 : LH := (4, 20, 3417476) :: (4, 20, 106796) :: (4, 20, 3337) :: (4, 20, 104) :: (4, 20, 3) :: (4, 19, 20917134514) :: (4, 19, 653660453) :: (4, 19, 20426889) :: hc_87
def hc_104 : LH := (4, 23, 1476) :: (4, 23, 46) :: (4, 23, 1) :: (4, 22, 14836) :: (4, 22, 463) :: (4, 22, 14) :: (4, 21, 3124) :: (4, 21, 97) :: (4, 21, 3) :: hc_95
def hc_112 : LH := (4, 26, 623) :: (4, 26, 19) :: (4, 25, 664997) :: (4, 25, 20781) :: (4, 25, 649) :: (4, 25, 20) :: (4, 24, 498) :: (4, 24, 15) :: hc_104
def hc_120 : LH := (4, 28, 591) :: (4, 28, 18) :: (4, 27, 114292) :: (4, 27, 3571) :: (4, 27, 111) :: (4, 27, 3) :: (4, 26, 638548) :: (4, 26, 19954) :: hc_112
def hc_122 : LH := (4, 28, 605677) :: (4, 28, 18927) :: hc_120
def hc_151 : LH := (1, 1, 5) :: (7, 5, 31) :: (7, 4, 30) :: (7, 3, 29) :: (7, 2, 28) :: (7, 1, 27) :: (7, 0, 26) :: (6, 13, 25) :: (6, 12, 24) :: (6, 11, 23) :: (6, 10, 22) :: (6, 9, 21) :: (6, 8, 20) :: (6, 7, 19) :: (6, 6, 18) :: (6, 5, 17) :: (6, 4, 16) :: (6, 3, 15) :: (6, 2, 14) :: (6, 1, 13) :: (6, 0, 12) :: (5, 9, 11) :: (5, 8, 10) :: (5, 7, 9) :: (5, 5, 8) :: (5, 3, 7) :: (5, 1, 6) :: (5, 0, 2) :: (1, 0, 2) :: hc_122
def hc_179 : LH := (1, 2, 32) :: (34, 5, 58) :: (34, 4, 57) :: (34, 3, 56) :: (34, 2, 55) :: (34, 1, 54) :: (34, 0, 53) :: (33, 13, 52) :: (33, 12, 51) :: (33, 11, 50) :: (33, 10, 49) :: (33, 9, 48) :: (33, 8, 47) :: (33, 7, 46) :: (33, 6, 45) :: (33, 5, 44) :: (33, 4, 43) :: (33, 3, 42) :: (33, 2, 41) :: (33, 1, 40) :: (33, 0, 39) :: (32, 9, 38) :: (32, 8, 37) :: (32, 7, 36) :: (32, 5, 35) :: (32, 3, 34) :: (32, 1, 33) :: (32, 0, 2) :: hc_151
def hc_246 : LH := (75, 2, 118) :: (118, 6, 125) :: (118, 5, 124) :: (118, 3, 123) :: (118, 2, 122) :: (118, 0, 119) :: (119, 5, 121) :: (119, 4, 120) :: (75, 1, 110) :: (110, 6, 117) :: (110, 5, 116) :: (110, 3, 115) :: (110, 2, 114) :: (110, 0, 111) :: (111, 5, 113) :: (111, 4, 112) :: (75, 0, 102) :: (102, 6, 109) :: (102, 5, 108) :: (102, 3, 107) :: (102, 2, 106) :: (102, 0, 103) :: (103, 5, 105) :: (103, 4, 104) :: (1, 14, 96) :: (96, 6, 101) :: (96, 5, 100) :: (96, 4, 99) :: (96, 3, 98) :: (96, 2, 97) :: (1, 13, 90) :: (90, 12, 95) :: (90, 11, 94) :: (90, 10, 93) :: (90, 9, 92) :: (90, 8, 91) :: (1, 12, 84) :: (84, 4, 89) :: (84, 3, 88) :: (84, 2, 87) :: (84, 1, 86) :: (84, 0, 85) :: (1, 11, 80) :: (80, 2, 83) :: (80, 1, 82) :: (80, 0, 81) :: (1, 10, 77) :: (77, 2, 79) :: (77, 1, 78) :: (1, 7, 76) :: (1, 5, 75) :: (1, 4, 67) :: (67, 6, 74) :: (67, 5, 73) :: (67, 3, 72) :: (67, 2, 71) :: (67, 0, 68) :: (68, 5, 70) :: (68, 4, 69) :: (1, 3, 59) :: (59, 6, 66) :: (59, 5, 65) :: (59, 3, 64) :: (59, 2, 63) :: (59, 0, 60) :: (60, 5, 62) :: (60, 4, 61) :: hc_179
def hc_293 : LH := (76, 12, 170) :: (170, 5, 172) :: (170, 4, 171) :: (76, 11, 167) :: (167, 5, 169) :: (167, 4, 168) :: (76, 10, 164) :: (164, 5, 166) :: (164, 4, 165) :: (76, 9, 161) :: (161, 5, 163) :: (161, 4, 162) :: (76, 8, 158) :: (158, 5, 160) :: (158, 4, 159) :: (76, 7, 155) :: (155, 5, 157) :: (155, 4, 156) :: (76, 6, 152) :: (152, 5, 154) :: (152, 4, 153) :: (76, 5, 149) :: (149, 5, 151) :: (149, 4, 150) :: (76, 4, 146) :: (146, 5, 148) :: (146, 4, 147) :: (76, 3, 143) :: (143, 5, 145) :: (143, 4, 144) :: (76, 2, 140) :: (140, 5, 142) :: (140, 4, 141) :: (76, 1, 137) :: (137, 5, 139) :: (137, 4, 138) :: (76, 0, 134) :: (134, 5, 136) :: (134, 4, 135) :: (75, 3, 126) :: (126, 6, 133) :: (126, 5, 132) :: (126, 3, 131) :: (126, 2, 130) :: (126, 0, 127) :: (127, 5, 129) :: (127, 4, 128) :: hc_246
def hc_302 : LH := (76, 15, 179) :: (179, 5, 181) :: (179, 4, 180) :: (76, 14, 176) :: (176, 5, 178) :: (176, 4, 177) :: (76, 13, 173) :: (173, 5, 175) :: (173, 4, 174) :: hc_293
def hc_363 : LH := (182, 51, 212) :: (182, 50, 211) :: (182, 49, 210) :: (182, 44, 209) :: (182, 43, 208) :: (182, 41, 207) :: (182, 40, 206) :: (182, 39, 205) :: (182, 38, 204) :: (182, 37, 203) :: (182, 33, 202) :: (182, 32, 201) :: (182, 29, -1) :: (182, 28, -1) :: (182, 27, 200) :: (182, 26, 199) :: (182, 24, 198) :: (182, 23, 197) :: (182, 22, 196) :: (182, 20, 195) :: (182, 17, 194) :: (182, 16, 193) :: (182, 15, 192) :: (182, 14, 191) :: (182, 12, 190) :: (182, 11, 189) :: (182, 10, 188) :: (182, 9, 187) :: (187, 28, 932857) :: (187, 27, 173217) :: (187, 26, 983628) :: (187, 25, 1025867) :: (187, 24, 573) :: (187, 23, 1891) :: (187, 22, 19741) :: (187, 21, 4164) :: (187, 20, 6040476) :: (187, 19, 49811666194) :: (187, 18, 1396960994) :: (187, 17, 4358056) :: (187, 16, 15468595) :: (187, 15, 52805208163) :: (187, 14, 30596128) :: (187, 13, 426554) :: (187, 12, 274) :: (187, 11, 16633) :: (187, 10, 99) :: (187, 9, 381368328) :: (187, 8, 57) :: (187, 7, 1119812451) :: (187, 6, 30910767) :: (187, 5, 15769678) :: (187, 4, 8787) :: (187, 3, 781898) :: (187, 2, 755) :: (187, 1, 223720) :: (187, 0, 34515728) :: (182, 6, 186) :: (182, 5, 185) :: (182, 4, 184) :: (182, 1, 183) :: hc_302
def hc_514 : LH := (188, 3, -1) :: (188, 149, 0) :: (188, 148, 0) :: (188, 147, 0) :: (188, 146, 0) :: (188, 145, 0) :: (188, 144, 0) :: (188, 143, 0) :: (188, 142, 0) :: (188, 141, 0) :: (188, 140, 0) :: (188, 139, 0) :: (188, 138, 0) :: (188, 137, 0) :: (188, 136, 0) :: (188, 135, 0) :: (188, 134, 0) :: (188, 133, 0) :: (188, 132, 0) :: (188, 131, 0) :: (188, 130, 0) :: (188, 129, 0) :: (188, 128, 0) :: (188, 127, 0) :: (188, 126, 0) :: (188, 125, 0) :: (188, 124, 0) :: (188, 123, 0) :: (188, 122, 0) :: (188, 121, 0) :: (188, 120, 0) :: (188, 119, 0) :: (188, 118, 0) :: (188, 117, 0) :: (188, 116, 0) :: (188, 115, 0) :: (188, 114, 0) :: (188, 113, 0) :: (188, 112, 0) :: (188, 111, 0) :: (188, 110, 0) :: (188, 109, 0) :: (188, 108, 0) :: (188, 107, 0) :: (188, 106, 0) :: (188, 105, 0) :: (188, 104, 0) :: (188, 103, 0) :: (188, 102, 0) :: (188, 101, 0) :: (188, 100, 0) :: (188, 99, 0) :: (188, 98, 0) :: (188, 97, 0) :: (188, 96, 0) :: (188, 95, 0) :: (188, 94, 0) :: (188, 93, 0) :: (188, 92, 0) :: (188, 91, 0) :: (188, 90, 0) :: (188, 89, 0) :: (188, 88, 0) :: (188, 87, 0) :: (188, 86, 0) :: (188, 85, 0) :: (188, 84, 0) :: (188, 83, 0) :: (188, 82, 0) :: (188, 81, 0) :: (188, 80, 0) :: (188, 79, 0) :: (188, 78, 0) :: (188, 77, 0) :: (188, 76, 0) :: (188, 75, 0) :: (188, 74, 0) :: (188, 73, 0) :: (188, 72, 0) :: (188, 71, 0) :: (188, 70, 0) :: (188, 69, 0) :: (188, 68, 0) :: (188, 67, 0) :: (188, 66, 0) :: (188, 65, 0) :: (188, 64, 0) :: (188, 63, 0) :: (188, 62, 0) :: (188, 61, 0) :: (188, 60, 0) :: (188, 59, 0) :: (188, 58, 0) :: (188, 57, 0) :: (188, 56, 0) :: (188, 55, 0) :: (188, 54, 0) :: (188, 53, 0) :: (188, 52, 0) :: (188, 51, 0) :: (188, 50, 0) :: (188, 49, 0) :: (188, 48, 0) :: (188, 47, 0) :: (188, 46, 0) :: (188, 45, 0) :: (188, 44, 0) :: (188, 43, 0) :: (188, 42, 0) :: (188, 41, 0) :: (188, 40, 0) :: (188, 39, 0) :: (188, 38, 0) :: (188, 37, 0) :: (188, 36, 0) :: (188, 35, 0) :: (188, 34, 0) :: (188, 33, 0) :: (188, 32, 0) :: (188, 31, 0) :: (188, 30, 0) :: (188, 29, 0) :: (188, 28, 0) :: (188, 27, 0) :: (188, 26, 0) :: (188, 25, 0) :: (188, 24, 0) :: (188, 23, 0) :: (188, 22, 0) :: (188, 21, 0) :: (188, 20, 0) :: (188, 19, 0) :: (188, 18, 0) :: (188, 17, 0) :: (188, 16, 0) :: (188, 15, 0) :: (188, 14, 0) :: (188, 13, 0) :: (188, 12, 0) :: (188, 11, 0) :: (188, 10, 0) :: (188, 9, 0) :: (188, 8, 0) :: (188, 7, 0) :: (188, 6, 0) :: (188, 5, 0) :: (188, 4, 0) :: (188, 3, 0) :: (188, 2, 0) :: (188, 1, 0) :: (188, 0, 0) :: hc_363
def hc_515 : LH := (188, 0, 2) :: hc_514
def hc_556 : LH := (199, 3, 0) :: (199, 2, 0) :: (199, 1, 0) :: (199, 0, 0) :: (182, 25, 0) :: (195, 0, 0) :: (198, 34, 0) :: (198, 1, 0) :: (198, 33, 0) :: (198, 32, 0) :: (198, 31, 0) :: (198, 30, 0) :: (198, 29, 0) :: (198, 28, 0) :: (198, 27, 0) :: (198, 26, 0) :: (198, 25, 0) :: (198, 24, 0) :: (198, 23, 0) :: (198, 22, 0) :: (198, 21, 0) :: (198, 20, 0) :: (198, 19, 0) :: (198, 13, 1) :: (198, 7, 0) :: (198, 18, 0) :: (198, 12, 1) :: (198, 6, 0) :: (198, 17, 0) :: (198, 11, 1) :: (198, 5, 0) :: (198, 16, 0) :: (198, 10, 1) :: (198, 4, 0) :: (198, 15, 0) :: (198, 9, 1) :: (198, 3, 0) :: (198, 14, 0) :: (198, 8, 1) :: (198, 2, 0) :: (198, 0, 0) :: hc_515
theorem go_rdr_0 : lmGoZ 4000 262 6 mm_Reader_init 0 [some (.inr (.inr (2))), none, none, none] [] 2 ([] : LH) = some (71, [some (.inr (.inr (2))), some (.inl (1)), some (.inl (9)), some (.inl (114))], [.inl (114), .inr (.inl (4591)), .inl (1), .inr (.inr (4))], 4, hc_10) := goOk_ok (by decide +kernel)
theorem go_rdr_262 : lmGoZ 4000 262 6 mm_Reader_init 71 [some (.inr (.inr (2))), some (.inl (1)), some (.inl (9)), some (.inl (114))] [.inl (114), .inr (.inl (4591)), .inl (1), .inr (.inr (4))] 4 hc_10 = some (71, [some (.inr (.inr (2))), some (.inl (4)), some (.inl (20)), some (.inl (111))], [.inl (111), .inr (.inl (6)), .inl (4), .inr (.inr (4))], 4, hc_18) := goOk_ok (by decide +kernel)
theorem go_rdr_524 : lmGoZ 4000 251 6 mm_Reader_init 71 [some (.inr (.inr (2))), some (.inl (4)), some (.inl (20)), some (.inl (111))] [.inl (111), .inr (.inl (6)), .inl (4), .inr (.inr (4))] 4 hc_18 = some (31, [some (.inr (.inr (2))), some (.inl (6)), some (.inl (31)), some (.inl (114))], [.inl (149), .inl (31)], 4, hc_27) := goOk_ok (by decide +kernel)
theorem go_rdr_775 : lmGoZ 4000 251 6 mm_Reader_init 31 [some (.inr (.inr (2))), some (.inl (6)), some (.inl (31)), some (.inl (114))] [.inl (149), .inl (31)] 4 hc_27 = some (28, [some (.inr (.inr (2))), some (.inl (7)), some (.inl (41)), some (.inl (110))], [.inr (.inr (-1)), .inl (41)], 4, hc_36) := goOk_ok (by decide +kernel)
theorem go_rdr_1026 : lmGoZ 4000 262 6 mm_Reader_init 28 [some (.inr (.inr (2))), some (.inl (7)), some (.inl (41)), some (.inl (110))] [.inr (.inr (-1)), .inl (41)] 4 hc_36 = some (28, [some (.inr (.inr (2))), some (.inl (10)), some (.inl (52)), some (.inl (32))], [.inr (.inr (-1)), .inl (52)], 4, hc_44) := goOk_ok (by decide +kernel)
theorem go_rdr_1288 : lmGoZ 4000 262 6 mm_Reader_init 28 [some (.inr (.inr (2))), some (.inl (10)), some (.inl (52)), some (.inl (32))] [.inr (.inr (-1)), .inl (52)] 4 hc_44 = some (28, [some (.inr (.inr (2))), some (.inl (13)), some (.inl (63)), some (.inl (104))], [.inr (.inr (-1)), .inl (63)], 4, hc_52) := goOk_ok (by decide +kernel)
theorem go_rdr_1550 : lmGoZ 4000 262 6 mm_Reader_init 28 [some (.inr (.inr (2))), some (.inl (13)), some (.inl (63)), some (.inl (104))] [.inr (.inr (-1)), .inl (63)] 4 hc_52 = some (69, [some (.inr (.inr (2))), some (.inl (15)), some (.inl (73)), some (.inl (116))], [.inl (15), .inr (.inr (4)), .inl (15), .inr (.inr (4))], 4, hc_60) := goOk_ok (by decide +kernel)
theorem go_rdr_1812 : lmGoZ 4000 251 6 mm_Reader_init 69 [some (.inr (.inr (2))), some (.inl (15)), some (.inl (73)), some (.inl (116))] [.inl (15), .inr (.inr (4)), .inl (15), .inr (.inr (4))] 4 hc_60 = some (68, [some (.inr (.inr (2))), some (.inl (16)), some (.inl (83)), some (.inl (110))], [.inr (.inr (4)), .inl (16), .inr (.inr (4))], 4, hc_69) := goOk_ok (by decide +kernel)
theorem go_rdr_2063 : lmGoZ 4000 251 6 mm_Reader_init 68 [some (.inr (.inr (2))), some (.inl (16)), some (.inl (83)), some (.inl (110))] [.inr (.inr (4)), .inl (16), .inr (.inr (4))] 4 hc_69 = some (25, [some (.inr (.inr (2))), some (.inl (18)), some (.inl (94)), some (.inl (116))], [], 4, hc_78) := goOk_ok (by decide +kernel)
theorem go_rdr_2314 : lmGoZ 4000 251 6 mm_Reader_init 25 [some (.inr (.inr (2))), some (.inl (18)), some (.inl (94)), some (.inl (116))] [] 4 hc_78 = some (78, [some (.inr (.inr (2))), some (.inl (19)), some (.inl (104)), some (.inl (100))], [], 4, hc_87) := goOk_ok (by decide +kernel)
theorem go_rdr_2565 : lmGoZ 4000 262 6 mm_Reader_init 78 [some (.inr (.inr (2))), some (.inl (19)), some (.inl (104)), some (.inl (100))] [] 4 hc_87 = some (64, [some (.inr (.inr (2))), some (.inl (21)), some (.inl (114)), some (.inl (99))], [.inl (21), .inr (.inr (4))], 4, hc_95) := goOk_ok (by decide +kernel)
theorem go_rdr_2827 : lmGoZ 4000 251 6 mm_Reader_init 64 [some (.inr (.inr (2))), some (.inl (21)), some (.inl (114)), some (.inl (99))] [.inl (21), .inr (.inr (4))] 4 hc_95 = some (75, [some (.inr (.inr (2))), some (.inl (23)), some (.inl (124)), some (.inl (100))], [], 4, hc_104) := goOk_ok (by decide +kernel)
theorem go_rdr_3078 : lmGoZ 4000 262 6 mm_Reader_init 75 [some (.inr (.inr (2))), some (.inl (23)), some (.inl (124)), some (.inl (100))] [] 4 hc_104 = some (75, [some (.inr (.inr (2))), some (.inl (26)), some (.inl (135)), some (.inl (111))], [], 4, hc_112) := goOk_ok (by decide +kernel)
theorem go_rdr_3340 : lmGoZ 4000 262 6 mm_Reader_init 75 [some (.inr (.inr (2))), some (.inl (26)), some (.inl (135)), some (.inl (111))] [] 4 hc_112 = some (63, [some (.inr (.inr (2))), some (.inl (28)), some (.inl (146)), some (.inl (111))], [.inr (.inr (4))], 4, hc_120) := goOk_ok (by decide +kernel)
theorem go_rdr_3602 : lmGoZ 4000 58 6 mm_Reader_init 63 [some (.inr (.inr (2))), some (.inl (28)), some (.inl (146)), some (.inl (111))] [.inr (.inr (4))] 4 hc_120 = some (81, [some (.inr (.inr (2))), some (.inl (29)), some (.inl (149)), some (.inl (32))], [], 4, hc_122) := goOk_ok (by decide +kernel)
theorem go_ini_0 : lmGoZ 4000 5 8 mm_OneSided_init 0 [some (.inr (.inr (1))), none] [] 1 ([] : LH) = some (9, [some (.inr (.inr (1))), none], [.inr (.inr (2)), .inr (.inr (2)), .inr (.inr (1))], 2, ([] : LH)) := goOk_ok (by decide +kernel)
theorem go_inj_6 : lmGoZ 4000 9 8 mm_OneSided_init 12 [some (.inr (.inr (1))), none] [.inr (.inr (2)), .inr (.inr (1))] 4 hc_122 = some (31, [some (.inr (.inr (1))), none], [.inr (.inr (32)), .inr (.inr (32)), .inr (.inr (1))], 32, hc_151) := goOk_ok (by decide +kernel)
theorem go_inj_15 : lmGoZ 4000 5 8 mm_OneSided_init 31 [some (.inr (.inr (1))), none] [.inr (.inr (32)), .inr (.inr (32)), .inr (.inr (1))] 32 hc_151 = some (42, [some (.inr (.inr (1))), none], [.inr (.inr (59)), .inr (.inr (59)), .inr (.inr (1))], 59, hc_179) := goOk_ok (by decide +kernel)
theorem go_inj_20 : lmGoZ 4000 80 8 mm_OneSided_init 42 [some (.inr (.inr (1))), none] [.inr (.inr (59)), .inr (.inr (59)), .inr (.inr (1))] 59 hc_179 = some (135, [some (.inr (.inr (1))), some (.inl (3))], [.inl (4), .inl (3)], 125, hc_246) := goOk_ok (by decide +kernel)
theorem go_inj_100 : lmGoZ 4000 172 8 mm_OneSided_init 135 [some (.inr (.inr (1))), some (.inl (3))] [.inl (4), .inl (3)] 125 hc_246 = some (160, [some (.inr (.inr (1))), some (.inl (13))], [.inl (13)], 172, hc_293) := goOk_ok (by decide +kernel)
theorem go_inj_272 : lmGoZ 4000 38 8 mm_OneSided_init 160 [some (.inr (.inr (1))), some (.inl (13))] [.inl (13)] 172 hc_293 = some (184, [some (.inr (.inr (1))), some (.inl (16))], [], 181, hc_302) := goOk_ok (by decide +kernel)
theorem go_mod_0 : lmGoZ 4000 246 8 mm_init 0 [some (.inr (.inr (182)))] [] 182 hc_302 = some (468, [some (.inr (.inr (182)))], [.inl (0), .inr (.inr (182))], 212, hc_363) := goOk_ok (by decide +kernel)
theorem go_mod_246 : lmGoZ 4000 1 8 mm_init 468 [some (.inr (.inr (182)))] [.inl (0), .inr (.inr (182))] 212 hc_363 = some (471, [some (.inr (.inr (182)))], [], 212, hc_514) := goOk_ok (by decide +kernel)
theorem go_mod_247 : lmGoZ 4000 6 8 mm_init 471 [some (.inr (.inr (182)))] [] 212 hc_514 = some (479, [some (.inr (.inr (182)))], [.inr (.inr (182))], 212, hc_515) := goOk_ok (by decide +kernel)
theorem go_mod_253 : lmGoZ 4000 1 8 mm_init 479 [some (.inr (.inr (182)))] [.inr (.inr (182))] 212 hc_515 = some (482, [some (.inr (.inr (182)))], [], 212, hc_556) := goOk_ok (by decide +kernel)
