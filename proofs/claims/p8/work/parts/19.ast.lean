/-! LM, part 19: stacks and locals by bounds. A stack's entry may know whence it is: (1, j) local j; (2, a, i) the place i of the cell a; (3, j, -, lo, hi), (4, a, i, lo, hi): the sign of such a long less one between lo and hi -/
def hkd (a i : Int) : Nat := lkd a i
def valid (a i : Int) : Prop := 1 ≤ a ∧ a ≤ NC ∧ 0 ≤ i ∧ i < ((lay a.toNat).2.2 : Int)
def gP (ls : LL) (h : LH) (p : PV) (v : LV) : Prop := match p.1 with
  | 0 => True
  | 1 => lget ls p.2.1.toNat = some v
  | 2 => valid p.2.1 p.2.2.1 ∧ v = mkv (lkd p.2.1 p.2.2.1) (rd h p.2.1 p.2.2.1)
  | 3 => ∃ x y : Int, lget ls p.2.1.toNat = some (.inr (.inl x)) ∧ p.2.2.2.1 ≤ y ∧ y ≤ p.2.2.2.2 ∧ v = .inl (lcmp_ x y)
  | 4 => ∃ y : Int, valid p.2.1 p.2.2.1 ∧ lkd p.2.1 p.2.2.1 = 1 ∧ p.2.2.2.1 ≤ y ∧ y ≤ p.2.2.2.2 ∧ v = .inl (lcmp_ (rd h p.2.1 p.2.2.1) y)
  | _ => False
def pv0 : PV := (0, 0, 0, 0, 0)
def gS (ls : LL) (h : LH) : List SE → List LV → Prop
  | [], [] => True
  | e :: r, v :: s => (gV e.1 v ∧ gP ls h e.2 v) ∧ gS ls h r s
  | _, _ => False
theorem gS_c {ls : LL} {h : LH} {e : SE} {r : List SE} {st : List LV} (hs : gS ls h (e :: r) st) : ∃ v s, st = v :: s ∧ gV e.1 v ∧ gP ls h e.2 v ∧ gS ls h r s := by
  cases st with
  | nil => cases hs
  | cons v s => exact ⟨v, s, rfl, hs.1.1, hs.1.2, hs.2⟩
theorem gS_p {ls : LL} {h : LH} {a : AV} {r : List SE} {v : LV} {s : List LV} (h1 : gV a v) (h2 : gS ls h r s) : gS ls h ((a, pv0) :: r) (v :: s) := ⟨⟨h1, trivial⟩, h2⟩
theorem gS_len {ls : LL} {h : LH} : ∀ {r : List SE} {s : List LV}, gS ls h r s → r.length = s.length
  | [], [], _ => rfl
  | e :: r, v :: s, hs => by
    have := gS_len hs.2
    simp [this]
  | [], _ :: _, hs => by cases hs
  | _ :: _, [], hs => by cases hs
theorem gV_cat {a : AV} {v : LV} (h : gV a v) : isL v = (a.1 == 1) := by
  match v, h with
  | .inl x, h => rw [h.1]; rfl
  | .inr (.inl x), h => rw [h.1]; rfl
  | .inr (.inr x), h => rw [h.1]; rfl
-- what reads and makes values alone
def isLA (e : SE) : Bool := e.1.1 == 1
def bin0 (f : AV → AV → Option AV) (st : List SE) : Option (List SE) := match st with
  | b :: a :: r => if a.1.1 = 0 ∧ b.1.1 = 0 then (f a.1 b.1).map (fun c => (c, pv0) :: r) else none
  | _ => none
def bin1 (ok : AV → Bool) (st : List SE) : Option (List SE) := match st with
  | b :: a :: r => if a.1.1 = 1 ∧ b.1.1 = 1 ∧ ok b.1 = true then some ((top1, pv0) :: r) else none
  | _ => none
def bin10 (st : List SE) : Option (List SE) := match st with
  | b :: a :: r => if a.1.1 = 1 ∧ b.1.1 = 0 then some ((top1, pv0) :: r) else none
  | _ => none
def no0 (b : AV) : Bool := decide (0 < b.2.1) || decide (b.2.2.1 < 0)
def aA (i : Instr) (st : List SE) : Option (List SE) := match i with
  | .iconst v => if -1 ≤ v ∧ v ≤ 5 then some (((0, v, v, 0), pv0) :: st) else none
  | .bipush v => if -128 ≤ v ∧ v ≤ 127 then some (((0, v, v, 0), pv0) :: st) else none
  | .sipush v => if -32768 ≤ v ∧ v ≤ 32767 then some (((0, v, v, 0), pv0) :: st) else none
  | .lconst v => some (((1, (v.val : Int), (v.val : Int), 0), pv0) :: st)
  | .iadd => bin0 (fun a b => some (aAdd a b)) st
  | .isub => bin0 (fun a b => some (aSub a b)) st
  | .imul => bin0 (fun a b => some (aMul a b)) st
  | .idiv => bin0 aDiv st
  | .irem => bin0 aRem st
  | .ineg => match st with | a :: r => if a.1.1 = 0 then some ((aNeg a.1, pv0) :: r) else none | _ => none
  | .iand => bin0 (fun a b => some (aAnd a b)) st
  | .ior => bin0 (fun a b => some (aOr a b)) st
  | .ixor => bin0 (fun _ _ => some top0) st
  | .ishl => bin0 (fun a b => some (aShl a b)) st
  | .ishr => bin0 (fun a _ => some (aShr a)) st
  | .iushr => bin0 (fun _ _ => some top0) st
  | .ladd => bin1 (fun _ => true) st
  | .lsub => bin1 (fun _ => true) st
  | .lmul => bin1 (fun _ => true) st
  | .ldiv => bin1 no0 st
  | .lrem => bin1 no0 st
  | .land => bin1 (fun _ => true) st
  | .lor => bin1 (fun _ => true) st
  | .lshl => bin10 st
  | .lshr => bin10 st
  | .lushr => bin10 st
  | .lcmp => match st with
    | b :: a :: r => if a.1.1 = 1 ∧ b.1.1 = 1 then some ((mkA 0 (-1) 1 1, (if a.2.1 = 1 then (3, a.2.2.1, 0, b.1.2.1, b.1.2.2.1) else if a.2.1 = 2 then (4, a.2.2.1, a.2.2.2.1, b.1.2.1, b.1.2.2.1) else pv0)) :: r) else none
    | _ => none
  | .i2l => match st with | a :: r => if a.1.1 = 0 then some (((1, a.1.2), pv0) :: r) else none | _ => none
  | .l2i => match st with | a :: r => if a.1.1 = 1 then some ((w0 a.1.2.1 a.1.2.2.1 a.1.2.2.2, pv0) :: r) else none | _ => none
  | .i2b => match st with | a :: r => if a.1.1 = 0 then some ((mkA 0 (-128) 127 1, pv0) :: r) else none | _ => none
  | .i2c => match st with | a :: r => if a.1.1 = 0 then some ((mkA 0 0 65535 1, pv0) :: r) else none | _ => none
  | .dup => match st with | a :: r => if isLA a then none else some (a :: a :: r) | _ => none
  | .pop => match st with | a :: r => if isLA a then none else some r | _ => none
  | .dup2 => match st with | b :: a :: r => if isLA a || isLA b then none else some (b :: a :: b :: a :: r) | _ => none
  | _ => none
section AA
variable {ls : LL} {h : LH}
theorem bin0_ok {f : AV → AV → Option AV} {g : Int → Int → Int} {i : Instr} (hi : ∀ x y r, i32 x → i32 y → lmA i (.inl y :: .inl x :: r) = some (.inl (g x y) :: r) ∨ (∀ a b c, f a b = some c → inV a x → inV b y → False)) (hf : ∀ a b c x y, f a b = some c → i32 x → i32 y → inV a x → inV b y → gV c (.inl (g x y)))
    {ast ast' : List SE} {st : List LV} (ha : bin0 f ast = some ast') (hs : gS ls h ast st) : ∃ st', lmA i st = some st' ∧ gS ls h ast' st' := by
  unfold bin0 at ha
  split at ha
  · next b a r =>
    split at ha
    · next hk =>
      rw [Option.map_eq_some_iff] at ha
      obtain ⟨c, hc, rfl⟩ := ha
      obtain ⟨v, s1, rfl, g1, -, hs1⟩ := gS_c hs
      obtain ⟨w, s, rfl, g2, -, hs2⟩ := gS_c hs1
      obtain ⟨y, rfl, y1, y2⟩ := gV_i g1 hk.2
      obtain ⟨x, rfl, x1, x2⟩ := gV_i g2 hk.1
      rcases hi x y s x1 y1 with q | q
      · exact ⟨_, q, gS_p (hf _ _ _ _ _ hc x1 y1 x2 y2) hs2⟩
      · exact absurd (q _ _ _ hc x2 y2) id
    · cases ha
  · cases ha
theorem bin1_ok {ok : AV → Bool} {g : Int → Int → Int} {i : Instr} (hi : ∀ x y r, (∀ b, ok b = true → inV b y → lmA i (.inr (.inl y) :: .inr (.inl x) :: r) = some (.inr (.inl (g x y)) :: r))) (hg : ∀ x y, i64 (g x y))
    {ast ast' : List SE} {st : List LV} (ha : bin1 ok ast = some ast') (hs : gS ls h ast st) : ∃ st', lmA i st = some st' ∧ gS ls h ast' st' := by
  unfold bin1 at ha
  split at ha
  · next b a r =>
    split at ha
    · next hk =>
      cases some_i ha
      obtain ⟨v, s1, rfl, g1, -, hs1⟩ := gS_c hs
      obtain ⟨w, s, rfl, g2, -, hs2⟩ := gS_c hs1
      obtain ⟨y, rfl, y1, y2⟩ := gV_l g1 hk.2.1
      obtain ⟨x, rfl, x1, x2⟩ := gV_l g2 hk.1
      exact ⟨_, hi x y s b.1 hk.2.2 y2, gS_p (gV_top1 (hg x y)) hs2⟩
    · cases ha
  · cases ha
theorem bin10_ok {g : Int → Int → Int} {i : Instr} (hi : ∀ x y r, lmA i (.inl y :: .inr (.inl x) :: r) = some (.inr (.inl (g x y)) :: r)) (hg : ∀ x y, i64 (g x y))
    {ast ast' : List SE} {st : List LV} (ha : bin10 ast = some ast') (hs : gS ls h ast st) : ∃ st', lmA i st = some st' ∧ gS ls h ast' st' := by
  unfold bin10 at ha
  split at ha
  · next b a r =>
    split at ha
    · next hk =>
      cases some_i ha
      obtain ⟨v, s1, rfl, g1, -, hs1⟩ := gS_c hs
      obtain ⟨w, s, rfl, g2, -, hs2⟩ := gS_c hs1
      obtain ⟨y, rfl, y1, y2⟩ := gV_i g1 hk.2
      obtain ⟨x, rfl, x1, x2⟩ := gV_l g2 hk.1
      exact ⟨_, hi x y s, gS_p (gV_top1 (hg x y)) hs2⟩
    · cases ha
  · cases ha
theorem no0_ok {b : AV} {y : Int} (h : no0 b = true) (hy : inV b y) : y ≠ 0 := by
  unfold no0 at h
  simp only [Bool.or_eq_true, decide_eq_true_eq] at h
  obtain ⟨y1, y2, -⟩ := hy
  omega
theorem byte_in (x : Int) : -128 ≤ (Int32.ofInt x).toInt8.toInt32.toInt ∧ (Int32.ofInt x).toInt8.toInt32.toInt ≤ 127 := by
  rw [Int8.toInt_toInt32]
  have h1 := Int8.le_toInt (Int32.ofInt x).toInt8
  have h2 := Int8.toInt_lt (Int32.ofInt x).toInt8
  omega
theorem char_in (x : Int) : 0 ≤ ((Int32.ofInt x).toUInt32 % 65536).toInt32.toInt ∧ ((Int32.ofInt x).toUInt32 % 65536).toInt32.toInt ≤ 65535 := by
  have h1 : ((Int32.ofInt x).toUInt32 % 65536).toInt32.toBitVec.toNat = (Int32.ofInt x).toUInt32.toNat % 65536 := by
    show ((Int32.ofInt x).toUInt32 % 65536).toNat = _
    rw [UInt32.toNat_mod]
    rfl
  rw [small h1 (by omega)]
  omega
set_option maxHeartbeats 4000000 in
theorem aA_ok {i : Instr} {ast ast' : List SE} {st : List LV} (ha : aA i ast = some ast') (hs : gS ls h ast st) : ∃ st', lmA i st = some st' ∧ gS ls h ast' st' := by
  cases i with
  | iconst v =>
    simp only [aA] at ha
    split at ha
    · next hv =>
      cases some_i ha
      exact ⟨.inl v :: st, by simp only [lmA]; rw [if_pos hv], gS_p ⟨rfl, by unfold i32; omega, Int.le_refl _, Int.le_refl _, by rw [Int.sub_self]; exact Int.dvd_zero _⟩ hs⟩
    · cases ha
  | bipush v =>
    simp only [aA] at ha
    split at ha
    · next hv =>
      cases some_i ha
      exact ⟨.inl v :: st, by simp only [lmA]; rw [if_pos hv], gS_p ⟨rfl, by unfold i32; omega, Int.le_refl _, Int.le_refl _, by rw [Int.sub_self]; exact Int.dvd_zero _⟩ hs⟩
    · cases ha
  | sipush v =>
    simp only [aA] at ha
    split at ha
    · next hv =>
      cases some_i ha
      exact ⟨.inl v :: st, by simp only [lmA]; rw [if_pos hv], gS_p ⟨rfl, by unfold i32; omega, Int.le_refl _, Int.le_refl _, by rw [Int.sub_self]; exact Int.dvd_zero _⟩ hs⟩
    · cases ha
  | lconst v =>
    simp only [aA] at ha
    cases some_i ha
    exact ⟨.inr (.inl (v.val : Int)) :: st, rfl, gS_p ⟨rfl, by unfold i64; have := v.isLt; omega, Int.le_refl _, Int.le_refl _, by rw [Int.sub_self]; exact Int.dvd_zero _⟩ hs⟩
  | iadd => exact bin0_ok (f := fun a b => some (aAdd a b)) (g := fun x y => w32 (x + y)) (fun x y r _ _ => Or.inl rfl) (fun a b c x y hc _ _ hx hy => by cases hc; exact aAdd_ok hx hy) ha hs
  | isub => exact bin0_ok (f := fun a b => some (aSub a b)) (g := fun x y => w32 (x - y)) (fun x y r _ _ => Or.inl rfl) (fun a b c x y hc _ _ hx hy => by cases hc; exact aSub_ok hx hy) ha hs
  | imul => exact bin0_ok (f := fun a b => some (aMul a b)) (g := fun x y => w32 (x * y)) (fun x y r _ _ => Or.inl rfl) (fun a b c x y hc _ _ hx hy => by cases hc; exact aMul_ok hx hy) ha hs
  | idiv =>
    refine bin0_ok (f := aDiv) (g := fun x y => w32 (x.tdiv y)) (fun x y r h1 _ => ?_) (fun a b c x y hc h1 _ hx hy => (aDiv_ok hc h1 hx hy).2) ha hs
    by_cases e : y = 0
    · exact Or.inr (fun a b c hc hx hy => (aDiv_ok hc h1 hx hy).1 e)
    · exact Or.inl (by simp only [lmA]; rw [if_neg e])
  | irem =>
    refine bin0_ok (f := aRem) (g := fun x y => w32 (x - w32 (w32 (x.tdiv y) * y))) (fun x y r h1 _ => ?_) (fun a b c x y hc h1 _ hx hy => (aRem_ok hc h1 hx hy).2) ha hs
    by_cases e : y = 0
    · exact Or.inr (fun a b c hc hx hy => (aRem_ok hc h1 hx hy).1 e)
    · exact Or.inl (by simp only [lmA]; rw [if_neg e])
  | ineg =>
    simp only [aA] at ha
    split at ha
    · next a r =>
      split at ha
      · next hk =>
        cases some_i ha
        obtain ⟨v, s, rfl, g1, -, hs1⟩ := gS_c hs
        obtain ⟨y, rfl, y1, y2⟩ := gV_i g1 hk
        exact ⟨_, rfl, gS_p (aNeg_ok y2) hs1⟩
      · cases ha
    · cases ha
  | iand => exact bin0_ok (f := fun a b => some (aAnd a b)) (g := fun x y => zand x y) (fun x y r _ _ => Or.inl rfl) (fun a b c x y hc h1 h2 hx hy => by cases hc; exact aAnd_ok h1 h2 hx hy) ha hs
  | ior => exact bin0_ok (f := fun a b => some (aOr a b)) (g := fun x y => zor x y) (fun x y r _ _ => Or.inl rfl) (fun a b c x y hc h1 h2 hx hy => by cases hc; exact aOr_ok hx hy) ha hs
  | ixor => exact bin0_ok (f := fun _ _ => some top0) (g := fun x y => zxor x y) (fun x y r _ _ => Or.inl rfl) (fun a b c x y hc h1 h2 hx hy => by cases hc; exact gV_top0 (x_in _)) ha hs
  | ishl => exact bin0_ok (f := fun a b => some (aShl a b)) (g := fun x y => zshl x y) (fun x y r _ _ => Or.inl rfl) (fun a b c x y hc h1 h2 hx hy => by cases hc; exact aShl_ok hx hy) ha hs
  | ishr => exact bin0_ok (f := fun a _ => some (aShr a)) (g := fun x y => zshr x y) (fun x y r _ _ => Or.inl rfl) (fun a b c x y hc h1 h2 hx hy => by cases hc; exact aShr_ok h1 hx) ha hs
  | iushr => exact bin0_ok (f := fun _ _ => some top0) (g := fun x y => zushr x y) (fun x y r _ _ => Or.inl rfl) (fun a b c x y hc h1 h2 hx hy => by cases hc; exact gV_top0 (x_in _)) ha hs
  | ladd => exact bin1_ok (ok := fun _ => true) (g := fun x y => w64 (x + y)) (fun x y r b _ _ => rfl) (fun _ _ => w64_in _) ha hs
  | lsub => exact bin1_ok (ok := fun _ => true) (g := fun x y => w64 (x - y)) (fun x y r b _ _ => rfl) (fun _ _ => w64_in _) ha hs
  | lmul => exact bin1_ok (ok := fun _ => true) (g := fun x y => w64 (x * y)) (fun x y r b _ _ => rfl) (fun _ _ => w64_in _) ha hs
  | ldiv => exact bin1_ok (ok := no0) (g := fun x y => w64 (x.tdiv y)) (fun x y r b hb hy => by simp only [lmA]; rw [if_neg (no0_ok hb hy)]) (fun _ _ => w64_in _) ha hs
  | lrem => exact bin1_ok (ok := no0) (g := fun x y => w64 (x - w64 (w64 (x.tdiv y) * y))) (fun x y r b hb hy => by simp only [lmA]; rw [if_neg (no0_ok hb hy)]) (fun _ _ => w64_in _) ha hs
  | land => exact bin1_ok (ok := fun _ => true) (g := fun x y => land_ x y) (fun x y r b _ _ => rfl) (fun _ _ => y_in _) ha hs
  | lor => exact bin1_ok (ok := fun _ => true) (g := fun x y => lor_ x y) (fun x y r b _ _ => rfl) (fun _ _ => y_in _) ha hs
  | lshl => exact bin10_ok (g := fun x y => lshl_ x y) (fun x y r => rfl) (fun _ _ => y_in _) ha hs
  | lshr => exact bin10_ok (g := fun x y => lshr_ x y) (fun x y r => rfl) (fun _ _ => y_in _) ha hs
  | lushr => exact bin10_ok (g := fun x y => lushr_ x y) (fun x y r => rfl) (fun _ _ => y_in _) ha hs
  | lcmp =>
    simp only [aA] at ha
    split at ha
    · next b a r =>
      split at ha
      · next hk =>
        cases some_i ha
        obtain ⟨v, s1, rfl, g1, -, hs1⟩ := gS_c hs
        obtain ⟨w, s, rfl, g2, p2, hs2⟩ := gS_c hs1
        obtain ⟨y, rfl, y1, y2⟩ := gV_l g1 hk.2
        obtain ⟨x, rfl, x1, x2⟩ := gV_l g2 hk.1
        refine ⟨_, rfl, ⟨gV_mk01 (lcmp_in _ _) (by unfold lcmp_; omega) (by unfold lcmp_; omega), ?_⟩, hs2⟩
        unfold gP at p2
        show gP ls h (if a.2.1 = 1 then (3, a.2.2.1, 0, b.1.2.1, b.1.2.2.1) else if a.2.1 = 2 then (4, a.2.2.1, a.2.2.2.1, b.1.2.1, b.1.2.2.1) else pv0) (.inl (lcmp_ x y))
        split
        · next e =>
          rw [e] at p2
          exact ⟨x, y, p2, y2.1, y2.2.1, rfl⟩
        · split
          · next e =>
            rw [e] at p2
            simp only at p2
            obtain ⟨pva, p2⟩ := p2
            have e2 : lkd a.2.2.1 a.2.2.2.1 = 1 ∧ x = rd h a.2.2.1 a.2.2.2.1 := by
              unfold mkv at p2
              split at p2
              · next e3 => exact ⟨e3, by injection p2 with p2; injection p2⟩
              · injection p2 with p2; cases p2
              · cases p2
            exact ⟨y, pva, e2.1, y2.1, y2.2.1, by rw [e2.2]⟩
          · trivial
      · cases ha
    · cases ha
  | i2l =>
    simp only [aA] at ha
    split at ha
    · next a r =>
      split at ha
      · next hk =>
        cases some_i ha
        obtain ⟨v, s, rfl, g1, -, hs1⟩ := gS_c hs
        obtain ⟨y, rfl, y1, y2⟩ := gV_i g1 hk
        exact ⟨_, rfl, gS_p ⟨rfl, i32_64 y1, y2⟩ hs1⟩
      · cases ha
    · cases ha
  | l2i =>
    simp only [aA] at ha
    split at ha
    · next a r =>
      split at ha
      · next hk =>
        cases some_i ha
        obtain ⟨v, s, rfl, g1, -, hs1⟩ := gS_c hs
        obtain ⟨y, rfl, y1, y2⟩ := gV_l g1 hk
        exact ⟨_, rfl, gS_p (w0_ok y2.1 y2.2.1 y2.2.2) hs1⟩
      · cases ha
    · cases ha
  | i2b =>
    simp only [aA] at ha
    split at ha
    · next a r =>
      split at ha
      · next hk =>
        cases some_i ha
        obtain ⟨v, s, rfl, g1, -, hs1⟩ := gS_c hs
        obtain ⟨y, rfl, y1, y2⟩ := gV_i g1 hk
        exact ⟨_, rfl, gS_p (gV_mk01 (x_in _) (byte_in y).1 (byte_in y).2) hs1⟩
      · cases ha
    · cases ha
  | i2c =>
    simp only [aA] at ha
    split at ha
    · next a r =>
      split at ha
      · next hk =>
        cases some_i ha
        obtain ⟨v, s, rfl, g1, -, hs1⟩ := gS_c hs
        obtain ⟨y, rfl, y1, y2⟩ := gV_i g1 hk
        exact ⟨_, rfl, gS_p (gV_mk01 (x_in _) (char_in y).1 (char_in y).2) hs1⟩
      · cases ha
    · cases ha
  | dup =>
    simp only [aA] at ha
    split at ha
    · next a r =>
      split at ha
      · cases ha
      · next hk =>
        cases some_i ha
        obtain ⟨v, s, rfl, g1, p1, hs1⟩ := gS_c hs
        have hc := gV_cat g1
        have hl : isL v = false := by rw [hc]; simpa [isLA] using hk
        exact ⟨v :: v :: s, by simp [lmA, hl], ⟨g1, p1⟩, ⟨g1, p1⟩, hs1⟩
    · cases ha
  | pop =>
    simp only [aA] at ha
    split at ha
    · next a r =>
      split at ha
      · cases ha
      · next hk =>
        cases some_i ha
        obtain ⟨v, s, rfl, g1, p1, hs1⟩ := gS_c hs
        have hc := gV_cat g1
        have hl : isL v = false := by rw [hc]; simpa [isLA] using hk
        exact ⟨s, by simp [lmA, hl], hs1⟩
    · cases ha
  | dup2 =>
    simp only [aA] at ha
    split at ha
    · next b a r =>
      split at ha
      · cases ha
      · next hk =>
        cases some_i ha
        obtain ⟨v, s1, rfl, g1, p1, hs1⟩ := gS_c hs
        obtain ⟨w, s, rfl, g2, p2, hs2⟩ := gS_c hs1
        simp only [Bool.or_eq_true, not_or, Bool.not_eq_true] at hk
        have hl1 : isL v = false := by rw [gV_cat g1]; simpa [isLA] using hk.2
        have hl2 : isL w = false := by rw [gV_cat g2]; simpa [isLA] using hk.1
        exact ⟨v :: w :: v :: w :: s, by simp [lmA, hl1, hl2], ⟨g1, p1⟩, ⟨g2, p2⟩, ⟨g1, p1⟩, ⟨g2, p2⟩, hs2⟩
    · cases ha
  | _ => simp only [aA] at ha; cases ha
end AA
