/-! LM, part 36, by program (wip/p2/accs.py): the reference's places: what they hold, what may be put there -/
theorem fi32 {k : Nat} {lo hi : Int} {st : Nat} {x : Int} (hx : inV (k, lo, hi, st) x) : lo ≤ x ∧ x ≤ hi := ⟨hx.1, hx.2.1⟩
theorem rdP {h : LH} (hr : RNG h) {a i : Int} (hv : valid a i) (hk : lkd a i = 0 ∨ lkd a i = 3) {lo hi : Int} {st : Nat} (hg : ∀ v, gV (hav a i) v → gV (0, lo, hi, st) v) : lo ≤ rd h a i ∧ rd h a i ≤ hi ∧ i32 (rd h a i) := by
  have h1 := hg _ (hr a i hv)
  have h2 : hval h a i = .inl (rd h a i) := by
    unfold hval
    rcases hk with q | q <;> rw [q] <;> rfl
  rw [h2] at h1
  exact ⟨h1.2.2.1, h1.2.2.2.1, h1.2.1⟩
theorem wrP {h : LH} (hh : INV h) {a i v : Int} (hp : ¬ sens a i) (hk : lkd a i = 0 ∨ lkd a i = 3) {lo hi : Int} (hg : ∀ v, gV (0, lo, hi, 1) v → gV (hav a i) v) (h0 : lo ≤ v) (h1 : v ≤ hi) (h2 : i32 v) : INV (wr h a i v) := by
  refine INV_wr hh hp ?_
  have h2 : mkv (lkd a i) v = .inl v := by rcases hk with q | q <;> rw [q] <;> rfl
  rw [h2]
  exact hg _ ⟨rfl, by assumption, h0, h1, Int.one_dvd _⟩
theorem wrR {h : LH} (hr : RNG h) {a i v : Int} (hk : lkd a i = 0 ∨ lkd a i = 3) {lo hi : Int} (hg : ∀ v, gV (0, lo, hi, 1) v → gV (hav a i) v) (h0 : lo ≤ v) (h1 : v ≤ hi) (h2 : i32 v) : RNG (wr h a i v) := by
  refine RNG_wr hr ?_
  have h2 : mkv (lkd a i) v = .inl v := by rcases hk with q | q <;> rw [q] <;> rfl
  rw [h2]
  exact hg _ ⟨rfl, by assumption, h0, h1, Int.one_dvd _⟩
theorem vldA {a i : Int} {k n : Nat} (ia : isA NC a k = true) (la : (lay a.toNat).2.2 = n) (hi : 0 ≤ i ∧ i < (n : Int)) : valid a i := ⟨(isA_of ia).1, (isA_of ia).2.1, hi.1, by rw [la]; exact hi.2⟩
theorem inv1 {lo hi i : Int} (h0 : lo ≤ i) (h1 : i ≤ hi) : inV (0, lo, hi, 1) i := ⟨h0, h1, Int.one_dvd _⟩
theorem invs {lo hi : Int} {s : Nat} {k i : Int} (e : i = lo + s * k) (h0 : 0 ≤ k) (h1 : i ≤ hi) : inV (0, lo, hi, s) i := by
  subst e
  exact ⟨by have : 0 ≤ (s : Int) * k := Int.mul_nonneg (by omega) h0; show lo ≤ lo + s * k; omega, h1, ⟨k, by show lo + s * k - lo = s * k; omega⟩⟩
theorem leA1 {a b : AV} (h : leA a b = true) : ∀ v, gV a v → gV b v := fun v hv => leA_ok h hv
theorem rF_thrown {h : LH} (hr : RNG h) : -2147483648 ≤ rd h 182 0 ∧ rd h 182 0 ≤ 2147483647 := by
  have q := rdP (a := 182) (i := 0) (lo := -2147483648) (hi := 2147483647) (st := 1) hr (vB_ok (by decide +kernel)) (Or.inl (by decide +kernel)) (leA1 (by decide +kernel))
  exact ⟨q.1, q.2.1⟩
theorem wF_thrown {h : LH} (hh : INV h) {v : Int} (h0 : -2147483648 ≤ v) (h1 : v ≤ 2147483647) : INV (wr h 182 0 v) := wrP hh (by unfold sens; omega) (Or.inl (by decide +kernel)) (leA1 (by decide +kernel)) h0 h1 ⟨by omega, by omega⟩
theorem rF_taped {h : LH} (hr : RNG h) : 0 ≤ rd h 182 2 ∧ rd h 182 2 ≤ 1000 := by
  have q := rdP (a := 182) (i := 2) (lo := 0) (hi := 1000) (st := 1) hr (vB_ok (by decide +kernel)) (Or.inl (by decide +kernel)) (leA1 (by decide +kernel))
  exact ⟨q.1, q.2.1⟩
theorem wF_taped {h : LH} (hh : INV h) {v : Int} (h0 : 0 ≤ v) (h1 : v ≤ 1000) : INV (wr h 182 2 v) := wrP hh (by unfold sens; omega) (Or.inl (by decide +kernel)) (leA1 (by decide +kernel)) h0 h1 ⟨by omega, by omega⟩
theorem rF_size {h : LH} (hr : RNG h) : 0 ≤ rd h 182 3 ∧ rd h 182 3 ≤ 1000 := by
  have q := rdP (a := 182) (i := 3) (lo := 0) (hi := 1000) (st := 1) hr (vB_ok (by decide +kernel)) (Or.inl (by decide +kernel)) (leA1 (by decide +kernel))
  exact ⟨q.1, q.2.1⟩
theorem wF_size {h : LH} (hh : INV h) {v : Int} (h0 : 0 ≤ v) (h1 : v ≤ 1000) : INV (wr h 182 3 v) := wrP hh (by unfold sens; omega) (Or.inl (by decide +kernel)) (leA1 (by decide +kernel)) h0 h1 ⟨by omega, by omega⟩
theorem rF_at {h : LH} (hr : RNG h) : 0 ≤ rd h 182 7 ∧ rd h 182 7 ≤ 1000 := by
  have q := rdP (a := 182) (i := 7) (lo := 0) (hi := 1000) (st := 1) hr (vB_ok (by decide +kernel)) (Or.inl (by decide +kernel)) (leA1 (by decide +kernel))
  exact ⟨q.1, q.2.1⟩
theorem wF_at {h : LH} (hh : INV h) {v : Int} (h0 : 0 ≤ v) (h1 : v ≤ 1000) : INV (wr h 182 7 v) := wrP hh (by unfold sens; omega) (Or.inl (by decide +kernel)) (leA1 (by decide +kernel)) h0 h1 ⟨by omega, by omega⟩
theorem rF_fault {h : LH} (hr : RNG h) : 0 ≤ rd h 182 8 ∧ rd h 182 8 ≤ 16005 := by
  have q := rdP (a := 182) (i := 8) (lo := 0) (hi := 16005) (st := 1) hr (vB_ok (by decide +kernel)) (Or.inl (by decide +kernel)) (leA1 (by decide +kernel))
  exact ⟨q.1, q.2.1⟩
theorem wF_fault {h : LH} (hh : INV h) {v : Int} (h0 : 0 ≤ v) (h1 : v ≤ 16005) : INV (wr h 182 8 v) := wrP hh (by unfold sens; omega) (Or.inl (by decide +kernel)) (leA1 (by decide +kernel)) h0 h1 ⟨by omega, by omega⟩
theorem rF_codes {h : LH} (hr : RNG h) : 0 ≤ rd h 182 13 ∧ rd h 182 13 ≤ 1000 := by
  have q := rdP (a := 182) (i := 13) (lo := 0) (hi := 1000) (st := 1) hr (vB_ok (by decide +kernel)) (Or.inl (by decide +kernel)) (leA1 (by decide +kernel))
  exact ⟨q.1, q.2.1⟩
theorem wF_codes {h : LH} (hh : INV h) {v : Int} (h0 : 0 ≤ v) (h1 : v ≤ 1000) : INV (wr h 182 13 v) := wrP hh (by unfold sens; omega) (Or.inl (by decide +kernel)) (leA1 (by decide +kernel)) h0 h1 ⟨by omega, by omega⟩
theorem rF_namesMany {h : LH} (hr : RNG h) : 0 ≤ rd h 182 18 ∧ rd h 182 18 ≤ 20 := by
  have q := rdP (a := 182) (i := 18) (lo := 0) (hi := 20) (st := 1) hr (vB_ok (by decide +kernel)) (Or.inl (by decide +kernel)) (leA1 (by decide +kernel))
  exact ⟨q.1, q.2.1⟩
theorem wF_namesMany {h : LH} (hh : INV h) {v : Int} (h0 : 0 ≤ v) (h1 : v ≤ 20) : INV (wr h 182 18 v) := wrP hh (by unfold sens; omega) (Or.inl (by decide +kernel)) (leA1 (by decide +kernel)) h0 h1 ⟨by omega, by omega⟩
theorem rF_readMany {h : LH} (hr : RNG h) : 0 ≤ rd h 182 19 ∧ rd h 182 19 ≤ 20 := by
  have q := rdP (a := 182) (i := 19) (lo := 0) (hi := 20) (st := 1) hr (vB_ok (by decide +kernel)) (Or.inl (by decide +kernel)) (leA1 (by decide +kernel))
  exact ⟨q.1, q.2.1⟩
theorem wF_readMany {h : LH} (hh : INV h) {v : Int} (h0 : 0 ≤ v) (h1 : v ≤ 20) : INV (wr h 182 19 v) := wrP hh (by unfold sens; omega) (Or.inl (by decide +kernel)) (leA1 (by decide +kernel)) h0 h1 ⟨by omega, by omega⟩
theorem rF_readLines {h : LH} (hr : RNG h) : 0 ≤ rd h 182 21 ∧ rd h 182 21 ≤ 24 := by
  have q := rdP (a := 182) (i := 21) (lo := 0) (hi := 24) (st := 1) hr (vB_ok (by decide +kernel)) (Or.inl (by decide +kernel)) (leA1 (by decide +kernel))
  exact ⟨q.1, q.2.1⟩
theorem wF_readLines {h : LH} (hh : INV h) {v : Int} (h0 : 0 ≤ v) (h1 : v ≤ 24) : INV (wr h 182 21 v) := wrP hh (by unfold sens; omega) (Or.inl (by decide +kernel)) (leA1 (by decide +kernel)) h0 h1 ⟨by omega, by omega⟩
theorem rF_undos {h : LH} (hr : RNG h) : 0 ≤ rd h 182 25 ∧ rd h 182 25 ≤ 16 := by
  have q := rdP (a := 182) (i := 25) (lo := 0) (hi := 16) (st := 1) hr (vB_ok (by decide +kernel)) (Or.inl (by decide +kernel)) (leA1 (by decide +kernel))
  exact ⟨q.1, q.2.1⟩
theorem rF_setOne {h : LH} (hr : RNG h) : -1 ≤ rd h 182 28 ∧ rd h 182 28 ≤ 13 := by
  have q := rdP (a := 182) (i := 28) (lo := -1) (hi := 13) (st := 1) hr (vB_ok (by decide +kernel)) (Or.inl (by decide +kernel)) (leA1 (by decide +kernel))
  exact ⟨q.1, q.2.1⟩
theorem wF_setOne {h : LH} (hh : INV h) {v : Int} (h0 : -1 ≤ v) (h1 : v ≤ 13) : INV (wr h 182 28 v) := wrP hh (by unfold sens; omega) (Or.inl (by decide +kernel)) (leA1 (by decide +kernel)) h0 h1 ⟨by omega, by omega⟩
theorem rF_setOther {h : LH} (hr : RNG h) : -1 ≤ rd h 182 29 ∧ rd h 182 29 ≤ 13 := by
  have q := rdP (a := 182) (i := 29) (lo := -1) (hi := 13) (st := 1) hr (vB_ok (by decide +kernel)) (Or.inl (by decide +kernel)) (leA1 (by decide +kernel))
  exact ⟨q.1, q.2.1⟩
theorem wF_setOther {h : LH} (hh : INV h) {v : Int} (h0 : -1 ≤ v) (h1 : v ≤ 13) : INV (wr h 182 29 v) := wrP hh (by unfold sens; omega) (Or.inl (by decide +kernel)) (leA1 (by decide +kernel)) h0 h1 ⟨by omega, by omega⟩
theorem rF_priceOne {h : LH} (hr : RNG h) : 0 ≤ rd h 182 30 ∧ rd h 182 30 ≤ 9 := by
  have q := rdP (a := 182) (i := 30) (lo := 0) (hi := 9) (st := 1) hr (vB_ok (by decide +kernel)) (Or.inl (by decide +kernel)) (leA1 (by decide +kernel))
  exact ⟨q.1, q.2.1⟩
theorem wF_priceOne {h : LH} (hh : INV h) {v : Int} (h0 : 0 ≤ v) (h1 : v ≤ 9) : INV (wr h 182 30 v) := wrP hh (by unfold sens; omega) (Or.inl (by decide +kernel)) (leA1 (by decide +kernel)) h0 h1 ⟨by omega, by omega⟩
theorem rF_priceOther {h : LH} (hr : RNG h) : 0 ≤ rd h 182 31 ∧ rd h 182 31 ≤ 9 := by
  have q := rdP (a := 182) (i := 31) (lo := 0) (hi := 9) (st := 1) hr (vB_ok (by decide +kernel)) (Or.inl (by decide +kernel)) (leA1 (by decide +kernel))
  exact ⟨q.1, q.2.1⟩
theorem wF_priceOther {h : LH} (hh : INV h) {v : Int} (h0 : 0 ≤ v) (h1 : v ≤ 9) : INV (wr h 182 31 v) := wrP hh (by unfold sens; omega) (Or.inl (by decide +kernel)) (leA1 (by decide +kernel)) h0 h1 ⟨by omega, by omega⟩
theorem rF_wayMany {h : LH} (hr : RNG h) : 0 ≤ rd h 182 34 ∧ rd h 182 34 ≤ 30 := by
  have q := rdP (a := 182) (i := 34) (lo := 0) (hi := 30) (st := 1) hr (vB_ok (by decide +kernel)) (Or.inl (by decide +kernel)) (leA1 (by decide +kernel))
  exact ⟨q.1, q.2.1⟩
theorem wF_wayMany {h : LH} (hh : INV h) {v : Int} (h0 : 0 ≤ v) (h1 : v ≤ 30) : INV (wr h 182 34 v) := wrP hh (by unfold sens; omega) (Or.inl (by decide +kernel)) (leA1 (by decide +kernel)) h0 h1 ⟨by omega, by omega⟩
theorem rF_nextState {h : LH} (hr : RNG h) : 0 ≤ rd h 182 35 ∧ rd h 182 35 ≤ 19 := by
  have q := rdP (a := 182) (i := 35) (lo := 0) (hi := 19) (st := 1) hr (vB_ok (by decide +kernel)) (Or.inl (by decide +kernel)) (leA1 (by decide +kernel))
  exact ⟨q.1, q.2.1⟩
theorem wF_nextState {h : LH} (hh : INV h) {v : Int} (h0 : 0 ≤ v) (h1 : v ≤ 19) : INV (wr h 182 35 v) := wrP hh (by unfold sens; omega) (Or.inl (by decide +kernel)) (leA1 (by decide +kernel)) h0 h1 ⟨by omega, by omega⟩
theorem rF_nextHour {h : LH} (hr : RNG h) : 0 ≤ rd h 182 36 ∧ rd h 182 36 ≤ 24 := by
  have q := rdP (a := 182) (i := 36) (lo := 0) (hi := 24) (st := 1) hr (vB_ok (by decide +kernel)) (Or.inl (by decide +kernel)) (leA1 (by decide +kernel))
  exact ⟨q.1, q.2.1⟩
theorem wF_nextHour {h : LH} (hh : INV h) {v : Int} (h0 : 0 ≤ v) (h1 : v ≤ 24) : INV (wr h 182 36 v) := wrP hh (by unfold sens; omega) (Or.inl (by decide +kernel)) (leA1 (by decide +kernel)) h0 h1 ⟨by omega, by omega⟩
theorem rF_tail0 {h : LH} (hr : RNG h) : 0 ≤ rd h 182 42 ∧ rd h 182 42 ≤ 250 := by
  have q := rdP (a := 182) (i := 42) (lo := 0) (hi := 250) (st := 1) hr (vB_ok (by decide +kernel)) (Or.inl (by decide +kernel)) (leA1 (by decide +kernel))
  exact ⟨q.1, q.2.1⟩
theorem wF_tail0 {h : LH} (hh : INV h) {v : Int} (h0 : 0 ≤ v) (h1 : v ≤ 250) : INV (wr h 182 42 v) := wrP hh (by unfold sens; omega) (Or.inl (by decide +kernel)) (leA1 (by decide +kernel)) h0 h1 ⟨by omega, by omega⟩
theorem rF_foundMany {h : LH} (hr : RNG h) : -2147483648 ≤ rd h 182 45 ∧ rd h 182 45 ≤ 2147483647 := by
  have q := rdP (a := 182) (i := 45) (lo := -2147483648) (hi := 2147483647) (st := 1) hr (vB_ok (by decide +kernel)) (Or.inl (by decide +kernel)) (leA1 (by decide +kernel))
  exact ⟨q.1, q.2.1⟩
theorem wF_foundMany {h : LH} (hh : INV h) {v : Int} (h0 : -2147483648 ≤ v) (h1 : v ≤ 2147483647) : INV (wr h 182 45 v) := wrP hh (by unfold sens; omega) (Or.inl (by decide +kernel)) (leA1 (by decide +kernel)) h0 h1 ⟨by omega, by omega⟩
theorem rF_foundAll {h : LH} (hr : RNG h) : -2147483648 ≤ rd h 182 46 ∧ rd h 182 46 ≤ 2147483647 := by
  have q := rdP (a := 182) (i := 46) (lo := -2147483648) (hi := 2147483647) (st := 1) hr (vB_ok (by decide +kernel)) (Or.inl (by decide +kernel)) (leA1 (by decide +kernel))
  exact ⟨q.1, q.2.1⟩
theorem wF_foundAll {h : LH} (hh : INV h) {v : Int} (h0 : -2147483648 ≤ v) (h1 : v ≤ 2147483647) : INV (wr h 182 46 v) := wrP hh (by unfold sens; omega) (Or.inl (by decide +kernel)) (leA1 (by decide +kernel)) h0 h1 ⟨by omega, by omega⟩
theorem rF_foundSome {h : LH} (hr : RNG h) : -2147483648 ≤ rd h 182 47 ∧ rd h 182 47 ≤ 2147483647 := by
  have q := rdP (a := 182) (i := 47) (lo := -2147483648) (hi := 2147483647) (st := 1) hr (vB_ok (by decide +kernel)) (Or.inl (by decide +kernel)) (leA1 (by decide +kernel))
  exact ⟨q.1, q.2.1⟩
theorem wF_foundSome {h : LH} (hh : INV h) {v : Int} (h0 : -2147483648 ≤ v) (h1 : v ≤ 2147483647) : INV (wr h 182 47 v) := wrP hh (by unfold sens; omega) (Or.inl (by decide +kernel)) (leA1 (by decide +kernel)) h0 h1 ⟨by omega, by omega⟩
theorem rF_foundLeast {h : LH} (hr : RNG h) : -2147483648 ≤ rd h 182 48 ∧ rd h 182 48 ≤ 2147483647 := by
  have q := rdP (a := 182) (i := 48) (lo := -2147483648) (hi := 2147483647) (st := 1) hr (vB_ok (by decide +kernel)) (Or.inl (by decide +kernel)) (leA1 (by decide +kernel))
  exact ⟨q.1, q.2.1⟩
theorem wF_foundLeast {h : LH} (hh : INV h) {v : Int} (h0 : -2147483648 ≤ v) (h1 : v ≤ 2147483647) : INV (wr h 182 48 v) := wrP hh (by unfold sens; omega) (Or.inl (by decide +kernel)) (leA1 (by decide +kernel)) h0 h1 ⟨by omega, by omega⟩
theorem rF_runInTime {h : LH} (hr : RNG h) : -2147483648 ≤ rd h 182 52 ∧ rd h 182 52 ≤ 2147483647 := by
  have q := rdP (a := 182) (i := 52) (lo := -2147483648) (hi := 2147483647) (st := 1) hr (vB_ok (by decide +kernel)) (Or.inl (by decide +kernel)) (leA1 (by decide +kernel))
  exact ⟨q.1, q.2.1⟩
theorem wF_runInTime {h : LH} (hh : INV h) {v : Int} (h0 : -2147483648 ≤ v) (h1 : v ≤ 2147483647) : INV (wr h 182 52 v) := wrP hh (by unfold sens; omega) (Or.inl (by decide +kernel)) (leA1 (by decide +kernel)) h0 h1 ⟨by omega, by omega⟩
theorem rF_runNot {h : LH} (hr : RNG h) : -2147483648 ≤ rd h 182 53 ∧ rd h 182 53 ≤ 2147483647 := by
  have q := rdP (a := 182) (i := 53) (lo := -2147483648) (hi := 2147483647) (st := 1) hr (vB_ok (by decide +kernel)) (Or.inl (by decide +kernel)) (leA1 (by decide +kernel))
  exact ⟨q.1, q.2.1⟩
theorem wF_runNot {h : LH} (hh : INV h) {v : Int} (h0 : -2147483648 ≤ v) (h1 : v ≤ 2147483647) : INV (wr h 182 53 v) := wrP hh (by unfold sens; omega) (Or.inl (by decide +kernel)) (leA1 (by decide +kernel)) h0 h1 ⟨by omega, by omega⟩
theorem hA_tape (i : Int) : hav 183 i = (0, 0, 126, 1) := by
  unfold hav
  rw [show RGL[(183 : Int).toNat]? = some [(0, 0, 126, 1)] by decide +kernel]
  simp only [List.length_singleton, Nat.mod_one]
  rfl
theorem rA_tape {h : LH} (hr : RNG h) {i : Int} (hi : 0 ≤ i ∧ i < 1000) : 0 ≤ rd h 183 i ∧ rd h 183 i ≤ 126 := by
  have q := rdP (a := 183) (i := i) (lo := 0) (hi := 126) (st := 1) hr (vldA (n := 1000) (k := 1) (by decide +kernel) (by decide +kernel) hi) (Or.inl (lkd_1 (by decide +kernel))) (fun v hv => by rw [hA_tape] at hv; exact hv)
  exact ⟨q.1, q.2.1⟩
theorem wA_tape {h : LH} (hh : INV h) {i v : Int} (hi : 0 ≤ i ∧ i < 1000) (h0 : 0 ≤ v) (h1 : v ≤ 126) : INV (wr h 183 i v) := wrP hh (by unfold sens; omega) (Or.inl (lkd_1 (by decide +kernel))) (fun v hv => by rw [hA_tape]; exact hv) h0 h1 ⟨by omega, by omega⟩
theorem wR_tape {h : LH} (hr : RNG h) {i v : Int} (h0 : 0 ≤ v) (h1 : v ≤ 126) : RNG (wr h 183 i v) := wrR hr (Or.inl (lkd_1 (by decide +kernel))) (fun v hv => by rw [hA_tape]; exact hv) h0 h1 ⟨by omega, by omega⟩
theorem hA_sort (i : Int) : hav 184 i = (0, 0, 4, 1) := by
  unfold hav
  rw [show RGL[(184 : Int).toNat]? = some [(0, 0, 4, 1)] by decide +kernel]
  simp only [List.length_singleton, Nat.mod_one]
  rfl
theorem rA_sort {h : LH} (hr : RNG h) {i : Int} (hi : 0 ≤ i ∧ i < 1002) : 0 ≤ rd h 184 i ∧ rd h 184 i ≤ 4 := by
  have q := rdP (a := 184) (i := i) (lo := 0) (hi := 4) (st := 1) hr (vldA (n := 1002) (k := 1) (by decide +kernel) (by decide +kernel) hi) (Or.inl (lkd_1 (by decide +kernel))) (fun v hv => by rw [hA_sort] at hv; exact hv)
  exact ⟨q.1, q.2.1⟩
theorem wR_sort {h : LH} (hr : RNG h) {i v : Int} (h0 : 0 ≤ v) (h1 : v ≤ 4) : RNG (wr h 184 i v) := wrR hr (Or.inl (lkd_1 (by decide +kernel))) (fun v hv => by rw [hA_sort]; exact hv) h0 h1 ⟨by omega, by omega⟩
theorem hA_place (i : Int) : hav 185 i = (0, 0, 1000, 1) := by
  unfold hav
  rw [show RGL[(185 : Int).toNat]? = some [(0, 0, 1000, 1)] by decide +kernel]
  simp only [List.length_singleton, Nat.mod_one]
  rfl
theorem rA_place {h : LH} (hr : RNG h) {i : Int} (hi : 0 ≤ i ∧ i < 1002) : 0 ≤ rd h 185 i ∧ rd h 185 i ≤ 1000 := by
  have q := rdP (a := 185) (i := i) (lo := 0) (hi := 1000) (st := 1) hr (vldA (n := 1002) (k := 1) (by decide +kernel) (by decide +kernel) hi) (Or.inl (lkd_1 (by decide +kernel))) (fun v hv => by rw [hA_place] at hv; exact hv)
  exact ⟨q.1, q.2.1⟩
theorem wA_place {h : LH} (hh : INV h) {i v : Int} (hi : 0 ≤ i ∧ i < 1002) (h0 : 0 ≤ v) (h1 : v ≤ 1000) : INV (wr h 185 i v) := wrP hh (by unfold sens; omega) (Or.inl (lkd_1 (by decide +kernel))) (fun v hv => by rw [hA_place]; exact hv) h0 h1 ⟨by omega, by omega⟩
theorem wR_place {h : LH} (hr : RNG h) {i v : Int} (h0 : 0 ≤ v) (h1 : v ≤ 1000) : RNG (wr h 185 i v) := wrR hr (Or.inl (lkd_1 (by decide +kernel))) (fun v hv => by rw [hA_place]; exact hv) h0 h1 ⟨by omega, by omega⟩
theorem wA_value {h : LH} (hh : INV h) {i v : Int} (hi : 0 ≤ i ∧ i < 1002) (hv : i64 v) : INV (wr h 186 i v) := by
  refine INV_wr hh (by unfold sens; omega) ?_
  have e : hav 186 i = (1, -9223372036854775808, 9223372036854775807, 1) := by
    unfold hav
    rw [show RGL[(186 : Int).toNat]? = some [(1, -9223372036854775808, 9223372036854775807, 1)] by decide +kernel]
    simp only [List.length_singleton, Nat.mod_one]
    rfl
  rw [e, lkd_2 (by decide +kernel)]
  exact ⟨rfl, hv, hv.1, hv.2, Int.one_dvd _⟩
theorem wA_words {h : LH} (hh : INV h) {i v : Int} (hi : 0 ≤ i ∧ i < 29) (hv : i64 v) : INV (wr h 187 i v) := by
  refine INV_wr hh (by unfold sens; omega) ?_
  have e : hav 187 i = (1, -9223372036854775808, 9223372036854775807, 1) := by
    unfold hav
    rw [show RGL[(187 : Int).toNat]? = some [(1, -9223372036854775808, 9223372036854775807, 1)] by decide +kernel]
    simp only [List.length_singleton, Nat.mod_one]
    rfl
  rw [e, lkd_2 (by decide +kernel)]
  exact ⟨rfl, hv, hv.1, hv.2, Int.one_dvd _⟩
theorem rX_quarters {h : LH} (hr : RNG h) {i : Int} (hb : 0 ≤ i ∧ i < 300) {ix : AV} {lo hi : Int} {st : Nat} (hh : havs 188 ix = some (0, lo, hi, st)) (hx : inV ix i) : lo ≤ rd h 188 i ∧ rd h 188 i ≤ hi := by
  have q := rdP (a := 188) (i := i) (lo := lo) (hi := hi) (st := st) hr (vldA (n := 300) (k := 1) (by decide +kernel) (by decide +kernel) hb) (Or.inl (lkd_1 (by decide +kernel))) (fun v hv => havs_ok hh hx hv)
  exact ⟨q.1, q.2.1⟩
theorem wX_quarters {h : LH} (hh : INV h) {i v : Int} (hb : 0 ≤ i ∧ i < 300) (hn : ¬ sens 188 i) {ix : AV} {lo hi : Int} (hf : fitR 188 ix (0, lo, hi, 1) = true) (hx : inV ix i) (h0 : lo ≤ v) (h1 : v ≤ hi) (h2 : i32 v) : INV (wr h 188 i v) := wrP hh hn (Or.inl (lkd_1 (by decide +kernel))) (fun v hv => fitR_ok hf hx hv) h0 h1 h2
theorem wY_quarters {h : LH} (hr : RNG h) {i v : Int} {ix : AV} {lo hi : Int} (hf : fitR 188 ix (0, lo, hi, 1) = true) (hx : inV ix i) (h0 : lo ≤ v) (h1 : v ≤ hi) (h2 : i32 v) : RNG (wr h 188 i v) := wrR hr (Or.inl (lkd_1 (by decide +kernel))) (fun v hv => fitR_ok hf hx hv) h0 h1 h2
theorem hA_op (i : Int) : hav 189 i = (0, 0, 10, 1) := by
  unfold hav
  rw [show RGL[(189 : Int).toNat]? = some [(0, 0, 10, 1)] by decide +kernel]
  simp only [List.length_singleton, Nat.mod_one]
  rfl
theorem rA_op {h : LH} (hr : RNG h) {i : Int} (hi : 0 ≤ i ∧ i < 2200) : 0 ≤ rd h 189 i ∧ rd h 189 i ≤ 10 := by
  have q := rdP (a := 189) (i := i) (lo := 0) (hi := 10) (st := 1) hr (vldA (n := 2200) (k := 1) (by decide +kernel) (by decide +kernel) hi) (Or.inl (lkd_1 (by decide +kernel))) (fun v hv => by rw [hA_op] at hv; exact hv)
  exact ⟨q.1, q.2.1⟩
theorem wR_op {h : LH} (hr : RNG h) {i v : Int} (h0 : 0 ≤ v) (h1 : v ≤ 10) : RNG (wr h 189 i v) := wrR hr (Or.inl (lkd_1 (by decide +kernel))) (fun v hv => by rw [hA_op]; exact hv) h0 h1 ⟨by omega, by omega⟩
theorem hA_arg (i : Int) : hav 190 i = (0, -2147483648, 2147483647, 1) := by
  unfold hav
  rw [show RGL[(190 : Int).toNat]? = some [(0, -2147483648, 2147483647, 1)] by decide +kernel]
  simp only [List.length_singleton, Nat.mod_one]
  rfl
theorem rA_arg {h : LH} (hr : RNG h) {i : Int} (hi : 0 ≤ i ∧ i < 2200) : -2147483648 ≤ rd h 190 i ∧ rd h 190 i ≤ 2147483647 := by
  have q := rdP (a := 190) (i := i) (lo := -2147483648) (hi := 2147483647) (st := 1) hr (vldA (n := 2200) (k := 1) (by decide +kernel) (by decide +kernel) hi) (Or.inl (lkd_1 (by decide +kernel))) (fun v hv => by rw [hA_arg] at hv; exact hv)
  exact ⟨q.1, q.2.1⟩
theorem wR_arg {h : LH} (hr : RNG h) {i v : Int} (h0 : -2147483648 ≤ v) (h1 : v ≤ 2147483647) : RNG (wr h 190 i v) := wrR hr (Or.inl (lkd_1 (by decide +kernel))) (fun v hv => by rw [hA_arg]; exact hv) h0 h1 ⟨by omega, by omega⟩
theorem wA_names {h : LH} (hh : INV h) {i v : Int} (hi : 0 ≤ i ∧ i < 20) (hv : i64 v) : INV (wr h 191 i v) := by
  refine INV_wr hh (by unfold sens; omega) ?_
  have e : hav 191 i = (1, -9223372036854775808, 9223372036854775807, 1) := by
    unfold hav
    rw [show RGL[(191 : Int).toNat]? = some [(1, -9223372036854775808, 9223372036854775807, 1)] by decide +kernel]
    simp only [List.length_singleton, Nat.mod_one]
    rfl
  rw [e, lkd_2 (by decide +kernel)]
  exact ⟨rfl, hv, hv.1, hv.2, Int.one_dvd _⟩
theorem wA_readNames {h : LH} (hh : INV h) {i v : Int} (hi : 0 ≤ i ∧ i < 20) (hv : i64 v) : INV (wr h 192 i v) := by
  refine INV_wr hh (by unfold sens; omega) ?_
  have e : hav 192 i = (1, -9223372036854775808, 9223372036854775807, 1) := by
    unfold hav
    rw [show RGL[(192 : Int).toNat]? = some [(1, -9223372036854775808, 9223372036854775807, 1)] by decide +kernel]
    simp only [List.length_singleton, Nat.mod_one]
    rfl
  rw [e, lkd_2 (by decide +kernel)]
  exact ⟨rfl, hv, hv.1, hv.2, Int.one_dvd _⟩
theorem hA_nameOf (i : Int) : hav 193 i = (0, 0, 25, 1) := by
  unfold hav
  rw [show RGL[(193 : Int).toNat]? = some [(0, 0, 25, 1)] by decide +kernel]
  simp only [List.length_singleton, Nat.mod_one]
  rfl
theorem rA_nameOf {h : LH} (hr : RNG h) {i : Int} (hi : 0 ≤ i ∧ i < 20) : 0 ≤ rd h 193 i ∧ rd h 193 i ≤ 25 := by
  have q := rdP (a := 193) (i := i) (lo := 0) (hi := 25) (st := 1) hr (vldA (n := 20) (k := 1) (by decide +kernel) (by decide +kernel) hi) (Or.inl (lkd_1 (by decide +kernel))) (fun v hv => by rw [hA_nameOf] at hv; exact hv)
  exact ⟨q.1, q.2.1⟩
theorem wA_nameOf {h : LH} (hh : INV h) {i v : Int} (hi : 0 ≤ i ∧ i < 20) (h0 : 0 ≤ v) (h1 : v ≤ 25) : INV (wr h 193 i v) := wrP hh (by unfold sens; omega) (Or.inl (lkd_1 (by decide +kernel))) (fun v hv => by rw [hA_nameOf]; exact hv) h0 h1 ⟨by omega, by omega⟩
theorem wR_nameOf {h : LH} (hr : RNG h) {i v : Int} (h0 : 0 ≤ v) (h1 : v ≤ 25) : RNG (wr h 193 i v) := wrR hr (Or.inl (lkd_1 (by decide +kernel))) (fun v hv => by rw [hA_nameOf]; exact hv) h0 h1 ⟨by omega, by omega⟩
theorem hA_readNameOf (i : Int) : hav 194 i = (0, 0, 25, 1) := by
  unfold hav
  rw [show RGL[(194 : Int).toNat]? = some [(0, 0, 25, 1)] by decide +kernel]
  simp only [List.length_singleton, Nat.mod_one]
  rfl
theorem rA_readNameOf {h : LH} (hr : RNG h) {i : Int} (hi : 0 ≤ i ∧ i < 20) : 0 ≤ rd h 194 i ∧ rd h 194 i ≤ 25 := by
  have q := rdP (a := 194) (i := i) (lo := 0) (hi := 25) (st := 1) hr (vldA (n := 20) (k := 1) (by decide +kernel) (by decide +kernel) hi) (Or.inl (lkd_1 (by decide +kernel))) (fun v hv => by rw [hA_readNameOf] at hv; exact hv)
  exact ⟨q.1, q.2.1⟩
theorem wA_readNameOf {h : LH} (hh : INV h) {i v : Int} (hi : 0 ≤ i ∧ i < 20) (h0 : 0 ≤ v) (h1 : v ≤ 25) : INV (wr h 194 i v) := wrP hh (by unfold sens; omega) (Or.inl (lkd_1 (by decide +kernel))) (fun v hv => by rw [hA_readNameOf]; exact hv) h0 h1 ⟨by omega, by omega⟩
theorem wR_readNameOf {h : LH} (hr : RNG h) {i v : Int} (h0 : 0 ≤ v) (h1 : v ≤ 25) : RNG (wr h 194 i v) := wrR hr (Or.inl (lkd_1 (by decide +kernel))) (fun v hv => by rw [hA_readNameOf]; exact hv) h0 h1 ⟨by omega, by omega⟩
theorem rX_lines {h : LH} (hr : RNG h) {i : Int} (hb : 0 ≤ i ∧ i < 100) {ix : AV} {lo hi : Int} {st : Nat} (hh : havs 195 ix = some (0, lo, hi, st)) (hx : inV ix i) : lo ≤ rd h 195 i ∧ rd h 195 i ≤ hi := by
  have q := rdP (a := 195) (i := i) (lo := lo) (hi := hi) (st := st) hr (vldA (n := 100) (k := 1) (by decide +kernel) (by decide +kernel) hb) (Or.inl (lkd_1 (by decide +kernel))) (fun v hv => havs_ok hh hx hv)
  exact ⟨q.1, q.2.1⟩
theorem wX_lines {h : LH} (hh : INV h) {i v : Int} (hb : 0 ≤ i ∧ i < 100) (hn : ¬ sens 195 i) {ix : AV} {lo hi : Int} (hf : fitR 195 ix (0, lo, hi, 1) = true) (hx : inV ix i) (h0 : lo ≤ v) (h1 : v ≤ hi) (h2 : i32 v) : INV (wr h 195 i v) := wrP hh hn (Or.inl (lkd_1 (by decide +kernel))) (fun v hv => fitR_ok hf hx hv) h0 h1 h2
theorem wY_lines {h : LH} (hr : RNG h) {i v : Int} {ix : AV} {lo hi : Int} (hf : fitR 195 ix (0, lo, hi, 1) = true) (hx : inV ix i) (h0 : lo ≤ v) (h1 : v ≤ hi) (h2 : i32 v) : RNG (wr h 195 i v) := wrR hr (Or.inl (lkd_1 (by decide +kernel))) (fun v hv => fitR_ok hf hx hv) h0 h1 h2
theorem hA_facts (i : Int) : hav 196 i = (0, -2147483648, 2147483647, 1) := by
  unfold hav
  rw [show RGL[(196 : Int).toNat]? = some [(0, -2147483648, 2147483647, 1)] by decide +kernel]
  simp only [List.length_singleton, Nat.mod_one]
  rfl
theorem rA_facts {h : LH} (hr : RNG h) {i : Int} (hi : 0 ≤ i ∧ i < 4) : -2147483648 ≤ rd h 196 i ∧ rd h 196 i ≤ 2147483647 := by
  have q := rdP (a := 196) (i := i) (lo := -2147483648) (hi := 2147483647) (st := 1) hr (vldA (n := 4) (k := 1) (by decide +kernel) (by decide +kernel) hi) (Or.inl (lkd_1 (by decide +kernel))) (fun v hv => by rw [hA_facts] at hv; exact hv)
  exact ⟨q.1, q.2.1⟩
theorem wA_facts {h : LH} (hh : INV h) {i v : Int} (hi : 0 ≤ i ∧ i < 4) (h0 : -2147483648 ≤ v) (h1 : v ≤ 2147483647) : INV (wr h 196 i v) := wrP hh (by unfold sens; omega) (Or.inl (lkd_1 (by decide +kernel))) (fun v hv => by rw [hA_facts]; exact hv) h0 h1 ⟨by omega, by omega⟩
theorem wR_facts {h : LH} (hr : RNG h) {i v : Int} (h0 : -2147483648 ≤ v) (h1 : v ≤ 2147483647) : RNG (wr h 196 i v) := wrR hr (Or.inl (lkd_1 (by decide +kernel))) (fun v hv => by rw [hA_facts]; exact hv) h0 h1 ⟨by omega, by omega⟩
theorem hA_pile (i : Int) : hav 197 i = (0, -2147483648, 2147483647, 1) := by
  unfold hav
  rw [show RGL[(197 : Int).toNat]? = some [(0, -2147483648, 2147483647, 1)] by decide +kernel]
  simp only [List.length_singleton, Nat.mod_one]
  rfl
theorem rA_pile {h : LH} (hr : RNG h) {i : Int} (hi : 0 ≤ i ∧ i < 1100) : -2147483648 ≤ rd h 197 i ∧ rd h 197 i ≤ 2147483647 := by
  have q := rdP (a := 197) (i := i) (lo := -2147483648) (hi := 2147483647) (st := 1) hr (vldA (n := 1100) (k := 1) (by decide +kernel) (by decide +kernel) hi) (Or.inl (lkd_1 (by decide +kernel))) (fun v hv => by rw [hA_pile] at hv; exact hv)
  exact ⟨q.1, q.2.1⟩
theorem wA_pile {h : LH} (hh : INV h) {i v : Int} (hi : 0 ≤ i ∧ i < 1100) (h0 : -2147483648 ≤ v) (h1 : v ≤ 2147483647) : INV (wr h 197 i v) := wrP hh (by unfold sens; omega) (Or.inl (lkd_1 (by decide +kernel))) (fun v hv => by rw [hA_pile]; exact hv) h0 h1 ⟨by omega, by omega⟩
theorem wR_pile {h : LH} (hr : RNG h) {i v : Int} (h0 : -2147483648 ≤ v) (h1 : v ≤ 2147483647) : RNG (wr h 197 i v) := wrR hr (Or.inl (lkd_1 (by decide +kernel))) (fun v hv => by rw [hA_pile]; exact hv) h0 h1 ⟨by omega, by omega⟩
theorem rX_state {h : LH} (hr : RNG h) {i : Int} (hb : 0 ≤ i ∧ i < 1610) {ix : AV} {lo hi : Int} {st : Nat} (hh : havs 198 ix = some (0, lo, hi, st)) (hx : inV ix i) : lo ≤ rd h 198 i ∧ rd h 198 i ≤ hi := by
  have q := rdP (a := 198) (i := i) (lo := lo) (hi := hi) (st := st) hr (vldA (n := 1610) (k := 1) (by decide +kernel) (by decide +kernel) hb) (Or.inl (lkd_1 (by decide +kernel))) (fun v hv => havs_ok hh hx hv)
  exact ⟨q.1, q.2.1⟩
theorem wX_state {h : LH} (hh : INV h) {i v : Int} (hb : 0 ≤ i ∧ i < 1610) (hn : ¬ sens 198 i) {ix : AV} {lo hi : Int} (hf : fitR 198 ix (0, lo, hi, 1) = true) (hx : inV ix i) (h0 : lo ≤ v) (h1 : v ≤ hi) (h2 : i32 v) : INV (wr h 198 i v) := wrP hh hn (Or.inl (lkd_1 (by decide +kernel))) (fun v hv => fitR_ok hf hx hv) h0 h1 h2
theorem wY_state {h : LH} (hr : RNG h) {i v : Int} {ix : AV} {lo hi : Int} (hf : fitR 198 ix (0, lo, hi, 1) = true) (hx : inV ix i) (h0 : lo ≤ v) (h1 : v ≤ hi) (h2 : i32 v) : RNG (wr h 198 i v) := wrR hr (Or.inl (lkd_1 (by decide +kernel))) (fun v hv => fitR_ok hf hx hv) h0 h1 h2
theorem hA_isMarked (i : Int) : hav 199 i = (0, 0, 1, 1) := by
  unfold hav
  rw [show RGL[(199 : Int).toNat]? = some [(0, 0, 1, 1)] by decide +kernel]
  simp only [List.length_singleton, Nat.mod_one]
  rfl
theorem rA_isMarked {h : LH} (hr : RNG h) {i : Int} (hi : 0 ≤ i ∧ i < 4) : 0 ≤ rd h 199 i ∧ rd h 199 i ≤ 1 := by
  have q := rdP (a := 199) (i := i) (lo := 0) (hi := 1) (st := 1) hr (vldA (n := 4) (k := 4) (by decide +kernel) (by decide +kernel) hi) (Or.inl (lkd_4 (by decide +kernel))) (fun v hv => by rw [hA_isMarked] at hv; exact hv)
  exact ⟨q.1, q.2.1⟩
theorem wR_isMarked {h : LH} (hr : RNG h) {i v : Int} (h0 : 0 ≤ v) (h1 : v ≤ 1) : RNG (wr h 199 i v) := wrR hr (Or.inl (lkd_4 (by decide +kernel))) (fun v hv => by rw [hA_isMarked]; exact hv) h0 h1 ⟨by omega, by omega⟩
theorem rX_markedLines {h : LH} (hr : RNG h) {i : Int} (hb : 0 ≤ i ∧ i < 200) {ix : AV} {lo hi : Int} {st : Nat} (hh : havs 200 ix = some (0, lo, hi, st)) (hx : inV ix i) : lo ≤ rd h 200 i ∧ rd h 200 i ≤ hi := by
  have q := rdP (a := 200) (i := i) (lo := lo) (hi := hi) (st := st) hr (vldA (n := 200) (k := 1) (by decide +kernel) (by decide +kernel) hb) (Or.inl (lkd_1 (by decide +kernel))) (fun v hv => havs_ok hh hx hv)
  exact ⟨q.1, q.2.1⟩
theorem wX_markedLines {h : LH} (hh : INV h) {i v : Int} (hb : 0 ≤ i ∧ i < 200) (hn : ¬ sens 200 i) {ix : AV} {lo hi : Int} (hf : fitR 200 ix (0, lo, hi, 1) = true) (hx : inV ix i) (h0 : lo ≤ v) (h1 : v ≤ hi) (h2 : i32 v) : INV (wr h 200 i v) := wrP hh hn (Or.inl (lkd_1 (by decide +kernel))) (fun v hv => fitR_ok hf hx hv) h0 h1 h2
theorem wY_markedLines {h : LH} (hr : RNG h) {i v : Int} {ix : AV} {lo hi : Int} (hf : fitR 200 ix (0, lo, hi, 1) = true) (hx : inV ix i) (h0 : lo ≤ v) (h1 : v ≤ hi) (h2 : i32 v) : RNG (wr h 200 i v) := wrR hr (Or.inl (lkd_1 (by decide +kernel))) (fun v hv => fitR_ok hf hx hv) h0 h1 h2
theorem hA_fewest (i : Int) : hav 201 i = (0, -2147483648, 2147483647, 1) := by
  unfold hav
  rw [show RGL[(201 : Int).toNat]? = some [(0, -2147483648, 2147483647, 1)] by decide +kernel]
  simp only [List.length_singleton, Nat.mod_one]
  rfl
theorem rA_fewest {h : LH} (hr : RNG h) {i : Int} (hi : 0 ≤ i ∧ i < 500) : -2147483648 ≤ rd h 201 i ∧ rd h 201 i ≤ 2147483647 := by
  have q := rdP (a := 201) (i := i) (lo := -2147483648) (hi := 2147483647) (st := 1) hr (vldA (n := 500) (k := 1) (by decide +kernel) (by decide +kernel) hi) (Or.inl (lkd_1 (by decide +kernel))) (fun v hv => by rw [hA_fewest] at hv; exact hv)
  exact ⟨q.1, q.2.1⟩
theorem wA_fewest {h : LH} (hh : INV h) {i v : Int} (hi : 0 ≤ i ∧ i < 500) (h0 : -2147483648 ≤ v) (h1 : v ≤ 2147483647) : INV (wr h 201 i v) := wrP hh (by unfold sens; omega) (Or.inl (lkd_1 (by decide +kernel))) (fun v hv => by rw [hA_fewest]; exact hv) h0 h1 ⟨by omega, by omega⟩
theorem wR_fewest {h : LH} (hr : RNG h) {i v : Int} (h0 : -2147483648 ≤ v) (h1 : v ≤ 2147483647) : RNG (wr h 201 i v) := wrR hr (Or.inl (lkd_1 (by decide +kernel))) (fun v hv => by rw [hA_fewest]; exact hv) h0 h1 ⟨by omega, by omega⟩
theorem hA_wayDoors (i : Int) : hav 202 i = (0, 0, 13, 1) := by
  unfold hav
  rw [show RGL[(202 : Int).toNat]? = some [(0, 0, 13, 1)] by decide +kernel]
  simp only [List.length_singleton, Nat.mod_one]
  rfl
theorem rA_wayDoors {h : LH} (hr : RNG h) {i : Int} (hi : 0 ≤ i ∧ i < 30) : 0 ≤ rd h 202 i ∧ rd h 202 i ≤ 13 := by
  have q := rdP (a := 202) (i := i) (lo := 0) (hi := 13) (st := 1) hr (vldA (n := 30) (k := 1) (by decide +kernel) (by decide +kernel) hi) (Or.inl (lkd_1 (by decide +kernel))) (fun v hv => by rw [hA_wayDoors] at hv; exact hv)
  exact ⟨q.1, q.2.1⟩
theorem wA_wayDoors {h : LH} (hh : INV h) {i v : Int} (hi : 0 ≤ i ∧ i < 30) (h0 : 0 ≤ v) (h1 : v ≤ 13) : INV (wr h 202 i v) := wrP hh (by unfold sens; omega) (Or.inl (lkd_1 (by decide +kernel))) (fun v hv => by rw [hA_wayDoors]; exact hv) h0 h1 ⟨by omega, by omega⟩
theorem wR_wayDoors {h : LH} (hr : RNG h) {i v : Int} (h0 : 0 ≤ v) (h1 : v ≤ 13) : RNG (wr h 202 i v) := wrR hr (Or.inl (lkd_1 (by decide +kernel))) (fun v hv => by rw [hA_wayDoors]; exact hv) h0 h1 ⟨by omega, by omega⟩
theorem hA_into (i : Int) : hav 203 i = (0, 0, 1023, 1) := by
  unfold hav
  rw [show RGL[(203 : Int).toNat]? = some [(0, 0, 1023, 1)] by decide +kernel]
  simp only [List.length_singleton, Nat.mod_one]
  rfl
theorem rA_into {h : LH} (hr : RNG h) {i : Int} (hi : 0 ≤ i ∧ i < 10) : 0 ≤ rd h 203 i ∧ rd h 203 i ≤ 1023 := by
  have q := rdP (a := 203) (i := i) (lo := 0) (hi := 1023) (st := 1) hr (vldA (n := 10) (k := 1) (by decide +kernel) (by decide +kernel) hi) (Or.inl (lkd_1 (by decide +kernel))) (fun v hv => by rw [hA_into] at hv; exact hv)
  exact ⟨q.1, q.2.1⟩
theorem wA_into {h : LH} (hh : INV h) {i v : Int} (hi : 0 ≤ i ∧ i < 10) (h0 : 0 ≤ v) (h1 : v ≤ 1023) : INV (wr h 203 i v) := wrP hh (by unfold sens; omega) (Or.inl (lkd_1 (by decide +kernel))) (fun v hv => by rw [hA_into]; exact hv) h0 h1 ⟨by omega, by omega⟩
theorem wR_into {h : LH} (hr : RNG h) {i v : Int} (h0 : 0 ≤ v) (h1 : v ≤ 1023) : RNG (wr h 203 i v) := wrR hr (Or.inl (lkd_1 (by decide +kernel))) (fun v hv => by rw [hA_into]; exact hv) h0 h1 ⟨by omega, by omega⟩
theorem hA_flow (i : Int) : hav 204 i = (0, -2147483648, 2147483647, 1) := by
  unfold hav
  rw [show RGL[(204 : Int).toNat]? = some [(0, -2147483648, 2147483647, 1)] by decide +kernel]
  simp only [List.length_singleton, Nat.mod_one]
  rfl
theorem rA_flow {h : LH} (hr : RNG h) {i : Int} (hi : 0 ≤ i ∧ i < 336) : -2147483648 ≤ rd h 204 i ∧ rd h 204 i ≤ 2147483647 := by
  have q := rdP (a := 204) (i := i) (lo := -2147483648) (hi := 2147483647) (st := 1) hr (vldA (n := 336) (k := 1) (by decide +kernel) (by decide +kernel) hi) (Or.inl (lkd_1 (by decide +kernel))) (fun v hv => by rw [hA_flow] at hv; exact hv)
  exact ⟨q.1, q.2.1⟩
theorem wA_flow {h : LH} (hh : INV h) {i v : Int} (hi : 0 ≤ i ∧ i < 336) (h0 : -2147483648 ≤ v) (h1 : v ≤ 2147483647) : INV (wr h 204 i v) := wrP hh (by unfold sens; omega) (Or.inl (lkd_1 (by decide +kernel))) (fun v hv => by rw [hA_flow]; exact hv) h0 h1 ⟨by omega, by omega⟩
theorem wR_flow {h : LH} (hr : RNG h) {i v : Int} (h0 : -2147483648 ≤ v) (h1 : v ≤ 2147483647) : RNG (wr h 204 i v) := wrR hr (Or.inl (lkd_1 (by decide +kernel))) (fun v hv => by rw [hA_flow]; exact hv) h0 h1 ⟨by omega, by omega⟩
theorem hA_waits (i : Int) : hav 205 i = (0, -2147483648, 2147483647, 1) := by
  unfold hav
  rw [show RGL[(205 : Int).toNat]? = some [(0, -2147483648, 2147483647, 1)] by decide +kernel]
  simp only [List.length_singleton, Nat.mod_one]
  rfl
theorem rA_waits {h : LH} (hr : RNG h) {i : Int} (hi : 0 ≤ i ∧ i < 250) : -2147483648 ≤ rd h 205 i ∧ rd h 205 i ≤ 2147483647 := by
  have q := rdP (a := 205) (i := i) (lo := -2147483648) (hi := 2147483647) (st := 1) hr (vldA (n := 250) (k := 1) (by decide +kernel) (by decide +kernel) hi) (Or.inl (lkd_1 (by decide +kernel))) (fun v hv => by rw [hA_waits] at hv; exact hv)
  exact ⟨q.1, q.2.1⟩
theorem wA_waits {h : LH} (hh : INV h) {i v : Int} (hi : 0 ≤ i ∧ i < 250) (h0 : -2147483648 ≤ v) (h1 : v ≤ 2147483647) : INV (wr h 205 i v) := wrP hh (by unfold sens; omega) (Or.inl (lkd_1 (by decide +kernel))) (fun v hv => by rw [hA_waits]; exact hv) h0 h1 ⟨by omega, by omega⟩
theorem wR_waits {h : LH} (hr : RNG h) {i v : Int} (h0 : -2147483648 ≤ v) (h1 : v ≤ 2147483647) : RNG (wr h 205 i v) := wrR hr (Or.inl (lkd_1 (by decide +kernel))) (fun v hv => by rw [hA_waits]; exact hv) h0 h1 ⟨by omega, by omega⟩
theorem hA_cameBy (i : Int) : hav 206 i = (0, -2147483648, 2147483647, 1) := by
  unfold hav
  rw [show RGL[(206 : Int).toNat]? = some [(0, -2147483648, 2147483647, 1)] by decide +kernel]
  simp only [List.length_singleton, Nat.mod_one]
  rfl
theorem rA_cameBy {h : LH} (hr : RNG h) {i : Int} (hi : 0 ≤ i ∧ i < 250) : -2147483648 ≤ rd h 206 i ∧ rd h 206 i ≤ 2147483647 := by
  have q := rdP (a := 206) (i := i) (lo := -2147483648) (hi := 2147483647) (st := 1) hr (vldA (n := 250) (k := 1) (by decide +kernel) (by decide +kernel) hi) (Or.inl (lkd_1 (by decide +kernel))) (fun v hv => by rw [hA_cameBy] at hv; exact hv)
  exact ⟨q.1, q.2.1⟩
theorem wA_cameBy {h : LH} (hh : INV h) {i v : Int} (hi : 0 ≤ i ∧ i < 250) (h0 : -2147483648 ≤ v) (h1 : v ≤ 2147483647) : INV (wr h 206 i v) := wrP hh (by unfold sens; omega) (Or.inl (lkd_1 (by decide +kernel))) (fun v hv => by rw [hA_cameBy]; exact hv) h0 h1 ⟨by omega, by omega⟩
theorem wR_cameBy {h : LH} (hr : RNG h) {i v : Int} (h0 : -2147483648 ≤ v) (h1 : v ≤ 2147483647) : RNG (wr h 206 i v) := wrR hr (Or.inl (lkd_1 (by decide +kernel))) (fun v hv => by rw [hA_cameBy]; exact hv) h0 h1 ⟨by omega, by omega⟩
theorem hA_queue (i : Int) : hav 207 i = (0, 0, 249, 1) := by
  unfold hav
  rw [show RGL[(207 : Int).toNat]? = some [(0, 0, 249, 1)] by decide +kernel]
  simp only [List.length_singleton, Nat.mod_one]
  rfl
theorem rA_queue {h : LH} (hr : RNG h) {i : Int} (hi : 0 ≤ i ∧ i < 250) : 0 ≤ rd h 207 i ∧ rd h 207 i ≤ 249 := by
  have q := rdP (a := 207) (i := i) (lo := 0) (hi := 249) (st := 1) hr (vldA (n := 250) (k := 1) (by decide +kernel) (by decide +kernel) hi) (Or.inl (lkd_1 (by decide +kernel))) (fun v hv => by rw [hA_queue] at hv; exact hv)
  exact ⟨q.1, q.2.1⟩
theorem wA_queue {h : LH} (hh : INV h) {i v : Int} (hi : 0 ≤ i ∧ i < 250) (h0 : 0 ≤ v) (h1 : v ≤ 249) : INV (wr h 207 i v) := wrP hh (by unfold sens; omega) (Or.inl (lkd_1 (by decide +kernel))) (fun v hv => by rw [hA_queue]; exact hv) h0 h1 ⟨by omega, by omega⟩
theorem wR_queue {h : LH} (hr : RNG h) {i v : Int} (h0 : 0 ≤ v) (h1 : v ≤ 249) : RNG (wr h 207 i v) := wrR hr (Or.inl (lkd_1 (by decide +kernel))) (fun v hv => by rw [hA_queue]; exact hv) h0 h1 ⟨by omega, by omega⟩
theorem hA_can (i : Int) : hav 208 i = (0, -2147483648, 2147483647, 1) := by
  unfold hav
  rw [show RGL[(208 : Int).toNat]? = some [(0, -2147483648, 2147483647, 1)] by decide +kernel]
  simp only [List.length_singleton, Nat.mod_one]
  rfl
theorem rA_can {h : LH} (hr : RNG h) {i : Int} (hi : 0 ≤ i ∧ i < 100) : -2147483648 ≤ rd h 208 i ∧ rd h 208 i ≤ 2147483647 := by
  have q := rdP (a := 208) (i := i) (lo := -2147483648) (hi := 2147483647) (st := 1) hr (vldA (n := 100) (k := 1) (by decide +kernel) (by decide +kernel) hi) (Or.inl (lkd_1 (by decide +kernel))) (fun v hv => by rw [hA_can] at hv; exact hv)
  exact ⟨q.1, q.2.1⟩
theorem wA_can {h : LH} (hh : INV h) {i v : Int} (hi : 0 ≤ i ∧ i < 100) (h0 : -2147483648 ≤ v) (h1 : v ≤ 2147483647) : INV (wr h 208 i v) := wrP hh (by unfold sens; omega) (Or.inl (lkd_1 (by decide +kernel))) (fun v hv => by rw [hA_can]; exact hv) h0 h1 ⟨by omega, by omega⟩
theorem wR_can {h : LH} (hr : RNG h) {i v : Int} (h0 : -2147483648 ≤ v) (h1 : v ≤ 2147483647) : RNG (wr h 208 i v) := wrR hr (Or.inl (lkd_1 (by decide +kernel))) (fun v hv => by rw [hA_can]; exact hv) h0 h1 ⟨by omega, by omega⟩
theorem hA_closures (i : Int) : hav 209 i = (0, -2147483648, 2147483647, 1) := by
  unfold hav
  rw [show RGL[(209 : Int).toNat]? = some [(0, -2147483648, 2147483647, 1)] by decide +kernel]
  simp only [List.length_singleton, Nat.mod_one]
  rfl
theorem rA_closures {h : LH} (hr : RNG h) {i : Int} (hi : 0 ≤ i ∧ i < 10) : -2147483648 ≤ rd h 209 i ∧ rd h 209 i ≤ 2147483647 := by
  have q := rdP (a := 209) (i := i) (lo := -2147483648) (hi := 2147483647) (st := 1) hr (vldA (n := 10) (k := 1) (by decide +kernel) (by decide +kernel) hi) (Or.inl (lkd_1 (by decide +kernel))) (fun v hv => by rw [hA_closures] at hv; exact hv)
  exact ⟨q.1, q.2.1⟩
theorem wA_closures {h : LH} (hh : INV h) {i v : Int} (hi : 0 ≤ i ∧ i < 10) (h0 : -2147483648 ≤ v) (h1 : v ≤ 2147483647) : INV (wr h 209 i v) := wrP hh (by unfold sens; omega) (Or.inl (lkd_1 (by decide +kernel))) (fun v hv => by rw [hA_closures]; exact hv) h0 h1 ⟨by omega, by omega⟩
theorem wR_closures {h : LH} (hr : RNG h) {i v : Int} (h0 : -2147483648 ≤ v) (h1 : v ≤ 2147483647) : RNG (wr h 209 i v) := wrR hr (Or.inl (lkd_1 (by decide +kernel))) (fun v hv => by rw [hA_closures]; exact hv) h0 h1 ⟨by omega, by omega⟩
theorem hA_costs (i : Int) : hav 210 i = (0, -2147483648, 2147483647, 1) := by
  unfold hav
  rw [show RGL[(210 : Int).toNat]? = some [(0, -2147483648, 2147483647, 1)] by decide +kernel]
  simp only [List.length_singleton, Nat.mod_one]
  rfl
theorem rA_costs {h : LH} (hr : RNG h) {i : Int} (hi : 0 ≤ i ∧ i < 10) : -2147483648 ≤ rd h 210 i ∧ rd h 210 i ≤ 2147483647 := by
  have q := rdP (a := 210) (i := i) (lo := -2147483648) (hi := 2147483647) (st := 1) hr (vldA (n := 10) (k := 1) (by decide +kernel) (by decide +kernel) hi) (Or.inl (lkd_1 (by decide +kernel))) (fun v hv => by rw [hA_costs] at hv; exact hv)
  exact ⟨q.1, q.2.1⟩
theorem wA_costs {h : LH} (hh : INV h) {i v : Int} (hi : 0 ≤ i ∧ i < 10) (h0 : -2147483648 ≤ v) (h1 : v ≤ 2147483647) : INV (wr h 210 i v) := wrP hh (by unfold sens; omega) (Or.inl (lkd_1 (by decide +kernel))) (fun v hv => by rw [hA_costs]; exact hv) h0 h1 ⟨by omega, by omega⟩
theorem wR_costs {h : LH} (hr : RNG h) {i v : Int} (h0 : -2147483648 ≤ v) (h1 : v ≤ 2147483647) : RNG (wr h 210 i v) := wrR hr (Or.inl (lkd_1 (by decide +kernel))) (fun v hv => by rw [hA_costs]; exact hv) h0 h1 ⟨by omega, by omega⟩
theorem hA_rents (i : Int) : hav 211 i = (0, -2147483648, 2147483647, 1) := by
  unfold hav
  rw [show RGL[(211 : Int).toNat]? = some [(0, -2147483648, 2147483647, 1)] by decide +kernel]
  simp only [List.length_singleton, Nat.mod_one]
  rfl
theorem rA_rents {h : LH} (hr : RNG h) {i : Int} (hi : 0 ≤ i ∧ i < 200) : -2147483648 ≤ rd h 211 i ∧ rd h 211 i ≤ 2147483647 := by
  have q := rdP (a := 211) (i := i) (lo := -2147483648) (hi := 2147483647) (st := 1) hr (vldA (n := 200) (k := 1) (by decide +kernel) (by decide +kernel) hi) (Or.inl (lkd_1 (by decide +kernel))) (fun v hv => by rw [hA_rents] at hv; exact hv)
  exact ⟨q.1, q.2.1⟩
theorem wA_rents {h : LH} (hh : INV h) {i v : Int} (hi : 0 ≤ i ∧ i < 200) (h0 : -2147483648 ≤ v) (h1 : v ≤ 2147483647) : INV (wr h 211 i v) := wrP hh (by unfold sens; omega) (Or.inl (lkd_1 (by decide +kernel))) (fun v hv => by rw [hA_rents]; exact hv) h0 h1 ⟨by omega, by omega⟩
theorem wR_rents {h : LH} (hr : RNG h) {i v : Int} (h0 : -2147483648 ≤ v) (h1 : v ≤ 2147483647) : RNG (wr h 211 i v) := wrR hr (Or.inl (lkd_1 (by decide +kernel))) (fun v hv => by rw [hA_rents]; exact hv) h0 h1 ⟨by omega, by omega⟩
theorem hA_moves (i : Int) : hav 212 i = (0, -2147483648, 2147483647, 1) := by
  unfold hav
  rw [show RGL[(212 : Int).toNat]? = some [(0, -2147483648, 2147483647, 1)] by decide +kernel]
  simp only [List.length_singleton, Nat.mod_one]
  rfl
theorem rA_moves {h : LH} (hr : RNG h) {i : Int} (hi : 0 ≤ i ∧ i < 200) : -2147483648 ≤ rd h 212 i ∧ rd h 212 i ≤ 2147483647 := by
  have q := rdP (a := 212) (i := i) (lo := -2147483648) (hi := 2147483647) (st := 1) hr (vldA (n := 200) (k := 1) (by decide +kernel) (by decide +kernel) hi) (Or.inl (lkd_1 (by decide +kernel))) (fun v hv => by rw [hA_moves] at hv; exact hv)
  exact ⟨q.1, q.2.1⟩
theorem wA_moves {h : LH} (hh : INV h) {i v : Int} (hi : 0 ≤ i ∧ i < 200) (h0 : -2147483648 ≤ v) (h1 : v ≤ 2147483647) : INV (wr h 212 i v) := wrP hh (by unfold sens; omega) (Or.inl (lkd_1 (by decide +kernel))) (fun v hv => by rw [hA_moves]; exact hv) h0 h1 ⟨by omega, by omega⟩
theorem wR_moves {h : LH} (hr : RNG h) {i v : Int} (h0 : -2147483648 ≤ v) (h1 : v ≤ 2147483647) : RNG (wr h 212 i v) := wrR hr (Or.inl (lkd_1 (by decide +kernel))) (fun v hv => by rw [hA_moves]; exact hv) h0 h1 ⟨by omega, by omega⟩
theorem rq_d0 {h : LH} (hr : RNG h) {i d : Int} (e : i = 4 + 8 * d) (h0 : 0 ≤ d) (h1 : d ≤ 13) : 0 ≤ rd h 188 i ∧ rd h 188 i ≤ 3 := rX_quarters hr (by omega) (ix := (0, 4, 108, 8)) (st := 1) (by decide +kernel) (invs (s := 8) (k := d) e h0 (by omega))
theorem rq_d1 {h : LH} (hr : RNG h) {i d : Int} (e : i = 5 + 8 * d) (h0 : 0 ≤ d) (h1 : d ≤ 13) : 0 ≤ rd h 188 i ∧ rd h 188 i ≤ 9 := rX_quarters hr (by omega) (ix := (0, 5, 109, 8)) (st := 1) (by decide +kernel) (invs (s := 8) (k := d) e h0 (by omega))
theorem rq_d2 {h : LH} (hr : RNG h) {i d : Int} (e : i = 6 + 8 * d) (h0 : 0 ≤ d) (h1 : d ≤ 13) : 0 ≤ rd h 188 i ∧ rd h 188 i ≤ 9 := rX_quarters hr (by omega) (ix := (0, 6, 110, 8)) (st := 1) (by decide +kernel) (invs (s := 8) (k := d) e h0 (by omega))
theorem rq_d3 {h : LH} (hr : RNG h) {i d : Int} (e : i = 7 + 8 * d) (h0 : 0 ≤ d) (h1 : d ≤ 13) : 0 ≤ rd h 188 i ∧ rd h 188 i ≤ 23 := rX_quarters hr (by omega) (ix := (0, 7, 111, 8)) (st := 1) (by decide +kernel) (invs (s := 8) (k := d) e h0 (by omega))
theorem rq_d4 {h : LH} (hr : RNG h) {i d : Int} (e : i = 8 + 8 * d) (h0 : 0 ≤ d) (h1 : d ≤ 13) : 0 ≤ rd h 188 i ∧ rd h 188 i ≤ 24 := rX_quarters hr (by omega) (ix := (0, 8, 112, 8)) (st := 1) (by decide +kernel) (invs (s := 8) (k := d) e h0 (by omega))
theorem rq_d5 {h : LH} (hr : RNG h) {i d : Int} (e : i = 9 + 8 * d) (h0 : 0 ≤ d) (h1 : d ≤ 13) : -1 ≤ rd h 188 i ∧ rd h 188 i ≤ 3 := rX_quarters hr (by omega) (ix := (0, 9, 113, 8)) (st := 1) (by decide +kernel) (invs (s := 8) (k := d) e h0 (by omega))
theorem rq_d6 {h : LH} (hr : RNG h) {i d : Int} (e : i = 10 + 8 * d) (h0 : 0 ≤ d) (h1 : d ≤ 13) : 0 ≤ rd h 188 i ∧ rd h 188 i ≤ 9 := rX_quarters hr (by omega) (ix := (0, 10, 114, 8)) (st := 1) (by decide +kernel) (invs (s := 8) (k := d) e h0 (by omega))
theorem rq_d7 {h : LH} (hr : RNG h) {i d : Int} (e : i = 11 + 8 * d) (h0 : 0 ≤ d) (h1 : d ≤ 13) : 0 ≤ rd h 188 i ∧ rd h 188 i ≤ 9 := rX_quarters hr (by omega) (ix := (0, 11, 115, 8)) (st := 1) (by decide +kernel) (invs (s := 8) (k := d) e h0 (by omega))
theorem rq_p0 {h : LH} (hr : RNG h) {i d : Int} (e : i = 116 + 4 * d) (h0 : 0 ≤ d) (h1 : d ≤ 5) : 0 ≤ rd h 188 i ∧ rd h 188 i ≤ 3 := rX_quarters hr (by omega) (ix := (0, 116, 136, 4)) (st := 1) (by decide +kernel) (invs (s := 4) (k := d) e h0 (by omega))
theorem rq_p1 {h : LH} (hr : RNG h) {i d : Int} (e : i = 117 + 4 * d) (h0 : 0 ≤ d) (h1 : d ≤ 5) : 0 ≤ rd h 188 i ∧ rd h 188 i ≤ 9 := rX_quarters hr (by omega) (ix := (0, 117, 137, 4)) (st := 1) (by decide +kernel) (invs (s := 4) (k := d) e h0 (by omega))
theorem rq_p2 {h : LH} (hr : RNG h) {i d : Int} (e : i = 118 + 4 * d) (h0 : 0 ≤ d) (h1 : d ≤ 5) : 0 ≤ rd h 188 i ∧ rd h 188 i ≤ 9 := rX_quarters hr (by omega) (ix := (0, 118, 138, 4)) (st := 1) (by decide +kernel) (invs (s := 4) (k := d) e h0 (by omega))
theorem rq_p3 {h : LH} (hr : RNG h) {i d : Int} (e : i = 119 + 4 * d) (h0 : 0 ≤ d) (h1 : d ≤ 5) : 0 ≤ rd h 188 i ∧ rd h 188 i ≤ 24 := rX_quarters hr (by omega) (ix := (0, 119, 139, 4)) (st := 1) (by decide +kernel) (invs (s := 4) (k := d) e h0 (by omega))
theorem rq_rooms {h : LH} (hr : RNG h) : 0 ≤ rd h 188 0 ∧ rd h 188 0 ≤ 10 := rX_quarters hr (by omega) (ix := (0, 0, 0, 0)) (st := 1) (by decide +kernel) (pt 0)
theorem rq_doors {h : LH} (hr : RNG h) : 0 ≤ rd h 188 1 ∧ rd h 188 1 ≤ 14 := rX_quarters hr (by omega) (ix := (0, 1, 1, 0)) (st := 1) (by decide +kernel) (pt 1)
theorem rq_people {h : LH} (hr : RNG h) : 0 ≤ rd h 188 2 ∧ rd h 188 2 ≤ 6 := rX_quarters hr (by omega) (ix := (0, 2, 2, 0)) (st := 1) (by decide +kernel) (pt 2)
theorem rq_let {h : LH} (hr : RNG h) : -1 ≤ rd h 188 3 ∧ rd h 188 3 ≤ 0 := rX_quarters hr (by omega) (ix := (0, 3, 3, 0)) (st := 1) (by decide +kernel) (pt 3)
theorem havM {a i : Int} {L : List AV} (hL : RGL[a.toNat]? = some L) {n r : Nat} (hn : L.length = n) (hm : i.toNat % n = r) : hav a i = L.getD r top0 := by
  unfold hav
  rw [hL]
  simp only
  rw [hn, hm]
theorem hs_now {i : Int} {b p : Int} (e : i = b + 0 + p) (hb : b % 70 = 0) (h0 : 0 ≤ b) (p0 : 0 ≤ p) (p1 : p ≤ 0) : hav 198 i = (0, 0, 24, 1) := by
  have hp : p = 0 := by omega
  rcases hp with rfl
  · rw [havM (a := 198) (i := i) (L := RGr63) (n := 70) (r := 0) (by decide +kernel) (by decide +kernel) (by omega)]; decide +kernel
theorem rs_now {h : LH} (hr : RNG h) {i : Int} (b p : Int) (e : i = b + 0 + p) (hb : b % 70 = 0) (h0 : 0 ≤ b) (h1 : b ≤ 1540) (p0 : 0 ≤ p) (p1 : p ≤ 0) : 0 ≤ rd h 198 i ∧ rd h 198 i ≤ 24 := by
  have q := rdP (a := 198) (i := i) (lo := 0) (hi := 24) (st := 1) hr (vldA (n := 1610) (k := 1) (by decide +kernel) (by decide +kernel) (by omega)) (Or.inl (lkd_1 (by decide +kernel))) (fun v hv => by rw [hs_now e hb h0 p0 p1] at hv; exact hv)
  exact ⟨q.1, q.2.1⟩
theorem hs_where {i : Int} {b p : Int} (e : i = b + 2 + p) (hb : b % 70 = 0) (h0 : 0 ≤ b) (p0 : 0 ≤ p) (p1 : p ≤ 5) : hav 198 i = (0, 0, 9, 1) := by
  have hp : p = 0 ∨ p = 1 ∨ p = 2 ∨ p = 3 ∨ p = 4 ∨ p = 5 := by omega
  rcases hp with rfl | rfl | rfl | rfl | rfl | rfl
  · rw [havM (a := 198) (i := i) (L := RGr63) (n := 70) (r := 2) (by decide +kernel) (by decide +kernel) (by omega)]; decide +kernel
  · rw [havM (a := 198) (i := i) (L := RGr63) (n := 70) (r := 3) (by decide +kernel) (by decide +kernel) (by omega)]; decide +kernel
  · rw [havM (a := 198) (i := i) (L := RGr63) (n := 70) (r := 4) (by decide +kernel) (by decide +kernel) (by omega)]; decide +kernel
  · rw [havM (a := 198) (i := i) (L := RGr63) (n := 70) (r := 5) (by decide +kernel) (by decide +kernel) (by omega)]; decide +kernel
  · rw [havM (a := 198) (i := i) (L := RGr63) (n := 70) (r := 6) (by decide +kernel) (by decide +kernel) (by omega)]; decide +kernel
  · rw [havM (a := 198) (i := i) (L := RGr63) (n := 70) (r := 7) (by decide +kernel) (by decide +kernel) (by omega)]; decide +kernel
theorem rs_where {h : LH} (hr : RNG h) {i : Int} (b p : Int) (e : i = b + 2 + p) (hb : b % 70 = 0) (h0 : 0 ≤ b) (h1 : b ≤ 1540) (p0 : 0 ≤ p) (p1 : p ≤ 5) : 0 ≤ rd h 198 i ∧ rd h 198 i ≤ 9 := by
  have q := rdP (a := 198) (i := i) (lo := 0) (hi := 9) (st := 1) hr (vldA (n := 1610) (k := 1) (by decide +kernel) (by decide +kernel) (by omega)) (Or.inl (lkd_1 (by decide +kernel))) (fun v hv => by rw [hs_where e hb h0 p0 p1] at hv; exact hv)
  exact ⟨q.1, q.2.1⟩
theorem hs_done {i : Int} {b p : Int} (e : i = b + 8 + p) (hb : b % 70 = 0) (h0 : 0 ≤ b) (p0 : 0 ≤ p) (p1 : p ≤ 5) : hav 198 i = (0, 0, 1, 1) := by
  have hp : p = 0 ∨ p = 1 ∨ p = 2 ∨ p = 3 ∨ p = 4 ∨ p = 5 := by omega
  rcases hp with rfl | rfl | rfl | rfl | rfl | rfl
  · rw [havM (a := 198) (i := i) (L := RGr63) (n := 70) (r := 8) (by decide +kernel) (by decide +kernel) (by omega)]; decide +kernel
  · rw [havM (a := 198) (i := i) (L := RGr63) (n := 70) (r := 9) (by decide +kernel) (by decide +kernel) (by omega)]; decide +kernel
  · rw [havM (a := 198) (i := i) (L := RGr63) (n := 70) (r := 10) (by decide +kernel) (by decide +kernel) (by omega)]; decide +kernel
  · rw [havM (a := 198) (i := i) (L := RGr63) (n := 70) (r := 11) (by decide +kernel) (by decide +kernel) (by omega)]; decide +kernel
  · rw [havM (a := 198) (i := i) (L := RGr63) (n := 70) (r := 12) (by decide +kernel) (by decide +kernel) (by omega)]; decide +kernel
  · rw [havM (a := 198) (i := i) (L := RGr63) (n := 70) (r := 13) (by decide +kernel) (by decide +kernel) (by omega)]; decide +kernel
theorem rs_done {h : LH} (hr : RNG h) {i : Int} (b p : Int) (e : i = b + 8 + p) (hb : b % 70 = 0) (h0 : 0 ≤ b) (h1 : b ≤ 1540) (p0 : 0 ≤ p) (p1 : p ≤ 5) : 0 ≤ rd h 198 i ∧ rd h 198 i ≤ 1 := by
  have q := rdP (a := 198) (i := i) (lo := 0) (hi := 1) (st := 1) hr (vldA (n := 1610) (k := 1) (by decide +kernel) (by decide +kernel) (by omega)) (Or.inl (lkd_1 (by decide +kernel))) (fun v hv => by rw [hs_done e hb h0 p0 p1] at hv; exact hv)
  exact ⟨q.1, q.2.1⟩
theorem hs_went {i : Int} {b p : Int} (e : i = b + 14 + p) (hb : b % 70 = 0) (h0 : 0 ≤ b) (p0 : 0 ≤ p) (p1 : p ≤ 5) : hav 198 i = (0, 0, 1, 1) := by
  have hp : p = 0 ∨ p = 1 ∨ p = 2 ∨ p = 3 ∨ p = 4 ∨ p = 5 := by omega
  rcases hp with rfl | rfl | rfl | rfl | rfl | rfl
  · rw [havM (a := 198) (i := i) (L := RGr63) (n := 70) (r := 14) (by decide +kernel) (by decide +kernel) (by omega)]; decide +kernel
  · rw [havM (a := 198) (i := i) (L := RGr63) (n := 70) (r := 15) (by decide +kernel) (by decide +kernel) (by omega)]; decide +kernel
  · rw [havM (a := 198) (i := i) (L := RGr63) (n := 70) (r := 16) (by decide +kernel) (by decide +kernel) (by omega)]; decide +kernel
  · rw [havM (a := 198) (i := i) (L := RGr63) (n := 70) (r := 17) (by decide +kernel) (by decide +kernel) (by omega)]; decide +kernel
  · rw [havM (a := 198) (i := i) (L := RGr63) (n := 70) (r := 18) (by decide +kernel) (by decide +kernel) (by omega)]; decide +kernel
  · rw [havM (a := 198) (i := i) (L := RGr63) (n := 70) (r := 19) (by decide +kernel) (by decide +kernel) (by omega)]; decide +kernel
theorem rs_went {h : LH} (hr : RNG h) {i : Int} (b p : Int) (e : i = b + 14 + p) (hb : b % 70 = 0) (h0 : 0 ≤ b) (h1 : b ≤ 1540) (p0 : 0 ≤ p) (p1 : p ≤ 5) : 0 ≤ rd h 198 i ∧ rd h 198 i ≤ 1 := by
  have q := rdP (a := 198) (i := i) (lo := 0) (hi := 1) (st := 1) hr (vldA (n := 1610) (k := 1) (by decide +kernel) (by decide +kernel) (by omega)) (Or.inl (lkd_1 (by decide +kernel))) (fun v hv => by rw [hs_went e hb h0 p0 p1] at hv; exact hv)
  exact ⟨q.1, q.2.1⟩
theorem hs_many {i : Int} {b p : Int} (e : i = b + 34 + p) (hb : b % 70 = 0) (h0 : 0 ≤ b) (p0 : 0 ≤ p) (p1 : p ≤ 0) : hav 198 i = (0, 0, 10, 1) := by
  have hp : p = 0 := by omega
  rcases hp with rfl
  · rw [havM (a := 198) (i := i) (L := RGr63) (n := 70) (r := 34) (by decide +kernel) (by decide +kernel) (by omega)]; decide +kernel
theorem rs_many {h : LH} (hr : RNG h) {i : Int} (b p : Int) (e : i = b + 34 + p) (hb : b % 70 = 0) (h0 : 0 ≤ b) (h1 : b ≤ 1540) (p0 : 0 ≤ p) (p1 : p ≤ 0) : 0 ≤ rd h 198 i ∧ rd h 198 i ≤ 10 := by
  have q := rdP (a := 198) (i := i) (lo := 0) (hi := 10) (st := 1) hr (vldA (n := 1610) (k := 1) (by decide +kernel) (by decide +kernel) (by omega)) (Or.inl (lkd_1 (by decide +kernel))) (fun v hv => by rw [hs_many e hb h0 p0 p1] at hv; exact hv)
  exact ⟨q.1, q.2.1⟩
