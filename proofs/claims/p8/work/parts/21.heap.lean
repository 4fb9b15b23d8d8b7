/-! LM, part 21: the heap by bounds -/
def hav (a i : Int) : AV := match RGL[a.toNat]? with
  | some L => L.getD (i.toNat % L.length) top0
  | none => top0
abbrev FA : Type := List (Int × Int × AV)
def hval (h : LH) (a i : Int) : LV := mkv (lkd a i) (rd h a i)
/-- what a global invariant must give: every place within its bounds; a write within bounds, in a cell that isn't protected, keeps it -/
def INVok (INV : LH → Prop) (prot : Int → Int → Int → Bool) : Prop := (∀ h, INV h → ∀ a i, valid a i → gV (hav a i) (hval h a i)) ∧ (∀ h, INV h → ∀ a i v, valid a i → prot a i i = false → gV (hav a i) (mkv (lkd a i) v) → INV (wr h a i v)) ∧ ∀ a lo hi i, prot a lo hi = false → lo ≤ i → i ≤ hi → prot a i i = false
def gF (h : LH) (fa : FA) : Prop := ∀ q ∈ fa, gV q.2.2 (hval h q.1 q.2.1)
def fget (fa : FA) (a i : Int) : AV := match fa.find? (fun q => q.1 == a && q.2.1 == i) with
  | some q => q.2.2
  | none => hav a i
theorem fget_ok {INV : LH → Prop} {prot : Int → Int → Int → Bool} (hI : INVok INV prot) {h : LH} (hh : INV h) {fa : FA} (hf : gF h fa) {a i : Int} (hv : valid a i) : gV (fget fa a i) (hval h a i) := by
  unfold fget
  split
  · next q hq =>
    have h1 := List.mem_of_find?_eq_some hq
    have h2 := List.find?_some hq
    simp only [Bool.and_eq_true, beq_iff_eq] at h2
    have h3 := hf q h1
    rw [h2.1, h2.2] at h3
    exact h3
  · exact hI.1 h hh a i hv
def vcount (a : AV) : Nat := if a.2.2.2 = 0 then 1 else ((a.2.2.1 - a.2.1) / (a.2.2.2 : Int)).toNat + 1
def vlist (a : AV) : List Int := (List.range (vcount a)).map (fun k : Nat => a.2.1 + (a.2.2.2 : Int) * (k : Int))
theorem vlist_ok {a : AV} {x : Int} (hx : inV a x) : x ∈ vlist a := by
  have hx2 := hx
  obtain ⟨x1, x2, k, x3⟩ := hx2
  unfold vlist vcount
  rw [List.mem_map]
  by_cases h0 : a.2.2.2 = 0
  · refine ⟨0, ?_, ?_⟩
    · rw [if_pos h0]; simp
    · have := inV_c hx h0
      simp; omega
  · have hp : (0 : Int) < (a.2.2.2 : Int) := by omega
    have hk : 0 ≤ k := by
      rcases Int.lt_or_le k 0 with q | q
      · have : (a.2.2.2 : Int) * k < 0 := Int.mul_neg_of_pos_of_neg hp q
        omega
      · exact q
    refine ⟨k.toNat, ?_, ?_⟩
    · rw [if_neg h0, List.mem_range]
      have h1 : k ≤ (a.2.2.1 - a.2.1) / (a.2.2.2 : Int) := by
        rw [Int.le_ediv_iff_mul_le hp, Int.mul_comm]
        omega
      omega
    · rw [Int.toNat_of_nonneg hk]
      omega
def joinA (a b : AV) : Option AV := if a.1 = b.1 then some (mkA a.1 (min a.2.1 b.2.1) (max a.2.2.1 b.2.2.1) (Nat.gcd (Nat.gcd a.2.2.2 b.2.2.2) (a.2.1 - b.2.1).natAbs)) else none
theorem joinA_in {lo hi lo' hi' x : Int} {st st' k : Nat} (h1 : lo ≤ x) (h2 : x ≤ hi) (h3 : (st : Int) ∣ (x - lo)) : inV (mkA k (min lo lo') (max hi hi') (Nat.gcd (Nat.gcd st st') (lo - lo').natAbs)) x := by
  refine inV_mk (by omega) (by omega) ?_
  have g1 : ((Nat.gcd (Nat.gcd st st') (lo - lo').natAbs : Nat) : Int) ∣ (st : Int) := Int.natCast_dvd_natCast.mpr (Nat.dvd_trans (Nat.gcd_dvd_left _ _) (Nat.gcd_dvd_left _ _))
  have g2 : ((Nat.gcd (Nat.gcd st st') (lo - lo').natAbs : Nat) : Int) ∣ (lo - lo') := Int.dvd_natAbs.mp (Int.natCast_dvd_natCast.mpr (Nat.gcd_dvd_right _ _))
  have g3 := Int.dvd_trans g1 h3
  rcases Int.le_total lo lo' with q | q
  · rw [show min lo lo' = lo by omega]; exact g3
  · rw [show min lo lo' = lo' by omega, show x - lo' = (x - lo) + (lo - lo') by omega]
    exact Int.dvd_add g3 g2
theorem gV_re {a b : AV} (hk : b.1 = a.1) {v : LV} (hv : gV a v) (hi : ∀ x, inV a x → inV b x) : gV b v := by
  match v, hv with
  | .inl x, hv => exact ⟨hk.trans hv.1, hv.2.1, hi x hv.2.2⟩
  | .inr (.inl x), hv => exact ⟨hk.trans hv.1, hv.2.1, hi x hv.2.2⟩
  | .inr (.inr x), hv => exact ⟨hk.trans hv.1, hi x hv.2⟩
theorem joinA_l {a b c : AV} (h : joinA a b = some c) {v : LV} (hv : gV a v) : gV c v := by
  unfold joinA at h
  split at h
  · cases some_i h
    exact gV_re (mkA_k _ _ _ _) hv (fun x hx => joinA_in hx.1 hx.2.1 hx.2.2)
  · cases h
theorem joinA_r {a b c : AV} (h : joinA a b = some c) {v : LV} (hv : gV b v) : gV c v := by
  unfold joinA at h
  split at h
  · next hk =>
    cases some_i h
    refine gV_re ((mkA_k _ _ _ _).trans hk) hv (fun x hx => ?_)
    have := joinA_in (lo' := a.2.1) (hi' := a.2.2.1) (st' := a.2.2.2) (k := a.1) hx.1 hx.2.1 hx.2.2
    rw [show min b.2.1 a.2.1 = min a.2.1 b.2.1 by omega, show max b.2.2.1 a.2.2.1 = max a.2.2.1 b.2.2.1 by omega, Nat.gcd_comm b.2.2.2 a.2.2.2, show (b.2.1 - a.2.1).natAbs = (a.2.1 - b.2.1).natAbs by omega] at this
    exact this
  · cases h
def joinL : List AV → Option AV
  | [] => none
  | [a] => some a
  | a :: r => (joinL r).bind (joinA a)
theorem joinL_ok : ∀ {l : List AV} {c : AV}, joinL l = some c → ∀ a ∈ l, ∀ {v : LV}, gV a v → gV c v
  | [], c, h, a, ha, v, hv => by cases ha
  | [b], c, h, a, ha, v, hv => by
    cases some_i h
    rw [List.mem_singleton.mp ha] at hv
    exact hv
  | b :: b' :: r, c, h, a, ha, v, hv => by
    simp only [joinL] at h
    rw [Option.bind_eq_some_iff] at h
    obtain ⟨d, h1, h2⟩ := h
    rcases List.mem_cons.mp ha with rfl | ha
    · exact joinA_l h2 hv
    · exact joinA_r h2 (joinL_ok h1 a ha hv)
/-- what the places ix of a cell may hold -/
def havs (a : Int) (ix : AV) : Option AV := match RGL[a.toNat]? with
  | some [r] => some r
  | some L => joinL ((vlist ix).map (fun i => L.getD (i.toNat % L.length) top0))
  | none => none
theorem havs_ok {a : Int} {ix r : AV} (h : havs a ix = some r) {i : Int} (hi : inV ix i) {v : LV} (hv : gV (hav a i) v) : gV r v := by
  unfold havs at h
  unfold hav at hv
  split at h
  · next q hq =>
    rw [hq] at hv
    cases some_i h
    simp only [List.length_singleton, Nat.mod_one] at hv
    exact hv
  · next L hL hq =>
    rw [hq] at hv
    exact joinL_ok h _ (List.mem_map.mpr ⟨i, vlist_ok hi, rfl⟩) hv
  · cases h
/-- every place ix of a cell may take what v may be -/
def fitR (a : Int) (ix v : AV) : Bool := match RGL[a.toNat]? with
  | some [r] => leA v r
  | some L => (vlist ix).all (fun i => leA v (L.getD (i.toNat % L.length) top0))
  | none => false
theorem fitR_ok {a : Int} {ix v : AV} (h : fitR a ix v = true) {i : Int} (hi : inV ix i) {x : LV} (hx : gV v x) : gV (hav a i) x := by
  unfold fitR at h
  unfold hav
  split at h
  · next q hq =>
    rw [hq]
    simp only [List.length_singleton, Nat.mod_one]
    exact leA_ok h hx
  · next L hL hq =>
    rw [hq]
    exact leA_ok (List.all_eq_true.mp h i (vlist_ok hi)) hx
  · cases h
def ldC (cells : List Int) (ix : AV) (fa : FA) : Option (AV × PV) := match cells with
  | [a] => if ix.2.2.2 = 0 then some (fget fa a ix.2.1, (2, a, ix.2.1, 0, 0)) else (havs a ix).map (fun r => (r, pv0))
  | _ => (cells.mapM (fun a => havs a ix)).bind (fun l => (joinL l).map (fun r => (r, pv0)))
theorem mapM_mem {α β : Type} {f : α → Option β} : ∀ {l : List α} {r : List β}, l.mapM f = some r → ∀ a ∈ l, ∃ b ∈ r, f a = some b
  | [], r, h, a, ha => by cases ha
  | x :: l, r, h, a, ha => by
    rw [List.mapM_cons] at h
    simp only [Option.bind_eq_bind, Option.pure_def] at h
    rw [Option.bind_eq_some_iff] at h
    obtain ⟨y, h1, h2⟩ := h
    rw [Option.bind_eq_some_iff] at h2
    obtain ⟨ys, h3, h4⟩ := h2
    cases some_i h4
    rcases List.mem_cons.mp ha with rfl | ha
    · exact ⟨y, List.mem_cons_self, h1⟩
    · obtain ⟨b, hb, e⟩ := mapM_mem h3 a ha
      exact ⟨b, List.mem_cons_of_mem _ hb, e⟩
theorem ldC_ok {INV : LH → Prop} {prot : Int → Int → Int → Bool} (hI : INVok INV prot) {h : LH} (hh : INV h) {fa : FA} (hf : gF h fa) {ls : LL} {cells : List Int} {ix : AV} {r : AV × PV} (hl : ldC cells ix fa = some r) {a i : Int} (ha : a ∈ cells) (hi : inV ix i) (hv : valid a i) : gV r.1 (hval h a i) ∧ gP ls h r.2 (hval h a i) := by
  unfold ldC at hl
  split at hl
  · next b =>
    rw [List.mem_singleton.mp ha] at hv ⊢
    split at hl
    · next h0 =>
      cases some_i hl
      have e := inV_c hi h0
      subst e
      exact ⟨fget_ok hI hh hf hv, hv, rfl⟩
    · rw [Option.map_eq_some_iff] at hl
      obtain ⟨q, h1, rfl⟩ := hl
      exact ⟨havs_ok h1 hi (hI.1 h hh _ _ hv), trivial⟩
  · rw [Option.bind_eq_some_iff] at hl
    obtain ⟨l, h1, h2⟩ := hl
    rw [Option.map_eq_some_iff] at h2
    obtain ⟨q, h3, rfl⟩ := h2
    obtain ⟨b, hb, e⟩ := mapM_mem h1 a ha
    exact ⟨joinL_ok h3 b hb (havs_ok e hi (hI.1 h hh _ _ hv)), trivial⟩
