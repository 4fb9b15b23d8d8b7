/-! the law's worth, part q5: the text's codes are one expression, and how high its values pile up -/
/-- heights: fits below B; the height at the end -/
def hOk (B : Int) : List Int → Int → Prop
  | [], _ => True
  | c :: L, k => if 10004 < c then 2 ≤ k ∧ hOk B L (k - 1) else if c = 10004 then 1 ≤ k ∧ hOk B L k else k < B ∧ hOk B L (k + 1)
def hEnd : List Int → Int → Int
  | [], k => k
  | c :: L, k => if 10004 < c then hEnd L (k - 1) else if c = 10004 then hEnd L k else hEnd L (k + 1)
theorem hEnd_app : ∀ (L M : List Int) (k : Int), hEnd (L ++ M) k = hEnd M (hEnd L k)
  | [], _, _ => rfl
  | c :: L, M, k => by
    show (if 10004 < c then hEnd (L ++ M) (k - 1) else if c = 10004 then hEnd (L ++ M) k else hEnd (L ++ M) (k + 1)) = hEnd M (if 10004 < c then hEnd L (k - 1) else if c = 10004 then hEnd L k else hEnd L (k + 1))
    split
    · exact hEnd_app L M _
    · split
      · exact hEnd_app L M _
      · exact hEnd_app L M _
theorem hOk_app {B : Int} : ∀ (L M : List Int) (k : Int), hOk B L k → hOk B M (hEnd L k) → hOk B (L ++ M) k
  | [], _, _, _, h => h
  | c :: L, M, k, h1, h2 => by
    have h1' : if 10004 < c then 2 ≤ k ∧ hOk B L (k - 1) else if c = 10004 then 1 ≤ k ∧ hOk B L k else k < B ∧ hOk B L (k + 1) := h1
    have h2' : hOk B M (if 10004 < c then hEnd L (k - 1) else if c = 10004 then hEnd L k else hEnd L (k + 1)) := h2
    show if 10004 < c then 2 ≤ k ∧ hOk B (L ++ M) (k - 1) else if c = 10004 then 1 ≤ k ∧ hOk B (L ++ M) k else k < B ∧ hOk B (L ++ M) (k + 1)
    by_cases c1 : 10004 < c
    · rw [if_pos c1] at h1' h2' ⊢
      exact ⟨h1'.1, hOk_app L M _ h1'.2 h2'⟩
    · rw [if_neg c1] at h1' h2' ⊢
      by_cases c2 : c = 10004
      · rw [if_pos c2] at h1' h2' ⊢
        exact ⟨h1'.1, hOk_app L M _ h1'.2 h2'⟩
      · rw [if_neg c2] at h1' h2' ⊢
        exact ⟨h1'.1, hOk_app L M _ h1'.2 h2'⟩
/-- a code that the text can give -/
def cdR (c : Int) : Prop := (0 ≤ c ∧ c ≤ 9999) ∨ (10000 ≤ c ∧ c ≤ 10011)
/-- M is one expression that needs d places -/
def one (d : Int) (M : List Int) : Prop := (∀ k, hEnd M k = k + 1) ∧ (∀ B k, 0 ≤ k → k + d ≤ B → hOk B M k) ∧ ∀ c ∈ M, cdR c
theorem one_mono {d d' : Int} {M : List Int} (h : one d M) (hd : d ≤ d') : one d' M := ⟨h.1, fun B k h0 h1 => h.2.1 B k h0 (by omega), h.2.2⟩
theorem one_1 {c d : Int} (hd : 1 ≤ d) (hc : c < 10004) (hr : cdR c) : one d [c] := by
  refine ⟨fun k => ?_, fun B k h0 h1 => ?_, fun x hx => ?_⟩
  · show (if 10004 < c then k - 1 else if c = 10004 then k else k + 1) = k + 1
    rw [if_neg (by omega), if_neg (by omega)]
  · show if 10004 < c then 2 ≤ k ∧ True else if c = 10004 then 1 ≤ k ∧ True else k < B ∧ True
    rw [if_neg (by omega), if_neg (by omega)]
    exact ⟨by omega, trivial⟩
  · rw [List.mem_singleton] at hx
    rw [hx]; exact hr
theorem one_not {d : Int} {M : List Int} (h : one d M) : one d (M ++ [10004]) := by
  obtain ⟨h1, h2, h3⟩ := h
  refine ⟨fun k => ?_, fun B k h0 hb => ?_, fun x hx => ?_⟩
  · rw [hEnd_app, h1]; rfl
  · refine hOk_app _ _ _ (h2 B k h0 hb) ?_
    rw [h1]
    exact ⟨by omega, trivial⟩
  · rw [List.mem_append, List.mem_singleton] at hx
    rcases hx with hx | hx
    · exact h3 x hx
    · rw [hx]; unfold cdR; omega
theorem one_bin {d : Int} {c : Int} {M M' : List Int} (h : one (d + 1) M) (h' : one d M') (hd : 1 ≤ d) (hc : 10004 < c ∧ c ≤ 10011) : one (d + 1) (M ++ M' ++ [c]) := by
  obtain ⟨h1, h2, h3⟩ := h
  obtain ⟨g1, g2, g3⟩ := h'
  refine ⟨fun k => ?_, fun B k h0 hb => ?_, fun x hx => ?_⟩
  · rw [hEnd_app, hEnd_app, h1, g1]
    show (if 10004 < c then k + 1 + 1 - 1 else if c = 10004 then k + 1 + 1 else k + 1 + 1 + 1) = k + 1
    rw [if_pos hc.1]; omega
  · refine hOk_app _ _ _ (hOk_app _ _ _ (h2 B k h0 hb) ?_) ?_
    · rw [h1]; exact g2 B (k + 1) (by omega) (by omega)
    · rw [hEnd_app, h1, g1]
      show if 10004 < c then 2 ≤ k + 1 + 1 ∧ True else if c = 10004 then 1 ≤ k + 1 + 1 ∧ True else k + 1 + 1 < B ∧ True
      rw [if_pos hc.1]
      exact ⟨by omega, trivial⟩
  · rw [List.mem_append, List.mem_append, List.mem_singleton] at hx
    rcases hx with (hx | hx) | hx
    · exact h3 x hx
    · exact g3 x hx
    · rw [hx]; unfold cdR; omega
section QL5
variable {o v w p : Nat → Int}
/-- P appends one expression that needs d places -/
def apE (d : Int) (P : (Int × Nat) × List Int → (Int × Nat) × List Int) : Prop := ∀ x, (P x).1.1 = 0 → x.1.1 = 0 ∧ ∃ M, (P x).2 = x.2 ++ M ∧ one d M
theorem exO_in {lv k : Nat} (h : exO o v w lv k ≠ -1) : 10004 < exO o v w lv k ∧ exO o v w lv k ≤ 10011 := by
  unfold exO at h ⊢
  split
  · next c0 =>
    rw [if_pos c0] at h
    split
    · omega
    · next c1 =>
      rw [if_neg c1] at h
      split
      · omega
      · next c2 => rw [if_neg c2] at h; exact absurd rfl h
  · next c0 =>
    rw [if_neg c0] at h
    split
    · next d0 =>
      rw [if_pos d0] at h
      split
      · omega
      · next c1 =>
        rw [if_neg c1] at h
        split
        · omega
        · next c2 => rw [if_neg c2] at h; exact absurd rfl h
    · next d0 =>
      rw [if_neg d0] at h
      split
      · next e0 =>
        rw [if_pos e0] at h
        split
        · omega
        · next c1 =>
          rw [if_neg c1] at h
          split
          · omega
          · next c2 => rw [if_neg c2] at h; exact absurd rfl h
      · next e0 =>
        rw [if_neg e0] at h
        split
        · omega
        · next c1 => rw [if_neg c1] at h; exact absurd rfl h
theorem exL_ap {d : Int} {f : (Int × Nat) × List Int → (Int × Nat) × List Int} (hd : 1 ≤ d) (hf : apE d f) {lv : Nat} : ∀ (m : Nat) (x : (Int × Nat) × List Int) (K M : List Int), x.2 = K ++ M → one (d + 1) M → (exL o v w f lv m x).1.1 = 0 → ∃ M', (exL o v w f lv m x).2 = K ++ M' ∧ one (d + 1) M'
  | 0, x, K, M, e, h, _ => ⟨M, e, h⟩
  | m + 1, x, K, M, e, h, hz => by
    unfold exL at hz ⊢
    by_cases c : x.1.1 = 0 ∧ exO o v w lv x.1.2 ≠ -1
    · rw [if_pos c] at hz ⊢
      have z1 := exL_z _ _ hz
      have z2 : (f (tkA x.1, x.2)).1.1 = 0 := z1
      obtain ⟨-, M1, e1, o1⟩ := hf _ z2
      refine exL_ap hd hf m _ K (M ++ M1 ++ [exO o v w lv x.1.2]) ?_ (one_bin h o1 hd (exO_in c.2)) hz
      show (f (tkA x.1, x.2)).2 ++ [exO o v w lv x.1.2] = K ++ (M ++ M1 ++ [exO o v w lv x.1.2])
      rw [e1]
      show x.2 ++ M1 ++ [exO o v w lv x.1.2] = K ++ (M ++ M1 ++ [exO o v w lv x.1.2])
      rw [e]
      simp only [List.append_assoc]
    · rw [if_neg c] at hz ⊢
      exact ⟨M, e, h⟩
theorem exX_ap {d : Int} {P : (Int × Nat) × List Int → (Int × Nat) × List Int} (hd : 1 ≤ d) (hP : apE d P) : ∀ j : Nat, apE (d + j) (exX o v w P j)
  | 0 => by
    intro x hx
    obtain ⟨a, M, b, c⟩ := hP x hx
    exact ⟨a, M, b, one_mono c (by omega)⟩
  | j + 1 => by
    intro x hx
    have ih := exX_ap hd hP j
    have hx' : (exL o v w (exX o v w P j) (3 - j) (if j = 2 then 1 else 1000) (exX o v w P j x)).1.1 = 0 := hx
    obtain ⟨a, M, b, c⟩ := ih x (exL_z _ _ hx')
    obtain ⟨M', b', c'⟩ := exL_ap (by omega) ih _ _ x.2 M b (one_mono c (by omega)) hx'
    exact ⟨a, M', b', one_mono c' (by omega)⟩
theorem exP_ap (hp : ∀ k, 0 ≤ p k) (hv : ∀ k, o k = 2 → 0 ≤ v k ∧ v k ≤ 9999) (hw : ∀ k, w k ≤ 28) : ∀ r : Nat, apE (4 * (r : Int) + 1) (exP o v w p r)
  | 0 => by
    intro x q
    exfalso
    unfold exP at q
    have q' : (if exK o v w x.1.2 = true then tkE p 5 x.1 else tkE p 1 x.1).1 = 0 := q
    split at q'
    · exact tkE_p hp (by decide) q'
    · exact tkE_p hp (by decide) q'
  | r + 1 => by
    intro x q
    have ih := exP_ap hp hv hw r
    unfold exP at q ⊢
    by_cases c1 : o x.1.2 = 2
    · rw [if_pos c1] at q ⊢
      have := hv _ c1
      exact ⟨tkA_z q, [v x.1.2], rfl, one_1 (by omega) (by omega) (Or.inl this)⟩
    · rw [if_neg c1] at q ⊢
      by_cases c2 : 25 ≤ w x.1.2
      · rw [if_pos c2] at q ⊢
        have := hw x.1.2
        exact ⟨tkA_z q, [w x.1.2 + 9975], rfl, one_1 (by omega) (by omega) (Or.inr (by omega))⟩
      · rw [if_neg c2] at q ⊢
        by_cases c3 : o x.1.2 = 3 ∧ v x.1.2 = 40
        · rw [if_pos c3] at q ⊢
          obtain ⟨a, M, b, c⟩ := exX_ap (o := o) (v := v) (w := w) (by omega) ih 4 (tkA x.1, x.2) (tkS_z q)
          exact ⟨tkA_z a, M, b, one_mono c (by omega)⟩
        · rw [if_neg c3] at q ⊢
          by_cases c4 : w x.1.2 = 22
          · rw [if_pos c4] at q ⊢
            obtain ⟨a, M, b, c⟩ := ih (tkA x.1, x.2) q
            refine ⟨tkA_z a, M ++ [10004], ?_, one_mono (one_not c) (by omega)⟩
            show (exP o v w p r (tkA x.1, x.2)).2 ++ [10004] = x.2 ++ (M ++ [10004])
            rw [b]
            show x.2 ++ M ++ [10004] = x.2 ++ (M ++ [10004])
            rw [List.append_assoc]
          · rw [if_neg c4] at q
            exact absurd q (tkE_p hp (by decide))
/-- a law's text without a fault is one expression -/
theorem qX_one (hp : ∀ k, 0 ≤ p k) (hv : ∀ k, o k = 2 → 0 ≤ v k ∧ v k ≤ 9999) (hw : ∀ k, w k ≤ 28) {s : Int × Nat} (q : (qX o v w p s).1.1 = 0) : one 25 (qX o v w p s).2 := by
  obtain ⟨-, M, b, c⟩ := exX_ap (o := o) (v := v) (w := w) (by omega) (exP_ap hp hv hw 5) 4 (tkA s, []) q
  have b' : (qX o v w p s).2 = M := b
  rw [b']
  exact one_mono c (by decide)
end QL5
