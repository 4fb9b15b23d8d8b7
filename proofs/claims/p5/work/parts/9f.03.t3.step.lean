/-! plans, part t3: the reference's stepOf, both ways; reached in so many hours -/
section PL3
variable {xs : Nat → Int} {xl e : Nat} {h : LH} {Q : Option LV → LH → Prop} {K : KEY} {S : Int → Int} {b p : Int}
/-- one hour on -/
def stp (K : KEY) (S : Int → Int) (b p hr : Int) (X : Int → Prop) (j : Int) : Prop := X j ∨ ∃ q d, 0 ≤ q ∧ q ≤ 19 ∧ 0 ≤ d ∧ d < K.1 1 ∧ X q ∧ 0 ≤ tr K S b p hr q d ∧ tr K S b p hr q d = j
theorem G_stepOfX {set hr : Int} (he : 5 ≤ e) (w : WC K S h) (hb : 0 ≤ b ∧ b ≤ 1540) (hp : 0 ≤ p ∧ p ≤ 5) (hhr : 0 ≤ hr ∧ hr ≤ 24) (hs0 : i32 set) (k : ∀ r h', WC K S h' → frL h h' → i32 r → (∀ j, 0 ≤ j → j < 32 → (bitZ r j ↔ stp K S b p hr (bitZ set) j)) → Q (some (.inl r)) h') : Rn xs xl e mm_stepOf 0 [some (.inr (.inr 182)), some (.inl b), some (.inl p), some (.inl set), some (.inl hr), none, none, none, none, none] [] h Q := by
  obtain ⟨kb1, kb0, kbs, kbh, kbe, -⟩ := KB_of w hp
  -- after the states below q, and the doors below d of q
  have inner : ∀ (n : Nat) (g : LH) (nx q d : Int) (o8 o9 : Option LV), K.1 1 - d ≤ n → 0 ≤ q → q ≤ 19 → 0 ≤ d → d ≤ K.1 1 → WC K S g → frL h g → i32 nx → (∀ j, 0 ≤ j → j < 32 → (bitZ nx j ↔ bitZ set j ∨ (∃ q', 0 ≤ q' ∧ q' < q ∧ ∃ d', 0 ≤ d' ∧ d' < K.1 1 ∧ bitZ set q' ∧ 0 ≤ tr K S b p hr q' d' ∧ tr K S b p hr q' d' = j) ∨ ∃ d', 0 ≤ d' ∧ d' < d ∧ bitZ set q ∧ 0 ≤ tr K S b p hr q d' ∧ tr K S b p hr q d' = j)) → (∀ g nx o7 o8 o9, WC K S g → frL h g → i32 nx → (∀ j, 0 ≤ j → j < 32 → (bitZ nx j ↔ bitZ set j ∨ (∃ q', 0 ≤ q' ∧ q' < q + 1 ∧ ∃ d', 0 ≤ d' ∧ d' < K.1 1 ∧ bitZ set q' ∧ 0 ≤ tr K S b p hr q' d' ∧ tr K S b p hr q' d' = j))) → Rn xs xl e mm_stepOf 6 [some (.inr (.inr 182)), some (.inl b), some (.inl p), some (.inl set), some (.inl hr), some (.inl nx), some (.inl (q + 1)), o7, o8, o9] [] g Q) → Rn xs xl e mm_stepOf 16 [some (.inr (.inr 182)), some (.inl b), some (.inl p), some (.inl set), some (.inl hr), some (.inl nx), some (.inl q), some (.inl d), o8, o9] [] g Q := by
    intro n
    induction n with
    | zero =>
      intro g nx q d o8 o9 hn q0 q1 d0 d1 gw gf ni gi cont
      have dn : d = K.1 1 := by omega
      have e1 : rd g 188 1 = K.1 1 := by have := gw.2.1; unfold key at this; rw [← this]
      refine B_stepOf_16 (RF_of gw.1.1) hb hp ⟨q0, q1⟩ ⟨d0, by omega⟩ (by omega) ⟨fun _ => cont g nx _ o8 o9 gw gf ni (fun j j0 j1 => ?_), fun c => by omega⟩
      rw [gi j j0 j1, ex_lt q0, dn]
    | succ n ih =>
      intro g nx q d o8 o9 hn q0 q1 d0 d1 gw gf ni gi cont
      have e1 : rd g 188 1 = K.1 1 := by have := gw.2.1; unfold key at this; rw [← this]
      refine B_stepOf_16 (RF_of gw.1.1) hb hp ⟨q0, q1⟩ ⟨d0, by omega⟩ (by omega) ⟨fun c => cont g nx _ o8 o9 gw gf ni (fun j j0 j1 => ?_), fun c => ⟨fun z => cont g nx _ o8 o9 gw gf ni (fun j j0 j1 => ?_), fun z => ⟨4, by omega, ?_⟩⟩⟩
      · have dn : d = K.1 1 := by omega
        rw [gi j j0 j1, ex_lt q0, dn]
      · rw [gi j j0 j1, ex_lt q0]
        have nz : ¬ bitZ set q := z
        exact ⟨fun y => y.elim Or.inl (fun y => y.elim (fun y => Or.inr (Or.inl y)) (fun ⟨_, _, _, s, _⟩ => absurd s nz)), fun y => y.elim Or.inl (fun y => y.elim (fun y => Or.inr (Or.inl y)) (fun ⟨_, _, _, s, _⟩ => absurd s nz))⟩
      · have es : rd g 188 (4 * p + 116) = K.1 (4 * p + 116) := by have := gw.2.1; unfold key at this; rw [← this]
        have ee : rd g 188 (4 * p + 118) = K.1 (4 * p + 118) := by have := gw.2.1; unfold key at this; rw [← this]
        have dK : d < K.1 1 := by omega
        rw [es]
        refine D_leadsNow (by omega) gw hb (by omega) (by omega) (by omega) (by omega) (fun u uw uf => ?_)
        have nk := NW_ok K (S (b + 1)) (s := K.1 (4 * p + 116)) (d := d) (room := q % 10) (hr := hr) (by omega) (by omega) (by omega) (by omega)
        have et : tr K S b p hr q d = if NW K (S (b + 1)) (K.1 (4 * p + 116)) d (q % 10) hr < 0 then -1 else NW K (S (b + 1)) (K.1 (4 * p + 116)) d (q % 10) hr + (if 10 ≤ q ∨ NW K (S (b + 1)) (K.1 (4 * p + 116)) d (q % 10) hr = K.1 (4 * p + 118) then 10 else 0) := rfl
        have ue : rd u 188 (4 * p + 118) = K.1 (4 * p + 118) := by have := uw.2.1; unfold key at this; rw [← this]
        have fu : frL h u := fun a i n1 n2 => (uf a i n1 n2).trans (gf a i n1 n2)
        have nk1 := nk.1
        clear nk
        generalize NW K (S (b + 1)) (K.1 (4 * p + 116)) d (q % 10) hr = v at *
        have bs : bitZ set q := z
        have next : ∀ (nx' : Int) (o8 o9 : Option LV), i32 nx' → (∀ j, 0 ≤ j → j < 32 → (bitZ nx' j ↔ bitZ nx j ∨ (0 ≤ tr K S b p hr q d ∧ tr K S b p hr q d = j))) → Rn xs xl e mm_stepOf 16 [some (.inr (.inr 182)), some (.inl b), some (.inl p), some (.inl set), some (.inl hr), some (.inl nx'), some (.inl q), some (.inl (d + 1)), o8, o9] [] u Q := by
          intro nx' o8 o9 ni' hb'
          refine ih u nx' q (d + 1) o8 o9 (by omega) q0 q1 (by omega) (by omega) uw fu ni' (fun j j0 j1 => ?_) cont
          rw [hb' j j0 j1, gi j j0 j1, ex_lt d0]
          constructor
          · rintro ((y | y | y) | y)
            · exact Or.inl y
            · exact Or.inr (Or.inl y)
            · exact Or.inr (Or.inr (Or.inl y))
            · exact Or.inr (Or.inr (Or.inr ⟨bs, y⟩))
          · rintro (y | y | y | y)
            · exact Or.inl (Or.inl y)
            · exact Or.inl (Or.inr (Or.inl y))
            · exact Or.inl (Or.inr (Or.inr y))
            · exact Or.inr y.2
        have put : ∀ (m : Int) (o8 o9 : Option LV), 0 ≤ m → m ≤ 19 → tr K S b p hr q d = m → Rn xs xl e mm_stepOf 16 [some (.inr (.inr 182)), some (.inl b), some (.inl p), some (.inl set), some (.inl hr), some (.inl (zor nx (zshl 1 m))), some (.inl q), some (.inl (d + 1)), o8, o9] [] u Q := fun m o8 o9 m0 m1 em => next _ o8 o9 (zor_i _ _) (fun j j0 j1 => by
          rw [bit_or j0 j1, bit_shl m0 (by omega) j0 j1, em]
          exact ⟨fun y => y.elim Or.inl (fun y => Or.inr ⟨m0, y.symm⟩), fun y => y.elim Or.inl (fun y => Or.inr y.2.symm)⟩)
        have non : ∀ (o8 o9 : Option LV), tr K S b p hr q d = -1 → Rn xs xl e mm_stepOf 16 [some (.inr (.inr 182)), some (.inl b), some (.inl p), some (.inl set), some (.inl hr), some (.inl (zor nx 0)), some (.inl q), some (.inl (d + 1)), o8, o9] [] u Q := fun o8 o9 em => next _ o8 o9 (zor_i _ _) (fun j j0 j1 => by
          rw [bit_or j0 j1, em]
          exact ⟨fun y => y.elim Or.inl (fun y => absurd y bit_zero), fun y => y.elim Or.inl (fun y => absurd y.1 (by decide))⟩)
        refine B_stepOf_54 (RF_of uw.1.1) hb hp ⟨q0, q1⟩ ⟨d0, by omega⟩ nk1 (by omega) ⟨fun c10 => ⟨fun v0 => put _ _ _ (by omega) (by omega) ?_, fun v0 => non _ _ ?_⟩, fun c10 => ⟨fun ne => ⟨fun v0 => put _ _ _ v0 (by omega) ?_, fun v0 => non _ _ ?_⟩, fun eq => ⟨fun v0 => put _ _ _ (by omega) (by omega) ?_, fun v0 => non _ _ ?_⟩⟩⟩
        · rw [et, if_neg (by omega), if_pos (Or.inl c10)]
        · rw [et, if_pos v0]
        · rw [ue] at ne
          rw [et, if_neg (by omega), if_neg (by omega), Int.add_zero]
        · rw [et, if_pos v0]
        · rw [ue] at eq
          rw [et, if_neg (by omega), if_pos (Or.inr eq)]
        · rw [et, if_pos v0]
  have outer : ∀ (n : Nat) (g : LH) (nx q : Int) (o7 o8 o9 : Option LV), 20 - q ≤ n → 0 ≤ q → q ≤ 20 → WC K S g → frL h g → i32 nx → (∀ j, 0 ≤ j → j < 32 → (bitZ nx j ↔ bitZ set j ∨ (∃ q', 0 ≤ q' ∧ q' < q ∧ ∃ d', 0 ≤ d' ∧ d' < K.1 1 ∧ bitZ set q' ∧ 0 ≤ tr K S b p hr q' d' ∧ tr K S b p hr q' d' = j))) → Rn xs xl e mm_stepOf 6 [some (.inr (.inr 182)), some (.inl b), some (.inl p), some (.inl set), some (.inl hr), some (.inl nx), some (.inl q), o7, o8, o9] [] g Q := by
    intro n
    have stop : ∀ (g : LH) (nx q : Int), q = 20 → WC K S g → frL h g → i32 nx → (∀ j, 0 ≤ j → j < 32 → (bitZ nx j ↔ bitZ set j ∨ (∃ q', 0 ≤ q' ∧ q' < q ∧ ∃ d', 0 ≤ d' ∧ d' < K.1 1 ∧ bitZ set q' ∧ 0 ≤ tr K S b p hr q' d' ∧ tr K S b p hr q' d' = j))) → Q (some (.inl nx)) g := by
      intro g nx q hq gw gf ni gi
      refine k nx g gw gf ni (fun j j0 j1 => ?_)
      rw [gi j j0 j1, hq]
      unfold stp
      exact ⟨fun y => y.elim Or.inl (fun ⟨q', a, c, d', x⟩ => Or.inr ⟨q', d', a, by omega, x⟩), fun y => y.elim Or.inl (fun ⟨q', d', a, c, x⟩ => Or.inr ⟨q', a, by omega, d', x⟩)⟩
    induction n with
    | zero =>
      intro g nx q o7 o8 o9 hn q0 q1 gw gf ni gi
      exact B_stepOf_6 (RF_of gw.1.1) hb hp ⟨q0, q1⟩ ⟨fun _ => stop g nx q (by omega) gw gf ni gi, fun c => by omega⟩
    | succ n ih =>
      intro g nx q o7 o8 o9 hn q0 q1 gw gf ni gi
      refine B_stepOf_6 (RF_of gw.1.1) hb hp ⟨q0, q1⟩ ⟨fun c => stop g nx q (by omega) gw gf ni gi, fun c => ?_⟩
      refine inner (K.1 1).toNat g nx q 0 o8 o9 (by omega) q0 (by omega) (by omega) (by omega) gw gf ni (fun j j0 j1 => ?_) (fun g nx o7 o8 o9 gw gf ni gi => ih g nx (q + 1) o7 o8 o9 (by omega) (by omega) (by omega) gw gf ni gi)
      rw [gi j j0 j1]
      exact ⟨fun y => y.elim Or.inl (fun y => Or.inr (Or.inl y)), fun y => y.elim Or.inl (fun y => y.elim Or.inr (fun ⟨d', a, c, _⟩ => by omega))⟩
  refine B_stepOf_0 (RF_of w.1.1) hb hp (outer 20 h set 0 none none none (by omega) (by omega) (by omega) w (fun _ _ _ _ => rfl) hs0 (fun j j0 j1 => ⟨Or.inl, fun y => y.elim (fun y => y) (fun ⟨q', a, c, _⟩ => by omega)⟩))
end PL3
