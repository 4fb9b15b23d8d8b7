/-! p3, part d0: a new name, as the class takes it -/
theorem hav_nr {a : Int} (hc : (RGL[a.toNat]?).all (fun L => L.all (fun q => decide (q.1 ≠ 2))) = true) (i : Int) : (hav a i).1 ≠ 2 := by
  have key : ∀ L : List AV, (∀ q ∈ L, q.1 ≠ 2) → ∀ j : Nat, (L.getD j top0).1 ≠ 2 := by
    intro L hL j
    rw [List.getD_eq_getElem?_getD]
    rcases Nat.lt_or_ge j L.length with z | z
    · rw [List.getElem?_eq_getElem z]
      exact hL _ (List.getElem_mem z)
    · rw [List.getElem?_eq_none z]
      decide
  unfold hav
  split
  · next L hL =>
    refine key L ?_ _
    rw [hL] at hc
    intro q hq
    exact of_decide_eq_true (List.all_eq_true.mp hc q hq)
  · decide
theorem hav_dp {q a : Int} (hq : q = 5 ∨ q = 32) (ha : q + 7 ≤ a ∧ a ≤ q + 26) (i : Int) : (hav a i).1 ≠ 2 := by
  have key : ∀ k : Nat, k < 59 → 12 ≤ k → (k ≤ 31 ∨ 39 ≤ k) → (RGL[k]?).all (fun L => L.all (fun q => decide (q.1 ≠ 2))) = true := by decide +kernel
  exact hav_nr (key a.toNat (by omega) (by omega) (by omega)) i
theorem hav_qf {q i : Int} (hq : q = 5 ∨ q = 32) (hi : i = 0 ∨ i = 2 ∨ i = 4 ∨ i = 6) : (hav q i).1 ≠ 2 := by
  rcases hq with rfl | rfl <;> rcases hi with rfl | rfl | rfl | rfl <;> decide +kernel
theorem RF_wn {h : LH} {a i v : Int} (hn : (hav a i).1 ≠ 2) (hF : RF h) : RF (wr h a i v) := by
  intro b j c hv he
  by_cases z : b = a ∧ (j : Int) = i
  · rw [← z.1, ← z.2, he] at hn
    exact absurd rfl hn
  · rw [rd_wr, if_neg (fun q => z ⟨q.1.symm, q.2.symm⟩)]
    exact hF b j c hv he
theorem PT_fr {h h' : LH} (hP : PT h) (hf : ∀ a i, (a = 6 ∨ a = 7 ∨ a = 33 ∨ a = 34) → rd h' a i = rd h a i) : PT h' := by
  intro q hq
  obtain ⟨p1, p2⟩ := hP q hq
  refine ⟨fun i i0 i1 => ?_, fun i i0 i1 => ?_⟩
  · rw [hf _ _ (by omega)]; exact p1 i i0 i1
  · rw [hf _ _ (by omega)]; exact p2 i i0 i1
/-- the class's names so far: of doors, of people -/
def NCK (T : Int → Int) (n : Int) (h : LH) (q : Int) (ND NP : List Nat) : Prop := rd h q 2 = (ND.length : Int) ∧ rd h q 4 = (NP.length : Int) ∧ (ND.length ≤ 14 ∧ NP.length ≤ 6) ∧ (∀ i : Nat, i < ND.length → rd h (q + 7 + i) 0 = tV T n 32 (ND.getD i 0)) ∧ (∀ i : Nat, i < NP.length → rd h (q + 21 + i) 0 = tV T n 32 (NP.getD i 0))
theorem NCK_fr {T : Int → Int} {n : Int} {h h' : LH} {q : Int} {ND NP : List Nat} (hN : NCK T n h q ND NP) (hf : ∀ a i, (a = q ∧ (i = 2 ∨ i = 4)) ∨ (q + 7 ≤ a ∧ a < q + 7 + ND.length ∧ i = 0) ∨ (q + 21 ≤ a ∧ a < q + 21 + NP.length ∧ i = 0) → rd h' a i = rd h a i) : NCK T n h' q ND NP := by
  obtain ⟨n1, n2, n3, n4, n5⟩ := hN
  refine ⟨(hf _ _ (by omega)).trans n1, (hf _ _ (by omega)).trans n2, n3, fun i hi => (hf _ _ (by omega)).trans (n4 i hi), fun i hi => (hf _ _ (by omega)).trans (n5 i hi)⟩
section DA
variable {xs : Nat → Int} {xl e : Nat} {h : LH} {Q : Option LV → LH → Prop} {v1 q : Int} {T : Int → Int} {n : Int} {W : Int → Int} {s : Int × Nat} {N ND NP : List Nat}
theorem CSK_wn {a i v : Int} (hs : CSK T n W h s) (hn : (hav a i).1 ≠ 2) (ha : 4 < a) : CSK T n W (wr h a i v) s := CSK_fr (RF_wn hn hs.1.1) (fun b j hb => rdw_ne (by omega)) hs
theorem CSK_wd {d i v : Int} (hs : CSK T n W h s) (hq : q = 5 ∨ q = 32) (hd : q + 7 ≤ d ∧ d ≤ q + 26) : CSK T n W (wr h d i v) s := CSK_wn hs (hav_dp hq hd i) (by omega)
theorem F_doorNamed (hq : q = 5 ∨ q = 32) (hF : RF h) (hP : PT h) (hN : NCK T n h q ND NP) (k : ∀ r : Int, (r ≠ -1 ↔ ND.any (fun j => decide (tV T n 32 j = v1)) = true) → Q (some (.inl r)) h) : Rn xs xl e mm_Quarter_doorNamed 0 [some (.inr (.inr q)), some (.inr (.inl v1)), none, none] [] h Q := by
  obtain ⟨n1, n2, ⟨n3, n3'⟩, n4, n5⟩ := hN
  have loop : ∀ (d b : Nat), ND.length - b ≤ d → b ≤ ND.length → (∀ i : Nat, i < b → ¬ tV T n 32 (ND.getD i 0) = v1) → Rn xs xl e mm_Quarter_doorNamed 2 [some (.inr (.inr q)), some (.inr (.inl v1)), none, some (.inl (b : Int))] [] h Q := by
    intro d
    induction d with
    | zero =>
      intro b hd hb no
      refine B_doorNamed_in hq hF hP (by omega) ⟨fun c => k (-1) ⟨fun c => absurd rfl c, fun c => ?_⟩, fun c => by omega⟩
      obtain ⟨i, i1, i2⟩ := any_ix.mp c
      exact absurd (of_decide_eq_true i2) (no i (by omega))
    | succ d ih =>
      intro b hd hb no
      refine B_doorNamed_in hq hF hP (by omega) ⟨fun c => k (-1) ⟨fun c => absurd rfl c, fun c => ?_⟩, fun c => ⟨by omega, fun c2 => ?_, fun c2 => k _ ⟨fun _ => any_ix.mpr ⟨b, by omega, decide_eq_true ?_⟩, fun _ => by omega⟩⟩⟩
      · obtain ⟨i, i1, i2⟩ := any_ix.mp c
        exact absurd (of_decide_eq_true i2) (no i (by omega))
      · have := ih (b + 1) (by omega) (by omega) (fun i hi => ?_)
        · rw [show ((b + 1 : Nat) : Int) = (b : Int) + 1 by omega] at this
          exact this
        · by_cases eb : i = b
          · rw [eb]
            intro z
            apply c2
            rw [lcmp0, n4 b (by omega)]
            exact z
          · exact no i (by omega)
      · rw [lcmp0, n4 b (by omega)] at c2
        exact c2
  exact B_Quarter_doorNamed_0 hq hF (loop ND.length 0 (by omega) (by omega) (fun i hi => by omega))
theorem F_personNamed (hq : q = 5 ∨ q = 32) (hF : RF h) (hP : PT h) (hN : NCK T n h q ND NP) (k : ∀ r : Int, (r ≠ -1 ↔ NP.any (fun j => decide (tV T n 32 j = v1)) = true) → Q (some (.inl r)) h) : Rn xs xl e mm_Quarter_personNamed 0 [some (.inr (.inr q)), some (.inr (.inl v1)), none, none] [] h Q := by
  obtain ⟨n1, n2, ⟨n3, n3'⟩, n4, n5⟩ := hN
  have loop : ∀ (d b : Nat), NP.length - b ≤ d → b ≤ NP.length → (∀ i : Nat, i < b → ¬ tV T n 32 (NP.getD i 0) = v1) → Rn xs xl e mm_Quarter_personNamed 2 [some (.inr (.inr q)), some (.inr (.inl v1)), none, some (.inl (b : Int))] [] h Q := by
    intro d
    induction d with
    | zero =>
      intro b hd hb no
      refine B_personNamed_in hq hF hP (by omega) ⟨fun c => k (-1) ⟨fun c => absurd rfl c, fun c => ?_⟩, fun c => by omega⟩
      obtain ⟨i, i1, i2⟩ := any_ix.mp c
      exact absurd (of_decide_eq_true i2) (no i (by omega))
    | succ d ih =>
      intro b hd hb no
      refine B_personNamed_in hq hF hP (by omega) ⟨fun c => k (-1) ⟨fun c => absurd rfl c, fun c => ?_⟩, fun c => ⟨by omega, fun c2 => ?_, fun c2 => k _ ⟨fun _ => any_ix.mpr ⟨b, by omega, decide_eq_true ?_⟩, fun _ => by omega⟩⟩⟩
      · obtain ⟨i, i1, i2⟩ := any_ix.mp c
        exact absurd (of_decide_eq_true i2) (no i (by omega))
      · have := ih (b + 1) (by omega) (by omega) (fun i hi => ?_)
        · rw [show ((b + 1 : Nat) : Int) = (b : Int) + 1 by omega] at this
          exact this
        · by_cases eb : i = b
          · rw [eb]
            intro z
            apply c2
            rw [lcmp0, n5 b (by omega)]
            exact z
          · exact no i (by omega)
      · rw [lcmp0, n5 b (by omega)] at c2
        exact c2
  exact B_Quarter_personNamed_0 hq hF (loop NP.length 0 (by omega) (by omega) (fun i hi => by omega))
theorem F_takeNewName (he : 3 ≤ e) (hq : q = 5 ∨ q = 32) (hP : PT h) (hs : CSK T n W h s) (hz : s.1 = 0) (hN : NCK T n h q ND NP) (hA : ∀ f : Nat → Bool, N.any f = (ND.any f || NP.any f))
    (k : ∀ h' r, CSK T n W h' (tkM (tO T n) (tV T n 32) (tW T n 32 W) (tP T n) N s) → frK h h' → ((tkM (tO T n) (tV T n 32) (tW T n 32 W) (tP T n) N s).1 = 0 → r = tV T n 32 s.2) → Q (some (.inr (.inl r))) h') :
    Rn xs xl e mm_Reader_takeNewName 0 [some (.inr (.inr 2)), some (.inr (.inr q)), none, none] [] h Q := by
  have hF := hs.1.1
  have ep : ∀ c : Int, 1 ≤ c → (tkE (tP T n) c s).1 ≠ 0 := fun c hc => tkE_ne hs.1.2.1 hc
  refine B_Reader_takeNewName_0 hq hF ⟨0, by omega, F_isName hs (fun r r01 hr => ?_)⟩
  refine B_Reader_takeNewName_9 hq hF ⟨fun c => ?_, fun c => ⟨0, by omega, F_fl hs (by omega) (fun h' c1 f1 => B_Reader_takeNewName_17 hq c1.1.1 (k h' _ ?_ f1 ?_))⟩⟩
  · have nm := (hr hz).mp (by omega)
    have o1 := isNm_o nm
    have ev := CS_v hs hz (by omega) (by omega)
    rw [ev]
    have bad : N.any (fun j => decide (tV T n 32 j = tV T n 32 s.2)) = true → Rn xs xl 0 mm_Reader_fail 0 [some (.inr (.inr 2)), some (.inl 3)] [] h (fun r h' => Rn xs xl e mm_Reader_takeNewName 43 [some (.inr (.inr 2)), some (.inr (.inr q)), some (.inr (.inl (tV T n 32 s.2))), none] (r.toList ++ []) h' Q) := by
      intro an
      have eM : tkM (tO T n) (tV T n 32) (tW T n 32 W) (tP T n) N s = tkE (tP T n) 3 s := by unfold tkM; rw [if_pos nm, if_pos an]
      rw [eM] at k
      exact F_fl hs (by omega) (fun h' c1 f1 => B_Reader_takeNewName_43 hq c1.1.1 (k h' _ c1 f1 (fun z => absurd z (ep 3 (by decide)))))
    refine ⟨0, by omega, F_doorNamed hq hF hP hN (fun r1 hr1 => ?_)⟩
    refine B_Reader_takeNewName_25 hq hF ⟨fun c1 => ⟨0, by omega, bad ?_⟩, fun c1 => ⟨0, by omega, F_personNamed hq hF hP hN (fun r2 hr2 => ?_)⟩⟩
    · rw [hA, hr1.mp c1]; rfl
    refine B_Reader_takeNewName_34 hq hF ⟨fun c2 => ?_, fun c2 => ⟨0, by omega, bad ?_⟩⟩
    · have na : ¬ N.any (fun j => decide (tV T n 32 j = tV T n 32 s.2)) = true := by
        rw [hA, Bool.or_eq_true]
        rintro (z | z)
        · exact hr1.mpr z c1
        · exact hr2.mpr z c2
      have eM : tkM (tO T n) (tV T n 32) (tW T n 32 W) (tP T n) N s = tkA s := by unfold tkM; rw [if_pos nm, if_neg na]
      rw [eM] at k
      exact ⟨2, by omega, F_stp (by omega) hs (fun _ => by omega) (fun h' c3 f3 => B_Reader_takeNewName_50 hq c3.1.1 (k h' _ c3 f3 (fun _ => rfl)))⟩
    · rw [hA, hr2.mp c2, Bool.or_true]
  · have nm : ¬ isNm (tO T n) (tW T n 32 W) s.2 = true := fun z => by
      have := (hr hz).mpr z
      omega
    unfold tkM
    rw [if_neg nm]
    exact c1
  · have nm : ¬ isNm (tO T n) (tW T n 32 W) s.2 = true := fun z => by
      have := (hr hz).mpr z
      omega
    unfold tkM
    rw [if_neg nm]
    exact fun z => absurd z (ep 1 (by decide))
end DA
