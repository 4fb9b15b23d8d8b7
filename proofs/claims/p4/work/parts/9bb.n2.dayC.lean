/-! days, part n2: a day's text, line by line; the class reads it so -/
section DYS
variable (o v w p : Nat → Int) (kp kd : Nat → Bool)
/-- a known name -/
def tkK (kn : Nat → Bool) (s : Int × Nat) : Int × Nat := if isNm o w s.2 = true then (if kn s.2 = true then tkA s else tkE p 2 s) else tkE p 1 s
def dS (y : (Int × Nat) × Nat) : (Int × Nat) × Nat :=
  if w y.1.2 = 12 then (if 24 ≤ y.2 then (tkE p 5 y.1, y.2) else (tkS o v p 59 (tkK o w p kd (tkK o w p kp (tkA y.1))), y.2 + 1))
  else if w y.1.2 = 13 then (if 24 ≤ y.2 then (tkE p 5 y.1, y.2) else (tkS o v p 59 (tkA y.1), y.2 + 1))
  else (tkE p 1 y.1, y.2)
def dL : Nat → (Int × Nat) × Nat → (Int × Nat) × Nat
  | 0, y => y
  | c + 1, y => if y.1.1 = 0 ∧ o y.1.2 ≠ 0 then dL c (dS o v w p kp kd y) else y
def dF : (Int × Nat) × Nat := dL o v w p kp kd 1000 ((0, 0), 0)
end DYS
section DYM
variable {o v w p u : Nat → Int} {kp kd kp' kd' kn kn' : Nat → Bool} {y : (Int × Nat) × Nat} {c : Nat} {s : Int × Nat}
theorem tkK_f (h : s.1 ≠ 0) : tkK o w p kn s = s := by unfold tkK; rw [tkA_f h, tkE_f h, tkE_f h, ite_self, ite_self]
theorem dL_stop (h : ¬ (y.1.1 = 0 ∧ o y.1.2 ≠ 0)) : dL o v w p kp kd c y = y := by
  cases c with
  | zero => rfl
  | succ c => unfold dL; rw [if_neg h]
theorem dL_go (h : y.1.1 = 0 ∧ o y.1.2 ≠ 0) : dL o v w p kp kd (c + 1) y = dL o v w p kp kd c (dS o v w p kp kd y) := by
  conv => lhs; unfold dL
  rw [if_pos h]
theorem sm_K (h : ∀ k, o k = 1 → kn k = kn' k) : tkK o w p kn = tkK o w p kn' := by
  funext s
  unfold tkK
  by_cases z : isNm o w s.2 = true
  · rw [if_pos z, if_pos z, h _ (isNm_o z)]
  · rw [if_neg z, if_neg z]
theorem dS_b (h : SmV o p u v) (h1 : ∀ k, o k = 1 → kp k = kp' k) (h2 : ∀ k, o k = 1 → kd k = kd' k) : dS o u w p kp kd = dS o v w p kp' kd' := by
  funext y
  unfold dS
  rw [sm_S h, sm_K h1, sm_K h2]
theorem dL_b (h : SmV o p u v) (h1 : ∀ k, o k = 1 → kp k = kp' k) (h2 : ∀ k, o k = 1 → kd k = kd' k) : ∀ (c : Nat) (y : (Int × Nat) × Nat), dL o u w p kp kd c y = dL o v w p kp' kd' c y
  | 0, _ => rfl
  | c + 1, y => by
    unfold dL
    rw [dS_b h h1 h2]
    split
    · exact dL_b h h1 h2 c _
    · rfl
theorem dF_b (h : SmV o p u v) (h1 : ∀ k, o k = 1 → kp k = kp' k) (h2 : ∀ k, o k = 1 → kd k = kd' k) : dF o u w p kp kd = dF o v w p kp' kd' := dL_b h h1 h2 1000 _
end DYM
/-- x is one of the first m -/
def nmC (f : Nat → Int) (m : Nat) (x : Int) : Bool := (List.range m).any (fun i => decide (f i = x))
theorem nmC_iff {f : Nat → Int} {m : Nat} {x : Int} : nmC f m x = true ↔ ∃ i : Nat, i < m ∧ f i = x := by
  unfold nmC
  rw [List.any_eq_true]
  constructor
  · rintro ⟨i, h1, h2⟩
    exact ⟨i, List.mem_range.mp h1, of_decide_eq_true h2⟩
  · rintro ⟨i, h1, h2⟩
    exact ⟨i, List.mem_range.mpr h1, decide_eq_true h2⟩
section NC2
variable {xs : Nat → Int} {xl e : Nat} {h : LH} {Q : Option LV → LH → Prop} {v1 q : Int} {T : Int → Int} {n : Int} {W : Int → Int} {s : Int × Nat}
theorem F_doorNamedV (hq : q = 5 ∨ q = 32) (hF : RF h) (hP : PT h) (hb : 0 ≤ rd h q 2 ∧ rd h q 2 ≤ 14) (k : ∀ r : Int, (r ≠ -1 ↔ nmC (fun i => rd h (q + 7 + i) 0) (rd h q 2).toNat v1 = true) → Q (some (.inl r)) h) : Rn xs xl e mm_Quarter_doorNamed 0 [some (.inr (.inr q)), some (.inr (.inl v1)), none, none] [] h Q := by
  have loop : ∀ (d b : Nat), (rd h q 2).toNat - b ≤ d → b ≤ (rd h q 2).toNat → (∀ i : Nat, i < b → ¬ rd h (q + 7 + i) 0 = v1) → Rn xs xl e mm_Quarter_doorNamed 2 [some (.inr (.inr q)), some (.inr (.inl v1)), none, some (.inl (b : Int))] [] h Q := by
    intro d
    induction d with
    | zero =>
      intro b hd hb' no
      refine B_doorNamed_in hq hF hP (by omega) ⟨fun c => k (-1) ⟨fun c => absurd rfl c, fun c => ?_⟩, fun c => by omega⟩
      obtain ⟨i, i1, i2⟩ := nmC_iff.mp c
      exact absurd i2 (no i (by omega))
    | succ d ih =>
      intro b hd hb' no
      refine B_doorNamed_in hq hF hP (by omega) ⟨fun c => k (-1) ⟨fun c => absurd rfl c, fun c => ?_⟩, fun c => ⟨by omega, fun c2 => ?_, fun c2 => k _ ⟨fun _ => nmC_iff.mpr ⟨b, by omega, lcmp0.mp c2⟩, fun _ => by omega⟩⟩⟩
      · obtain ⟨i, i1, i2⟩ := nmC_iff.mp c
        exact absurd i2 (no i (by omega))
      · have := ih (b + 1) (by omega) (by omega) (fun i hi => ?_)
        · rw [show ((b + 1 : Nat) : Int) = (b : Int) + 1 by omega] at this
          exact this
        · by_cases eb : i = b
          · rw [eb]
            exact fun z => c2 (lcmp0.mpr z)
          · exact no i (by omega)
  exact B_Quarter_doorNamed_0 hq hF (loop (rd h q 2).toNat 0 (by omega) (by omega) (fun i hi => by omega))
theorem F_personNamedV (hq : q = 5 ∨ q = 32) (hF : RF h) (hP : PT h) (hb : 0 ≤ rd h q 4 ∧ rd h q 4 ≤ 6) (k : ∀ r : Int, (r ≠ -1 ↔ nmC (fun i => rd h (q + 21 + i) 0) (rd h q 4).toNat v1 = true) → Q (some (.inl r)) h) : Rn xs xl e mm_Quarter_personNamed 0 [some (.inr (.inr q)), some (.inr (.inl v1)), none, none] [] h Q := by
  have loop : ∀ (d b : Nat), (rd h q 4).toNat - b ≤ d → b ≤ (rd h q 4).toNat → (∀ i : Nat, i < b → ¬ rd h (q + 21 + i) 0 = v1) → Rn xs xl e mm_Quarter_personNamed 2 [some (.inr (.inr q)), some (.inr (.inl v1)), none, some (.inl (b : Int))] [] h Q := by
    intro d
    induction d with
    | zero =>
      intro b hd hb' no
      refine B_personNamed_in hq hF hP (by omega) ⟨fun c => k (-1) ⟨fun c => absurd rfl c, fun c => ?_⟩, fun c => by omega⟩
      obtain ⟨i, i1, i2⟩ := nmC_iff.mp c
      exact absurd i2 (no i (by omega))
    | succ d ih =>
      intro b hd hb' no
      refine B_personNamed_in hq hF hP (by omega) ⟨fun c => k (-1) ⟨fun c => absurd rfl c, fun c => ?_⟩, fun c => ⟨by omega, fun c2 => ?_, fun c2 => k _ ⟨fun _ => nmC_iff.mpr ⟨b, by omega, lcmp0.mp c2⟩, fun _ => by omega⟩⟩⟩
      · obtain ⟨i, i1, i2⟩ := nmC_iff.mp c
        exact absurd i2 (no i (by omega))
      · have := ih (b + 1) (by omega) (by omega) (fun i hi => ?_)
        · rw [show ((b + 1 : Nat) : Int) = (b : Int) + 1 by omega] at this
          exact this
        · by_cases eb : i = b
          · rw [eb]
            exact fun z => c2 (lcmp0.mpr z)
          · exact no i (by omega)
  exact B_Quarter_personNamed_0 hq hF (loop (rd h q 4).toNat 0 (by omega) (by omega) (fun i hi => by omega))
theorem F_takeKnownName {kn : Nat → Bool} (he : 3 ≤ e) (hs : CSK T n W h s) (hk : s.1 = 0 → tO T n s.2 = 1 → (v1 ≠ -1 ↔ kn s.2 = true)) (k : ∀ h', CSK T n W h' (tkK (tO T n) (tW T n 32 W) (tP T n) kn s) → frK h h' → Q (some (.inl v1)) h') : Rn xs xl e mm_Reader_takeKnownName 0 [some (.inr (.inr 2)), some (.inl v1)] [] h Q := by
  have hF := hs.1.1
  refine B_Reader_takeKnownName_0 hF ⟨0, by omega, F_isName hs (fun r r01 hr => B_Reader_takeKnownName_4 hF ?_)⟩
  by_cases hz : s.1 = 0
  · by_cases nm : isNm (tO T n) (tW T n 32 W) s.2 = true
    · have r1 := (hr hz).mpr nm
      have o1 := isNm_o nm
      have iff := hk hz o1
      refine ⟨fun _ => ⟨fun c => ⟨2, by omega, F_stp (by omega) hs (fun _ => by omega) (fun h' c1 f1 => B_Reader_takeKnownName_32 c1.1.1 (k h' ?_ f1))⟩, fun c => ⟨0, by omega, F_fl hs (by omega) (fun h' c1 f1 => B_Reader_takeKnownName_25 c1.1.1 (k h' ?_ f1))⟩⟩, fun c => by omega⟩
      · unfold tkK; rw [if_pos nm, if_pos (iff.mp c)]; exact c1
      · unfold tkK; rw [if_pos nm, if_neg (fun z => iff.mpr z c)]; exact c1
    · have r0 : r = 0 := by
        rcases r01 with z | z
        · exact z
        · exact absurd ((hr hz).mp z) nm
      refine ⟨fun c => absurd r0 c, fun _ => ⟨0, by omega, F_fl hs (by omega) (fun h' c1 f1 => B_Reader_takeKnownName_12 c1.1.1 (k h' ?_ f1))⟩⟩
      unfold tkK; rw [if_neg nm]; exact c1
  · have eK : tkK (tO T n) (tW T n 32 W) (tP T n) kn s = s := tkK_f hz
    rw [eK] at k
    refine ⟨fun _ => ⟨fun c => ⟨2, by omega, F_stp (by omega) hs (fun z => absurd z hz) (fun h' c1 f1 => B_Reader_takeKnownName_32 c1.1.1 (k h' ?_ f1))⟩, fun c => ⟨0, by omega, F_fl hs (by omega) (fun h' c1 f1 => B_Reader_takeKnownName_25 c1.1.1 (k h' ?_ f1))⟩⟩, fun c => ⟨0, by omega, F_fl hs (by omega) (fun h' c1 f1 => B_Reader_takeKnownName_12 c1.1.1 (k h' ?_ f1))⟩⟩
    · rw [tkA_f hz] at c1; exact c1
    · rw [tkE_f hz] at c1; exact c1
    · rw [tkE_f hz] at c1; exact c1
/-- places that a line of a day may change -/
def muD (a i : Int) : Prop := muR a i ∨ (a = 67 ∧ i = 1) ∨ a = 71 ∨ a = 72
theorem hav_dl {a : Int} (ha : a = 71 ∨ a = 72) (i : Int) : (hav a i).1 ≠ 2 := by
  rcases ha with rfl | rfl
  · exact hav_nr (by decide +kernel) i
  · exact hav_nr (by decide +kernel) i
theorem F_dayLine {c : Nat} (he : 5 ≤ e) (hq : q = 5 ∨ q = 32) (hP : PT h) (hs : CSK T n W h s) (hz : s.1 = 0) (ho : tO T n s.2 ≠ 0) (b2 : 0 ≤ rd h q 2 ∧ rd h q 2 ≤ 14) (b4 : 0 ≤ rd h q 4 ∧ rd h q 4 ≤ 6) (hc : rd h 67 1 = (c : Int)) (hc2 : c ≤ 24)
    (k : ∀ h', CSK T n W h' (dS (tO T n) (tV T n 32) (tW T n 32 W) (tP T n) (fun j => nmC (fun i => rd h (q + 21 + i) 0) (rd h q 4).toNat (tV T n 32 j)) (fun j => nmC (fun i => rd h (q + 7 + i) 0) (rd h q 2).toNat (tV T n 32 j)) (s, c)).1 → ((dS (tO T n) (tV T n 32) (tW T n 32 W) (tP T n) (fun j => nmC (fun i => rd h (q + 21 + i) 0) (rd h q 4).toNat (tV T n 32 j)) (fun j => nmC (fun i => rd h (q + 7 + i) 0) (rd h q 2).toNat (tV T n 32 j)) (s, c)).1.1 = 0 → rd h' 67 1 = ((dS (tO T n) (tV T n 32) (tW T n 32 W) (tP T n) (fun j => nmC (fun i => rd h (q + 21 + i) 0) (rd h q 4).toNat (tV T n 32 j)) (fun j => nmC (fun i => rd h (q + 7 + i) 0) (rd h q 2).toNat (tV T n 32 j)) (s, c)).2 : Int)) → (∀ a i, ¬ muD a i → rd h' a i = rd h a i) → Q none h') :
    Rn xs xl e mm_Reader_dayLine 0 [some (.inr (.inr 2)), some (.inr (.inr q)), some (.inr (.inr 67)), none, none, none] [] h Q := by
  generalize ekp : (fun j => nmC (fun i => rd h (q + 21 + i) 0) (rd h q 4).toNat (tV T n 32 j)) = kp at k
  generalize ekd : (fun j => nmC (fun i => rd h (q + 7 + i) 0) (rd h q 2).toNat (tV T n 32 j)) = kd at k
  have hF := hs.1.1
  have ew := CS_w hs hz
  have ep : ∀ c : Int, 1 ≤ c → (tkE (tP T n) c s).1 ≠ 0 := fun c hc => tkE_ne hs.1.2.1 hc
  have z1 : (tkA s).1 = 0 := by rw [tkA_0 hz]
  have bad : ∀ (c0 : Int), 1 ≤ c0 → dS (tO T n) (tV T n 32) (tW T n 32 W) (tP T n) kp kd (s, c) = (tkE (tP T n) c0 s, c) → ∀ h', CSK T n W h' (tkE (tP T n) c0 s) → frK h h' → Q none h' := by
    intro c0 h0 eS h' c1 f1
    rw [eS] at k
    exact k h' c1 (fun z => absurd z (ep c0 h0)) (fun a i hn => f1 a i (fun z => hn (Or.inl z)))
  -- the line's end
  have fin : ∀ (t : Int × Nat) (g : LH) (v3 v4 v5 : Int), dS (tO T n) (tV T n 32) (tW T n 32 W) (tP T n) kp kd (s, c) = (tkS (tO T n) (tV T n 32) (tP T n) 59 t, c + 1) → c < 24 → CSK T n W g (tkS (tO T n) (tV T n 32) (tP T n) 59 t) → frK h g → Rn xs xl e mm_Reader_dayLine 97 [some (.inr (.inr 2)), some (.inr (.inr q)), some (.inr (.inr 67)), some (.inl v3), some (.inl v4), some (.inl v5)] [] g Q := by
    intro t g v3 v4 v5 eS hlt c1 f1
    rw [eS] at k
    have e67 : rd g 67 1 = (c : Int) := (f1 _ _ (by unfold muR; omega)).trans hc
    refine B_Reader_dayLine_97 hq c1.1.1 ⟨fun z => k g c1 (fun z2 => absurd (c1.2.1.trans z2) z) (fun a i hn => f1 a i (fun z => hn (Or.inl z))), fun z => ⟨0, by omega, B_Memory_addLine_0 c1.1.1 ⟨fun z2 => by omega, fun z2 => ⟨by omega, by omega, by omega, ?_⟩⟩⟩⟩
    have F1 : RF (wr (wr (wr g 71 (rd g 67 1) v4) 72 (rd g 67 1) v5) 67 1 (rd g 67 1 + 1)) := RF_wn (by decide +kernel) (RF_wn (hav_dl (Or.inr rfl) _) (RF_wn (hav_dl (Or.inl rfl) _) c1.1.1))
    refine B_Reader_dayLine_112 hq F1 (k _ (CSK_fr F1 (fun a i ha => ?_) c1) (fun _ => ?_) (fun a i hn => ?_))
    · rw [rdw_ne (by omega), rdw_ne (by omega), rdw_ne (by omega)]
    · rw [rdw_eq, e67]; show (c : Int) + 1 = ((c + 1 : Nat) : Int); omega
    · unfold muD at hn
      rw [rd_wr, if_neg (fun z => hn (by omega)), rd_wr, if_neg (fun z => hn (by omega)), rd_wr, if_neg (fun z => hn (by omega))]
      exact f1 a i (fun z => hn (Or.inl z))
  refine B_Reader_dayLine_0 hq hF ⟨fun n13 => ⟨fun w12 => ⟨fun lt => ?_, fun ge => ?_⟩, fun n12 => ?_⟩, fun w13 => ⟨fun lt => ?_, fun ge => ?_⟩⟩
  · have w' : tW T n 32 W s.2 = 12 := ew.symm.trans w12
    have eS : dS (tO T n) (tV T n 32) (tW T n 32 W) (tP T n) kp kd (s, c) = (tkS (tO T n) (tV T n 32) (tP T n) 59 (tkK (tO T n) (tW T n 32 W) (tP T n) kd (tkK (tO T n) (tW T n 32 W) (tP T n) kp (tkA s))), c + 1) := by
      unfold dS
      show (if tW T n 32 W s.2 = 12 then _ else _) = _
      rw [if_pos w']
      show (if 24 ≤ c then _ else _) = _
      rw [if_neg (by omega)]
    refine ⟨2, by omega, F_stp (by omega) hs (fun _ => ho) (fun h1 s1 f1 => ?_)⟩
    have P1 : PT h1 := PT_fr hP (fun a i ha => f1 _ _ (by unfold muR; omega))
    have e4 : rd h1 q 4 = rd h q 4 := f1 _ _ (by unfold muR; omega)
    refine B_Reader_dayLine_53 hq s1.1.1 ⟨fun z => absurd rfl z, fun _ => ⟨0, by omega, F_personNamedV hq s1.1.1 P1 (by rw [e4]; exact b4) (fun r hr => ?_)⟩⟩
    refine B_Reader_dayLine_72 hq s1.1.1 ⟨3, by omega, F_takeKnownName (kn := kp) (by omega) s1 (fun _ o1 => ?_) (fun h2 s2 f2 => ?_)⟩
    · rw [hr, ← ekp, e4, CS_v s1 z1 (by omega) (by omega)]
      have : (fun i : Nat => rd h1 (q + 21 + (i : Int)) 0) = (fun i : Nat => rd h (q + 21 + (i : Int)) 0) := funext (fun i => f1 _ _ (by unfold muR; omega))
      rw [this]
    · have P2 : PT h2 := PT_fr P1 (fun a i ha => f2 _ _ (by unfold muR; omega))
      have e2 : rd h2 q 2 = rd h q 2 := (f2 _ _ (by unfold muR; omega)).trans (f1 _ _ (by unfold muR; omega))
      refine B_Reader_dayLine_75 hq s2.1.1 ⟨0, by omega, F_doorNamedV hq s2.1.1 P2 (by rw [e2]; exact b2) (fun r' hr' => ?_)⟩
      refine B_Reader_dayLine_86 hq s2.1.1 ⟨3, by omega, F_takeKnownName (kn := kd) (by omega) s2 (fun z2 o1 => ?_) (fun h3 s3 f3 => ?_)⟩
      · rw [hr', ← ekd, e2, CS_v s2 z2 (by omega) (by omega)]
        have : (fun i : Nat => rd h2 (q + 7 + (i : Int)) 0) = (fun i : Nat => rd h (q + 7 + (i : Int)) 0) := funext (fun i => (f2 _ _ (by unfold muR; omega)).trans (f1 _ _ (by unfold muR; omega)))
        rw [this]
      · exact B_Reader_dayLine_89 hq s3.1.1 ⟨3, by omega, F_takeSign (by omega) s3 (fun h4 s4 f4 => fin _ h4 _ _ _ eS (by omega) s4 (((f1.trans f2).trans f3).trans f4))⟩
  · have w' : tW T n 32 W s.2 = 12 := ew.symm.trans w12
    have eS : dS (tO T n) (tV T n 32) (tW T n 32 W) (tP T n) kp kd (s, c) = (tkE (tP T n) 5 s, c) := by
      unfold dS
      show (if tW T n 32 W s.2 = 12 then _ else _) = _
      rw [if_pos w']
      show (if 24 ≤ c then _ else _) = _
      rw [if_pos (by omega)]
    exact ⟨0, by omega, F_fl hs (by omega) (fun h' c1 f1 => B_Reader_dayLine_48 hq c1.1.1 (bad 5 (by decide) eS h' c1 f1))⟩
  · have n12' : ¬ tW T n 32 W s.2 = 12 := fun z => n12 (ew.trans z)
    have n13' : ¬ tW T n 32 W s.2 = 13 := fun z => n13 (ew.trans z)
    have eS : dS (tO T n) (tV T n 32) (tW T n 32 W) (tP T n) kp kd (s, c) = (tkE (tP T n) 1 s, c) := by
      unfold dS
      show (if tW T n 32 W s.2 = 12 then _ else if tW T n 32 W s.2 = 13 then _ else _) = _
      rw [if_neg n12', if_neg n13']
    exact ⟨0, by omega, F_fl hs (by omega) (fun h' c1 f1 => B_Reader_dayLine_33 hq c1.1.1 (bad 1 (by decide) eS h' c1 f1))⟩
  · have w' : tW T n 32 W s.2 = 13 := ew.symm.trans w13
    have eS : dS (tO T n) (tV T n 32) (tW T n 32 W) (tP T n) kp kd (s, c) = (tkS (tO T n) (tV T n 32) (tP T n) 59 (tkA s), c + 1) := by
      unfold dS
      show (if tW T n 32 W s.2 = 12 then _ else if tW T n 32 W s.2 = 13 then _ else _) = _
      rw [if_neg (by omega), if_pos w']
      show (if 24 ≤ c then _ else _) = _
      rw [if_neg (by omega)]
    exact ⟨2, by omega, F_stp (by omega) hs (fun _ => ho) (fun h1 s1 f1 => B_Reader_dayLine_53 hq s1.1.1 ⟨fun _ => ⟨3, by omega, F_takeSign (by omega) s1 (fun h4 s4 f4 => fin _ h4 _ _ _ eS (by omega) s4 (f1.trans f4))⟩, fun z => absurd z (by decide)⟩)⟩
  · have w' : tW T n 32 W s.2 = 13 := ew.symm.trans w13
    have eS : dS (tO T n) (tV T n 32) (tW T n 32 W) (tP T n) kp kd (s, c) = (tkE (tP T n) 5 s, c) := by
      unfold dS
      show (if tW T n 32 W s.2 = 12 then _ else if tW T n 32 W s.2 = 13 then _ else _) = _
      rw [if_neg (by omega), if_pos w']
      show (if 24 ≤ c then _ else _) = _
      rw [if_pos (by omega)]
    exact ⟨0, by omega, F_fl hs (by omega) (fun h' c1 f1 => B_Reader_dayLine_48 hq c1.1.1 (bad 5 (by decide) eS h' c1 f1))⟩
end NC2
