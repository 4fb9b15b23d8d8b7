/-! LM, by program (wip/p2/hand.py): p3: rows of the class's lines -/
def mm_Reader_takeNewName : LM_M := (⟨"OneSided$Reader", "takeNewName", "(LOneSided$Quarter;)J"⟩, prog_9_method_18_code, 4, (some .long), 7, 2, 0, 648, 647, 1000012)
theorem dd_Quarter_doorNamed_0 : decode mm_Quarter_doorNamed.2.1 0 = .ok (.iconst 0, 1) := by decide +kernel
theorem dd_Quarter_doorNamed_1 : decode mm_Quarter_doorNamed.2.1 1 = .ok (.istore_n 3, 1) := by decide +kernel
theorem dd_Quarter_doorNamed_2 : decode mm_Quarter_doorNamed.2.1 2 = .ok (.iload_n 3, 1) := by decide +kernel
theorem dd_Quarter_doorNamed_3 : decode mm_Quarter_doorNamed.2.1 3 = .ok (.aload_n 0, 1) := by decide +kernel
theorem dd_Quarter_doorNamed_4 : decode mm_Quarter_doorNamed.2.1 4 = .ok (.getfield 42, 3) := by decide +kernel
theorem fd_6_42 : fld 6 42 = some (6, 2) := by decide +kernel
theorem dd_Quarter_doorNamed_7 : decode mm_Quarter_doorNamed.2.1 7 = .ok (.if_icmp .ge (25), 3) := by decide +kernel
theorem dd_Quarter_doorNamed_32 : decode mm_Quarter_doorNamed.2.1 32 = .ok (.iconst (-1), 1) := by decide +kernel
theorem dd_Quarter_doorNamed_33 : decode mm_Quarter_doorNamed.2.1 33 = .ok (.ireturn, 1) := by decide +kernel
theorem dd_Quarter_doorNamed_10 : decode mm_Quarter_doorNamed.2.1 10 = .ok (.aload_n 0, 1) := by decide +kernel
theorem dd_Quarter_doorNamed_11 : decode mm_Quarter_doorNamed.2.1 11 = .ok (.getfield 17, 3) := by decide +kernel
theorem fd_6_17 : fld 6 17 = some (6, 1) := by decide +kernel
theorem dd_Quarter_doorNamed_14 : decode mm_Quarter_doorNamed.2.1 14 = .ok (.iload_n 3, 1) := by decide +kernel
theorem dd_Quarter_doorNamed_15 : decode mm_Quarter_doorNamed.2.1 15 = .ok (.aaload, 1) := by decide +kernel
theorem dd_Quarter_doorNamed_16 : decode mm_Quarter_doorNamed.2.1 16 = .ok (.getfield 51, 3) := by decide +kernel
theorem fd_6_51 : fld 6 51 = some (1, 0) := by decide +kernel
theorem dd_Quarter_doorNamed_19 : decode mm_Quarter_doorNamed.2.1 19 = .ok (.lload_n 1, 1) := by decide +kernel
theorem dd_Quarter_doorNamed_20 : decode mm_Quarter_doorNamed.2.1 20 = .ok (.lcmp, 1) := by decide +kernel
theorem dd_Quarter_doorNamed_21 : decode mm_Quarter_doorNamed.2.1 21 = .ok (.ifCond .ne (5), 3) := by decide +kernel
theorem dd_Quarter_doorNamed_26 : decode mm_Quarter_doorNamed.2.1 26 = .ok (.iinc 3 1, 3) := by decide +kernel
theorem dd_Quarter_doorNamed_29 : decode mm_Quarter_doorNamed.2.1 29 = .ok (.goto (-27), 3) := by decide +kernel
theorem dd_Quarter_doorNamed_24 : decode mm_Quarter_doorNamed.2.1 24 = .ok (.iload_n 3, 1) := by decide +kernel
theorem dd_Quarter_doorNamed_25 : decode mm_Quarter_doorNamed.2.1 25 = .ok (.ireturn, 1) := by decide +kernel
theorem dd_Quarter_personNamed_0 : decode mm_Quarter_personNamed.2.1 0 = .ok (.iconst 0, 1) := by decide +kernel
theorem dd_Quarter_personNamed_1 : decode mm_Quarter_personNamed.2.1 1 = .ok (.istore_n 3, 1) := by decide +kernel
theorem dd_Quarter_personNamed_2 : decode mm_Quarter_personNamed.2.1 2 = .ok (.iload_n 3, 1) := by decide +kernel
theorem dd_Quarter_personNamed_3 : decode mm_Quarter_personNamed.2.1 3 = .ok (.aload_n 0, 1) := by decide +kernel
theorem dd_Quarter_personNamed_4 : decode mm_Quarter_personNamed.2.1 4 = .ok (.getfield 45, 3) := by decide +kernel
theorem fd_6_45 : fld 6 45 = some (6, 4) := by decide +kernel
theorem dd_Quarter_personNamed_7 : decode mm_Quarter_personNamed.2.1 7 = .ok (.if_icmp .ge (25), 3) := by decide +kernel
theorem dd_Quarter_personNamed_32 : decode mm_Quarter_personNamed.2.1 32 = .ok (.iconst (-1), 1) := by decide +kernel
theorem dd_Quarter_personNamed_33 : decode mm_Quarter_personNamed.2.1 33 = .ok (.ireturn, 1) := by decide +kernel
theorem dd_Quarter_personNamed_10 : decode mm_Quarter_personNamed.2.1 10 = .ok (.aload_n 0, 1) := by decide +kernel
theorem dd_Quarter_personNamed_11 : decode mm_Quarter_personNamed.2.1 11 = .ok (.getfield 23, 3) := by decide +kernel
theorem fd_6_23 : fld 6 23 = some (6, 3) := by decide +kernel
theorem dd_Quarter_personNamed_14 : decode mm_Quarter_personNamed.2.1 14 = .ok (.iload_n 3, 1) := by decide +kernel
theorem dd_Quarter_personNamed_15 : decode mm_Quarter_personNamed.2.1 15 = .ok (.aaload, 1) := by decide +kernel
theorem dd_Quarter_personNamed_16 : decode mm_Quarter_personNamed.2.1 16 = .ok (.getfield 55, 3) := by decide +kernel
theorem fd_6_55 : fld 6 55 = some (4, 0) := by decide +kernel
theorem dd_Quarter_personNamed_19 : decode mm_Quarter_personNamed.2.1 19 = .ok (.lload_n 1, 1) := by decide +kernel
theorem dd_Quarter_personNamed_20 : decode mm_Quarter_personNamed.2.1 20 = .ok (.lcmp, 1) := by decide +kernel
theorem dd_Quarter_personNamed_21 : decode mm_Quarter_personNamed.2.1 21 = .ok (.ifCond .ne (5), 3) := by decide +kernel
theorem dd_Quarter_personNamed_26 : decode mm_Quarter_personNamed.2.1 26 = .ok (.iinc 3 1, 3) := by decide +kernel
theorem dd_Quarter_personNamed_29 : decode mm_Quarter_personNamed.2.1 29 = .ok (.goto (-27), 3) := by decide +kernel
theorem dd_Quarter_personNamed_24 : decode mm_Quarter_personNamed.2.1 24 = .ok (.iload_n 3, 1) := by decide +kernel
theorem dd_Quarter_personNamed_25 : decode mm_Quarter_personNamed.2.1 25 = .ok (.ireturn, 1) := by decide +kernel
theorem dd_Reader_takeNewName_0 : decode mm_Reader_takeNewName.2.1 0 = .ok (.aload_n 0, 1) := by decide +kernel
theorem dd_Reader_takeNewName_1 : decode mm_Reader_takeNewName.2.1 1 = .ok (.getfield 174, 3) := by decide +kernel
theorem dd_Reader_takeNewName_4 : decode mm_Reader_takeNewName.2.1 4 = .ok (.lstore_n 2, 1) := by decide +kernel
theorem dd_Reader_takeNewName_5 : decode mm_Reader_takeNewName.2.1 5 = .ok (.aload_n 0, 1) := by decide +kernel
theorem dd_Reader_takeNewName_6 : decode mm_Reader_takeNewName.2.1 6 = .ok (.invokevirtual 205, 3) := by decide +kernel
theorem dd_Reader_takeNewName_9 : decode mm_Reader_takeNewName.2.1 9 = .ok (.ifCond .ne (11), 3) := by decide +kernel
theorem dd_Reader_takeNewName_20 : decode mm_Reader_takeNewName.2.1 20 = .ok (.aload_n 1, 1) := by decide +kernel
theorem dd_Reader_takeNewName_21 : decode mm_Reader_takeNewName.2.1 21 = .ok (.lload_n 2, 1) := by decide +kernel
theorem dd_Reader_takeNewName_22 : decode mm_Reader_takeNewName.2.1 22 = .ok (.invokevirtual 184, 3) := by decide +kernel
theorem dd_Reader_takeNewName_12 : decode mm_Reader_takeNewName.2.1 12 = .ok (.aload_n 0, 1) := by decide +kernel
theorem dd_Reader_takeNewName_13 : decode mm_Reader_takeNewName.2.1 13 = .ok (.iconst 1, 1) := by decide +kernel
theorem dd_Reader_takeNewName_14 : decode mm_Reader_takeNewName.2.1 14 = .ok (.invokevirtual 80, 3) := by decide +kernel
theorem dd_Reader_takeNewName_17 : decode mm_Reader_takeNewName.2.1 17 = .ok (.goto 33, 3) := by decide +kernel
theorem dd_Reader_takeNewName_50 : decode mm_Reader_takeNewName.2.1 50 = .ok (.lload_n 2, 1) := by decide +kernel
theorem dd_Reader_takeNewName_51 : decode mm_Reader_takeNewName.2.1 51 = .ok (.lreturn, 1) := by decide +kernel
theorem dd_Reader_takeNewName_25 : decode mm_Reader_takeNewName.2.1 25 = .ok (.iconst (-1), 1) := by decide +kernel
theorem dd_Reader_takeNewName_26 : decode mm_Reader_takeNewName.2.1 26 = .ok (.if_icmp .ne (12), 3) := by decide +kernel
theorem dd_Reader_takeNewName_38 : decode mm_Reader_takeNewName.2.1 38 = .ok (.aload_n 0, 1) := by decide +kernel
theorem dd_Reader_takeNewName_39 : decode mm_Reader_takeNewName.2.1 39 = .ok (.iconst 3, 1) := by decide +kernel
theorem dd_Reader_takeNewName_40 : decode mm_Reader_takeNewName.2.1 40 = .ok (.invokevirtual 80, 3) := by decide +kernel
theorem dd_Reader_takeNewName_29 : decode mm_Reader_takeNewName.2.1 29 = .ok (.aload_n 1, 1) := by decide +kernel
theorem dd_Reader_takeNewName_30 : decode mm_Reader_takeNewName.2.1 30 = .ok (.lload_n 2, 1) := by decide +kernel
theorem dd_Reader_takeNewName_31 : decode mm_Reader_takeNewName.2.1 31 = .ok (.invokevirtual 177, 3) := by decide +kernel
theorem dd_Reader_takeNewName_34 : decode mm_Reader_takeNewName.2.1 34 = .ok (.iconst (-1), 1) := by decide +kernel
theorem dd_Reader_takeNewName_35 : decode mm_Reader_takeNewName.2.1 35 = .ok (.if_icmp .eq (11), 3) := by decide +kernel
theorem dd_Reader_takeNewName_46 : decode mm_Reader_takeNewName.2.1 46 = .ok (.aload_n 0, 1) := by decide +kernel
theorem dd_Reader_takeNewName_47 : decode mm_Reader_takeNewName.2.1 47 = .ok (.invokevirtual 99, 3) := by decide +kernel
theorem dd_Reader_takeNewName_43 : decode mm_Reader_takeNewName.2.1 43 = .ok (.goto 7, 3) := by decide +kernel
/-- the quarters' doors and people lie where they were made -/
def PT (h : LH) : Prop := ∀ q : Int, (q = 5 ∨ q = 32) → (∀ i : Int, 0 ≤ i → i < 14 → rd h (q + 1) i = q + 7 + i) ∧ (∀ i : Int, 0 ≤ i → i < 6 → rd h (q + 2) i = q + 21 + i)
theorem rq_d {h : LH} {q i : Int} (hP : PT h) (hq : q = 5 ∨ q = 32) (hi : 0 ≤ i ∧ i < 14) : rd h (q + 1) i = q + 7 + i := (hP q hq).1 i hi.1 hi.2
theorem rq_p {h : LH} {q i : Int} (hP : PT h) (hq : q = 5 ∨ q = 32) (hi : 0 ≤ i ∧ i < 6) : rd h (q + 2) i = q + 21 + i := (hP q hq).2 i hi.1 hi.2
theorem rq_ppl {h : LH} {q : Int} (hF : RF h) (hq : q = 5 ∨ q = 32) : rd h q ((3 : Nat) : Int) = q + 2 := by
  rcases hq with rfl | rfl
  · exact hF 5 3 7 (by decide +kernel) (by decide +kernel)
  · exact hF 32 3 34 (by decide +kernel) (by decide +kernel)
theorem ia_pq {q : Int} (hq : q = 5 ∨ q = 32) : isA NC (q + 2) 5 = true := by
  rcases hq with rfl | rfl <;> decide +kernel
theorem la_pq {q : Int} (hq : q = 5 ∨ q = 32) : (lay (q + 2).toNat).2.2 = 6 := by
  rcases hq with rfl | rfl <;> decide +kernel
theorem io_d {q d : Int} (hq : q = 5 ∨ q = 32) (hd : q + 7 ≤ d ∧ d ≤ q + 20) : isO NC d 1 = true := by
  have key : ∀ k : Nat, k < 14 → isO NC (12 + (k : Int)) 1 = true ∧ isO NC (39 + (k : Int)) 1 = true := by decide +kernel
  have k := key (d - (q + 7)).toNat (by omega)
  rcases hq with rfl | rfl
  · rw [show d = 12 + (((d - (5 + 7)).toNat : Nat) : Int) by omega]; exact k.1
  · rw [show d = 39 + (((d - (32 + 7)).toNat : Nat) : Int) by omega]; exact k.2
theorem io_p {q p : Int} (hq : q = 5 ∨ q = 32) (hp : q + 21 ≤ p ∧ p ≤ q + 26) : isO NC p 4 = true := by
  have key : ∀ k : Nat, k < 6 → isO NC (26 + (k : Int)) 4 = true ∧ isO NC (53 + (k : Int)) 4 = true := by decide +kernel
  have k := key (p - (q + 21)).toNat (by omega)
  rcases hq with rfl | rfl
  · rw [show p = 26 + (((p - (5 + 21)).toNat : Nat) : Int) by omega]; exact k.1
  · rw [show p = 53 + (((p - (32 + 21)).toNat : Nat) : Int) by omega]; exact k.2
section RW5
variable {xs : Nat → Int} {xl d : Nat} {M : LM_M} {pc p' : Nat} {ls : LL} {st : List LV} {h : LH} {Q : Option LV → LH → Prop}
theorem R_lsj {df x v f : Int} {ps : Array (Int × Int)} {len : Nat} (hd : decode M.2.1 pc = .ok (.lookupswitch df ps, len)) (hx : x = v) (hs : (ps.toList.zip (ps.toList.drop 1)).all (fun (a, b) => a.1 < b.1) = true) (ho : Op.lookupswitch.offset ps.toList df v = f) (hp : (pc : Int) + f = (p' : Int)) (k : Rn xs xl d M p' ls st h Q) : Rn xs xl d M pc ls (.inl x :: st) h Q := by
  subst hx
  refine R_J hd rfl rfl ?_ hp k
  simp only [lmJ]
  rw [if_pos hs, ho]
theorem R_lsd3 {df x a1 a2 a3 b1 b2 b3 : Int} {len : Nat} (hd : decode M.2.1 pc = .ok (.lookupswitch df #[(a1, b1), (a2, b2), (a3, b3)], len)) (hx : x ≠ a1 ∧ x ≠ a2 ∧ x ≠ a3) (hs : ([(a1, b1), (a2, b2), (a3, b3)].zip ([(a1, b1), (a2, b2), (a3, b3)].drop 1)).all (fun (a, b) => a.1 < b.1) = true) (hp : (pc : Int) + df = (p' : Int)) (k : Rn xs xl d M p' ls st h Q) : Rn xs xl d M pc ls (.inl x :: st) h Q := by
  refine R_J hd rfl rfl ?_ hp k
  have e : Op.lookupswitch.offset [(a1, b1), (a2, b2), (a3, b3)] df x = df := by
    simp only [Op.lookupswitch.offset]
    rw [if_neg (fun q => hx.1 q.symm), if_neg (fun q => hx.2.1 q.symm), if_neg (fun q => hx.2.2 q.symm)]
  simp only [lmJ]
  rw [if_pos hs, e]
end RW5
theorem B_Quarter_doorNamed_0 {xs : Nat → Int} {xl e : Nat} {h : LH} {Q : Option LV → LH → Prop} {v1 : Int} {q : Int} (hq : q = 5 ∨ q = 32) (hF : RF h)
    (k : Rn xs xl e mm_Quarter_doorNamed 2 [some (.inr (.inr q)), some (.inr (.inl v1)), none, some (.inl 0)] [] h Q) :
    Rn xs xl e mm_Quarter_doorNamed 0 [some (.inr (.inr q)), some (.inr (.inl v1)), none, none] [] h Q := by
  refine R_ic dd_Quarter_doorNamed_0 (by decide) rfl ?_
  refine R_st (ls' := [some (.inr (.inr q)), some (.inr (.inl v1)), none, some (.inl 0)]) dd_Quarter_doorNamed_1 rfl rfl rfl (Nat.le_of_ble_eq_true rfl) rfl rfl ?_
  exact k
theorem B_doorNamed_in {xs : Nat → Int} {xl e : Nat} {h : LH} {Q : Option LV → LH → Prop} {v1 v3 : Int} {q : Int} (hq : q = 5 ∨ q = 32) (hF : RF h) (hP : PT h) (r_v3 : 0 ≤ v3 ∧ v3 ≤ 14)
    (k : ((rd h q 2) ≤ v3 →
        Q (some (.inl (-1))) h) ∧
      (v3 < (rd h q 2) →
        (0 ≤ v3 ∧ v3 < 14) ∧
        ((lcmp_ (rd h (q + 7 + v3) 0) v1) ≠ 0 →
          Rn xs xl e mm_Quarter_doorNamed 2 [some (.inr (.inr q)), some (.inr (.inl v1)), none, some (.inl (v3 + 1))] [] h Q) ∧
        ((lcmp_ (rd h (q + 7 + v3) 0) v1) = 0 →
          Q (some (.inl v3)) h))) :
    Rn xs xl e mm_Quarter_doorNamed 2 [some (.inr (.inr q)), some (.inr (.inl v1)), none, some (.inl v3)] [] h Q := by
  refine R_ld (v := .inl v3) dd_Quarter_doorNamed_2 rfl rfl rfl rfl ?_
  refine R_ld (v := .inr (.inr q)) dd_Quarter_doorNamed_3 rfl rfl rfl rfl ?_
  refine R_gf (v := .inl (rd h q 2)) dd_Quarter_doorNamed_4 fd_6_42 (io_q hq) (congrArg (fun z : Int => (Sum.inl z : LV)) (rfl)) rfl ?_
  refine R_icmp dd_Quarter_doorNamed_7 rfl rfl (fun (c2 : (rd h q 2) ≤ v3) => ?_) (fun (c2 : v3 < (rd h q 2)) => ?_)
  · replace k := k.1 c2
    refine R_ic dd_Quarter_doorNamed_32 (by decide) rfl ?_
    exact R_iret dd_Quarter_doorNamed_33 rfl k
  · replace k := k.2 c2
    refine R_ld (v := .inr (.inr q)) dd_Quarter_doorNamed_10 rfl rfl rfl rfl ?_
    refine R_gf (v := .inr (.inr (q + 1))) dd_Quarter_doorNamed_11 fd_6_17 (io_q hq) (congrArg (fun z : Int => (Sum.inr (Sum.inr z) : LV)) (rq_arr hF hq)) rfl ?_
    refine R_ld (v := .inl v3) dd_Quarter_doorNamed_14 rfl rfl rfl rfl ?_
    obtain ⟨s1, k⟩ := k
    refine R_aald (v := (q + 7 + v3)) (n := 14) dd_Quarter_doorNamed_15 (ia_dq hq) (la_dq hq) s1 (rq_d hP hq s1) rfl ?_
    refine R_gf (v := .inr (.inl (rd h (q + 7 + v3) 0))) dd_Quarter_doorNamed_16 fd_6_51 (io_d hq (by omega)) (congrArg (fun z : Int => (Sum.inr (Sum.inl z) : LV)) (rfl)) rfl ?_
    refine R_ld (v := .inr (.inl v1)) dd_Quarter_doorNamed_19 rfl rfl rfl rfl ?_
    refine R_A dd_Quarter_doorNamed_20 rfl rfl rfl rfl ?_
    refine R_if dd_Quarter_doorNamed_21 rfl rfl (fun (c3 : (lcmp_ (rd h (q + 7 + v3) 0) v1) ≠ 0) => ?_) (fun (c3 : (lcmp_ (rd h (q + 7 + v3) 0) v1) = 0) => ?_)
    · replace k := k.1 c3
      refine R_inc (y := v3 + 1) (ls' := [some (.inr (.inr q)), some (.inr (.inl v1)), none, some (.inl (v3 + 1))]) dd_Quarter_doorNamed_26 rfl (by decide) (by omega) (by omega) rfl rfl ?_
      refine R_goto dd_Quarter_doorNamed_29 rfl ?_
      exact k
    · replace k := k.2 c3
      refine R_ld (v := .inl v3) dd_Quarter_doorNamed_24 rfl rfl rfl rfl ?_
      exact R_iret dd_Quarter_doorNamed_25 rfl k
theorem B_Quarter_personNamed_0 {xs : Nat → Int} {xl e : Nat} {h : LH} {Q : Option LV → LH → Prop} {v1 : Int} {q : Int} (hq : q = 5 ∨ q = 32) (hF : RF h)
    (k : Rn xs xl e mm_Quarter_personNamed 2 [some (.inr (.inr q)), some (.inr (.inl v1)), none, some (.inl 0)] [] h Q) :
    Rn xs xl e mm_Quarter_personNamed 0 [some (.inr (.inr q)), some (.inr (.inl v1)), none, none] [] h Q := by
  refine R_ic dd_Quarter_personNamed_0 (by decide) rfl ?_
  refine R_st (ls' := [some (.inr (.inr q)), some (.inr (.inl v1)), none, some (.inl 0)]) dd_Quarter_personNamed_1 rfl rfl rfl (Nat.le_of_ble_eq_true rfl) rfl rfl ?_
  exact k
theorem B_personNamed_in {xs : Nat → Int} {xl e : Nat} {h : LH} {Q : Option LV → LH → Prop} {v1 v3 : Int} {q : Int} (hq : q = 5 ∨ q = 32) (hF : RF h) (hP : PT h) (r_v3 : 0 ≤ v3 ∧ v3 ≤ 6)
    (k : ((rd h q 4) ≤ v3 →
        Q (some (.inl (-1))) h) ∧
      (v3 < (rd h q 4) →
        (0 ≤ v3 ∧ v3 < 6) ∧
        ((lcmp_ (rd h (q + 21 + v3) 0) v1) ≠ 0 →
          Rn xs xl e mm_Quarter_personNamed 2 [some (.inr (.inr q)), some (.inr (.inl v1)), none, some (.inl (v3 + 1))] [] h Q) ∧
        ((lcmp_ (rd h (q + 21 + v3) 0) v1) = 0 →
          Q (some (.inl v3)) h))) :
    Rn xs xl e mm_Quarter_personNamed 2 [some (.inr (.inr q)), some (.inr (.inl v1)), none, some (.inl v3)] [] h Q := by
  refine R_ld (v := .inl v3) dd_Quarter_personNamed_2 rfl rfl rfl rfl ?_
  refine R_ld (v := .inr (.inr q)) dd_Quarter_personNamed_3 rfl rfl rfl rfl ?_
  refine R_gf (v := .inl (rd h q 4)) dd_Quarter_personNamed_4 fd_6_45 (io_q hq) (congrArg (fun z : Int => (Sum.inl z : LV)) (rfl)) rfl ?_
  refine R_icmp dd_Quarter_personNamed_7 rfl rfl (fun (c2 : (rd h q 4) ≤ v3) => ?_) (fun (c2 : v3 < (rd h q 4)) => ?_)
  · replace k := k.1 c2
    refine R_ic dd_Quarter_personNamed_32 (by decide) rfl ?_
    exact R_iret dd_Quarter_personNamed_33 rfl k
  · replace k := k.2 c2
    refine R_ld (v := .inr (.inr q)) dd_Quarter_personNamed_10 rfl rfl rfl rfl ?_
    refine R_gf (v := .inr (.inr (q + 2))) dd_Quarter_personNamed_11 fd_6_23 (io_q hq) (congrArg (fun z : Int => (Sum.inr (Sum.inr z) : LV)) (rq_ppl hF hq)) rfl ?_
    refine R_ld (v := .inl v3) dd_Quarter_personNamed_14 rfl rfl rfl rfl ?_
    obtain ⟨s1, k⟩ := k
    refine R_aald (v := (q + 21 + v3)) (n := 6) dd_Quarter_personNamed_15 (ia_pq hq) (la_pq hq) s1 (rq_p hP hq s1) rfl ?_
    refine R_gf (v := .inr (.inl (rd h (q + 21 + v3) 0))) dd_Quarter_personNamed_16 fd_6_55 (io_p hq (by omega)) (congrArg (fun z : Int => (Sum.inr (Sum.inl z) : LV)) (rfl)) rfl ?_
    refine R_ld (v := .inr (.inl v1)) dd_Quarter_personNamed_19 rfl rfl rfl rfl ?_
    refine R_A dd_Quarter_personNamed_20 rfl rfl rfl rfl ?_
    refine R_if dd_Quarter_personNamed_21 rfl rfl (fun (c3 : (lcmp_ (rd h (q + 21 + v3) 0) v1) ≠ 0) => ?_) (fun (c3 : (lcmp_ (rd h (q + 21 + v3) 0) v1) = 0) => ?_)
    · replace k := k.1 c3
      refine R_inc (y := v3 + 1) (ls' := [some (.inr (.inr q)), some (.inr (.inl v1)), none, some (.inl (v3 + 1))]) dd_Quarter_personNamed_26 rfl (by decide) (by omega) (by omega) rfl rfl ?_
      refine R_goto dd_Quarter_personNamed_29 rfl ?_
      exact k
    · replace k := k.2 c3
      refine R_ld (v := .inl v3) dd_Quarter_personNamed_24 rfl rfl rfl rfl ?_
      exact R_iret dd_Quarter_personNamed_25 rfl k
theorem B_Reader_takeNewName_0 {xs : Nat → Int} {xl e : Nat} {h : LH} {Q : Option LV → LH → Prop} {q : Int} (hq : q = 5 ∨ q = 32) (hF : RF h)
    (k : (∃ c, c < e ∧ Rn xs xl c mm_Reader_isName 0 [some (.inr (.inr 2))] [] h (fun r h' => Rn xs xl e mm_Reader_takeNewName 9 [some (.inr (.inr 2)), some (.inr (.inr q)), some (.inr (.inl (rd h 2 6))), none] (r.toList ++ []) h' Q))) :
    Rn xs xl e mm_Reader_takeNewName 0 [some (.inr (.inr 2)), some (.inr (.inr q)), none, none] [] h Q := by
  refine R_ld (v := .inr (.inr 2)) dd_Reader_takeNewName_0 rfl rfl rfl rfl ?_
  refine R_gf (v := .inr (.inl (rd h 2 6))) dd_Reader_takeNewName_1 fd_7_174 io_2 (congrArg (fun z : Int => (Sum.inr (Sum.inl z) : LV)) (rfl)) rfl ?_
  refine R_st (ls' := [some (.inr (.inr 2)), some (.inr (.inr q)), some (.inr (.inl (rd h 2 6))), none]) dd_Reader_takeNewName_4 rfl rfl rfl (Nat.le_of_ble_eq_true rfl) rfl rfl ?_
  refine R_ld (v := .inr (.inr 2)) dd_Reader_takeNewName_5 rfl rfl rfl rfl ?_
  obtain ⟨c, hc, k⟩ := k
  exact R_call (as := [.inr (.inr 2)]) (rest := []) (M' := mm_Reader_isName) (ls0 := [some (.inr (.inr 2))]) dd_Reader_takeNewName_6 rfl rfl (cw_v cw_7_205 io_2 rfl rfl (Nat.le_of_ble_eq_true rfl) (Nat.le_of_ble_eq_true rfl)) mt_Reader_isName rfl hc rfl k
theorem B_Reader_takeNewName_9 {xs : Nat → Int} {xl e : Nat} {h : LH} {Q : Option LV → LH → Prop} {v2 w0 : Int} {q : Int} (hq : q = 5 ∨ q = 32) (hF : RF h)
    (k : (w0 ≠ 0 →
        (∃ c, c < e ∧ Rn xs xl c mm_Quarter_doorNamed 0 [some (.inr (.inr q)), some (.inr (.inl v2)), none, none] [] h (fun r h' => Rn xs xl e mm_Reader_takeNewName 25 [some (.inr (.inr 2)), some (.inr (.inr q)), some (.inr (.inl v2)), none] (r.toList ++ []) h' Q))) ∧
      (w0 = 0 →
        (∃ c, c < e ∧ Rn xs xl c mm_Reader_fail 0 [some (.inr (.inr 2)), some (.inl 1)] [] h (fun r h' => Rn xs xl e mm_Reader_takeNewName 17 [some (.inr (.inr 2)), some (.inr (.inr q)), some (.inr (.inl v2)), none] (r.toList ++ []) h' Q)))) :
    Rn xs xl e mm_Reader_takeNewName 9 [some (.inr (.inr 2)), some (.inr (.inr q)), some (.inr (.inl v2)), none] [.inl w0] h Q := by
  refine R_if dd_Reader_takeNewName_9 rfl rfl (fun (c3 : w0 ≠ 0) => ?_) (fun (c3 : w0 = 0) => ?_)
  · replace k := k.1 c3
    refine R_ld (v := .inr (.inr q)) dd_Reader_takeNewName_20 rfl rfl rfl rfl ?_
    refine R_ld (v := .inr (.inl v2)) dd_Reader_takeNewName_21 rfl rfl rfl rfl ?_
    obtain ⟨c, hc, k⟩ := k
    exact R_call (as := [.inr (.inr q), .inr (.inl v2)]) (rest := []) (M' := mm_Quarter_doorNamed) (ls0 := [some (.inr (.inr q)), some (.inr (.inl v2)), none, none]) dd_Reader_takeNewName_22 rfl rfl (cw_v cw_7_184 (io_q hq) rfl rfl (Nat.le_of_ble_eq_true rfl) (Nat.le_of_ble_eq_true rfl)) mt_Quarter_doorNamed rfl hc rfl k
  · replace k := k.2 c3
    refine R_ld (v := .inr (.inr 2)) dd_Reader_takeNewName_12 rfl rfl rfl rfl ?_
    refine R_ic dd_Reader_takeNewName_13 (by decide) rfl ?_
    obtain ⟨c, hc, k⟩ := k
    exact R_call (as := [.inr (.inr 2), .inl 1]) (rest := []) (M' := mm_Reader_fail) (ls0 := [some (.inr (.inr 2)), some (.inl 1)]) dd_Reader_takeNewName_14 rfl rfl (cw_v cw_7_80 io_2 rfl rfl (Nat.le_of_ble_eq_true rfl) (Nat.le_of_ble_eq_true rfl)) mt_Reader_fail rfl hc rfl k
theorem B_Reader_takeNewName_17 {xs : Nat → Int} {xl e : Nat} {h : LH} {Q : Option LV → LH → Prop} {v2 : Int} {q : Int} (hq : q = 5 ∨ q = 32) (hF : RF h)
    (k : Q (some (.inr (.inl v2))) h) :
    Rn xs xl e mm_Reader_takeNewName 17 [some (.inr (.inr 2)), some (.inr (.inr q)), some (.inr (.inl v2)), none] [] h Q := by
  refine R_goto dd_Reader_takeNewName_17 rfl ?_
  refine R_ld (v := .inr (.inl v2)) dd_Reader_takeNewName_50 rfl rfl rfl rfl ?_
  exact R_lret dd_Reader_takeNewName_51 rfl k
theorem B_Reader_takeNewName_25 {xs : Nat → Int} {xl e : Nat} {h : LH} {Q : Option LV → LH → Prop} {v2 w0 : Int} {q : Int} (hq : q = 5 ∨ q = 32) (hF : RF h)
    (k : (w0 ≠ (-1) →
        (∃ c, c < e ∧ Rn xs xl c mm_Reader_fail 0 [some (.inr (.inr 2)), some (.inl 3)] [] h (fun r h' => Rn xs xl e mm_Reader_takeNewName 43 [some (.inr (.inr 2)), some (.inr (.inr q)), some (.inr (.inl v2)), none] (r.toList ++ []) h' Q))) ∧
      (w0 = (-1) →
        (∃ c, c < e ∧ Rn xs xl c mm_Quarter_personNamed 0 [some (.inr (.inr q)), some (.inr (.inl v2)), none, none] [] h (fun r h' => Rn xs xl e mm_Reader_takeNewName 34 [some (.inr (.inr 2)), some (.inr (.inr q)), some (.inr (.inl v2)), none] (r.toList ++ []) h' Q)))) :
    Rn xs xl e mm_Reader_takeNewName 25 [some (.inr (.inr 2)), some (.inr (.inr q)), some (.inr (.inl v2)), none] [.inl w0] h Q := by
  refine R_ic dd_Reader_takeNewName_25 (by decide) rfl ?_
  refine R_icmp dd_Reader_takeNewName_26 rfl rfl (fun (c3 : w0 ≠ (-1)) => ?_) (fun (c3 : w0 = (-1)) => ?_)
  · replace k := k.1 c3
    refine R_ld (v := .inr (.inr 2)) dd_Reader_takeNewName_38 rfl rfl rfl rfl ?_
    refine R_ic dd_Reader_takeNewName_39 (by decide) rfl ?_
    obtain ⟨c, hc, k⟩ := k
    exact R_call (as := [.inr (.inr 2), .inl 3]) (rest := []) (M' := mm_Reader_fail) (ls0 := [some (.inr (.inr 2)), some (.inl 3)]) dd_Reader_takeNewName_40 rfl rfl (cw_v cw_7_80 io_2 rfl rfl (Nat.le_of_ble_eq_true rfl) (Nat.le_of_ble_eq_true rfl)) mt_Reader_fail rfl hc rfl k
  · replace k := k.2 c3
    refine R_ld (v := .inr (.inr q)) dd_Reader_takeNewName_29 rfl rfl rfl rfl ?_
    refine R_ld (v := .inr (.inl v2)) dd_Reader_takeNewName_30 rfl rfl rfl rfl ?_
    obtain ⟨c, hc, k⟩ := k
    exact R_call (as := [.inr (.inr q), .inr (.inl v2)]) (rest := []) (M' := mm_Quarter_personNamed) (ls0 := [some (.inr (.inr q)), some (.inr (.inl v2)), none, none]) dd_Reader_takeNewName_31 rfl rfl (cw_v cw_7_177 (io_q hq) rfl rfl (Nat.le_of_ble_eq_true rfl) (Nat.le_of_ble_eq_true rfl)) mt_Quarter_personNamed rfl hc rfl k
theorem B_Reader_takeNewName_34 {xs : Nat → Int} {xl e : Nat} {h : LH} {Q : Option LV → LH → Prop} {v2 w0 : Int} {q : Int} (hq : q = 5 ∨ q = 32) (hF : RF h)
    (k : (w0 = (-1) →
        (∃ c, c < e ∧ Rn xs xl c mm_Reader_step 0 [some (.inr (.inr 2)), none] [] h (fun r h' => Rn xs xl e mm_Reader_takeNewName 50 [some (.inr (.inr 2)), some (.inr (.inr q)), some (.inr (.inl v2)), none] (r.toList ++ []) h' Q))) ∧
      (w0 ≠ (-1) →
        (∃ c, c < e ∧ Rn xs xl c mm_Reader_fail 0 [some (.inr (.inr 2)), some (.inl 3)] [] h (fun r h' => Rn xs xl e mm_Reader_takeNewName 43 [some (.inr (.inr 2)), some (.inr (.inr q)), some (.inr (.inl v2)), none] (r.toList ++ []) h' Q)))) :
    Rn xs xl e mm_Reader_takeNewName 34 [some (.inr (.inr 2)), some (.inr (.inr q)), some (.inr (.inl v2)), none] [.inl w0] h Q := by
  refine R_ic dd_Reader_takeNewName_34 (by decide) rfl ?_
  refine R_icmp dd_Reader_takeNewName_35 rfl rfl (fun (c3 : w0 = (-1)) => ?_) (fun (c3 : w0 ≠ (-1)) => ?_)
  · replace k := k.1 c3
    refine R_ld (v := .inr (.inr 2)) dd_Reader_takeNewName_46 rfl rfl rfl rfl ?_
    obtain ⟨c, hc, k⟩ := k
    exact R_call (as := [.inr (.inr 2)]) (rest := []) (M' := mm_Reader_step) (ls0 := [some (.inr (.inr 2)), none]) dd_Reader_takeNewName_47 rfl rfl (cw_v cw_7_99 io_2 rfl rfl (Nat.le_of_ble_eq_true rfl) (Nat.le_of_ble_eq_true rfl)) mt_Reader_step rfl hc rfl k
  · replace k := k.2 c3
    refine R_ld (v := .inr (.inr 2)) dd_Reader_takeNewName_38 rfl rfl rfl rfl ?_
    refine R_ic dd_Reader_takeNewName_39 (by decide) rfl ?_
    obtain ⟨c, hc, k⟩ := k
    exact R_call (as := [.inr (.inr 2), .inl 3]) (rest := []) (M' := mm_Reader_fail) (ls0 := [some (.inr (.inr 2)), some (.inl 3)]) dd_Reader_takeNewName_40 rfl rfl (cw_v cw_7_80 io_2 rfl rfl (Nat.le_of_ble_eq_true rfl) (Nat.le_of_ble_eq_true rfl)) mt_Reader_fail rfl hc rfl k
theorem B_Reader_takeNewName_43 {xs : Nat → Int} {xl e : Nat} {h : LH} {Q : Option LV → LH → Prop} {v2 : Int} {q : Int} (hq : q = 5 ∨ q = 32) (hF : RF h)
    (k : Q (some (.inr (.inl v2))) h) :
    Rn xs xl e mm_Reader_takeNewName 43 [some (.inr (.inr 2)), some (.inr (.inr q)), some (.inr (.inl v2)), none] [] h Q := by
  refine R_goto dd_Reader_takeNewName_43 rfl ?_
  refine R_ld (v := .inr (.inl v2)) dd_Reader_takeNewName_50 rfl rfl rfl rfl ?_
  exact R_lret dd_Reader_takeNewName_51 rfl k
theorem B_Reader_takeNewName_50 {xs : Nat → Int} {xl e : Nat} {h : LH} {Q : Option LV → LH → Prop} {v2 : Int} {q : Int} (hq : q = 5 ∨ q = 32) (hF : RF h)
    (k : Q (some (.inr (.inl v2))) h) :
    Rn xs xl e mm_Reader_takeNewName 50 [some (.inr (.inr 2)), some (.inr (.inr q)), some (.inr (.inl v2)), none] [] h Q := by
  refine R_ld (v := .inr (.inl v2)) dd_Reader_takeNewName_50 rfl rfl rfl rfl ?_
  exact R_lret dd_Reader_takeNewName_51 rfl k
