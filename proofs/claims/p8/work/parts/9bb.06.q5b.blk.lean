/-! LM, by program (wip/p2/hand.py): rows of the class's law -/
def mm_Quarter_join : LM_M := (⟨"OneSided$Quarter", "join", "(III)I"⟩, prog_8_method_12_code, 3, (some .int), 6, 3, 1, 719, 718, 0)
def mm_Quarter_fact : LM_M := (⟨"OneSided$Quarter", "fact", "(IIIII)I"⟩, prog_8_method_11_code, 5, (some .int), 6, 5, 1, 722, 721, 0)
def mm_Quarter_lawFor : LM_M := (⟨"OneSided$Quarter", "lawFor", "(IIII)I"⟩, prog_8_method_10_code, 8, (some .int), 6, 5, 0, 716, 715, 1000024)
theorem dd_Quarter_join_0 : decode mm_Quarter_join.2.1 0 = .ok (.iload_n 0, 1) := by decide +kernel
theorem dd_Quarter_join_1 : decode mm_Quarter_join.2.1 1 = .ok (.tableswitch (97) (10005) (10010) #[39, 53, 67, 78, 89, 93], 39) := by decide +kernel
theorem dd_Quarter_join_40 : decode mm_Quarter_join.2.1 40 = .ok (.iload_n 1, 1) := by decide +kernel
theorem dd_Quarter_join_41 : decode mm_Quarter_join.2.1 41 = .ok (.ifCond .eq (11), 3) := by decide +kernel
theorem dd_Quarter_join_52 : decode mm_Quarter_join.2.1 52 = .ok (.iconst 0, 1) := by decide +kernel
theorem dd_Quarter_join_53 : decode mm_Quarter_join.2.1 53 = .ok (.ireturn, 1) := by decide +kernel
theorem dd_Quarter_join_44 : decode mm_Quarter_join.2.1 44 = .ok (.iload_n 2, 1) := by decide +kernel
theorem dd_Quarter_join_45 : decode mm_Quarter_join.2.1 45 = .ok (.ifCond .eq (7), 3) := by decide +kernel
theorem dd_Quarter_join_48 : decode mm_Quarter_join.2.1 48 = .ok (.iconst 1, 1) := by decide +kernel
theorem dd_Quarter_join_49 : decode mm_Quarter_join.2.1 49 = .ok (.goto 4, 3) := by decide +kernel
theorem dd_Quarter_join_54 : decode mm_Quarter_join.2.1 54 = .ok (.iload_n 1, 1) := by decide +kernel
theorem dd_Quarter_join_55 : decode mm_Quarter_join.2.1 55 = .ok (.ifCond .ne (7), 3) := by decide +kernel
theorem dd_Quarter_join_62 : decode mm_Quarter_join.2.1 62 = .ok (.iconst 1, 1) := by decide +kernel
theorem dd_Quarter_join_63 : decode mm_Quarter_join.2.1 63 = .ok (.goto 4, 3) := by decide +kernel
theorem dd_Quarter_join_67 : decode mm_Quarter_join.2.1 67 = .ok (.ireturn, 1) := by decide +kernel
theorem dd_Quarter_join_58 : decode mm_Quarter_join.2.1 58 = .ok (.iload_n 2, 1) := by decide +kernel
theorem dd_Quarter_join_59 : decode mm_Quarter_join.2.1 59 = .ok (.ifCond .eq (7), 3) := by decide +kernel
theorem dd_Quarter_join_66 : decode mm_Quarter_join.2.1 66 = .ok (.iconst 0, 1) := by decide +kernel
theorem dd_Quarter_join_68 : decode mm_Quarter_join.2.1 68 = .ok (.iload_n 1, 1) := by decide +kernel
theorem dd_Quarter_join_69 : decode mm_Quarter_join.2.1 69 = .ok (.iload_n 2, 1) := by decide +kernel
theorem dd_Quarter_join_70 : decode mm_Quarter_join.2.1 70 = .ok (.if_icmp .ge (7), 3) := by decide +kernel
theorem dd_Quarter_join_77 : decode mm_Quarter_join.2.1 77 = .ok (.iconst 0, 1) := by decide +kernel
theorem dd_Quarter_join_78 : decode mm_Quarter_join.2.1 78 = .ok (.ireturn, 1) := by decide +kernel
theorem dd_Quarter_join_73 : decode mm_Quarter_join.2.1 73 = .ok (.iconst 1, 1) := by decide +kernel
theorem dd_Quarter_join_74 : decode mm_Quarter_join.2.1 74 = .ok (.goto 4, 3) := by decide +kernel
theorem dd_Quarter_join_79 : decode mm_Quarter_join.2.1 79 = .ok (.iload_n 1, 1) := by decide +kernel
theorem dd_Quarter_join_80 : decode mm_Quarter_join.2.1 80 = .ok (.iload_n 2, 1) := by decide +kernel
theorem dd_Quarter_join_81 : decode mm_Quarter_join.2.1 81 = .ok (.if_icmp .ne (7), 3) := by decide +kernel
theorem dd_Quarter_join_88 : decode mm_Quarter_join.2.1 88 = .ok (.iconst 0, 1) := by decide +kernel
theorem dd_Quarter_join_89 : decode mm_Quarter_join.2.1 89 = .ok (.ireturn, 1) := by decide +kernel
theorem dd_Quarter_join_84 : decode mm_Quarter_join.2.1 84 = .ok (.iconst 1, 1) := by decide +kernel
theorem dd_Quarter_join_85 : decode mm_Quarter_join.2.1 85 = .ok (.goto 4, 3) := by decide +kernel
theorem dd_Quarter_join_90 : decode mm_Quarter_join.2.1 90 = .ok (.iload_n 1, 1) := by decide +kernel
theorem dd_Quarter_join_91 : decode mm_Quarter_join.2.1 91 = .ok (.iload_n 2, 1) := by decide +kernel
theorem dd_Quarter_join_92 : decode mm_Quarter_join.2.1 92 = .ok (.iadd, 1) := by decide +kernel
theorem dd_Quarter_join_93 : decode mm_Quarter_join.2.1 93 = .ok (.ireturn, 1) := by decide +kernel
theorem dd_Quarter_join_94 : decode mm_Quarter_join.2.1 94 = .ok (.iload_n 1, 1) := by decide +kernel
theorem dd_Quarter_join_95 : decode mm_Quarter_join.2.1 95 = .ok (.iload_n 2, 1) := by decide +kernel
theorem dd_Quarter_join_96 : decode mm_Quarter_join.2.1 96 = .ok (.isub, 1) := by decide +kernel
theorem dd_Quarter_join_97 : decode mm_Quarter_join.2.1 97 = .ok (.ireturn, 1) := by decide +kernel
theorem dd_Quarter_join_98 : decode mm_Quarter_join.2.1 98 = .ok (.iload_n 1, 1) := by decide +kernel
theorem dd_Quarter_join_99 : decode mm_Quarter_join.2.1 99 = .ok (.iload_n 2, 1) := by decide +kernel
theorem dd_Quarter_join_100 : decode mm_Quarter_join.2.1 100 = .ok (.imul, 1) := by decide +kernel
theorem dd_Quarter_join_101 : decode mm_Quarter_join.2.1 101 = .ok (.ireturn, 1) := by decide +kernel
theorem dd_Quarter_fact_0 : decode mm_Quarter_fact.2.1 0 = .ok (.iload_n 0, 1) := by decide +kernel
theorem dd_Quarter_fact_1 : decode mm_Quarter_fact.2.1 1 = .ok (.tableswitch (33) (0) (2) #[27, 29, 31], 27) := by decide +kernel
theorem dd_Quarter_fact_28 : decode mm_Quarter_fact.2.1 28 = .ok (.iload_n 1, 1) := by decide +kernel
theorem dd_Quarter_fact_29 : decode mm_Quarter_fact.2.1 29 = .ok (.ireturn, 1) := by decide +kernel
theorem dd_Quarter_fact_30 : decode mm_Quarter_fact.2.1 30 = .ok (.iload_n 2, 1) := by decide +kernel
theorem dd_Quarter_fact_31 : decode mm_Quarter_fact.2.1 31 = .ok (.ireturn, 1) := by decide +kernel
theorem dd_Quarter_fact_32 : decode mm_Quarter_fact.2.1 32 = .ok (.iload_n 3, 1) := by decide +kernel
theorem dd_Quarter_fact_33 : decode mm_Quarter_fact.2.1 33 = .ok (.ireturn, 1) := by decide +kernel
theorem dd_Quarter_fact_34 : decode mm_Quarter_fact.2.1 34 = .ok (.iload 4, 2) := by decide +kernel
theorem dd_Quarter_fact_36 : decode mm_Quarter_fact.2.1 36 = .ok (.ireturn, 1) := by decide +kernel
theorem dd_Quarter_lawFor_0 : decode mm_Quarter_lawFor.2.1 0 = .ok (.iconst 0, 1) := by decide +kernel
theorem dd_Quarter_lawFor_1 : decode mm_Quarter_lawFor.2.1 1 = .ok (.istore 5, 2) := by decide +kernel
theorem dd_Quarter_lawFor_3 : decode mm_Quarter_lawFor.2.1 3 = .ok (.iconst 0, 1) := by decide +kernel
theorem dd_Quarter_lawFor_4 : decode mm_Quarter_lawFor.2.1 4 = .ok (.istore 6, 2) := by decide +kernel
theorem dd_Quarter_lawFor_6 : decode mm_Quarter_lawFor.2.1 6 = .ok (.iload 6, 2) := by decide +kernel
theorem dd_Quarter_lawFor_8 : decode mm_Quarter_lawFor.2.1 8 = .ok (.aload_n 0, 1) := by decide +kernel
theorem dd_Quarter_lawFor_9 : decode mm_Quarter_lawFor.2.1 9 = .ok (.getfield 48, 3) := by decide +kernel
theorem dd_Quarter_lawFor_12 : decode mm_Quarter_lawFor.2.1 12 = .ok (.if_icmp .ge (154), 3) := by decide +kernel
theorem dd_Quarter_lawFor_15 : decode mm_Quarter_lawFor.2.1 15 = .ok (.aload_n 0, 1) := by decide +kernel
theorem dd_Quarter_lawFor_16 : decode mm_Quarter_lawFor.2.1 16 = .ok (.getfield 27, 3) := by decide +kernel
theorem dd_Quarter_lawFor_19 : decode mm_Quarter_lawFor.2.1 19 = .ok (.iload 6, 2) := by decide +kernel
theorem dd_Quarter_lawFor_21 : decode mm_Quarter_lawFor.2.1 21 = .ok (.iaload, 1) := by decide +kernel
theorem dd_Quarter_lawFor_22 : decode mm_Quarter_lawFor.2.1 22 = .ok (.istore 7, 2) := by decide +kernel
theorem dd_Quarter_lawFor_24 : decode mm_Quarter_lawFor.2.1 24 = .ok (.iload 7, 2) := by decide +kernel
theorem dd_Quarter_lawFor_26 : decode mm_Quarter_lawFor.2.1 26 = .ok (.sipush 10004, 3) := by decide +kernel
theorem dd_Quarter_lawFor_29 : decode mm_Quarter_lawFor.2.1 29 = .ok (.if_icmp .le (45), 3) := by decide +kernel
theorem dd_Quarter_lawFor_74 : decode mm_Quarter_lawFor.2.1 74 = .ok (.iload 7, 2) := by decide +kernel
theorem dd_Quarter_lawFor_76 : decode mm_Quarter_lawFor.2.1 76 = .ok (.sipush 10004, 3) := by decide +kernel
theorem dd_Quarter_lawFor_79 : decode mm_Quarter_lawFor.2.1 79 = .ok (.if_icmp .ne (37), 3) := by decide +kernel
theorem dd_Quarter_lawFor_116 : decode mm_Quarter_lawFor.2.1 116 = .ok (.iload 5, 2) := by decide +kernel
theorem dd_Quarter_lawFor_118 : decode mm_Quarter_lawFor.2.1 118 = .ok (.bipush 32, 2) := by decide +kernel
theorem dd_Quarter_lawFor_120 : decode mm_Quarter_lawFor.2.1 120 = .ok (.if_icmp .ge (40), 3) := by decide +kernel
theorem dd_Quarter_lawFor_123 : decode mm_Quarter_lawFor.2.1 123 = .ok (.aload_n 0, 1) := by decide +kernel
theorem dd_Quarter_lawFor_124 : decode mm_Quarter_lawFor.2.1 124 = .ok (.getfield 31, 3) := by decide +kernel
theorem fd_6_31 : fld 6 31 = some (6, 7) := by decide +kernel
theorem dd_Quarter_lawFor_127 : decode mm_Quarter_lawFor.2.1 127 = .ok (.iload 5, 2) := by decide +kernel
theorem dd_Quarter_lawFor_129 : decode mm_Quarter_lawFor.2.1 129 = .ok (.iload 7, 2) := by decide +kernel
theorem dd_Quarter_lawFor_131 : decode mm_Quarter_lawFor.2.1 131 = .ok (.sipush 10000, 3) := by decide +kernel
theorem dd_Quarter_lawFor_134 : decode mm_Quarter_lawFor.2.1 134 = .ok (.if_icmp .ge (8), 3) := by decide +kernel
theorem dd_Quarter_lawFor_142 : decode mm_Quarter_lawFor.2.1 142 = .ok (.iload 7, 2) := by decide +kernel
theorem dd_Quarter_lawFor_144 : decode mm_Quarter_lawFor.2.1 144 = .ok (.sipush 10000, 3) := by decide +kernel
theorem dd_Quarter_lawFor_147 : decode mm_Quarter_lawFor.2.1 147 = .ok (.isub, 1) := by decide +kernel
theorem dd_Quarter_lawFor_148 : decode mm_Quarter_lawFor.2.1 148 = .ok (.iload_n 1, 1) := by decide +kernel
theorem dd_Quarter_lawFor_149 : decode mm_Quarter_lawFor.2.1 149 = .ok (.iload_n 2, 1) := by decide +kernel
theorem dd_Quarter_lawFor_150 : decode mm_Quarter_lawFor.2.1 150 = .ok (.iload_n 3, 1) := by decide +kernel
theorem dd_Quarter_lawFor_151 : decode mm_Quarter_lawFor.2.1 151 = .ok (.iload 4, 2) := by decide +kernel
theorem dd_Quarter_lawFor_153 : decode mm_Quarter_lawFor.2.1 153 = .ok (.invokestatic 97, 3) := by decide +kernel
theorem cw_6_97 : cwOk 6 97 1 50 5 5 6 = true := by decide +kernel
theorem mt_Quarter_fact : MTB 50 = some mm_Quarter_fact := rfl
theorem dd_Quarter_lawFor_137 : decode mm_Quarter_lawFor.2.1 137 = .ok (.iload 7, 2) := by decide +kernel
theorem dd_Quarter_lawFor_139 : decode mm_Quarter_lawFor.2.1 139 = .ok (.goto 17, 3) := by decide +kernel
theorem dd_Quarter_lawFor_156 : decode mm_Quarter_lawFor.2.1 156 = .ok (.iastore, 1) := by decide +kernel
theorem dd_Quarter_lawFor_157 : decode mm_Quarter_lawFor.2.1 157 = .ok (.iinc 5 1, 3) := by decide +kernel
theorem dd_Quarter_lawFor_82 : decode mm_Quarter_lawFor.2.1 82 = .ok (.iload 5, 2) := by decide +kernel
theorem dd_Quarter_lawFor_84 : decode mm_Quarter_lawFor.2.1 84 = .ok (.ifCond .le (76), 3) := by decide +kernel
theorem dd_Quarter_lawFor_87 : decode mm_Quarter_lawFor.2.1 87 = .ok (.aload_n 0, 1) := by decide +kernel
theorem dd_Quarter_lawFor_88 : decode mm_Quarter_lawFor.2.1 88 = .ok (.getfield 31, 3) := by decide +kernel
theorem dd_Quarter_lawFor_91 : decode mm_Quarter_lawFor.2.1 91 = .ok (.iload 5, 2) := by decide +kernel
theorem dd_Quarter_lawFor_93 : decode mm_Quarter_lawFor.2.1 93 = .ok (.iconst 1, 1) := by decide +kernel
theorem dd_Quarter_lawFor_94 : decode mm_Quarter_lawFor.2.1 94 = .ok (.isub, 1) := by decide +kernel
theorem dd_Quarter_lawFor_95 : decode mm_Quarter_lawFor.2.1 95 = .ok (.aload_n 0, 1) := by decide +kernel
theorem dd_Quarter_lawFor_96 : decode mm_Quarter_lawFor.2.1 96 = .ok (.getfield 31, 3) := by decide +kernel
theorem dd_Quarter_lawFor_99 : decode mm_Quarter_lawFor.2.1 99 = .ok (.iload 5, 2) := by decide +kernel
theorem dd_Quarter_lawFor_101 : decode mm_Quarter_lawFor.2.1 101 = .ok (.iconst 1, 1) := by decide +kernel
theorem dd_Quarter_lawFor_102 : decode mm_Quarter_lawFor.2.1 102 = .ok (.isub, 1) := by decide +kernel
theorem dd_Quarter_lawFor_103 : decode mm_Quarter_lawFor.2.1 103 = .ok (.iaload, 1) := by decide +kernel
theorem dd_Quarter_lawFor_104 : decode mm_Quarter_lawFor.2.1 104 = .ok (.ifCond .ne (7), 3) := by decide +kernel
theorem dd_Quarter_lawFor_111 : decode mm_Quarter_lawFor.2.1 111 = .ok (.iconst 0, 1) := by decide +kernel
theorem dd_Quarter_lawFor_112 : decode mm_Quarter_lawFor.2.1 112 = .ok (.iastore, 1) := by decide +kernel
theorem dd_Quarter_lawFor_113 : decode mm_Quarter_lawFor.2.1 113 = .ok (.goto 47, 3) := by decide +kernel
theorem dd_Quarter_lawFor_107 : decode mm_Quarter_lawFor.2.1 107 = .ok (.iconst 1, 1) := by decide +kernel
theorem dd_Quarter_lawFor_108 : decode mm_Quarter_lawFor.2.1 108 = .ok (.goto 4, 3) := by decide +kernel
theorem dd_Quarter_lawFor_32 : decode mm_Quarter_lawFor.2.1 32 = .ok (.iload 5, 2) := by decide +kernel
theorem dd_Quarter_lawFor_34 : decode mm_Quarter_lawFor.2.1 34 = .ok (.iconst 1, 1) := by decide +kernel
theorem dd_Quarter_lawFor_35 : decode mm_Quarter_lawFor.2.1 35 = .ok (.if_icmp .le (125), 3) := by decide +kernel
theorem dd_Quarter_lawFor_38 : decode mm_Quarter_lawFor.2.1 38 = .ok (.iinc 5 (-1), 3) := by decide +kernel
theorem dd_Quarter_lawFor_41 : decode mm_Quarter_lawFor.2.1 41 = .ok (.aload_n 0, 1) := by decide +kernel
theorem dd_Quarter_lawFor_42 : decode mm_Quarter_lawFor.2.1 42 = .ok (.getfield 31, 3) := by decide +kernel
theorem dd_Quarter_lawFor_45 : decode mm_Quarter_lawFor.2.1 45 = .ok (.iload 5, 2) := by decide +kernel
theorem dd_Quarter_lawFor_47 : decode mm_Quarter_lawFor.2.1 47 = .ok (.iconst 1, 1) := by decide +kernel
theorem dd_Quarter_lawFor_48 : decode mm_Quarter_lawFor.2.1 48 = .ok (.isub, 1) := by decide +kernel
theorem dd_Quarter_lawFor_49 : decode mm_Quarter_lawFor.2.1 49 = .ok (.iload 7, 2) := by decide +kernel
theorem dd_Quarter_lawFor_51 : decode mm_Quarter_lawFor.2.1 51 = .ok (.aload_n 0, 1) := by decide +kernel
theorem dd_Quarter_lawFor_52 : decode mm_Quarter_lawFor.2.1 52 = .ok (.getfield 31, 3) := by decide +kernel
theorem dd_Quarter_lawFor_55 : decode mm_Quarter_lawFor.2.1 55 = .ok (.iload 5, 2) := by decide +kernel
theorem dd_Quarter_lawFor_57 : decode mm_Quarter_lawFor.2.1 57 = .ok (.iconst 1, 1) := by decide +kernel
theorem dd_Quarter_lawFor_58 : decode mm_Quarter_lawFor.2.1 58 = .ok (.isub, 1) := by decide +kernel
theorem dd_Quarter_lawFor_59 : decode mm_Quarter_lawFor.2.1 59 = .ok (.iaload, 1) := by decide +kernel
theorem dd_Quarter_lawFor_60 : decode mm_Quarter_lawFor.2.1 60 = .ok (.aload_n 0, 1) := by decide +kernel
theorem dd_Quarter_lawFor_61 : decode mm_Quarter_lawFor.2.1 61 = .ok (.getfield 31, 3) := by decide +kernel
theorem dd_Quarter_lawFor_64 : decode mm_Quarter_lawFor.2.1 64 = .ok (.iload 5, 2) := by decide +kernel
theorem dd_Quarter_lawFor_66 : decode mm_Quarter_lawFor.2.1 66 = .ok (.iaload, 1) := by decide +kernel
theorem dd_Quarter_lawFor_67 : decode mm_Quarter_lawFor.2.1 67 = .ok (.invokestatic 93, 3) := by decide +kernel
theorem cw_6_93 : cwOk 6 93 1 49 3 3 6 = true := by decide +kernel
theorem mt_Quarter_join : MTB 49 = some mm_Quarter_join := rfl
theorem dd_Quarter_lawFor_70 : decode mm_Quarter_lawFor.2.1 70 = .ok (.iastore, 1) := by decide +kernel
theorem dd_Quarter_lawFor_71 : decode mm_Quarter_lawFor.2.1 71 = .ok (.goto 89, 3) := by decide +kernel
theorem dd_Quarter_lawFor_160 : decode mm_Quarter_lawFor.2.1 160 = .ok (.iinc 6 1, 3) := by decide +kernel
theorem dd_Quarter_lawFor_163 : decode mm_Quarter_lawFor.2.1 163 = .ok (.goto (-157), 3) := by decide +kernel
theorem dd_Quarter_lawFor_166 : decode mm_Quarter_lawFor.2.1 166 = .ok (.iload 5, 2) := by decide +kernel
theorem dd_Quarter_lawFor_168 : decode mm_Quarter_lawFor.2.1 168 = .ok (.ifCond .le (12), 3) := by decide +kernel
theorem dd_Quarter_lawFor_180 : decode mm_Quarter_lawFor.2.1 180 = .ok (.iconst 1, 1) := by decide +kernel
theorem dd_Quarter_lawFor_181 : decode mm_Quarter_lawFor.2.1 181 = .ok (.ireturn, 1) := by decide +kernel
theorem dd_Quarter_lawFor_171 : decode mm_Quarter_lawFor.2.1 171 = .ok (.aload_n 0, 1) := by decide +kernel
theorem dd_Quarter_lawFor_172 : decode mm_Quarter_lawFor.2.1 172 = .ok (.getfield 31, 3) := by decide +kernel
theorem dd_Quarter_lawFor_175 : decode mm_Quarter_lawFor.2.1 175 = .ok (.iconst 0, 1) := by decide +kernel
theorem dd_Quarter_lawFor_176 : decode mm_Quarter_lawFor.2.1 176 = .ok (.iaload, 1) := by decide +kernel
theorem dd_Quarter_lawFor_177 : decode mm_Quarter_lawFor.2.1 177 = .ok (.goto 4, 3) := by decide +kernel
theorem rq_stk {h : LH} {q : Int} (hF : RF h) (hq : q = 5 ∨ q = 32) : rd h q ((7 : Nat) : Int) = q + 4 := by
  rcases hq with rfl | rfl
  · exact hF 5 7 9 (by decide +kernel) (by decide +kernel)
  · exact hF 32 7 36 (by decide +kernel) (by decide +kernel)
theorem ia_sq {q : Int} (hq : q = 5 ∨ q = 32) : isA NC (q + 4) 1 = true := by
  rcases hq with rfl | rfl <;> decide +kernel
theorem la_sq {q : Int} (hq : q = 5 ∨ q = 32) : (lay (q + 4).toNat).2.2 = 32 := by
  rcases hq with rfl | rfl <;> decide +kernel
theorem B_Quarter_join_0 {xs : Nat → Int} {xl e : Nat} {h : LH} {Q : Option LV → LH → Prop} {v0 v1 v2 : Int} (hF : RF h)
    (k : (v0 = 10005 →
        (v1 = 0 →
          Q (some (.inl 0)) h) ∧
        (v1 ≠ 0 →
          (v2 = 0 →
            Q (some (.inl 0)) h) ∧
          (v2 ≠ 0 →
            Q (some (.inl 1)) h))) ∧
      (v0 = 10006 →
        (v1 ≠ 0 →
          Q (some (.inl 1)) h) ∧
        (v1 = 0 →
          (v2 = 0 →
            Q (some (.inl 0)) h) ∧
          (v2 ≠ 0 →
            Q (some (.inl 1)) h))) ∧
      (v0 = 10007 →
        (v2 ≤ v1 →
          Q (some (.inl 0)) h) ∧
        (v1 < v2 →
          Q (some (.inl 1)) h)) ∧
      (v0 = 10008 →
        (v1 ≠ v2 →
          Q (some (.inl 0)) h) ∧
        (v1 = v2 →
          Q (some (.inl 1)) h)) ∧
      (v0 = 10009 →
        Q (some (.inl (w32 (v1 + v2)))) h) ∧
      (v0 = 10010 →
        Q (some (.inl (w32 (v1 - v2)))) h) ∧
      (v0 < 10005 ∨ 10010 < v0 →
        Q (some (.inl (w32 (v1 * v2)))) h)) :
    Rn xs xl e mm_Quarter_join 0 [some (.inl v0), some (.inl v1), some (.inl v2)] [] h Q := by
  refine R_ld (v := .inl v0) dd_Quarter_join_0 rfl rfl rfl rfl ?_
  rcases (show (v0 = 10005) ∨ (v0 = 10006) ∨ (v0 = 10007) ∨ (v0 = 10008) ∨ (v0 = 10009) ∨ (v0 = 10010) ∨ (v0 < 10005 ∨ 10010 < v0) by omega) with c1 | c1 | c1 | c1 | c1 | c1 | c1
  · replace k := k.1 c1
    refine R_swj (v := 10005) dd_Quarter_join_1 c1 (by decide) rfl rfl ?_
    refine R_ld (v := .inl v1) dd_Quarter_join_40 rfl rfl rfl rfl ?_
    refine R_if dd_Quarter_join_41 rfl rfl (fun (c2 : v1 = 0) => ?_) (fun (c2 : v1 ≠ 0) => ?_)
    · replace k := k.1 c2
      refine R_ic dd_Quarter_join_52 (by decide) rfl ?_
      exact R_iret dd_Quarter_join_53 rfl k
    · replace k := k.2 c2
      refine R_ld (v := .inl v2) dd_Quarter_join_44 rfl rfl rfl rfl ?_
      refine R_if dd_Quarter_join_45 rfl rfl (fun (c3 : v2 = 0) => ?_) (fun (c3 : v2 ≠ 0) => ?_)
      · replace k := k.1 c3
        refine R_ic dd_Quarter_join_52 (by decide) rfl ?_
        exact R_iret dd_Quarter_join_53 rfl k
      · replace k := k.2 c3
        refine R_ic dd_Quarter_join_48 (by decide) rfl ?_
        refine R_goto dd_Quarter_join_49 rfl ?_
        exact R_iret dd_Quarter_join_53 rfl k
  · replace k := k.2.1 c1
    refine R_swj (v := 10006) dd_Quarter_join_1 c1 (by decide) rfl rfl ?_
    refine R_ld (v := .inl v1) dd_Quarter_join_54 rfl rfl rfl rfl ?_
    refine R_if dd_Quarter_join_55 rfl rfl (fun (c4 : v1 ≠ 0) => ?_) (fun (c4 : v1 = 0) => ?_)
    · replace k := k.1 c4
      refine R_ic dd_Quarter_join_62 (by decide) rfl ?_
      refine R_goto dd_Quarter_join_63 rfl ?_
      exact R_iret dd_Quarter_join_67 rfl k
    · replace k := k.2 c4
      refine R_ld (v := .inl v2) dd_Quarter_join_58 rfl rfl rfl rfl ?_
      refine R_if dd_Quarter_join_59 rfl rfl (fun (c5 : v2 = 0) => ?_) (fun (c5 : v2 ≠ 0) => ?_)
      · replace k := k.1 c5
        refine R_ic dd_Quarter_join_66 (by decide) rfl ?_
        exact R_iret dd_Quarter_join_67 rfl k
      · replace k := k.2 c5
        refine R_ic dd_Quarter_join_62 (by decide) rfl ?_
        refine R_goto dd_Quarter_join_63 rfl ?_
        exact R_iret dd_Quarter_join_67 rfl k
  · replace k := k.2.2.1 c1
    refine R_swj (v := 10007) dd_Quarter_join_1 c1 (by decide) rfl rfl ?_
    refine R_ld (v := .inl v1) dd_Quarter_join_68 rfl rfl rfl rfl ?_
    refine R_ld (v := .inl v2) dd_Quarter_join_69 rfl rfl rfl rfl ?_
    refine R_icmp dd_Quarter_join_70 rfl rfl (fun (c6 : v2 ≤ v1) => ?_) (fun (c6 : v1 < v2) => ?_)
    · replace k := k.1 c6
      refine R_ic dd_Quarter_join_77 (by decide) rfl ?_
      exact R_iret dd_Quarter_join_78 rfl k
    · replace k := k.2 c6
      refine R_ic dd_Quarter_join_73 (by decide) rfl ?_
      refine R_goto dd_Quarter_join_74 rfl ?_
      exact R_iret dd_Quarter_join_78 rfl k
  · replace k := k.2.2.2.1 c1
    refine R_swj (v := 10008) dd_Quarter_join_1 c1 (by decide) rfl rfl ?_
    refine R_ld (v := .inl v1) dd_Quarter_join_79 rfl rfl rfl rfl ?_
    refine R_ld (v := .inl v2) dd_Quarter_join_80 rfl rfl rfl rfl ?_
    refine R_icmp dd_Quarter_join_81 rfl rfl (fun (c7 : v1 ≠ v2) => ?_) (fun (c7 : v1 = v2) => ?_)
    · replace k := k.1 c7
      refine R_ic dd_Quarter_join_88 (by decide) rfl ?_
      exact R_iret dd_Quarter_join_89 rfl k
    · replace k := k.2 c7
      refine R_ic dd_Quarter_join_84 (by decide) rfl ?_
      refine R_goto dd_Quarter_join_85 rfl ?_
      exact R_iret dd_Quarter_join_89 rfl k
  · replace k := k.2.2.2.2.1 c1
    refine R_swj (v := 10009) dd_Quarter_join_1 c1 (by decide) rfl rfl ?_
    refine R_ld (v := .inl v1) dd_Quarter_join_90 rfl rfl rfl rfl ?_
    refine R_ld (v := .inl v2) dd_Quarter_join_91 rfl rfl rfl rfl ?_
    refine R_iaddw dd_Quarter_join_92 rfl ?_
    exact R_iret dd_Quarter_join_93 rfl k
  · replace k := k.2.2.2.2.2.1 c1
    refine R_swj (v := 10010) dd_Quarter_join_1 c1 (by decide) rfl rfl ?_
    refine R_ld (v := .inl v1) dd_Quarter_join_94 rfl rfl rfl rfl ?_
    refine R_ld (v := .inl v2) dd_Quarter_join_95 rfl rfl rfl rfl ?_
    refine R_isubw dd_Quarter_join_96 rfl ?_
    exact R_iret dd_Quarter_join_97 rfl k
  · replace k := k.2.2.2.2.2.2 c1
    refine R_swd dd_Quarter_join_1 c1 rfl ?_
    refine R_ld (v := .inl v1) dd_Quarter_join_98 rfl rfl rfl rfl ?_
    refine R_ld (v := .inl v2) dd_Quarter_join_99 rfl rfl rfl rfl ?_
    refine R_imulw dd_Quarter_join_100 rfl ?_
    exact R_iret dd_Quarter_join_101 rfl k
theorem B_Quarter_fact_0 {xs : Nat → Int} {xl e : Nat} {h : LH} {Q : Option LV → LH → Prop} {v0 v1 v2 v3 v4 : Int} (hF : RF h)
    (k : (v0 = 0 →
        Q (some (.inl v1)) h) ∧
      (v0 = 1 →
        Q (some (.inl v2)) h) ∧
      (v0 = 2 →
        Q (some (.inl v3)) h) ∧
      (v0 < 0 ∨ 2 < v0 →
        Q (some (.inl v4)) h)) :
    Rn xs xl e mm_Quarter_fact 0 [some (.inl v0), some (.inl v1), some (.inl v2), some (.inl v3), some (.inl v4)] [] h Q := by
  refine R_ld (v := .inl v0) dd_Quarter_fact_0 rfl rfl rfl rfl ?_
  rcases (show (v0 = 0) ∨ (v0 = 1) ∨ (v0 = 2) ∨ (v0 < 0 ∨ 2 < v0) by omega) with c1 | c1 | c1 | c1
  · replace k := k.1 c1
    refine R_swj (v := 0) dd_Quarter_fact_1 c1 (by decide) rfl rfl ?_
    refine R_ld (v := .inl v1) dd_Quarter_fact_28 rfl rfl rfl rfl ?_
    exact R_iret dd_Quarter_fact_29 rfl k
  · replace k := k.2.1 c1
    refine R_swj (v := 1) dd_Quarter_fact_1 c1 (by decide) rfl rfl ?_
    refine R_ld (v := .inl v2) dd_Quarter_fact_30 rfl rfl rfl rfl ?_
    exact R_iret dd_Quarter_fact_31 rfl k
  · replace k := k.2.2.1 c1
    refine R_swj (v := 2) dd_Quarter_fact_1 c1 (by decide) rfl rfl ?_
    refine R_ld (v := .inl v3) dd_Quarter_fact_32 rfl rfl rfl rfl ?_
    exact R_iret dd_Quarter_fact_33 rfl k
  · replace k := k.2.2.2 c1
    refine R_swd dd_Quarter_fact_1 c1 rfl ?_
    refine R_ld (v := .inl v4) dd_Quarter_fact_34 rfl rfl rfl rfl ?_
    exact R_iret dd_Quarter_fact_36 rfl k
theorem B_Quarter_lawFor_0 {xs : Nat → Int} {xl e : Nat} {h : LH} {Q : Option LV → LH → Prop} {v1 v2 v3 v4 : Int} {q : Int} (hq : q = 5 ∨ q = 32) (hF : RF h)
    (k : Rn xs xl e mm_Quarter_lawFor 6 [some (.inr (.inr q)), some (.inl v1), some (.inl v2), some (.inl v3), some (.inl v4), some (.inl 0), some (.inl 0), none] [] h Q) :
    Rn xs xl e mm_Quarter_lawFor 0 [some (.inr (.inr q)), some (.inl v1), some (.inl v2), some (.inl v3), some (.inl v4), none, none, none] [] h Q := by
  refine R_ic dd_Quarter_lawFor_0 (by decide) rfl ?_
  refine R_st (ls' := [some (.inr (.inr q)), some (.inl v1), some (.inl v2), some (.inl v3), some (.inl v4), some (.inl 0), none, none]) dd_Quarter_lawFor_1 rfl rfl rfl (Nat.le_of_ble_eq_true rfl) rfl rfl ?_
  refine R_ic dd_Quarter_lawFor_3 (by decide) rfl ?_
  refine R_st (ls' := [some (.inr (.inr q)), some (.inl v1), some (.inl v2), some (.inl v3), some (.inl v4), some (.inl 0), some (.inl 0), none]) dd_Quarter_lawFor_4 rfl rfl rfl (Nat.le_of_ble_eq_true rfl) rfl rfl ?_
  exact k
theorem B_Quarter_lawFor_6 {xs : Nat → Int} {xl e : Nat} {h : LH} {Q : Option LV → LH → Prop} {v1 v2 v3 v4 v5 v6 : Int} {q : Int} (hq : q = 5 ∨ q = 32) {o7 : Option LV} (hF : RF h) (r_v5 : 0 ≤ v5 ∧ v5 ≤ 32) (r_v6 : 0 ≤ v6 ∧ v6 ≤ 1000)
    (k : ((rd h q 6) ≤ v6 →
        Rn xs xl e mm_Quarter_lawFor 166 [some (.inr (.inr q)), some (.inl v1), some (.inl v2), some (.inl v3), some (.inl v4), some (.inl v5), some (.inl v6), o7] [] h Q) ∧
      (v6 < (rd h q 6) →
        (0 ≤ v6 ∧ v6 < 1000) ∧
        ((rd h (q + 3) v6) ≤ 10004 →
          ((rd h (q + 3) v6) ≠ 10004 →
            (32 ≤ v5 →
              Rn xs xl e mm_Quarter_lawFor 160 [some (.inr (.inr q)), some (.inl v1), some (.inl v2), some (.inl v3), some (.inl v4), some (.inl v5), some (.inl v6), some (.inl (rd h (q + 3) v6))] [] h Q) ∧
            (v5 < 32 →
              (10000 ≤ (rd h (q + 3) v6) →
                (-2147483648 ≤ (rd h (q + 3) v6) - 10000 ∧ (rd h (q + 3) v6) - 10000 ≤ 2147483647) ∧
                (∃ c, c < e ∧ Rn xs xl c mm_Quarter_fact 0 [some (.inl ((rd h (q + 3) v6) - 10000)), some (.inl v1), some (.inl v2), some (.inl v3), some (.inl v4)] [] h (fun r h' => Rn xs xl e mm_Quarter_lawFor 156 [some (.inr (.inr q)), some (.inl v1), some (.inl v2), some (.inl v3), some (.inl v4), some (.inl v5), some (.inl v6), some (.inl (rd h (q + 3) v6))] (r.toList ++ [.inl v5, .inr (.inr (q + 4))]) h' Q))) ∧
              ((rd h (q + 3) v6) < 10000 →
                (0 ≤ v5 ∧ v5 < 32) ∧
                Rn xs xl e mm_Quarter_lawFor 160 [some (.inr (.inr q)), some (.inl v1), some (.inl v2), some (.inl v3), some (.inl v4), some (.inl (v5 + 1)), some (.inl v6), some (.inl (rd h (q + 3) v6))] [] (wr h (q + 4) v5 (rd h (q + 3) v6)) Q))) ∧
          ((rd h (q + 3) v6) = 10004 →
            (v5 ≤ 0 →
              Rn xs xl e mm_Quarter_lawFor 160 [some (.inr (.inr q)), some (.inl v1), some (.inl v2), some (.inl v3), some (.inl v4), some (.inl v5), some (.inl v6), some (.inl (rd h (q + 3) v6))] [] h Q) ∧
            (0 < v5 →
              (0 ≤ v5 - 1 ∧ v5 - 1 < 32) ∧
              ((rd h (q + 4) (v5 - 1)) ≠ 0 →
                (0 ≤ v5 - 1 ∧ v5 - 1 < 32) ∧
                Rn xs xl e mm_Quarter_lawFor 160 [some (.inr (.inr q)), some (.inl v1), some (.inl v2), some (.inl v3), some (.inl v4), some (.inl v5), some (.inl v6), some (.inl (rd h (q + 3) v6))] [] (wr h (q + 4) (v5 - 1) 0) Q) ∧
              ((rd h (q + 4) (v5 - 1)) = 0 →
                (0 ≤ v5 - 1 ∧ v5 - 1 < 32) ∧
                Rn xs xl e mm_Quarter_lawFor 160 [some (.inr (.inr q)), some (.inl v1), some (.inl v2), some (.inl v3), some (.inl v4), some (.inl v5), some (.inl v6), some (.inl (rd h (q + 3) v6))] [] (wr h (q + 4) (v5 - 1) 1) Q)))) ∧
        (10004 < (rd h (q + 3) v6) →
          (v5 ≤ 1 →
            Rn xs xl e mm_Quarter_lawFor 160 [some (.inr (.inr q)), some (.inl v1), some (.inl v2), some (.inl v3), some (.inl v4), some (.inl v5), some (.inl v6), some (.inl (rd h (q + 3) v6))] [] h Q) ∧
          (1 < v5 →
            (0 ≤ v5 - 2 ∧ v5 - 2 < 32) ∧
            (0 ≤ v5 - 1 ∧ v5 - 1 < 32) ∧
            (∃ c, c < e ∧ Rn xs xl c mm_Quarter_join 0 [some (.inl (rd h (q + 3) v6)), some (.inl (rd h (q + 4) (v5 - 2))), some (.inl (rd h (q + 4) (v5 - 1)))] [] h (fun r h' => Rn xs xl e mm_Quarter_lawFor 70 [some (.inr (.inr q)), some (.inl v1), some (.inl v2), some (.inl v3), some (.inl v4), some (.inl (v5 - 1)), some (.inl v6), some (.inl (rd h (q + 3) v6))] (r.toList ++ [.inl (v5 - 2), .inr (.inr (q + 4))]) h' Q)))))) :
    Rn xs xl e mm_Quarter_lawFor 6 [some (.inr (.inr q)), some (.inl v1), some (.inl v2), some (.inl v3), some (.inl v4), some (.inl v5), some (.inl v6), o7] [] h Q := by
  refine R_ld (v := .inl v6) dd_Quarter_lawFor_6 rfl rfl rfl rfl ?_
  refine R_ld (v := .inr (.inr q)) dd_Quarter_lawFor_8 rfl rfl rfl rfl ?_
  refine R_gf (v := .inl (rd h q 6)) dd_Quarter_lawFor_9 fd_6_48 (io_q hq) (congrArg (fun z : Int => (Sum.inl z : LV)) (rfl)) rfl ?_
  refine R_icmp dd_Quarter_lawFor_12 rfl rfl (fun (c11 : (rd h q 6) ≤ v6) => ?_) (fun (c11 : v6 < (rd h q 6)) => ?_)
  · replace k := k.1 c11
    exact k
  · replace k := k.2 c11
    refine R_ld (v := .inr (.inr q)) dd_Quarter_lawFor_15 rfl rfl rfl rfl ?_
    refine R_gf (v := .inr (.inr (q + 3))) dd_Quarter_lawFor_16 fd_6_27 (io_q hq) (congrArg (fun z : Int => (Sum.inr (Sum.inr z) : LV)) (rq_law hF hq)) rfl ?_
    refine R_ld (v := .inl v6) dd_Quarter_lawFor_19 rfl rfl rfl rfl ?_
    obtain ⟨s1, k⟩ := k
    refine R_iald (v := (rd h (q + 3) v6)) (n := 1000) dd_Quarter_lawFor_21 (ia_lq hq) (la_lq hq) s1 (rfl) rfl ?_
    refine R_st (ls' := [some (.inr (.inr q)), some (.inl v1), some (.inl v2), some (.inl v3), some (.inl v4), some (.inl v5), some (.inl v6), some (.inl (rd h (q + 3) v6))]) dd_Quarter_lawFor_22 rfl rfl rfl (Nat.le_of_ble_eq_true rfl) rfl rfl ?_
    refine R_ld (v := .inl (rd h (q + 3) v6)) dd_Quarter_lawFor_24 rfl rfl rfl rfl ?_
    refine R_si dd_Quarter_lawFor_26 (by decide) rfl ?_
    refine R_icmp dd_Quarter_lawFor_29 rfl rfl (fun (c12 : (rd h (q + 3) v6) ≤ 10004) => ?_) (fun (c12 : 10004 < (rd h (q + 3) v6)) => ?_)
    · replace k := k.1 c12
      refine R_ld (v := .inl (rd h (q + 3) v6)) dd_Quarter_lawFor_74 rfl rfl rfl rfl ?_
      refine R_si dd_Quarter_lawFor_76 (by decide) rfl ?_
      refine R_icmp dd_Quarter_lawFor_79 rfl rfl (fun (c13 : (rd h (q + 3) v6) ≠ 10004) => ?_) (fun (c13 : (rd h (q + 3) v6) = 10004) => ?_)
      · replace k := k.1 c13
        refine R_ld (v := .inl v5) dd_Quarter_lawFor_116 rfl rfl rfl rfl ?_
        refine R_bi dd_Quarter_lawFor_118 (by decide) rfl ?_
        refine R_icmp dd_Quarter_lawFor_120 rfl rfl (fun (c14 : 32 ≤ v5) => ?_) (fun (c14 : v5 < 32) => ?_)
        · replace k := k.1 c14
          exact k
        · replace k := k.2 c14
          refine R_ld (v := .inr (.inr q)) dd_Quarter_lawFor_123 rfl rfl rfl rfl ?_
          refine R_gf (v := .inr (.inr (q + 4))) dd_Quarter_lawFor_124 fd_6_31 (io_q hq) (congrArg (fun z : Int => (Sum.inr (Sum.inr z) : LV)) (rq_stk hF hq)) rfl ?_
          refine R_ld (v := .inl v5) dd_Quarter_lawFor_127 rfl rfl rfl rfl ?_
          refine R_ld (v := .inl (rd h (q + 3) v6)) dd_Quarter_lawFor_129 rfl rfl rfl rfl ?_
          refine R_si dd_Quarter_lawFor_131 (by decide) rfl ?_
          refine R_icmp dd_Quarter_lawFor_134 rfl rfl (fun (c15 : 10000 ≤ (rd h (q + 3) v6)) => ?_) (fun (c15 : (rd h (q + 3) v6) < 10000) => ?_)
          · replace k := k.1 c15
            refine R_ld (v := .inl (rd h (q + 3) v6)) dd_Quarter_lawFor_142 rfl rfl rfl rfl ?_
            refine R_si dd_Quarter_lawFor_144 (by decide) rfl ?_
            obtain ⟨s2, k⟩ := k
            refine R_isub (c := (rd h (q + 3) v6) - 10000) dd_Quarter_lawFor_147 (by omega) s2 rfl ?_
            refine R_ld (v := .inl v1) dd_Quarter_lawFor_148 rfl rfl rfl rfl ?_
            refine R_ld (v := .inl v2) dd_Quarter_lawFor_149 rfl rfl rfl rfl ?_
            refine R_ld (v := .inl v3) dd_Quarter_lawFor_150 rfl rfl rfl rfl ?_
            refine R_ld (v := .inl v4) dd_Quarter_lawFor_151 rfl rfl rfl rfl ?_
            obtain ⟨c, hc, k⟩ := k
            exact R_call (as := [.inl ((rd h (q + 3) v6) - 10000), .inl v1, .inl v2, .inl v3, .inl v4]) (rest := [.inl v5, .inr (.inr (q + 4))]) (M' := mm_Quarter_fact) (ls0 := [some (.inl ((rd h (q + 3) v6) - 10000)), some (.inl v1), some (.inl v2), some (.inl v3), some (.inl v4)]) dd_Quarter_lawFor_153 rfl rfl (cw_s cw_6_97 rfl rfl (Nat.le_of_ble_eq_true rfl) (Nat.le_of_ble_eq_true rfl)) mt_Quarter_fact rfl hc rfl k
          · replace k := k.2 c15
            refine R_ld (v := .inl (rd h (q + 3) v6)) dd_Quarter_lawFor_137 rfl rfl rfl rfl ?_
            refine R_goto dd_Quarter_lawFor_139 rfl ?_
            obtain ⟨s4, k⟩ := k
            refine R_iast (n := 32) dd_Quarter_lawFor_156 (ia_sq hq) (la_sq hq) s4 rfl ?_
            refine R_inc (y := v5 + 1) (ls' := [some (.inr (.inr q)), some (.inl v1), some (.inl v2), some (.inl v3), some (.inl v4), some (.inl (v5 + 1)), some (.inl v6), some (.inl (rd h (q + 3) v6))]) dd_Quarter_lawFor_157 rfl (by decide) (by omega) (by omega) rfl rfl ?_
            exact k
      · replace k := k.2 c13
        refine R_ld (v := .inl v5) dd_Quarter_lawFor_82 rfl rfl rfl rfl ?_
        refine R_if dd_Quarter_lawFor_84 rfl rfl (fun (c16 : v5 ≤ 0) => ?_) (fun (c16 : 0 < v5) => ?_)
        · replace k := k.1 c16
          exact k
        · replace k := k.2 c16
          refine R_ld (v := .inr (.inr q)) dd_Quarter_lawFor_87 rfl rfl rfl rfl ?_
          refine R_gf (v := .inr (.inr (q + 4))) dd_Quarter_lawFor_88 fd_6_31 (io_q hq) (congrArg (fun z : Int => (Sum.inr (Sum.inr z) : LV)) (rq_stk hF hq)) rfl ?_
          refine R_ld (v := .inl v5) dd_Quarter_lawFor_91 rfl rfl rfl rfl ?_
          refine R_ic dd_Quarter_lawFor_93 (by decide) rfl ?_
          refine R_isub (c := v5 - 1) dd_Quarter_lawFor_94 (by omega) (by omega) rfl ?_
          refine R_ld (v := .inr (.inr q)) dd_Quarter_lawFor_95 rfl rfl rfl rfl ?_
          refine R_gf (v := .inr (.inr (q + 4))) dd_Quarter_lawFor_96 fd_6_31 (io_q hq) (congrArg (fun z : Int => (Sum.inr (Sum.inr z) : LV)) (rq_stk hF hq)) rfl ?_
          refine R_ld (v := .inl v5) dd_Quarter_lawFor_99 rfl rfl rfl rfl ?_
          refine R_ic dd_Quarter_lawFor_101 (by decide) rfl ?_
          refine R_isub (c := v5 - 1) dd_Quarter_lawFor_102 (by omega) (by omega) rfl ?_
          obtain ⟨s5, k⟩ := k
          refine R_iald (v := (rd h (q + 4) (v5 - 1))) (n := 32) dd_Quarter_lawFor_103 (ia_sq hq) (la_sq hq) s5 (rfl) rfl ?_
          refine R_if dd_Quarter_lawFor_104 rfl rfl (fun (c17 : (rd h (q + 4) (v5 - 1)) ≠ 0) => ?_) (fun (c17 : (rd h (q + 4) (v5 - 1)) = 0) => ?_)
          · replace k := k.1 c17
            refine R_ic dd_Quarter_lawFor_111 (by decide) rfl ?_
            obtain ⟨s6, k⟩ := k
            refine R_iast (n := 32) dd_Quarter_lawFor_112 (ia_sq hq) (la_sq hq) s6 rfl ?_
            refine R_goto dd_Quarter_lawFor_113 rfl ?_
            exact k
          · replace k := k.2 c17
            refine R_ic dd_Quarter_lawFor_107 (by decide) rfl ?_
            refine R_goto dd_Quarter_lawFor_108 rfl ?_
            obtain ⟨s7, k⟩ := k
            refine R_iast (n := 32) dd_Quarter_lawFor_112 (ia_sq hq) (la_sq hq) s7 rfl ?_
            refine R_goto dd_Quarter_lawFor_113 rfl ?_
            exact k
    · replace k := k.2 c12
      refine R_ld (v := .inl v5) dd_Quarter_lawFor_32 rfl rfl rfl rfl ?_
      refine R_ic dd_Quarter_lawFor_34 (by decide) rfl ?_
      refine R_icmp dd_Quarter_lawFor_35 rfl rfl (fun (c18 : v5 ≤ 1) => ?_) (fun (c18 : 1 < v5) => ?_)
      · replace k := k.1 c18
        exact k
      · replace k := k.2 c18
        refine R_inc (y := v5 - 1) (ls' := [some (.inr (.inr q)), some (.inl v1), some (.inl v2), some (.inl v3), some (.inl v4), some (.inl (v5 - 1)), some (.inl v6), some (.inl (rd h (q + 3) v6))]) dd_Quarter_lawFor_38 rfl (by decide) (by omega) (by omega) rfl rfl ?_
        refine R_ld (v := .inr (.inr q)) dd_Quarter_lawFor_41 rfl rfl rfl rfl ?_
        refine R_gf (v := .inr (.inr (q + 4))) dd_Quarter_lawFor_42 fd_6_31 (io_q hq) (congrArg (fun z : Int => (Sum.inr (Sum.inr z) : LV)) (rq_stk hF hq)) rfl ?_
        refine R_ld (v := .inl (v5 - 1)) dd_Quarter_lawFor_45 rfl rfl rfl rfl ?_
        refine R_ic dd_Quarter_lawFor_47 (by decide) rfl ?_
        refine R_isub (c := v5 - 2) dd_Quarter_lawFor_48 (by omega) (by omega) rfl ?_
        refine R_ld (v := .inl (rd h (q + 3) v6)) dd_Quarter_lawFor_49 rfl rfl rfl rfl ?_
        refine R_ld (v := .inr (.inr q)) dd_Quarter_lawFor_51 rfl rfl rfl rfl ?_
        refine R_gf (v := .inr (.inr (q + 4))) dd_Quarter_lawFor_52 fd_6_31 (io_q hq) (congrArg (fun z : Int => (Sum.inr (Sum.inr z) : LV)) (rq_stk hF hq)) rfl ?_
        refine R_ld (v := .inl (v5 - 1)) dd_Quarter_lawFor_55 rfl rfl rfl rfl ?_
        refine R_ic dd_Quarter_lawFor_57 (by decide) rfl ?_
        refine R_isub (c := v5 - 2) dd_Quarter_lawFor_58 (by omega) (by omega) rfl ?_
        obtain ⟨s8, k⟩ := k
        refine R_iald (v := (rd h (q + 4) (v5 - 2))) (n := 32) dd_Quarter_lawFor_59 (ia_sq hq) (la_sq hq) s8 (rfl) rfl ?_
        refine R_ld (v := .inr (.inr q)) dd_Quarter_lawFor_60 rfl rfl rfl rfl ?_
        refine R_gf (v := .inr (.inr (q + 4))) dd_Quarter_lawFor_61 fd_6_31 (io_q hq) (congrArg (fun z : Int => (Sum.inr (Sum.inr z) : LV)) (rq_stk hF hq)) rfl ?_
        refine R_ld (v := .inl (v5 - 1)) dd_Quarter_lawFor_64 rfl rfl rfl rfl ?_
        obtain ⟨s9, k⟩ := k
        refine R_iald (v := (rd h (q + 4) (v5 - 1))) (n := 32) dd_Quarter_lawFor_66 (ia_sq hq) (la_sq hq) s9 (rfl) rfl ?_
        obtain ⟨c, hc, k⟩ := k
        exact R_call (as := [.inl (rd h (q + 3) v6), .inl (rd h (q + 4) (v5 - 2)), .inl (rd h (q + 4) (v5 - 1))]) (rest := [.inl (v5 - 2), .inr (.inr (q + 4))]) (M' := mm_Quarter_join) (ls0 := [some (.inl (rd h (q + 3) v6)), some (.inl (rd h (q + 4) (v5 - 2))), some (.inl (rd h (q + 4) (v5 - 1)))]) dd_Quarter_lawFor_67 rfl rfl (cw_s cw_6_93 rfl rfl (Nat.le_of_ble_eq_true rfl) (Nat.le_of_ble_eq_true rfl)) mt_Quarter_join rfl hc rfl k
theorem B_Quarter_lawFor_70 {xs : Nat → Int} {xl e : Nat} {h : LH} {Q : Option LV → LH → Prop} {v1 v2 v3 v4 v5 v6 v7 w1 w2 : Int} {q : Int} (hq : q = 5 ∨ q = 32) (hF : RF h)
    (k : (0 ≤ w1 ∧ w1 < 32) ∧
      Rn xs xl e mm_Quarter_lawFor 160 [some (.inr (.inr q)), some (.inl v1), some (.inl v2), some (.inl v3), some (.inl v4), some (.inl v5), some (.inl v6), some (.inl v7)] [] (wr h (q + 4) w1 w2) Q) :
    Rn xs xl e mm_Quarter_lawFor 70 [some (.inr (.inr q)), some (.inl v1), some (.inl v2), some (.inl v3), some (.inl v4), some (.inl v5), some (.inl v6), some (.inl v7)] [.inl w2, .inl w1, .inr (.inr (q + 4))] h Q := by
  obtain ⟨s1, k⟩ := k
  refine R_iast (n := 32) dd_Quarter_lawFor_70 (ia_sq hq) (la_sq hq) s1 rfl ?_
  refine R_goto dd_Quarter_lawFor_71 rfl ?_
  exact k
theorem B_Quarter_lawFor_156 {xs : Nat → Int} {xl e : Nat} {h : LH} {Q : Option LV → LH → Prop} {v1 v2 v3 v4 v5 v6 v7 w1 w2 : Int} {q : Int} (hq : q = 5 ∨ q = 32) (hF : RF h) (r_v5 : 0 ≤ v5 ∧ v5 ≤ 31)
    (k : (0 ≤ w1 ∧ w1 < 32) ∧
      Rn xs xl e mm_Quarter_lawFor 160 [some (.inr (.inr q)), some (.inl v1), some (.inl v2), some (.inl v3), some (.inl v4), some (.inl (v5 + 1)), some (.inl v6), some (.inl v7)] [] (wr h (q + 4) w1 w2) Q) :
    Rn xs xl e mm_Quarter_lawFor 156 [some (.inr (.inr q)), some (.inl v1), some (.inl v2), some (.inl v3), some (.inl v4), some (.inl v5), some (.inl v6), some (.inl v7)] [.inl w2, .inl w1, .inr (.inr (q + 4))] h Q := by
  obtain ⟨s1, k⟩ := k
  refine R_iast (n := 32) dd_Quarter_lawFor_156 (ia_sq hq) (la_sq hq) s1 rfl ?_
  refine R_inc (y := v5 + 1) (ls' := [some (.inr (.inr q)), some (.inl v1), some (.inl v2), some (.inl v3), some (.inl v4), some (.inl (v5 + 1)), some (.inl v6), some (.inl v7)]) dd_Quarter_lawFor_157 rfl (by decide) (by omega) (by omega) rfl rfl ?_
  exact k
theorem B_Quarter_lawFor_160 {xs : Nat → Int} {xl e : Nat} {h : LH} {Q : Option LV → LH → Prop} {v1 v2 v3 v4 v5 v6 v7 : Int} {q : Int} (hq : q = 5 ∨ q = 32) (hF : RF h) (r_v6 : 0 ≤ v6 ∧ v6 ≤ 999)
    (k : Rn xs xl e mm_Quarter_lawFor 6 [some (.inr (.inr q)), some (.inl v1), some (.inl v2), some (.inl v3), some (.inl v4), some (.inl v5), some (.inl (v6 + 1)), some (.inl v7)] [] h Q) :
    Rn xs xl e mm_Quarter_lawFor 160 [some (.inr (.inr q)), some (.inl v1), some (.inl v2), some (.inl v3), some (.inl v4), some (.inl v5), some (.inl v6), some (.inl v7)] [] h Q := by
  refine R_inc (y := v6 + 1) (ls' := [some (.inr (.inr q)), some (.inl v1), some (.inl v2), some (.inl v3), some (.inl v4), some (.inl v5), some (.inl (v6 + 1)), some (.inl v7)]) dd_Quarter_lawFor_160 rfl (by decide) (by omega) (by omega) rfl rfl ?_
  refine R_goto dd_Quarter_lawFor_163 rfl ?_
  exact k
theorem B_Quarter_lawFor_166 {xs : Nat → Int} {xl e : Nat} {h : LH} {Q : Option LV → LH → Prop} {v1 v2 v3 v4 v5 v6 : Int} {q : Int} (hq : q = 5 ∨ q = 32) {o7 : Option LV} (hF : RF h)
    (k : (v5 ≤ 0 →
        Q (some (.inl 1)) h) ∧
      (0 < v5 →
        Q (some (.inl (rd h (q + 4) 0))) h)) :
    Rn xs xl e mm_Quarter_lawFor 166 [some (.inr (.inr q)), some (.inl v1), some (.inl v2), some (.inl v3), some (.inl v4), some (.inl v5), some (.inl v6), o7] [] h Q := by
  refine R_ld (v := .inl v5) dd_Quarter_lawFor_166 rfl rfl rfl rfl ?_
  refine R_if dd_Quarter_lawFor_168 rfl rfl (fun (c1 : v5 ≤ 0) => ?_) (fun (c1 : 0 < v5) => ?_)
  · replace k := k.1 c1
    refine R_ic dd_Quarter_lawFor_180 (by decide) rfl ?_
    exact R_iret dd_Quarter_lawFor_181 rfl k
  · replace k := k.2 c1
    refine R_ld (v := .inr (.inr q)) dd_Quarter_lawFor_171 rfl rfl rfl rfl ?_
    refine R_gf (v := .inr (.inr (q + 4))) dd_Quarter_lawFor_172 fd_6_31 (io_q hq) (congrArg (fun z : Int => (Sum.inr (Sum.inr z) : LV)) (rq_stk hF hq)) rfl ?_
    refine R_ic dd_Quarter_lawFor_175 (by decide) rfl ?_
    refine R_iald (v := (rd h (q + 4) 0)) (n := 32) dd_Quarter_lawFor_176 (ia_sq hq) (la_sq hq) (by decide) (rfl) rfl ?_
    refine R_goto dd_Quarter_lawFor_177 rfl ?_
    exact R_iret dd_Quarter_lawFor_181 rfl k
