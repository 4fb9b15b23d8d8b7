/-! LM, part 90, by program (wip/p2/gen90.py): what the class's methods by hand call -/
theorem gAr_c {a : AV} {l : List AV} {v : LV} {vs : List LV} (h1 : gV a v) (h2 : gAr l vs) : gAr (a :: l) (v :: vs) := ⟨h1, h2⟩
theorem gAr_n : gAr [] [] := trivial
theorem inBx_f {bs : BX} {a i : Int} (h : ∀ b ∈ bs, ¬ (b.1 ≤ a ∧ a ≤ b.2.1 ∧ b.2.2.1 ≤ i ∧ i ≤ b.2.2.2)) : inBx bs a i = false := by
  unfold inBx
  rw [List.any_eq_false]
  intro b hb q
  simp only [Bool.and_eq_true, decide_eq_true_eq] at q
  exact h b hb ⟨q.1.1.1, q.1.1.2, q.1.2, q.2⟩
section KS
variable {xs : Nat → Int} {xl e : Nat} {h : LH} {Q : Option LV → LH → Prop}
theorem K_step (he : 3 ≤ e) (hI : INV h) (k : ∀ h', INV h' → (∀ a i, ¬ (a = 2 ∧ 3 ≤ i ∧ i ≤ 7) → rd h' a i = rd h a i) → Q none h') : Rn xs xl e mm_Reader_step 0 [some (.inr (.inr 2)), none] [] h Q := by
  refine use_sm TC_step (as := [.inr (.inr 2)]) rfl he hI (gAr_c (g_ref 2) gAr_n) rfl (Nat.le_of_ble_eq_true rfl) rfl (fun r h' i' f q => ?_)
  rw [res_none q]
  exact k h' i' (fun a i hn => f a i (by
    show inBx [(2, 2, 4, 4), (2, 2, 6, 6), (2, 2, 7, 7), (2, 2, 3, 3), (2, 2, 5, 5)] a i = false
    refine inBx_f (fun b hb => ?_)
    simp only [List.mem_cons, List.not_mem_nil, or_false] at hb
    rcases hb with rfl | rfl | rfl | rfl | rfl <;> (simp only; omega)))
theorem K_isName (he : 1 ≤ e) (hI : INV h) (k : ∀ r h', INV h' → (∀ a i, rd h' a i = rd h a i) → Q (some (.inl r)) h') : Rn xs xl e mm_Reader_isName 0 [some (.inr (.inr 2))] [] h Q := by
  refine use_sm TC_isName (as := [.inr (.inr 2)]) rfl he hI (gAr_c (g_ref 2) gAr_n) rfl (Nat.le_of_ble_eq_true rfl) rfl (fun r h' i' f q => ?_)
  obtain ⟨x, rfl⟩ := res_bool q rfl rfl
  exact k x h' i' (fun a i => f a i rfl)
theorem K_isSign {c : Int} (hc : 0 ≤ c ∧ c ≤ 65535) (he : 1 ≤ e) (hI : INV h) (k : ∀ r h', INV h' → (∀ a i, rd h' a i = rd h a i) → Q (some (.inl r)) h') : Rn xs xl e mm_Reader_isSign 0 [some (.inr (.inr 2)), some (.inl c)] [] h Q := by
  refine use_sm TC_isSign (as := [.inr (.inr 2), .inl c]) rfl he hI (gAr_c (g_ref 2) (gAr_c (in1 hc.1 hc.2 (by unfold i32; omega)) gAr_n)) rfl (Nat.le_of_ble_eq_true rfl) rfl (fun r h' i' f q => ?_)
  obtain ⟨x, rfl⟩ := res_bool q rfl rfl
  exact k x h' i' (fun a i => f a i rfl)
theorem K_personNamed {q v : Int} (hq : q = 5 ∨ q = 32) (hv : i64 v) (he : 1 ≤ e) (hI : INV h) (k : ∀ r h', INV h' → (∀ a i, rd h' a i = rd h a i) → -1 ≤ r → r ≤ 5 → Q (some (.inl r)) h') : Rn xs xl e mm_Quarter_personNamed 0 [some (.inr (.inr q)), some (.inr (.inl v)), none, none] [] h Q := by
  rcases hq with rfl | rfl
  · refine use_sm TC_personNamed_5 (as := [.inr (.inr 5), .inr (.inl v)]) rfl he hI (gAr_c (g_ref 5) (gAr_c (g_lng hv) gAr_n)) rfl (Nat.le_of_ble_eq_true rfl) rfl (fun r h' i' f q => ?_)
    obtain ⟨x, rfl, x0, x1, _⟩ := res_int q rfl
    exact k x h' i' (fun a i => f a i rfl) x0 x1
  · refine use_sm TC_personNamed_32 (as := [.inr (.inr 32), .inr (.inl v)]) rfl he hI (gAr_c (g_ref 32) (gAr_c (g_lng hv) gAr_n)) rfl (Nat.le_of_ble_eq_true rfl) rfl (fun r h' i' f q => ?_)
    obtain ⟨x, rfl, x0, x1, _⟩ := res_int q rfl
    exact k x h' i' (fun a i => f a i rfl) x0 x1
theorem K_doorNamed {q v : Int} (hq : q = 5 ∨ q = 32) (hv : i64 v) (he : 1 ≤ e) (hI : INV h) (k : ∀ r h', INV h' → (∀ a i, rd h' a i = rd h a i) → -1 ≤ r → r ≤ 13 → Q (some (.inl r)) h') : Rn xs xl e mm_Quarter_doorNamed 0 [some (.inr (.inr q)), some (.inr (.inl v)), none, none] [] h Q := by
  rcases hq with rfl | rfl
  · refine use_sm TC_doorNamed_5 (as := [.inr (.inr 5), .inr (.inl v)]) rfl he hI (gAr_c (g_ref 5) (gAr_c (g_lng hv) gAr_n)) rfl (Nat.le_of_ble_eq_true rfl) rfl (fun r h' i' f q => ?_)
    obtain ⟨x, rfl, x0, x1, _⟩ := res_int q rfl
    exact k x h' i' (fun a i => f a i rfl) x0 x1
  · refine use_sm TC_doorNamed_32 (as := [.inr (.inr 32), .inr (.inl v)]) rfl he hI (gAr_c (g_ref 32) (gAr_c (g_lng hv) gAr_n)) rfl (Nat.le_of_ble_eq_true rfl) rfl (fun r h' i' f q => ?_)
    obtain ⟨x, rfl, x0, x1, _⟩ := res_int q rfl
    exact k x h' i' (fun a i => f a i rfl) x0 x1
theorem K_into {q d s r0 hr sh : Int} (hq : q = 5 ∨ q = 32) (hd : 0 ≤ d ∧ d ≤ 13) (hs : 0 ≤ s ∧ s ≤ 3) (hr0 : 0 ≤ r0 ∧ r0 ≤ 9) (hhr : 0 ≤ hr ∧ hr ≤ 48) (hsh : i32 sh) (he : 2 ≤ e) (hI : INV h) (k : ∀ r h', INV h' → (∀ a i, rd h' a i = rd h a i) → -1 ≤ r → r ≤ 9 → Q (some (.inl r)) h') : Rn xs xl e mm_Quarter_into 0 [some (.inr (.inr q)), some (.inl d), some (.inl s), some (.inl r0), some (.inl hr), some (.inl sh), none] [] h Q := by
  rcases hq with rfl | rfl
  · refine use_sm TC_into_5 (as := [.inr (.inr 5), .inl d, .inl s, .inl r0, .inl hr, .inl sh]) rfl he hI (gAr_c (g_ref 5) (gAr_c (in1 hd.1 hd.2 (by unfold i32; omega)) (gAr_c (in1 hs.1 hs.2 (by unfold i32; omega)) (gAr_c (in1 hr0.1 hr0.2 (by unfold i32; omega)) (gAr_c (in1 hhr.1 hhr.2 (by unfold i32; omega)) (gAr_c (in1 hsh.1 hsh.2 hsh) gAr_n)))))) rfl (Nat.le_of_ble_eq_true rfl) rfl (fun r h' i' f q => ?_)
    obtain ⟨x, rfl, x0, x1, _⟩ := res_int q rfl
    exact k x h' i' (fun a i => f a i rfl) x0 x1
  · refine use_sm TC_into_32 (as := [.inr (.inr 32), .inl d, .inl s, .inl r0, .inl hr, .inl sh]) rfl he hI (gAr_c (g_ref 32) (gAr_c (in1 hd.1 hd.2 (by unfold i32; omega)) (gAr_c (in1 hs.1 hs.2 (by unfold i32; omega)) (gAr_c (in1 hr0.1 hr0.2 (by unfold i32; omega)) (gAr_c (in1 hhr.1 hhr.2 (by unfold i32; omega)) (gAr_c (in1 hsh.1 hsh.2 hsh) gAr_n)))))) rfl (Nat.le_of_ble_eq_true rfl) rfl (fun r h' i' f q => ?_)
    obtain ⟨x, rfl, x0, x1, _⟩ := res_int q rfl
    exact k x h' i' (fun a i => f a i rfl) x0 x1
theorem K_tryDoor {q p d : Int} (hq : q = 5 ∨ q = 32) (hp : 0 ≤ p ∧ p ≤ 5) (hd : 0 ≤ d ∧ d ≤ 13) (he : 3 ≤ e) (hI : INV h) (k : ∀ r h', INV h' → (∀ a i, ¬ (a = 68 ∧ 0 ≤ i ∧ i ≤ 3) → ¬ (a = 69 ∧ 0 ≤ i ∧ i ≤ 5) → ¬ (a = 70 ∧ 0 ≤ i ∧ i ≤ 13) → rd h' a i = rd h a i) → Q (some (.inl r)) h') : Rn xs xl e mm_Scene_tryDoor 0 [some (.inr (.inr 68)), some (.inr (.inr q)), some (.inl p), some (.inl d), none, none] [] h Q := by
  rcases hq with rfl | rfl
  · refine use_sm TC_tryDoor_5 (as := [.inr (.inr 68), .inr (.inr 5), .inl p, .inl d]) rfl he hI (gAr_c (g_ref 68) (gAr_c (g_ref 5) (gAr_c (in1 hp.1 hp.2 (by unfold i32; omega)) (gAr_c (in1 hd.1 hd.2 (by unfold i32; omega)) gAr_n)))) rfl (Nat.le_of_ble_eq_true rfl) rfl (fun r h' i' f q => ?_)
    obtain ⟨x, rfl, x0, x1, _⟩ := res_int q rfl
    exact k x h' i' (fun a i n1 n2 n3 => f a i (by
    show inBx [(69, 69, 0, 5), (70, 70, 0, 13), (68, 68, 2, 2), (68, 68, 3, 3)] a i = false
    refine inBx_f (fun b hb => ?_)
    simp only [List.mem_cons, List.not_mem_nil, or_false] at hb
    rcases hb with rfl | rfl | rfl | rfl <;> (simp only; omega)))
  · refine use_sm TC_tryDoor_32 (as := [.inr (.inr 68), .inr (.inr 32), .inl p, .inl d]) rfl he hI (gAr_c (g_ref 68) (gAr_c (g_ref 32) (gAr_c (in1 hp.1 hp.2 (by unfold i32; omega)) (gAr_c (in1 hd.1 hd.2 (by unfold i32; omega)) gAr_n)))) rfl (Nat.le_of_ble_eq_true rfl) rfl (fun r h' i' f q => ?_)
    obtain ⟨x, rfl, x0, x1, _⟩ := res_int q rfl
    exact k x h' i' (fun a i n1 n2 n3 => f a i (by
    show inBx [(69, 69, 0, 5), (70, 70, 0, 13), (68, 68, 2, 2), (68, 68, 3, 3)] a i = false
    refine inBx_f (fun b hb => ?_)
    simp only [List.mem_cons, List.not_mem_nil, or_false] at hb
    rcases hb with rfl | rfl | rfl | rfl <;> (simp only; omega)))
theorem K_pass (he : 2 ≤ e) (hI : INV h) (k : ∀ h', INV h' → (∀ a i, ¬ (a = 68 ∧ 0 ≤ i ∧ i ≤ 3) → ¬ (a = 69 ∧ 0 ≤ i ∧ i ≤ 5) → ¬ (a = 70 ∧ 0 ≤ i ∧ i ≤ 13) → rd h' a i = rd h a i) → Q none h') : Rn xs xl e mm_Scene_pass 0 [some (.inr (.inr 68)), some (.inl 1)] [] h Q := by
  refine use_sm TC_pass (as := [.inr (.inr 68), .inl 1]) rfl he hI (gAr_c (g_ref 68) (gAr_c (g_pt 1 (by unfold i32; omega)) gAr_n)) rfl (Nat.le_of_ble_eq_true rfl) rfl (fun r h' i' f q => ?_)
  rw [res_none q]
  exact k h' i' (fun a i n1 n2 n3 => f a i (by
    show inBx [(68, 68, 0, 0), (68, 68, 2, 2), (70, 70, 0, 0), (70, 70, 0, 13)] a i = false
    refine inBx_f (fun b hb => ?_)
    simp only [List.mem_cons, List.not_mem_nil, or_false] at hb
    rcases hb with rfl | rfl | rfl | rfl <;> (simp only; omega)))
theorem K_fill_85 (he : 1 ≤ e) (hI : INV h) (k : ∀ h', INV h' → (∀ a i, ¬ (a = 85 ∧ 0 ≤ i ∧ i < 336) → rd h' a i = rd h a i) → Q none h') : Rn xs xl e mm_java_util_Arrays_fill 0 [some (.inr (.inr 85)), some (.inl 0), none, none] [] h Q := by
  refine use_sm TC_fill_85 (as := [.inr (.inr 85), .inl 0]) rfl he hI (gAr_c (g_ref 85) (gAr_c (g_pt 0 (by unfold i32; omega)) gAr_n)) rfl (Nat.le_of_ble_eq_true rfl) rfl (fun r h' i' f q => ?_)
  rw [res_none q]
  exact k h' i' (fun a i hn => f a i (by
    show inBx [(85, 85, 0, 0), (85, 85, 0, 335)] a i = false
    refine inBx_f (fun b hb => ?_)
    simp only [List.mem_cons, List.not_mem_nil, or_false] at hb
    rcases hb with rfl | rfl <;> (simp only; omega)))
theorem K_fill_86 (he : 1 ≤ e) (hI : INV h) (k : ∀ h', INV h' → (∀ a i, ¬ (a = 86 ∧ 0 ≤ i ∧ i < 240) → rd h' a i = rd h a i) → Q none h') : Rn xs xl e mm_java_util_Arrays_fill 0 [some (.inr (.inr 86)), some (.inl 0), none, none] [] h Q := by
  refine use_sm TC_fill_86 (as := [.inr (.inr 86), .inl 0]) rfl he hI (gAr_c (g_ref 86) (gAr_c (g_pt 0 (by unfold i32; omega)) gAr_n)) rfl (Nat.le_of_ble_eq_true rfl) rfl (fun r h' i' f q => ?_)
  rw [res_none q]
  exact k h' i' (fun a i hn => f a i (by
    show inBx [(86, 86, 0, 0), (86, 86, 0, 239)] a i = false
    refine inBx_f (fun b hb => ?_)
    simp only [List.mem_cons, List.not_mem_nil, or_false] at hb
    rcases hb with rfl | rfl <;> (simp only; omega)))
theorem K_fill_87 (he : 1 ≤ e) (hI : INV h) (k : ∀ h', INV h' → (∀ a i, ¬ (a = 87 ∧ 0 ≤ i ∧ i < 250) → rd h' a i = rd h a i) → Q none h') : Rn xs xl e mm_java_util_Arrays_fill 0 [some (.inr (.inr 87)), some (.inl (-1)), none, none] [] h Q := by
  refine use_sm TC_fill_87 (as := [.inr (.inr 87), .inl (-1)]) rfl he hI (gAr_c (g_ref 87) (gAr_c (g_pt (-1) (by unfold i32; omega)) gAr_n)) rfl (Nat.le_of_ble_eq_true rfl) rfl (fun r h' i' f q => ?_)
  rw [res_none q]
  exact k h' i' (fun a i hn => f a i (by
    show inBx [(87, 87, 0, 0), (87, 87, 0, 249)] a i = false
    refine inBx_f (fun b hb => ?_)
    simp only [List.mem_cons, List.not_mem_nil, or_false] at hb
    rcases hb with rfl | rfl <;> (simp only; omega)))
theorem K_copy_102 (he : 1 ≤ e) (hI : INV h) (k : ∀ h', INV h' → (∀ a i, ¬ (a = 103 ∧ 0 ≤ i ∧ i ≤ 3) → ¬ (a = 104 ∧ 0 ≤ i ∧ i ≤ 6) → ¬ (a = 105 ∧ 0 ≤ i ∧ i ≤ 14) → rd h' a i = rd h a i) → Q none h') : Rn xs xl e mm_Scene_copy 0 [some (.inr (.inr 103)), some (.inr (.inr 60))] [] h Q := by
  refine use_sm TC_copy_102 (as := [.inr (.inr 103), .inr (.inr 60)]) rfl he hI (gAr_c (g_ref 103) (gAr_c (g_ref 60) gAr_n)) rfl (Nat.le_of_ble_eq_true rfl) rfl (fun r h' i' f q => ?_)
  rw [res_none q]
  exact k h' i' (fun a i n1 n2 n3 => f a i (by
    show inBx [(103, 103, 0, 0), (103, 103, 1, 1), (103, 103, 2, 2), (103, 103, 3, 3), (104, 104, 0, 6), (105, 105, 0, 14)] a i = false
    refine inBx_f (fun b hb => ?_)
    simp only [List.mem_cons, List.not_mem_nil, or_false] at hb
    rcases hb with rfl | rfl | rfl | rfl | rfl | rfl <;> (simp only; omega)))
theorem K_copyB_102 (he : 1 ≤ e) (hI : INV h) (k : ∀ h', INV h' → (∀ a i, ¬ (a = 60 ∧ 0 ≤ i ∧ i ≤ 3) → ¬ (a = 61 ∧ 0 ≤ i ∧ i ≤ 6) → ¬ (a = 62 ∧ 0 ≤ i ∧ i ≤ 14) → rd h' a i = rd h a i) → Q none h') : Rn xs xl e mm_Scene_copy 0 [some (.inr (.inr 60)), some (.inr (.inr 103))] [] h Q := by
  refine use_sm TC_copyB_102 (as := [.inr (.inr 60), .inr (.inr 103)]) rfl he hI (gAr_c (g_ref 60) (gAr_c (g_ref 103) gAr_n)) rfl (Nat.le_of_ble_eq_true rfl) rfl (fun r h' i' f q => ?_)
  rw [res_none q]
  exact k h' i' (fun a i n1 n2 n3 => f a i (by
    show inBx [(60, 60, 0, 0), (60, 60, 1, 1), (60, 60, 2, 2), (60, 60, 3, 3), (61, 61, 0, 6), (62, 62, 0, 14)] a i = false
    refine inBx_f (fun b hb => ?_)
    simp only [List.mem_cons, List.not_mem_nil, or_false] at hb
    rcases hb with rfl | rfl | rfl | rfl | rfl | rfl <;> (simp only; omega)))
theorem K_copy_110 (he : 1 ≤ e) (hI : INV h) (k : ∀ h', INV h' → (∀ a i, ¬ (a = 111 ∧ 0 ≤ i ∧ i ≤ 3) → ¬ (a = 112 ∧ 0 ≤ i ∧ i ≤ 6) → ¬ (a = 113 ∧ 0 ≤ i ∧ i ≤ 14) → rd h' a i = rd h a i) → Q none h') : Rn xs xl e mm_Scene_copy 0 [some (.inr (.inr 111)), some (.inr (.inr 60))] [] h Q := by
  refine use_sm TC_copy_110 (as := [.inr (.inr 111), .inr (.inr 60)]) rfl he hI (gAr_c (g_ref 111) (gAr_c (g_ref 60) gAr_n)) rfl (Nat.le_of_ble_eq_true rfl) rfl (fun r h' i' f q => ?_)
  rw [res_none q]
  exact k h' i' (fun a i n1 n2 n3 => f a i (by
    show inBx [(111, 111, 0, 0), (111, 111, 1, 1), (111, 111, 2, 2), (111, 111, 3, 3), (112, 112, 0, 6), (113, 113, 0, 14)] a i = false
    refine inBx_f (fun b hb => ?_)
    simp only [List.mem_cons, List.not_mem_nil, or_false] at hb
    rcases hb with rfl | rfl | rfl | rfl | rfl | rfl <;> (simp only; omega)))
theorem K_copyB_110 (he : 1 ≤ e) (hI : INV h) (k : ∀ h', INV h' → (∀ a i, ¬ (a = 60 ∧ 0 ≤ i ∧ i ≤ 3) → ¬ (a = 61 ∧ 0 ≤ i ∧ i ≤ 6) → ¬ (a = 62 ∧ 0 ≤ i ∧ i ≤ 14) → rd h' a i = rd h a i) → Q none h') : Rn xs xl e mm_Scene_copy 0 [some (.inr (.inr 60)), some (.inr (.inr 111))] [] h Q := by
  refine use_sm TC_copyB_110 (as := [.inr (.inr 60), .inr (.inr 111)]) rfl he hI (gAr_c (g_ref 60) (gAr_c (g_ref 111) gAr_n)) rfl (Nat.le_of_ble_eq_true rfl) rfl (fun r h' i' f q => ?_)
  rw [res_none q]
  exact k h' i' (fun a i n1 n2 n3 => f a i (by
    show inBx [(60, 60, 0, 0), (60, 60, 1, 1), (60, 60, 2, 2), (60, 60, 3, 3), (61, 61, 0, 6), (62, 62, 0, 14)] a i = false
    refine inBx_f (fun b hb => ?_)
    simp only [List.mem_cons, List.not_mem_nil, or_false] at hb
    rcases hb with rfl | rfl | rfl | rfl | rfl | rfl <;> (simp only; omega)))
theorem K_copy_118 (he : 1 ≤ e) (hI : INV h) (k : ∀ h', INV h' → (∀ a i, ¬ (a = 119 ∧ 0 ≤ i ∧ i ≤ 3) → ¬ (a = 120 ∧ 0 ≤ i ∧ i ≤ 6) → ¬ (a = 121 ∧ 0 ≤ i ∧ i ≤ 14) → rd h' a i = rd h a i) → Q none h') : Rn xs xl e mm_Scene_copy 0 [some (.inr (.inr 119)), some (.inr (.inr 60))] [] h Q := by
  refine use_sm TC_copy_118 (as := [.inr (.inr 119), .inr (.inr 60)]) rfl he hI (gAr_c (g_ref 119) (gAr_c (g_ref 60) gAr_n)) rfl (Nat.le_of_ble_eq_true rfl) rfl (fun r h' i' f q => ?_)
  rw [res_none q]
  exact k h' i' (fun a i n1 n2 n3 => f a i (by
    show inBx [(119, 119, 0, 0), (119, 119, 1, 1), (119, 119, 2, 2), (119, 119, 3, 3), (120, 120, 0, 6), (121, 121, 0, 14)] a i = false
    refine inBx_f (fun b hb => ?_)
    simp only [List.mem_cons, List.not_mem_nil, or_false] at hb
    rcases hb with rfl | rfl | rfl | rfl | rfl | rfl <;> (simp only; omega)))
theorem K_copyB_118 (he : 1 ≤ e) (hI : INV h) (k : ∀ h', INV h' → (∀ a i, ¬ (a = 60 ∧ 0 ≤ i ∧ i ≤ 3) → ¬ (a = 61 ∧ 0 ≤ i ∧ i ≤ 6) → ¬ (a = 62 ∧ 0 ≤ i ∧ i ≤ 14) → rd h' a i = rd h a i) → Q none h') : Rn xs xl e mm_Scene_copy 0 [some (.inr (.inr 60)), some (.inr (.inr 119))] [] h Q := by
  refine use_sm TC_copyB_118 (as := [.inr (.inr 60), .inr (.inr 119)]) rfl he hI (gAr_c (g_ref 60) (gAr_c (g_ref 119) gAr_n)) rfl (Nat.le_of_ble_eq_true rfl) rfl (fun r h' i' f q => ?_)
  rw [res_none q]
  exact k h' i' (fun a i n1 n2 n3 => f a i (by
    show inBx [(60, 60, 0, 0), (60, 60, 1, 1), (60, 60, 2, 2), (60, 60, 3, 3), (61, 61, 0, 6), (62, 62, 0, 14)] a i = false
    refine inBx_f (fun b hb => ?_)
    simp only [List.mem_cons, List.not_mem_nil, or_false] at hb
    rcases hb with rfl | rfl | rfl | rfl | rfl | rfl <;> (simp only; omega)))
theorem K_copy_126 (he : 1 ≤ e) (hI : INV h) (k : ∀ h', INV h' → (∀ a i, ¬ (a = 127 ∧ 0 ≤ i ∧ i ≤ 3) → ¬ (a = 128 ∧ 0 ≤ i ∧ i ≤ 6) → ¬ (a = 129 ∧ 0 ≤ i ∧ i ≤ 14) → rd h' a i = rd h a i) → Q none h') : Rn xs xl e mm_Scene_copy 0 [some (.inr (.inr 127)), some (.inr (.inr 60))] [] h Q := by
  refine use_sm TC_copy_126 (as := [.inr (.inr 127), .inr (.inr 60)]) rfl he hI (gAr_c (g_ref 127) (gAr_c (g_ref 60) gAr_n)) rfl (Nat.le_of_ble_eq_true rfl) rfl (fun r h' i' f q => ?_)
  rw [res_none q]
  exact k h' i' (fun a i n1 n2 n3 => f a i (by
    show inBx [(127, 127, 0, 0), (127, 127, 1, 1), (127, 127, 2, 2), (127, 127, 3, 3), (128, 128, 0, 6), (129, 129, 0, 14)] a i = false
    refine inBx_f (fun b hb => ?_)
    simp only [List.mem_cons, List.not_mem_nil, or_false] at hb
    rcases hb with rfl | rfl | rfl | rfl | rfl | rfl <;> (simp only; omega)))
theorem K_copyB_126 (he : 1 ≤ e) (hI : INV h) (k : ∀ h', INV h' → (∀ a i, ¬ (a = 60 ∧ 0 ≤ i ∧ i ≤ 3) → ¬ (a = 61 ∧ 0 ≤ i ∧ i ≤ 6) → ¬ (a = 62 ∧ 0 ≤ i ∧ i ≤ 14) → rd h' a i = rd h a i) → Q none h') : Rn xs xl e mm_Scene_copy 0 [some (.inr (.inr 60)), some (.inr (.inr 127))] [] h Q := by
  refine use_sm TC_copyB_126 (as := [.inr (.inr 60), .inr (.inr 127)]) rfl he hI (gAr_c (g_ref 60) (gAr_c (g_ref 127) gAr_n)) rfl (Nat.le_of_ble_eq_true rfl) rfl (fun r h' i' f q => ?_)
  rw [res_none q]
  exact k h' i' (fun a i n1 n2 n3 => f a i (by
    show inBx [(60, 60, 0, 0), (60, 60, 1, 1), (60, 60, 2, 2), (60, 60, 3, 3), (61, 61, 0, 6), (62, 62, 0, 14)] a i = false
    refine inBx_f (fun b hb => ?_)
    simp only [List.mem_cons, List.not_mem_nil, or_false] at hb
    rcases hb with rfl | rfl | rfl | rfl | rfl | rfl <;> (simp only; omega)))
end KS
