/-! p3, part e3: the first heap: words, doors and people -/
def WL : List (List Int) := [[114, 111, 111, 109, 115], [100, 111, 111, 114], [116, 111], [111, 112, 101, 110], [102, 111, 114], [104, 111, 108, 100, 115], [112, 114, 105, 99, 101], [112, 101, 114, 115, 111, 110], [97, 116], [101, 114, 114, 97, 110, 100], [98, 121], [108, 101, 116], [103, 111], [104, 111, 117, 114], [112, 108, 97, 105, 110], [116, 117, 114, 110, 105, 110, 103], [104, 105, 110, 103, 101], [98, 108, 97, 110, 107], [116, 101, 110, 97, 110, 116], [115, 111, 108, 100, 105, 101, 114], [99, 104, 105, 108, 100], [99, 97, 116], [110, 111, 116], [97, 110, 100], [111, 114], [116, 105, 109, 101], [115, 111, 114, 116], [99, 111, 115, 116], [114, 111, 111, 109]]
def VL : List Int := [34515728, 223720, 755, 781898, 8787, 15769678, 30910767, 1119812451, 57, 381368328, 99, 16633, 274, 426554, 30596128, 52805208163, 15468595, 4358056, 1396960994, 49811666194, 6040476, 4164, 19741, 1891, 573, 1025867, 983628, 173217, 932857]
def WU (i : Nat) (r : Int) : Int := (WL.getD i []).getD r.toNat 0
theorem w_chk : ∀ i : Nat, i < 29 → (rd hc_556 4 (i : Int) = enc (WU i) 32 0 (WL.getD i []).length ∧ rd hc_556 187 (i : Int) = enc (WU i) 37 0 (WL.getD i []).length ∧ (WL.getD i []).all (fun c => decide (97 ≤ c) && decide (c ≤ 122)) = true ∧ rd hc_556 187 (i : Int) = VL.getD i 0) := by decide +kernel
theorem v_chk : ∀ i : Nat, i < 29 → ∀ j : Nat, j < 29 → VL.getD i 0 = VL.getD j 0 → i = j := by decide +kernel
theorem sameW0 : SameW (rd hc_556 4) (rd hc_556 187) := by
  intro i hi
  obtain ⟨a, b, c, -⟩ := w_chk i hi
  refine ⟨WU i, (WL.getD i []).length, fun r r0 r1 => ?_, a, b⟩
  unfold WU
  generalize WL.getD i [] = L at c r1
  rw [List.all_eq_true] at c
  have lt : r.toNat < L.length := by omega
  have z := c (L[r.toNat]) (List.getElem_mem lt)
  rw [List.getD_eq_getElem?_getD, List.getElem?_eq_getElem lt]
  simp only [Bool.and_eq_true, decide_eq_true_eq] at z
  exact z
theorem vinj0 : Vinj (rd hc_556 187) := by
  intro i j hi hj q
  have a := (w_chk i hi).2.2.2
  have b := (w_chk j hj).2.2.2
  exact v_chk i hi j hj (by rw [← a, ← b]; exact q)
theorem pt_chk : (∀ k : Nat, k < 14 → rd hc_556 6 (k : Int) = 12 + (k : Int) ∧ rd hc_556 33 (k : Int) = 39 + (k : Int)) ∧ (∀ k : Nat, k < 6 → rd hc_556 7 (k : Int) = 26 + (k : Int) ∧ rd hc_556 34 (k : Int) = 53 + (k : Int)) := ⟨by decide +kernel, by decide +kernel⟩
theorem pt0 : PT hc_556 := by
  obtain ⟨p1, p2⟩ := pt_chk
  intro q hq
  refine ⟨fun i i0 i1 => ?_, fun i i0 i1 => ?_⟩
  · have k := p1 i.toNat (by omega)
    rw [show ((i.toNat : Nat) : Int) = i by omega] at k
    rcases hq with rfl | rfl
    · exact k.1
    · exact k.2
  · have k := p2 i.toNat (by omega)
    rw [show ((i.toNat : Nat) : Int) = i by omega] at k
    rcases hq with rfl | rfl
    · exact k.1
    · exact k.2
