/-! p3, part c2: a line of a door, token by token -/
section DSL
variable (o v w p : Nat → Int) (R : Int) (N : List Nat) (s : Int × Nat)
/-- a number behind a word, if the word stands there -/
def opN (c a b : Int) (s : Int × Nat) : Int × Nat := if tkB w c s = true then tkN o v p a b (tkA s) else s
def opV (c d : Int) (s : Int × Nat) : Int := if tkB w c s = true then v (tkA s).2 else d
/-- a sort behind 'for' -/
def opS (s : Int × Nat) : Int × Nat := if tkB w 4 s = true then tkF w p 18 (tkA s) else s
def opT (s : Int × Nat) : Int := if tkB w 4 s = true then w (tkA s).2 - 18 else -1
/-- hours -/
def opE (s : Int × Nat) : Int × Nat := if tkB w 3 s = true then tkW w p 2 (tkN o v p 0 23 (tkA s)) else s
def opF (s : Int × Nat) : Int × Nat := if tkB w 3 s = true then tkN o v p (v (tkA s).2 + 1) 24 (opE o v w p s) else s
def opC (s : Int × Nat) : Int := if tkB w 3 s = true then v (opE o v w p s).2 else 24
/-- all that may stand behind a door's kind -/
def opL (s : Int × Nat) : Int × Nat := opN o v w p 6 0 9 (opN o v w p 5 1 9 (opS w p (opF o v w p s)))
def drA : Int × Nat := tkM o v w p N (tkA s)
def drB : Int × Nat := tkW w p 2 (tkN o v p 0 (R - 1) (drA o v w p N s))
def drC : Int × Nat := tkR o v p (v (drA o v w p N s).2) R (drB o v w p R N s)
def drD : Int × Nat := tkF w p 14 (drC o v w p R N s)
def drL : Int × Nat := opL o v w p (drD o v w p R N s)
end DSL
section DSM
variable {o v w p : Nat → Int} {R : Int} {N : List Nat} {s : Int × Nat}
theorem tkA_z (h : (tkA s).1 = 0) : s.1 = 0 := by
  by_cases z : s.1 = 0
  · exact z
  · rw [tkA_f z] at h; exact h
theorem tkR_z {a b : Int} (h : (tkR o v p a b s).1 = 0) : s.1 = 0 := by
  by_cases z : s.1 = 0
  · exact z
  · rw [tkR_f z] at h; exact h
theorem tkB_f {c : Int} (h : s.1 ≠ 0) : ¬ tkB w c s = true := by
  unfold tkB
  rw [decide_eq_true_iff]
  exact fun z => h z.1
theorem opN_f {c a b : Int} (h : s.1 ≠ 0) : opN o v w p c a b s = s := by unfold opN; rw [if_neg (tkB_f h)]
theorem opS_f (h : s.1 ≠ 0) : opS w p s = s := by unfold opS; rw [if_neg (tkB_f h)]
theorem opE_f (h : s.1 ≠ 0) : opE o v w p s = s := by unfold opE; rw [if_neg (tkB_f h)]
theorem opF_f (h : s.1 ≠ 0) : opF o v w p s = s := by unfold opF; rw [if_neg (tkB_f h)]
theorem opL_f (h : s.1 ≠ 0) : opL o v w p s = s := by unfold opL; rw [opF_f h, opS_f h, opN_f h, opN_f h]
theorem opN_z {c a b : Int} (h : (opN o v w p c a b s).1 = 0) : s.1 = 0 := by
  by_cases z : s.1 = 0
  · exact z
  · rw [opN_f z] at h; exact h
theorem opS_z (h : (opS w p s).1 = 0) : s.1 = 0 := by
  by_cases z : s.1 = 0
  · exact z
  · rw [opS_f z] at h; exact h
theorem opF_z (h : (opF o v w p s).1 = 0) : s.1 = 0 := by
  by_cases z : s.1 = 0
  · exact z
  · rw [opF_f z] at h; exact h
end DSM
