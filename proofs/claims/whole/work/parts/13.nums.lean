theorem lN_gt0 {a : Nat} (h : 0 < a) (ha : a < 2 ^ 31) : 0 < lg_cmp (lN a) 0 := by
  unfold lg_cmp
  rw [if_pos]
  · decide
  · show (0 : Int64) < lN a
    rw [Int64.lt_iff_toInt_lt, lN_toInt ha]
    show (0 : Int) < _
    omega
theorem mx_n {a b : Nat} (ha : a < 2 ^ 29) (hb : b < 2 ^ 29) : (if nI a < nI b then nI b else nI a) = nI (if a < b then b else a) := by
  by_cases h : a < b
  · rw [if_pos h, if_pos (nI_lt h (by omega))]
  · rw [if_neg h, if_neg (nI_nlt (by omega) (by omega))]
theorem mn_n {a b : Nat} (ha : a < 2 ^ 29) (hb : b < 2 ^ 29) : (if nI b < nI a then nI b else nI a) = nI (if b < a then b else a) := by
  by_cases h : b < a
  · rw [if_pos h, if_pos (nI_lt h (by omega))]
  · rw [if_neg h, if_neg (nI_nlt (by omega) (by omega))]
theorem lN_ne0 {a : Nat} (h : 0 < a) (ha : a < 2 ^ 31) : ¬ lN a = 0 := fun z => by
  have h1 : lN a = lN 0 := z
  have := (lN_eq ha (by decide)).mp h1
  omega
