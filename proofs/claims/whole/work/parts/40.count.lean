/-! count -/
def cnV (nd no n sd kp sp sv : Nat) (p0 : Int32) : Int32 := if p0 = nI 0 then nI nd else if p0 = nI 1 then nI no else if p0 = nI 2 then nI n else if p0 = nI 3 then (if sd = 1 then nI kp else 0) else if p0 = nI 4 then (if sd = 1 then nI sp else 0) else nI sv
theorem cn_3 (nd no n sd kp sp sv : Nat) : cnV nd no n sd kp sp sv (nI 3) = if sd = 1 then nI kp else 0 := rfl
theorem cn_4 (nd no n sd kp sp sv : Nat) : cnV nd no n sd kp sp sv (nI 4) = if sd = 1 then nI sp else 0 := rfl
theorem cn_of (p0 : Int32) : ¬ inN 6 p0 ∨ p0 = nI 0 ∨ p0 = nI 1 ∨ p0 = nI 2 ∨ p0 = nI 3 ∨ p0 = nI 4 ∨ p0 = nI 5 := by
  by_cases h : inN 6 p0
  · obtain ⟨j, hj, rfl⟩ := h
    have h6 : j = 0 ∨ j = 1 ∨ j = 2 ∨ j = 3 ∨ j = 4 ∨ j = 5 := by omega
    rcases h6 with e | e | e | e | e | e <;> subst e <;> simp
  · exact Or.inl h
theorem sw_out {p0 : Int32} (h : ¬ inN 6 p0) : p0.toInt < 0 ∨ (5 : Int) < p0.toInt := by
  by_cases h0 : p0.toInt < 0
  · exact Or.inl h0
  · refine Or.inr ?_
    have hz : ¬ p0 < 0 := fun q => h0 (by rw [Int32.lt_iff_toInt_lt] at q; exact q)
    obtain ⟨j, hj, rfl⟩ := nI_of hz
    rw [nI_toInt hj]
    rcases Nat.lt_or_ge j 6 with q | q
    · exact absurd ⟨j, q, rfl⟩ h
    · omega
