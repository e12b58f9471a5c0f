theorem sLo_le {nd no : Nat} {f la : Nat → Nat} {w : Nat → Nat → Nat} {ea lt le mo : Nat → Nat} {d : Nat} {y : Nat → Nat} (hwf : wfS nd no f la w ea lt le mo) (hyb : ∀ i, i < nd → y i ≤ 255) (hd : d < nd) {j : Nat} (hj : j ≤ no) : sLo f ea lt le mo d y j ≤ 510 := by
  induction j with
  | zero => have := hwf.2.2.1 d hd; show f d ≤ 510; omega
  | succ j ih =>
    have h1 := ih (by omega)
    obtain ⟨h2, h3, h4, h5, h6⟩ := hwf.2.2.2 j (by omega)
    have h7 := hyb _ h2
    have h8 := hyb _ h3
    simp only [sLo]
    split
    · split <;> omega
    · split
      · split <;> omega
      · exact h1
theorem sHi_le {nd no : Nat} {f la : Nat → Nat} {w : Nat → Nat → Nat} {ea lt le mo : Nat → Nat} {d : Nat} {y : Nat → Nat} (hwf : wfS nd no f la w ea lt le mo) (hyb : ∀ i, i < nd → y i ≤ 255) (hd : d < nd) {j : Nat} (hj : j ≤ no) : sHi la ea lt le mo d y j ≤ 510 := by
  induction j with
  | zero => have := hwf.2.2.1 d hd; show la d ≤ 510; omega
  | succ j ih =>
    have h1 := ih (by omega)
    simp only [sHi]
    split
    · split <;> omega
    · split
      · split <;> omega
      · exact h1
