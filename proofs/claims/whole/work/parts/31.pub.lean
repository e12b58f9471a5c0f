/-! WHAT THE CALLS ASK OF WHAT THEY ARE GIVEN -/
theorem i_le_lt1 {x : Int32} (h : x ≤ 255) : x < 256 := by
  rw [Int32.le_iff_toInt_le] at h
  rw [Int32.lt_iff_toInt_lt]
  rw [show (255 : Int32).toInt = 255 from rfl] at h
  rw [show (256 : Int32).toInt = 256 from rfl]
  omega
theorem i_gt255 {x : Int32} (h : ¬ x ≤ 255) : (256 : Int32) ≤ x := by
  rw [Int32.le_iff_toInt_le] at h
  rw [Int32.le_iff_toInt_le]
  rw [show (255 : Int32).toInt = 255 from rfl] at h
  rw [show (256 : Int32).toInt = 256 from rfl]
  omega
theorem i_lt_le {a b c : Int32} (h : a < b) (h2 : b ≤ c) : a < c := by
  rw [Int32.le_iff_toInt_le] at h2
  rw [Int32.lt_iff_toInt_lt] at h ⊢
  omega
/-- x is a date, y one of its years -/
def yOk (nd : Nat) (f la : Nat → Nat) (x y : Int32) : Prop := inN nd x ∧ ∃ d j, d < nd ∧ x = nI d ∧ y = nI (f d + j) ∧ f d + j ≤ la d
section YO
variable {nd : Nat} {f la : Nat → Nat} {d : Nat} {y : Int32}
theorem yOk_lo (h8 : d < nd ∧ nd ≤ 8 ∧ f d ≤ la d ∧ la d ≤ 255) (h : y < nI (f d)) : ¬ yOk nd f la (nI d) y := fun ⟨_, e, j, h1, h2, h3, h4⟩ => by
  have := (nI_eq (by omega) (by omega)).mp h2
  subst this
  rw [h3] at h
  have := (nI_ltI (by omega) (by omega)).mp h
  omega
theorem yOk_hi (h8 : d < nd ∧ nd ≤ 8 ∧ f d ≤ la d ∧ la d ≤ 255) (h : ¬ y ≤ nI (la d)) : ¬ yOk nd f la (nI d) y := fun ⟨_, e, j, h1, h2, h3, h4⟩ => by
  have := (nI_eq (by omega) (by omega)).mp h2
  subst this
  rw [h3] at h
  exact h (nI_le h4 (by omega))
theorem yOk_of (h8 : d < nd ∧ nd ≤ 8 ∧ f d ≤ la d ∧ la d ≤ 255) (h0 : ¬ y < nI (f d)) (h : y ≤ nI (la d)) : yOk nd f la (nI d) y := by
  have hz : ¬ y < 0 := fun q => h0 (i_lt_le q (by rw [← nI_0]; exact nI_le (Nat.zero_le _) (by omega)))
  obtain ⟨z, hz2, e⟩ := nI_of hz
  subst e
  have h1 := i_nlt h0
  have h2 := (nI_leI (by omega) hz2).mp h1
  have h3 := (nI_leI hz2 (by omega)).mp h
  exact ⟨⟨d, h8.1, rfl⟩, d, z - f d, h8.1, rfl, by rw [show f d + (z - f d) = z by omega], by omega⟩
end YO
