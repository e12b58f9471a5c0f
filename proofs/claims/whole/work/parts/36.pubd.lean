/-! THE SITE'S CALLS: what they ask -/
def gF (I : tI) : tI := va_up I 0 (upd (upd (I 0) 6 0) 5 0)
theorem gF_ne (I : tI) {k : Nat} (h : k ≠ 0) : gF I k = I k := va_up_ne _ _ h
def dOk (p0 p1 : Int32) : Prop := inN 256 p0 ∧ inN 256 p1 ∧ p0 ≤ p1 ∧ p1 - p0 ≤ 63
def inR (a b : Nat) (x : Int32) : Prop := ∃ j, a ≤ j ∧ j ≤ b ∧ x = nI j
theorem inR_lo {a b : Nat} {x : Int32} (hb : b < 2 ^ 31) (ha : a ≤ b) (h : x < nI a) : ¬ inR a b x := fun ⟨j, h1, h2, e⟩ => by
  rw [e] at h
  have := (nI_ltI (by omega) (by omega)).mp h
  omega
theorem inR_hi {a b : Nat} {x : Int32} (hb : b < 2 ^ 31) (h : ¬ x ≤ nI b) : ¬ inR a b x := fun ⟨j, h1, h2, e⟩ => h (by rw [e]; exact nI_le h2 hb)
theorem inR_of {a b : Nat} {x : Int32} (hb : b < 2 ^ 31) (ha : a ≤ b) (h0 : ¬ x < nI a) (h : x ≤ nI b) : inR a b x := by
  have hz : ¬ x < 0 := fun q => h0 (i_lt_le q (by rw [← nI_0]; exact nI_le (Nat.zero_le _) (by omega)))
  obtain ⟨z, hz2, e⟩ := nI_of hz
  subst e
  have h2 := (nI_leI (by omega) hz2).mp (i_nlt h0)
  have h3 := (nI_leI hz2 (by omega)).mp h
  exact ⟨z, h2, h3, rfl⟩
def bOk (nd : Nat) (p0 p1 : Int32) : Prop := inN nd p0 ∧ inN nd p1
def bOk2 (p0 p1 p2 p3 : Int32) : Prop := inN 256 p2 ∧ inN 256 p3 ∧ p0 ≠ p1 ∧ p2 ≤ p3
def mOk (nd : Nat) (p0 p1 : Int32) : Prop := inN nd p0 ∧ (p1 = -1 ∨ inN 4 p1)
