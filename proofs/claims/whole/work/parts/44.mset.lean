/-! THE REFERENCE'S CALLS: what they leave -/
def pM (I : tI) (L : tL) (P1 P2 P3 : Prop) (N : Int32 → tI × tL → Prop) (r : Int32) (u : tI × tL) : Prop := (P1 ∧ r = 0 ∧ u = (gT I 1, L)) ∨ (¬ P1 ∧ P2 ∧ r = 0 ∧ u = (gT I 2, L)) ∨ (¬ P1 ∧ ¬ P2 ∧ P3 ∧ r = 0 ∧ u = (gT I 3, L)) ∨ (¬ P1 ∧ ¬ P2 ∧ ¬ P3 ∧ N r u)
def rOnM (r : Nat → Int32) (o j : Nat) : Nat → Int32 := fun i => if o ≤ i ∧ i < o + j then 1 else r i
theorem rOnM_0 (r : Nat → Int32) (o : Nat) : rOnM r o 0 = r := by funext i; unfold rOnM; rw [if_neg (by omega)]
theorem rOnM_s (r : Nat → Int32) (o j : Nat) : upd (rOnM r o j) (o + j) 1 = rOnM r o (j + 1) := by
  funext i
  unfold upd rOnM
  by_cases h : i = o + j
  · rw [if_pos h, if_pos (by omega)]
  · rw [if_neg h]
    by_cases h2 : o ≤ i ∧ i < o + j
    · rw [if_pos h2, if_pos (by omega)]
    · rw [if_neg h2, if_neg (by omega)]
/-- the dates' arrays with one date more, without its weights and the count; with them -/
def gM1 (J : tI) (nd : Nat) (p0 p1 : Int32) : tI := va_up (va_up (va_up J 201 (upd (J 201) nd p0)) 202 (upd (J 202) nd p1)) 204 (upd (J 204) nd (-1))
theorem gM1_ne (J : tI) (nd : Nat) (p0 p1 : Int32) {k : Nat} (h : k ≠ 201 ∧ k ≠ 202 ∧ k ≠ 204) : gM1 J nd p0 p1 k = J k := by unfold gM1; rw [va_up_ne _ _ h.2.2, va_up_ne _ _ h.2.1, va_up_ne _ _ h.1]
def gMD (J : tI) (nd : Nat) (p0 p1 : Int32) : tI := va_up (va_up (gM1 J nd p0 p1) 203 (rOnM (J 203) (64 * nd) 64)) 200 (upd (J 200) 3 (nI (nd + 1)))
def gMO (J : tI) (no : Nat) (p0 p1 p2 p3 : Int32) : tI := va_up (va_up (va_up (va_up (va_up J 205 (upd (J 205) no p0)) 206 (upd (J 206) no p1)) 207 (upd (J 207) no p2)) 208 (upd (J 208) no p3)) 200 (upd (J 200) 8 (nI (no + 1)))
theorem in_m1 {x : Int32} : (-1 ≤ x ∧ x ≤ 3) ↔ (x = -1 ∨ inN 4 x) := by
  constructor
  · intro ⟨h1, h2⟩
    by_cases h : x = -1
    · exact Or.inl h
    · refine Or.inr ?_
      have h0 := i_m1k (x := x) (fun q => i_lt_n q h1) h
      obtain ⟨j, _, hj, e⟩ := inR_of (a := 0) (b := 3) (by decide) (by decide) (show ¬ x < nI 0 from h0) (show x ≤ nI 3 from h2)
      exact ⟨j, by omega, e⟩
  · intro h
    rcases h with e | ⟨j, hj, e⟩
    · rw [e]; decide
    · rw [e]
      exact ⟨Int32.le_of_lt (i_m1 (by omega)), show nI j ≤ nI 3 from nI_le (by omega) (by decide)⟩
