/-! SUMS AND PICKS, on whole numbers -/
def sSum (g : Nat → Nat) (lo : Nat) : Nat → Nat
  | 0 => 0
  | m + 1 => sSum g lo m + g (lo + m)
theorem sSum_succ {g : Nat → Nat} {lo j : Nat} (h : lo ≤ j) : sSum g lo (j + 1 - lo) = sSum g lo (j - lo) + g j := by
  rw [show j + 1 - lo = (j - lo) + 1 by omega]
  show sSum g lo (j - lo) + g (lo + (j - lo)) = _
  rw [show lo + (j - lo) = j by omega]
theorem sSum_le {g : Nat → Nat} {lo m B : Nat} (h : ∀ i, i < m → g (lo + i) ≤ B) : sSum g lo m ≤ m * B := by
  induction m with
  | zero => exact Nat.zero_le _
  | succ m ih =>
    have h1 := ih (fun i hi => h i (by omega))
    have h2 := h m (by omega)
    show sSum g lo m + g (lo + m) ≤ (m + 1) * B
    rw [Nat.succ_mul]
    omega
theorem sSum_pos {g : Nat → Nat} {lo m : Nat} (hm : 0 < m) (h : ∀ i, i < m → 1 ≤ g (lo + i)) : 0 < sSum g lo m := by
  cases m with
  | zero => omega
  | succ m =>
    have h2 := h m (by omega)
    show 0 < sSum g lo m + g (lo + m)
    omega
/-- the first year from i on, m years at most behind it, at which the weights are more than r together -/
def sPick (g : Nat → Nat) : Nat → Nat → Nat → Nat
  | 0, i, _ => i
  | m + 1, i, r => if r < g i then i else sPick g m (i + 1) (r - g i)
theorem sPick_le (g : Nat → Nat) (m i r : Nat) : i ≤ sPick g m i r ∧ sPick g m i r ≤ i + m := by
  induction m generalizing i r with
  | zero => exact ⟨Nat.le_refl _, Nat.le_refl _⟩
  | succ m ih =>
    simp only [sPick]
    split
    · omega
    · have := ih (i + 1) (r - g i)
      omega
section SL
variable {nd no : Nat} {f la : Nat → Nat} {w : Nat → Nat → Nat} {ea lt le mo : Nat → Nat} {d : Nat} {y : Nat → Nat}
theorem sLo_ge (j : Nat) : f d ≤ sLo f ea lt le mo d y j := by
  induction j with
  | zero => exact Nat.le_refl _
  | succ j ih =>
    simp only [sLo]
    split
    · split <;> omega
    · split
      · split <;> omega
      · exact ih
theorem sHi_la (j : Nat) : sHi la ea lt le mo d y j ≤ la d := by
  induction j with
  | zero => exact Nat.le_refl _
  | succ j ih =>
    simp only [sHi]
    split
    · split <;> omega
    · split
      · split <;> omega
      · exact ih
/-- what all orders of d ask of a year v, by the orders below j -/
def sOk (f la ea lt le mo : Nat → Nat) (d : Nat) (y : Nat → Nat) (v j : Nat) : Prop := f d ≤ v ∧ v ≤ la d ∧ ∀ k, k < j → (lt k = d → y (ea k) + le k ≤ v ∧ v ≤ y (ea k) + mo k) ∧ (ea k = d → v + le k ≤ y (lt k) ∧ y (lt k) ≤ v + mo k)
theorem sOk_iff (hle : ∀ k, k < no → ea k ≠ lt k ∧ y (ea k) + le k ≤ y (lt k)) {v : Nat} {j : Nat} (hj : j ≤ no) : sOk f la ea lt le mo d y v j ↔ sLo f ea lt le mo d y j ≤ v ∧ v ≤ sHi la ea lt le mo d y j := by
  induction j with
  | zero =>
    show (f d ≤ v ∧ v ≤ la d ∧ _) ↔ f d ≤ v ∧ v ≤ la d
    exact ⟨fun h => ⟨h.1, h.2.1⟩, fun h => ⟨h.1, h.2, fun k hk => absurd hk (Nat.not_lt_zero _)⟩⟩
  | succ j ih =>
    have hx := ih (by omega)
    obtain ⟨hne, hyl⟩ := hle j (by omega)
    have key : sOk f la ea lt le mo d y v (j + 1) ↔ sOk f la ea lt le mo d y v j ∧ ((lt j = d → y (ea j) + le j ≤ v ∧ v ≤ y (ea j) + mo j) ∧ (ea j = d → v + le j ≤ y (lt j) ∧ y (lt j) ≤ v + mo j)) := by
      constructor
      · intro h
        exact ⟨⟨h.1, h.2.1, fun k hk => h.2.2 k (by omega)⟩, h.2.2 j (by omega)⟩
      · intro h
        refine ⟨h.1.1, h.1.2.1, fun k hk => ?_⟩
        by_cases e : k = j
        · rw [e]; exact h.2
        · exact h.1.2.2 k (by omega)
    rw [key, hx]
    simp only [sLo, sHi]
    by_cases h1 : lt j = d
    · have h2 : ¬ ea j = d := fun q => hne (by omega)
      simp only [h1, h2, if_true, forall_const, false_imp_iff, and_true]
      split <;> split <;> omega
    · by_cases h2 : ea j = d
      · simp only [h1, h2, if_true, if_false, forall_const, false_imp_iff, true_and]
        rw [h2] at hyl
        split <;> split <;> omega
      · simp only [h1, h2, if_false, false_imp_iff, and_true]
end SL
theorem lN_lt0 {a b : Nat} (hb : b < 2 ^ 31) (ha : a < 2 ^ 31) : (0 ≤ lg_cmp (lN a - lN b) 0) ↔ b ≤ a := by
  rw [lg_cmp_ge]
  by_cases h : b ≤ a
  · rw [lN_sub h]
    exact ⟨fun _ => h, fun _ => by rw [Int64.le_iff_toInt_le, lN_toInt (by omega)]; show (0 : Int) ≤ _; omega⟩
  · refine ⟨fun q => ?_, fun q => absurd q h⟩
    exfalso
    rw [show lN a - lN b = -(lN (b - a)) from by rw [← lN_sub (by omega)]; simp, Int64.le_iff_toInt_le] at q
    have h1 : (-(lN (b - a))).toInt = -((b - a : Nat) : Int) := by
      rw [Int64.toInt_neg, lN_toInt (by omega)]
      rw [Int.bmod_eq_of_le (by omega) (by omega)]
    rw [h1] at q
    have h2 : (0 : Int64).toInt = 0 := rfl
    rw [h2] at q
    omega
