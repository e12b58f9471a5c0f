theorem vp_updL_uu (f : Nat → Int64) (k : Nat) (v w : Int64) : vp_updL (vp_updL f k v) k w = vp_updL f k w := by
  funext j
  unfold vp_updL
  by_cases h : j = k
  · rw [if_pos h, if_pos h]
  · rw [if_neg h, if_neg h, if_neg h]
theorem vp_updL_self (f : Nat → Int64) (k : Nat) (v : Int64) : vp_updL f k v k = v := by unfold vp_updL; rw [if_pos rfl]
theorem vp_updL_id (f : Nat → Int64) (k : Nat) : vp_updL f k (f k) = f := by
  funext j
  unfold vp_updL
  by_cases h : j = k
  · rw [if_pos h, h]
  · rw [if_neg h]
theorem kN_1 {bu ev s : Nat} (h1 : bu < s) (h2 : (s - bu) % ev = 0) : (1 : Int32) = nI (kN bu ev s) := by
  unfold kN
  rw [if_pos ⟨h1, h2⟩]
  rfl
theorem kN_0 {bu ev s : Nat} (h : ¬ (bu < s ∧ (s - bu) % ev = 0)) : (0 : Int32) = nI (kN bu ev s) := by
  unfold kN
  rw [if_neg h]
  rfl
theorem nI_z {a : Nat} (h : a < 2 ^ 31) : nI a = 0 ↔ a = 0 := by
  rw [show (0 : Int32) = nI 0 from rfl]
  exact nI_eq h (by decide)
theorem cK_s {bu ev sp j : Nat} (h : 1 ≤ j) : cK bu ev sp (j + 1 - 1) = cK bu ev sp (j - 1) + kN bu ev (sp + j) := by
  obtain ⟨i, rfl⟩ : ∃ i, j = i + 1 := ⟨j - 1, by omega⟩
  rfl
/-- the class's own numbers: chains n, burn-in bu, thin ev -/
def cCf (I : tI) (n bu ev : Nat) : Prop := I 0 1 = nI n ∧ I 0 7 = nI bu ∧ I 0 8 = nI ev ∧ 1 ≤ n ∧ n ≤ 4 ∧ bu ≤ 100 ∧ 1 ≤ ev ∧ ev ≤ 20
