/-! A ROUND OVER THE ORDERS, on natural numbers -/
def rB (ea lt le : Nat → Nat) (j : Nat) (y : Nat → Nat) : Nat → Nat := if y (lt j) < y (ea j) + le j then va_up y (lt j) (y (ea j) + le j) else y
def rA (ea lt mo : Nat → Nat) (j : Nat) (y : Nat → Nat) : Nat → Nat := if y (ea j) + mo j < y (lt j) then va_up y (ea j) (y (lt j) - mo j) else y
def rR (ea lt le mo : Nat → Nat) : Nat → (Nat → Nat) → (Nat → Nat)
  | 0, y => y
  | j + 1, y => rA ea lt mo j (rB ea lt le j (rR ea lt le mo j y))
def rK (ea lt le mo : Nat → Nat) (no : Nat) : Nat → (Nat → Nat) → (Nat → Nat)
  | 0, y => y
  | k + 1, y => rR ea lt le mo no (rK ea lt le mo no k y)
theorem rR_z (ea lt le mo : Nat → Nat) (J : Nat) (y : Nat → Nat) (d : Nat) : ((rR ea lt le mo J y d : Nat) : Int) = ly_r ea lt (fun j => (le j : Int)) (fun j => (mo j : Int)) J (fun i => (y i : Int)) d := by
  induction J generalizing d with
  | zero => rfl
  | succ j ih =>
    show ((rA ea lt mo j (rB ea lt le j (rR ea lt le mo j y)) d : Nat) : Int) = ly_o ea lt _ _ j (ly_r ea lt _ _ j _) d
    generalize rR ea lt le mo j y = z at ih ⊢
    rw [show ly_r ea lt (fun j => (le j : Int)) (fun j => (mo j : Int)) j (fun i => (y i : Int)) = fun i => (z i : Int) from (funext fun i => (ih i).symm)]
    have h1 : ∀ i, ((rB ea lt le j z i : Nat) : Int) = ly_rz (fun i => (z i : Int)) (lt j) ((z (ea j) : Int) + le j) i := by
      intro i
      unfold rB ly_rz
      dsimp only
      by_cases h : z (lt j) < z (ea j) + le j
      · rw [if_pos h]
        unfold va_up
        by_cases e : i = lt j
        · rw [if_pos e, if_pos e, if_pos (by omega)]; omega
        · rw [if_neg e, if_neg e]
      · rw [if_neg h]
        by_cases e : i = lt j
        · rw [if_pos e, if_neg (by omega), e]
        · rw [if_neg e]
    unfold ly_o
    rw [show ly_rz (fun i => (z i : Int)) (lt j) ((fun i => (z i : Int)) (ea j) + (fun j => (le j : Int)) j) = fun i => ((rB ea lt le j z i : Nat) : Int) from (funext fun i => (h1 i).symm)]
    generalize rB ea lt le j z = v
    unfold rA ly_rz
    dsimp only
    by_cases h : v (ea j) + mo j < v (lt j)
    · rw [if_pos h]
      unfold va_up
      by_cases e : d = ea j
      · rw [if_pos e, if_pos e, if_pos (by omega)]; omega
      · rw [if_neg e, if_neg e]
    · rw [if_neg h]
      by_cases e : d = ea j
      · rw [if_pos e, if_neg (by omega), e]
      · rw [if_neg e]
theorem rK_z (ea lt le mo : Nat → Nat) (no k : Nat) (y : Nat → Nat) (d : Nat) : ((rK ea lt le mo no k y d : Nat) : Int) = ly_k ea lt (fun j => (le j : Int)) (fun j => (mo j : Int)) no k (fun i => (y i : Int)) d := by
  induction k generalizing d with
  | zero => rfl
  | succ k ih =>
    show ((rR ea lt le mo no (rK ea lt le mo no k y) d : Nat) : Int) = ly_r ea lt _ _ no (ly_k ea lt _ _ no k _) d
    rw [rR_z, show ly_k ea lt (fun j => (le j : Int)) (fun j => (mo j : Int)) no k (fun i => (y i : Int)) = fun i => ((rK ea lt le mo no k y i : Nat) : Int) from (funext fun i => (ih i).symm)]
theorem rB_ge (ea lt le : Nat → Nat) (j : Nat) (y : Nat → Nat) (d : Nat) : y d ≤ rB ea lt le j y d := by
  unfold rB
  split
  · unfold va_up; split
    · subst_vars; omega
    · exact Nat.le_refl _
  · exact Nat.le_refl _
theorem rA_ge (ea lt mo : Nat → Nat) (j : Nat) (y : Nat → Nat) (d : Nat) : y d ≤ rA ea lt mo j y d := by
  unfold rA
  split
  · unfold va_up; split
    · subst_vars; omega
    · exact Nat.le_refl _
  · exact Nat.le_refl _
theorem rR_ge (ea lt le mo : Nat → Nat) (J : Nat) (y : Nat → Nat) (d : Nat) : y d ≤ rR ea lt le mo J y d := by
  induction J with
  | zero => exact Nat.le_refl _
  | succ J ih => exact Nat.le_trans ih (Nat.le_trans (rB_ge ea lt le J _ d) (rA_ge ea lt mo J _ d))
theorem rR_le {nd no : Nat} {f la : Nat → Nat} {w : Nat → Nat → Nat} {ea lt le mo : Nat → Nat} (hwf : wfS nd no f la w ea lt le mo) {y : Nat → Nat} {B : Nat} (hb : ∀ d, d < nd → y d ≤ B) {J : Nat} (hJ : J ≤ no) : ∀ d, d < nd → rR ea lt le mo J y d ≤ B + 255 * J := by
  induction J with
  | zero => exact hb
  | succ J ih =>
    intro d hd
    have h1 := ih (by omega)
    obtain ⟨h2, h3, h4, h5, h6⟩ := hwf.2.2.2 J (by omega)
    have hB : ∀ d, d < nd → rB ea lt le J (rR ea lt le mo J y) d ≤ B + 255 * (J + 1) := by
      intro d hd
      have := h1 d hd
      have := h1 _ h2
      unfold rB
      split
      · unfold va_up; split <;> omega
      · omega
    show rA ea lt mo J (rB ea lt le J (rR ea lt le mo J y)) d ≤ _
    have := hB d hd
    have := hB _ h3
    unfold rA
    split
    · unfold va_up; split <;> omega
    · omega
theorem sub_le {a b c : Nat} (ha : a < 2 ^ 29) (hb : b < 2 ^ 29) (hc : c < 2 ^ 29) : nI b - nI c ≤ nI a ↔ b ≤ a + c := by
  rw [Int32.le_iff_toInt_le, pk_sub_toInt (by omega) (by omega), nI_tri (by omega)]
  omega
theorem add_le {a b c : Nat} (ha : a < 2 ^ 29) (hb : b < 2 ^ 29) (hc : c < 2 ^ 29) : nI b + nI c ≤ nI a ↔ b + c ≤ a := by
  rw [nI_add]
  exact nI_leI (by omega) (by omega)
/-- what a round says of itself: z = 0: nothing has risen, z = 1: something has -/
def rZ (nd : Nat) (y0 y : Nat → Nat) (z : Int32) : Prop := (z = 0 ∧ ∀ d, d < nd → y d = y0 d) ∨ (z = 1 ∧ ∃ d, d < nd ∧ y0 d < y d)
/-- a row of years -/
def rw_Y (nd : Nat) (row : Nat → Int32) (y : Nat → Nat) : Prop := ∀ i, i < nd → row i = nI (y i)
theorem rw_Y.put {nd : Nat} {row : Nat → Int32} {y : Nat → Nat} (h : rw_Y nd row y) (b v : Nat) {x : Int32} (hx : x = nI v) : rw_Y nd (upd row b x) (va_up y b v) := by
  intro i hi
  unfold upd va_up
  split
  · exact hx
  · exact h i hi
