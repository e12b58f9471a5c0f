def sMx (g : Nat → Nat) (lo : Nat) : Nat → Nat
  | 0 => 0
  | m + 1 => if sMx g lo m < g (lo + m) then g (lo + m) else sMx g lo m
theorem sMx_succ {g : Nat → Nat} {lo j : Nat} (h : lo ≤ j) : sMx g lo (j + 1 - lo) = if sMx g lo (j - lo) < g j then g j else sMx g lo (j - lo) := by
  rw [show j + 1 - lo = (j - lo) + 1 by omega]
  show (if sMx g lo (j - lo) < g (lo + (j - lo)) then _ else _) = _
  rw [show lo + (j - lo) = j by omega]
theorem sMx_le {g : Nat → Nat} {lo m B : Nat} (h : ∀ i, i < m → g (lo + i) ≤ B) : sMx g lo m ≤ B := by
  induction m with
  | zero => exact Nat.zero_le _
  | succ m ih =>
    have h1 := ih (fun i hi => h i (by omega))
    have h2 := h m (by omega)
    simp only [sMx]
    split <;> omega
theorem sMx_pos {g : Nat → Nat} {lo m : Nat} (hm : 0 < m) (h : ∀ i, i < m → 1 ≤ g (lo + i)) : 0 < sMx g lo m := by
  cases m with
  | zero => omega
  | succ m =>
    have h2 := h m (by omega)
    simp only [sMx]
    split <;> omega
/-- ones at the first j places -/
def rOn (r : Nat → Int32) (j : Nat) : Nat → Int32 := fun i => if i < j then 1 else r i
theorem rOn_0 (r : Nat → Int32) : rOn r 0 = r := by funext i; simp [rOn]
theorem rOn_s (r : Nat → Int32) (j : Nat) : upd (rOn r j) j 1 = rOn r (j + 1) := by
  funext i
  unfold upd rOn
  by_cases h : i = j
  · rw [if_pos h, if_pos (by omega)]
  · rw [if_neg h]
    by_cases h2 : i < j
    · rw [if_pos h2, if_pos (by omega)]
    · rw [if_neg h2, if_neg (by omega)]
/-- the whole numbers behind a date more -/
def gAD (I : tI) (nd : Nat) (p0 p1 : Int32) : tI := va_up (va_up (va_up (va_up (va_up I 2 (upd (I 2) nd p0)) 3 (upd (I 3) nd p1)) 4 (upd (I 4) nd (-1))) (10 + nd) (rOn (I (10 + nd)) 64)) 1 (upd (I 1) 8 (nI (nd + 1)))
def gAO (I : tI) (no : Nat) (p0 p1 p2 p3 : Int32) : tI := va_up (va_up (va_up (va_up (va_up I 6 (upd (I 6) no p0)) 7 (upd (I 7) no p1)) 8 (upd (I 8) no p2)) 9 (upd (I 9) no p3)) 1 (upd (I 1) 9 (nI (no + 1)))
theorem va_up_id {α : Type} (f : Nat → α) (k : Nat) : va_up f k (f k) = f := by
  funext j
  by_cases h : j = k
  · rw [h, va_up_self]
  · rw [va_up_ne _ _ h]
