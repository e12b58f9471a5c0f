/-- behind keeping the years of the first j chains as row kp -/
def gKY (I : tI) (b kp j : Nat) : tI := fun k => if b + 8 ≤ k ∧ k < b + 8 + j then va_cpy (I (k - 4)) (I k) 0 (kp * 8) 8 else I k
theorem gKY_0 (I : tI) (b kp : Nat) : gKY I b kp 0 = I := by
  funext k
  unfold gKY
  rw [if_neg (by omega)]
theorem gKY_lo (I : tI) {b kp j k : Nat} (h : k < b + 8) : gKY I b kp j k = I k := by
  unfold gKY
  rw [if_neg (by omega)]
theorem gKY_hi (I : tI) {b kp j k : Nat} (h : b + 8 + j ≤ k) : gKY I b kp j k = I k := by
  unfold gKY
  rw [if_neg (by omega)]
theorem gKY_s (I : tI) {b kp j : Nat} (hj : j < 4) : va_up (gKY I b kp j) (b + 8 + j) (va_cpy (gKY I b kp j (b + 4 + j)) (gKY I b kp j (b + 8 + j)) 0 (kp * 8) 8) = gKY I b kp (j + 1) := by
  rw [gKY_lo I (by omega), gKY_hi I (Nat.le_refl _)]
  funext k
  by_cases h : k = b + 8 + j
  · subst h
    rw [va_up_self]
    unfold gKY
    rw [if_pos (by omega), show b + 8 + j - 4 = b + 4 + j by omega]
  · rw [va_up_ne _ _ h]
    unfold gKY
    by_cases h2 : b + 8 ≤ k ∧ k < b + 8 + j
    · rw [if_pos h2, if_pos (by omega)]
    · rw [if_neg h2, if_neg (by omega)]
def gKeep (I : tI) (b kp n : Nat) : tI := va_up (gKY I b kp n) b (upd (I b) 3 (nI (kp + 1)))
/-- behind taking over the first j chains of the course b2 -/
def gTk (I : tI) (b b2 kp j : Nat) : tI := fun k => if b + 4 ≤ k ∧ k < b + 4 + j then va_cpy (I (b2 + (k - b))) (I k) 0 0 8 else if b + 8 ≤ k ∧ k < b + 8 + j then va_cpy (I (b2 + (k - b))) (I k) 0 0 (kp * 8) else I k
def gTl (L : tL) (b b2 j : Nat) : tL := va_up L (b + 2) (fun i => if i < j then L (b2 + 2) i else L (b + 2) i)
theorem gTk_0 (I : tI) (b b2 kp : Nat) : gTk I b b2 kp 0 = I := by
  funext k
  unfold gTk
  rw [if_neg (by omega), if_neg (by omega)]
theorem gTl_0 (L : tL) (b b2 : Nat) : gTl L b b2 0 = L := by
  unfold gTl
  rw [show (fun i => if i < 0 then L (b2 + 2) i else L (b + 2) i) = L (b + 2) from funext fun i => if_neg (Nat.not_lt_zero _)]
  exact va_up_id L (b + 2)
theorem gTk_n (I : tI) {b b2 kp j k : Nat} (h : ¬ (b + 4 ≤ k ∧ k < b + 4 + j)) (h2 : ¬ (b + 8 ≤ k ∧ k < b + 8 + j)) : gTk I b b2 kp j k = I k := by
  unfold gTk
  rw [if_neg h, if_neg h2]
theorem gTk_s (I : tI) {b b2 kp j : Nat} (hB : isB b) (hB2 : isB b2) (hne : b ≠ b2) (hj : j < 4) : va_up (va_up (gTk I b b2 kp j) (b + 4 + j) (va_cpy (gTk I b b2 kp j (b2 + 4 + j)) (gTk I b b2 kp j (b + 4 + j)) 0 0 8)) (b + 8 + j) (va_cpy ((va_up (gTk I b b2 kp j) (b + 4 + j) (va_cpy (gTk I b b2 kp j (b2 + 4 + j)) (gTk I b b2 kp j (b + 4 + j)) 0 0 8)) (b2 + 8 + j)) ((va_up (gTk I b b2 kp j) (b + 4 + j) (va_cpy (gTk I b b2 kp j (b2 + 4 + j)) (gTk I b b2 kp j (b + 4 + j)) 0 0 8)) (b + 8 + j)) 0 0 (kp * 8)) = gTk I b b2 kp (j + 1) := by
  unfold isB at hB hB2
  rw [va_up_ne _ _ (show b2 + 8 + j ≠ b + 4 + j by omega), va_up_ne _ _ (show b + 8 + j ≠ b + 4 + j by omega), gTk_n I (by omega) (by omega), gTk_n I (by omega) (by omega), gTk_n I (by omega) (by omega), gTk_n I (by omega) (by omega)]
  funext k
  by_cases h : k = b + 8 + j
  · subst h
    rw [va_up_self]
    unfold gTk
    rw [if_neg (by omega), if_pos (by omega), show b2 + (b + 8 + j - b) = b2 + 8 + j by omega]
  · rw [va_up_ne _ _ h]
    by_cases h3 : k = b + 4 + j
    · subst h3
      rw [va_up_self]
      unfold gTk
      rw [if_pos (by omega), show b2 + (b + 4 + j - b) = b2 + 4 + j by omega]
    · rw [va_up_ne _ _ h3]
      unfold gTk
      by_cases h4 : b + 4 ≤ k ∧ k < b + 4 + j
      · rw [if_pos h4, if_pos (by omega)]
      · have h6 : ¬ (b + 4 ≤ k ∧ k < b + 4 + (j + 1)) := by omega
        rw [if_neg h4, if_neg h6]
        by_cases h5 : b + 8 ≤ k ∧ k < b + 8 + j
        · rw [if_pos h5, if_pos (by omega)]
        · have h7 : ¬ (b + 8 ≤ k ∧ k < b + 8 + (j + 1)) := by omega
          rw [if_neg h5, if_neg h7]
theorem gTl_s (L : tL) {b b2 j : Nat} (hB : isB b) (hB2 : isB b2) (hne : b ≠ b2) : va_up (gTl L b b2 j) (b + 2) (vp_updL (gTl L b b2 j (b + 2)) j (gTl L b b2 j (b2 + 2) j)) = gTl L b b2 (j + 1) := by
  unfold isB at hB hB2
  unfold gTl
  rw [bx_uu, va_up_self, va_up_ne _ _ (show b2 + 2 ≠ b + 2 by omega)]
  congr 1
  funext i
  unfold vp_updL
  dsimp only
  by_cases h : i = j
  · rw [if_pos h, if_pos (by omega), h]
  · rw [if_neg h]
    by_cases h2 : i < j
    · rw [if_pos h2, if_pos (by omega)]
    · rw [if_neg h2, if_neg (by omega)]
def gTake (I : tI) (b b2 kp n : Nat) : tI := va_up (gTk I b b2 kp n) b (upd (upd (I b) 3 (I b2 3)) 4 (I b2 4))
