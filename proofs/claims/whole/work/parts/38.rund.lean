/-! run, pure: i steps of all chains; the rows kept -/
def iY (nd no : Nat) (f la : Nat → Nat) (w : Nat → Nat → Nat) (ea lt le mo : Nat → Nat) (Y : Nat → Nat → Nat) (st : Nat → Int64) : Nat → (Nat → Nat → Nat) × (Nat → Int64)
  | 0 => (Y, st)
  | i + 1 => (nY nd no f la w ea lt le mo (iY nd no f la w ea lt le mo Y st i).1 (iY nd no f la w ea lt le mo Y st i).2, nS nd no f la w ea lt le mo (iY nd no f la w ea lt le mo Y st i).1 (iY nd no f la w ea lt le mo Y st i).2)
def iR (nd no : Nat) (f la : Nat → Nat) (w : Nat → Nat → Nat) (ea lt le mo : Nat → Nat) (Y : Nat → Nat → Nat) (st : Nat → Int64) (Rw : Nat → Nat → Nat → Nat) (kp sp bu ev : Nat) : Nat → Nat → Nat → Nat → Nat
  | 0 => Rw
  | i + 1 => nR (kp + cK bu ev sp i) (iY nd no f la w ea lt le mo Y st (i + 1)).1 (iR nd no f la w ea lt le mo Y st Rw kp sp bu ev i)
theorem iY_wf {n nd no : Nat} {f la : Nat → Nat} {w : Nat → Nat → Nat} {ea lt le mo : Nat → Nat} (hwf : wfS nd no f la w ea lt le mo) {Y : Nat → Nat → Nat} {st : Nat → Int64} (hY : ∀ c, c < n → wfY nd no f la ea lt le mo (Y c)) (i : Nat) : ∀ c, c < n → wfY nd no f la ea lt le mo ((iY nd no f la w ea lt le mo Y st i).1 c) := by
  induction i with
  | zero => exact hY
  | succ i ih => exact fun c hc => wfY_sC hwf (ih c hc) (Nat.le_refl _)
theorem cK_mono (bu ev sp : Nat) {i j : Nat} (h : i ≤ j) : cK bu ev sp i ≤ cK bu ev sp j := by
  induction j with
  | zero => rw [show i = 0 by omega]; exact Nat.le_refl _
  | succ j ih =>
    rcases Nat.lt_or_ge i (j + 1) with q | q
    · have := ih (by omega)
      show _ ≤ cK bu ev sp j + _
      omega
    · rw [show i = j + 1 by omega]; exact Nat.le_refl _
def rOk (sd kp bu ev sp : Nat) (p0 : Int32) : Prop := sd = 1 ∧ ∀ x, x ≤ 100 → p0 = nI x → kp + cK bu ev sp x ≤ 60
/-- what is known of a course that stands -/
def wCo (n nd no : Nat) (f la ea lt le mo : Nat → Nat) (B : Nat) (Y : Nat → Nat → Nat) (Rw : Nat → Nat → Nat → Nat) (kp sp : Nat) : Prop := (∀ c, c < n → wfY nd no f la ea lt le mo (Y c)) ∧ kp ≤ 60 ∧ sp ≤ B ∧ ∀ c, c < n → ∀ k, k < kp → ∀ d, d < nd → f d ≤ Rw c k d ∧ Rw c k d ≤ la d
def aOk (n nd sd kp : Nat) (p0 p1 p2 : Int32) : Prop := inN n p0 ∧ inN nd p2 ∧ ¬ p1 < -1 ∧ (sd = 1 → p1 < nI kp)
theorem i_m1k {x : Int32} (h : ¬ x < -1) (h2 : ¬ x = -1) : ¬ x < 0 := by
  intro q
  rw [Int32.lt_iff_toInt_lt] at h q
  have h3 : ¬ x.toInt = -1 := fun z => h2 (Int32.toInt_inj.mp z)
  rw [show (-1 : Int32).toInt = -1 from rfl] at h
  rw [show (0 : Int32).toInt = 0 from rfl] at q
  omega
/-- of so many weights, of the greatest, per thousand -/
def agV (n kp : Nat) (sum mx : Nat) : Int32 := if kp = 0 then -1 else nI (1000 * sum / (n * kp * mx))
theorem lN_le0 {a : Nat} (ha : a < 2 ^ 31) : lg_cmp (lN a) 0 ≤ 0 ↔ a = 0 := by
  constructor
  · intro h
    rcases Nat.eq_zero_or_pos a with q | q
    · exact q
    · exact absurd h (i_lt_n (lN_gt0 q ha))
  · intro h; rw [h]; decide
