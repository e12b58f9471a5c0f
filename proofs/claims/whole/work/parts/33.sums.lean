/-! SUMS over rows and chains; the span of a phase -/
def sS (g : Nat → Nat) : Nat → Nat
  | 0 => 0
  | m + 1 => sS g m + g m
def s2 (g : Nat → Nat → Nat) (kp : Nat) : Nat → Nat
  | 0 => 0
  | c + 1 => s2 g kp c + sS (g c) kp
theorem sS_le {g : Nat → Nat} {m B : Nat} (h : ∀ i, i < m → g i ≤ B) : sS g m ≤ m * B := by
  induction m with
  | zero => exact Nat.zero_le _
  | succ m ih =>
    have h1 := ih (fun i hi => h i (by omega))
    have h2 := h m (by omega)
    show sS g m + g m ≤ (m + 1) * B
    rw [Nat.succ_mul]
    omega
theorem s2_le {g : Nat → Nat → Nat} {kp m B : Nat} (h : ∀ c, c < m → ∀ k, k < kp → g c k ≤ B) : s2 g kp m ≤ m * (kp * B) := by
  induction m with
  | zero => exact Nat.zero_le _
  | succ m ih =>
    have h1 := ih (fun c hc => h c (by omega))
    have h2 := sS_le (h m (by omega))
    show s2 g kp m + sS (g m) kp ≤ (m + 1) * (kp * B)
    rw [Nat.succ_mul]
    omega
theorem sS_add (g : Nat → Nat) (a b : Nat) : sS g (a + b) = sS g a + sS (fun i => g (a + i)) b := by
  induction b with
  | zero => rfl
  | succ b ih =>
    show sS g (a + b) + g (a + b) = _ + (sS (fun i => g (a + i)) b + g (a + b))
    rw [ih]
    omega
theorem sS_congr {g h : Nat → Nat} {m : Nat} (e : ∀ i, i < m → g i = h i) : sS g m = sS h m := by
  induction m with
  | zero => rfl
  | succ m ih =>
    show sS g m + g m = sS h m + h m
    rw [ih (fun i hi => e i (by omega)), e m (by omega)]
/-- the reference's way: one counter over all rows of all chains -/
theorem sS_s2 (g : Nat → Nat → Nat) {kp : Nat} (hk : 0 < kp) (n : Nat) : sS (fun i => g (i / kp) (i % kp)) (n * kp) = s2 g kp n := by
  induction n with
  | zero => rw [Nat.zero_mul]; rfl
  | succ n ih =>
    rw [Nat.succ_mul, sS_add, ih]
    show _ = s2 g kp n + sS (g n) kp
    rw [sS_congr (h := g n) (fun i hi => ?_)]
    rw [show (n * kp + i) / kp = n from by rw [Nat.add_comm, Nat.add_mul_div_right _ _ hk, Nat.div_eq_of_lt hi, Nat.zero_add], show (n * kp + i) % kp = i from by rw [Nat.add_comm, Nat.add_mul_mod_self_right, Nat.mod_eq_of_lt hi]]
theorem s2_k0 (g : Nat → Nat → Nat) (n : Nat) : s2 g 0 n = 0 := by
  induction n with
  | zero => rfl
  | succ n ih => show s2 g 0 n + 0 = 0; rw [ih]
def mxF (g : Nat → Nat) : Nat → Nat
  | 0 => g 0
  | c + 1 => if mxF g c < g (c + 1) then g (c + 1) else mxF g c
def mnF (g : Nat → Nat) : Nat → Nat
  | 0 => g 0
  | c + 1 => if g (c + 1) < mnF g c then g (c + 1) else mnF g c
theorem mxF_le {g : Nat → Nat} {m B : Nat} (h : ∀ i, i ≤ m → g i ≤ B) : mxF g m ≤ B := by
  induction m with
  | zero => exact h 0 (Nat.le_refl _)
  | succ m ih =>
    have h1 := ih (fun i hi => h i (by omega))
    have h2 := h (m + 1) (Nat.le_refl _)
    simp only [mxF]
    split <;> omega
theorem mnF_le {g : Nat → Nat} {m B : Nat} (h : ∀ i, i ≤ m → g i ≤ B) : mnF g m ≤ B := by
  induction m with
  | zero => exact h 0 (Nat.le_refl _)
  | succ m ih =>
    have h1 := ih (fun i hi => h i (by omega))
    have h2 := h (m + 1) (Nat.le_refl _)
    simp only [mnF]
    split <;> omega
theorem mn_mx (g : Nat → Nat) (m : Nat) : mnF g m ≤ mxF g m := by
  induction m with
  | zero => exact Nat.le_refl _
  | succ m ih =>
    simp only [mnF, mxF]
    split <;> split <;> omega
/-- the first year among the members of x below j (b without any), and the last one and one more (0 without any) -/
def spL (ph : Nat → Int32) (x : Int32) (g : Nat → Nat) (b : Nat) : Nat → Nat
  | 0 => b
  | j + 1 => if ph j = x then (if g j < spL ph x g b j then g j else spL ph x g b j) else spL ph x g b j
def spH (ph : Nat → Int32) (x : Int32) (g : Nat → Nat) : Nat → Nat
  | 0 => 0
  | j + 1 => if ph j = x then (if spH ph x g j < g j + 1 then g j + 1 else spH ph x g j) else spH ph x g j
theorem spL_le (ph : Nat → Int32) (x : Int32) (g : Nat → Nat) (b j : Nat) : spL ph x g b j ≤ b := by
  induction j with
  | zero => exact Nat.le_refl _
  | succ j ih =>
    simp only [spL]
    split
    · split <;> omega
    · exact ih
theorem spH_le {ph : Nat → Int32} {x : Int32} {g : Nat → Nat} {j B : Nat} (h : ∀ i, i < j → g i ≤ B) : spH ph x g j ≤ B + 1 := by
  induction j with
  | zero => exact Nat.zero_le _
  | succ j ih =>
    have h1 := ih (fun i hi => h i (by omega))
    have h2 := h j (by omega)
    simp only [spH]
    split
    · split <;> omega
    · exact h1
theorem sp_lh {ph : Nat → Int32} {x : Int32} {g : Nat → Nat} {b j : Nat} : spH ph x g j ≠ 0 → spL ph x g b j < spH ph x g j := by
  induction j with
  | zero => intro h; exact absurd rfl h
  | succ j ih =>
    simp only [spH, spL]
    by_cases h : ph j = x
    · rw [if_pos h, if_pos h]
      intro _
      by_cases h0 : spH ph x g j = 0
      · rw [h0]
        split <;> split <;> omega
      · have := ih h0
        split <;> split <;> omega
    · rw [if_neg h, if_neg h]
      exact ih
theorem spL_b {ph : Nat → Int32} {x : Int32} {g : Nat → Nat} {a b j : Nat} (h : ∀ i, i < j → g i < a ∧ g i < b) : spH ph x g j ≠ 0 → spL ph x g a j = spL ph x g b j := by
  induction j with
  | zero => intro h; exact absurd rfl h
  | succ j ih =>
    have hj := h j (by omega)
    simp only [spH, spL]
    by_cases hx : ph j = x
    · rw [if_pos hx, if_pos hx, if_pos hx]
      intro _
      by_cases h0 : spH ph x g j = 0
      · have e : ∀ q, spL ph x g q j = q := by
          have : ∀ i, i ≤ j → spH ph x g i = 0 := by
            intro i hi
            have mono : ∀ k, spH ph x g i ≤ spH ph x g (i + k) := by
              intro k
              induction k with
              | zero => exact Nat.le_refl _
              | succ k ihk =>
                refine Nat.le_trans ihk ?_
                show _ ≤ spH ph x g (i + k + 1)
                simp only [spH]
                split
                · split <;> omega
                · exact Nat.le_refl _
            have := mono (j - i)
            rw [show i + (j - i) = j by omega] at this
            omega
          intro q
          have key : ∀ i, i ≤ j → spL ph x g q i = q := by
            intro i
            induction i with
            | zero => intro _; rfl
            | succ i ihi =>
              intro hi
              have z := this (i + 1) hi
              simp only [spH] at z
              simp only [spL]
              by_cases hp : ph i = x
              · rw [if_pos hp] at z
                split at z <;> omega
              · rw [if_neg hp]
                exact ihi (by omega)
          exact key j (Nat.le_refl _)
        rw [e a, e b, if_pos hj.1, if_pos hj.2]
      · rw [ih (fun i hi => h i (by omega)) h0]
    · rw [if_neg hx, if_neg hx, if_neg hx]
      exact ih (fun i hi => h i (by omega))
theorem i_m1 {b : Nat} (hb : b < 2 ^ 30) : (-1 : Int32) < nI b := by
  rw [Int32.lt_iff_toInt_lt, nI_tri hb]
  show (-1 : Int) < _
  omega
/-- a last year that may be missing -/
def hI : Nat → Int32
  | 0 => -1
  | k + 1 => nI k
/-- the span of the members of x in the row g -/
def spV (ph : Nat → Int32) (x : Int32) (g : Nat → Nat) (nd : Nat) : Int32 := if spH ph x g nd = 0 then -1 else nI (spH ph x g nd - 1 - spL ph x g 256 nd)
theorem hI_mx {a b : Nat} (ha : a < 2 ^ 29) (hb : b < 2 ^ 29) : (if hI a < nI b then nI b else hI a) = hI (if a < b + 1 then b + 1 else a) := by
  cases a with
  | zero =>
    have h1 : (0 : Nat) < b + 1 := Nat.succ_pos b
    have h2 : (-1 : Int32) < nI b := i_m1 (by omega)
    rw [if_pos h1]
    exact if_pos h2
  | succ a =>
    show (if nI a < nI b then nI b else nI a) = _
    rw [mx_n (by omega) (by omega)]
    by_cases h : a < b
    · rw [if_pos h, if_pos (by omega)]; rfl
    · rw [if_neg h, if_neg (by omega)]; rfl
theorem hI_m1 {a : Nat} (ha : a < 2 ^ 29) : hI a = -1 ↔ a = 0 := by
  cases a with
  | zero => exact ⟨fun _ => rfl, fun _ => rfl⟩
  | succ a =>
    refine ⟨fun h => ?_, fun h => by omega⟩
    have h1 : nI a = -1 := h
    have h2 := i_m1 (b := a) (by omega)
    rw [h1] at h2
    exact absurd h2 (by decide)
theorem hI_s {a : Nat} (h : a ≠ 0) : hI a = nI (a - 1) := by
  cases a with
  | zero => exact absurd rfl h
  | succ a => rfl
