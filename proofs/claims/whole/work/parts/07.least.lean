/-! LEAST YEARS, on whole numbers: rounds over the orders reach the least years within eight rounds where there are any -/
def ly_rz (y : Nat → Int) (b : Nat) (v : Int) : Nat → Int := fun d => if d = b then (if y b < v then v else y b) else y d
theorem ly_rz_ge (y : Nat → Int) (b : Nat) (v : Int) (d : Nat) : y d ≤ ly_rz y b v d := by
  unfold ly_rz
  by_cases h : d = b
  · subst h
    rw [if_pos rfl]
    split <;> omega
  · rw [if_neg h]
    exact Int.le_refl _
theorem ly_rz_at (y : Nat → Int) (b : Nat) (v : Int) : v ≤ ly_rz y b v b := by
  unfold ly_rz
  rw [if_pos rfl]
  split <;> omega
theorem ly_rz_le {y z : Nat → Int} {b n : Nat} {v : Int} (h : ∀ d, d < n → y d ≤ z d) (hb : b < n) (hv : v ≤ z b) : ∀ d, d < n → ly_rz y b v d ≤ z d := by
  intro d hd
  unfold ly_rz
  by_cases e : d = b
  · subst e
    rw [if_pos rfl]
    have := h d hd
    split <;> omega
  · rw [if_neg e]
    exact h d hd
/-- one order: the later date is raised by the earlier one, then the earlier one by the later -/
def ly_o (a b : Nat → Nat) (le mo : Nat → Int) (j : Nat) (y : Nat → Int) : Nat → Int :=
  ly_rz (ly_rz y (b j) (y (a j) + le j)) (a j) ((ly_rz y (b j) (y (a j) + le j)) (b j) - mo j)
/-- the orders below j, from the first -/
def ly_r (a b : Nat → Nat) (le mo : Nat → Int) : Nat → (Nat → Int) → (Nat → Int)
  | 0, y => y
  | j + 1, y => ly_o a b le mo j (ly_r a b le mo j y)
/-- so many rounds over o orders -/
def ly_k (a b : Nat → Nat) (le mo : Nat → Int) (o : Nat) : Nat → (Nat → Int) → (Nat → Int)
  | 0, y => y
  | k + 1, y => ly_r a b le mo o (ly_k a b le mo o k y)
/-- all orders below o hold -/
def ly_H (o : Nat) (a b : Nat → Nat) (le mo : Nat → Int) (z : Nat → Int) : Prop := ∀ j, j < o → z (a j) + le j ≤ z (b j) ∧ z (b j) - mo j ≤ z (a j)
def ly_S (n o : Nat) (a b : Nat → Nat) (le mo f la : Nat → Int) (z : Nat → Int) : Prop := (∀ d, d < n → f d ≤ z d ∧ z d ≤ la d) ∧ ly_H o a b le mo z
def ly_M (n o : Nat) (a b : Nat → Nat) (le mo f la : Nat → Int) (z : Nat → Int) : Prop := ly_S n o a b le mo f la z ∧ ∀ w, ly_S n o a b le mo f la w → ∀ d, d < n → z d ≤ w d
section LY
variable {n o : Nat} {a b : Nat → Nat} {le mo f la : Nat → Int}
theorem ly_o_ge (j : Nat) (y : Nat → Int) (d : Nat) : y d ≤ ly_o a b le mo j y d := Int.le_trans (ly_rz_ge y (b j) _ d) (ly_rz_ge _ (a j) _ d)
theorem ly_o_b (j : Nat) (y : Nat → Int) : y (a j) + le j ≤ ly_o a b le mo j y (b j) := Int.le_trans (ly_rz_at y (b j) (y (a j) + le j)) (ly_rz_ge _ (a j) _ (b j))
theorem ly_o_a (j : Nat) (y : Nat → Int) : y (b j) - mo j ≤ ly_o a b le mo j y (a j) := by
  have h1 := ly_rz_ge y (b j) (y (a j) + le j) (b j)
  have h2 := ly_rz_at (ly_rz y (b j) (y (a j) + le j)) (a j) ((ly_rz y (b j) (y (a j) + le j)) (b j) - mo j)
  unfold ly_o
  omega
theorem ly_o_le {z y : Nat → Int} {j : Nat} (hz : z (a j) + le j ≤ z (b j) ∧ z (b j) - mo j ≤ z (a j)) (ha : a j < n) (hb : b j < n) (h : ∀ d, d < n → y d ≤ z d) : ∀ d, d < n → ly_o a b le mo j y d ≤ z d := by
  have h1 := ly_rz_le (v := y (a j) + le j) h hb (by have := h _ ha; omega)
  refine ly_rz_le h1 ha ?_
  have := h1 _ hb
  omega
theorem ly_r_ge (J : Nat) (y : Nat → Int) (d : Nat) : y d ≤ ly_r a b le mo J y d := by
  induction J with
  | zero => exact Int.le_refl _
  | succ J ih => exact Int.le_trans ih (ly_o_ge J _ d)
theorem ly_r_up {J K : Nat} (h : J ≤ K) (y : Nat → Int) (d : Nat) : ly_r a b le mo J y d ≤ ly_r a b le mo K y d := by
  induction K with
  | zero => rw [show J = 0 by omega]; exact Int.le_refl _
  | succ K ih =>
    by_cases e : J = K + 1
    · rw [e]; exact Int.le_refl _
    · exact Int.le_trans (ih (by omega)) (ly_o_ge K _ d)
theorem ly_r_b {J j : Nat} (h : j < J) (y : Nat → Int) : y (a j) + le j ≤ ly_r a b le mo J y (b j) := by
  have h1 := ly_r_ge (a := a) (b := b) (le := le) (mo := mo) j y (a j)
  have h2 : ly_r a b le mo j y (a j) + le j ≤ ly_r a b le mo (j + 1) y (b j) := ly_o_b j _
  have h3 := ly_r_up (a := a) (b := b) (le := le) (mo := mo) (show j + 1 ≤ J by omega) y (b j)
  omega
theorem ly_r_a {J j : Nat} (h : j < J) (y : Nat → Int) : y (b j) - mo j ≤ ly_r a b le mo J y (a j) := by
  have h1 := ly_r_ge (a := a) (b := b) (le := le) (mo := mo) j y (b j)
  have h2 : ly_r a b le mo j y (b j) - mo j ≤ ly_r a b le mo (j + 1) y (a j) := ly_o_a j _
  have h3 := ly_r_up (a := a) (b := b) (le := le) (mo := mo) (show j + 1 ≤ J by omega) y (a j)
  omega
theorem ly_r_le {z y : Nat → Int} (hz : ly_H o a b le mo z) (hab : ∀ j, j < o → a j < n ∧ b j < n) (h : ∀ d, d < n → y d ≤ z d) {J : Nat} (hJ : J ≤ o) : ∀ d, d < n → ly_r a b le mo J y d ≤ z d := by
  induction J with
  | zero => exact h
  | succ J ih => exact ly_o_le (hz J (by omega)) (hab J (by omega)).1 (hab J (by omega)).2 (ih (by omega))
/-- a round that makes no further date final: then all are -/
theorem ly_step {z y : Nat → Int} (hm : ly_M n o a b le mo f la z) (hab : ∀ j, j < o → a j < n ∧ b j < n) (hf : ∀ d, d < n → f d ≤ y d) (hy : ∀ d, d < n → y d ≤ z d) (hfin : ∀ d, d < n → ly_r a b le mo o y d = z d → y d = z d) : ∀ d, d < n → y d = z d := by
  obtain ⟨⟨hz1, hz2⟩, hl⟩ := hm
  have hle := ly_r_le (n := n) hz2 hab hy (Nat.le_refl o)
  have hw : ly_S n o a b le mo f la (fun d => if y d < z d then z d - 1 else z d) := by
    refine ⟨fun d hd => ?_, fun j hj => ?_⟩
    · have h1 := hz1 d hd
      have h2 := hf d hd
      show f d ≤ (if y d < z d then z d - 1 else z d) ∧ (if y d < z d then z d - 1 else z d) ≤ la d
      split <;> omega
    · obtain ⟨ha, hb⟩ := hab j hj
      have h1 := hz2 j hj
      have h2 := ly_r_b (a := a) (b := b) (le := le) (mo := mo) hj y
      have h3 := ly_r_a (a := a) (b := b) (le := le) (mo := mo) hj y
      have h4 := hle _ ha
      have h5 := hle _ hb
      have h6 := hy _ ha
      have h7 := hy _ hb
      have h8 := hfin _ ha
      have h9 := hfin _ hb
      show (if y (a j) < z (a j) then z (a j) - 1 else z (a j)) + le j ≤ (if y (b j) < z (b j) then z (b j) - 1 else z (b j)) ∧ (if y (b j) < z (b j) then z (b j) - 1 else z (b j)) - mo j ≤ (if y (a j) < z (a j) then z (a j) - 1 else z (a j))
      constructor
      · by_cases e1 : y (a j) < z (a j) <;> by_cases e2 : y (b j) < z (b j) <;> simp only [e1, e2, if_true, if_false] <;> omega
      · by_cases e1 : y (a j) < z (a j) <;> by_cases e2 : y (b j) < z (b j) <;> simp only [e1, e2, if_true, if_false] <;> omega
  intro d hd
  have h1 := hl _ hw d hd
  have h2 := hy d hd
  by_cases e : y d < z d
  · have h3 : z d ≤ (if y d < z d then z d - 1 else z d) := h1
    rw [if_pos e] at h3
    omega
  · omega
/-- how many dates below n are final -/
def ly_c (y z : Nat → Int) : Nat → Nat
  | 0 => 0
  | n + 1 => ly_c y z n + if y n = z n then 1 else 0
theorem ly_c_le (y z : Nat → Int) (n : Nat) : ly_c y z n ≤ n := by
  induction n with
  | zero => exact Nat.le_refl _
  | succ n ih => show ly_c y z n + (if y n = z n then 1 else 0) ≤ n + 1; split <;> omega
theorem ly_c_all {y z : Nat → Int} {n : Nat} (h : ly_c y z n = n) : ∀ d, d < n → y d = z d := by
  induction n with
  | zero => intro d hd; omega
  | succ n ih =>
    have h1 := ly_c_le y z n
    have h2 : ly_c y z n + (if y n = z n then 1 else 0) = n + 1 := h
    by_cases e : y n = z n
    · rw [if_pos e] at h2
      intro d hd
      by_cases e2 : d = n
      · rw [e2]; exact e
      · exact ih (by omega) d (by omega)
    · rw [if_neg e] at h2
      omega
theorem ly_c_of {y z : Nat → Int} {n : Nat} (h : ∀ d, d < n → y d = z d) : ly_c y z n = n := by
  induction n with
  | zero => rfl
  | succ n ih =>
    show ly_c y z n + (if y n = z n then 1 else 0) = n + 1
    rw [if_pos (h n (by omega)), ih (fun d hd => h d (by omega))]
theorem ly_c_mono {y y' z : Nat → Int} {n : Nat} (h : ∀ d, d < n → y d = z d → y' d = z d) : ly_c y z n ≤ ly_c y' z n := by
  induction n with
  | zero => exact Nat.le_refl _
  | succ n ih =>
    have h1 := ih (fun d hd => h d (by omega))
    show ly_c y z n + (if y n = z n then 1 else 0) ≤ ly_c y' z n + (if y' n = z n then 1 else 0)
    by_cases e : y n = z n
    · rw [if_pos e, if_pos (h n (by omega) e)]; omega
    · rw [if_neg e]; split <;> omega
theorem ly_c_lt {y y' z : Nat → Int} {n : Nat} (h : ∀ d, d < n → y d = z d → y' d = z d) (hx : ∃ d, d < n ∧ y' d = z d ∧ ¬ y d = z d) : ly_c y z n < ly_c y' z n := by
  induction n with
  | zero => obtain ⟨d, hd, -⟩ := hx; omega
  | succ n ih =>
    obtain ⟨d, hd, h1, h2⟩ := hx
    show ly_c y z n + (if y n = z n then 1 else 0) < ly_c y' z n + (if y' n = z n then 1 else 0)
    by_cases e : d = n
    · subst e
      rw [if_neg h2, if_pos h1]
      have := ly_c_mono (n := d) (fun q hq => h q (by omega))
      omega
    · have h3 := ih (fun q hq => h q (by omega)) ⟨d, by omega, h1, h2⟩
      by_cases e2 : y n = z n
      · rw [if_pos e2, if_pos (h n (by omega) e2)]; omega
      · rw [if_neg e2]; split <;> omega
theorem ly_k_ge (k : Nat) (y : Nat → Int) (d : Nat) : y d ≤ ly_k a b le mo o k y d := by
  induction k with
  | zero => exact Int.le_refl _
  | succ k ih => exact Int.le_trans ih (ly_r_ge o _ d)
theorem ly_k_le {z y : Nat → Int} (hz : ly_H o a b le mo z) (hab : ∀ j, j < o → a j < n ∧ b j < n) (h : ∀ d, d < n → y d ≤ z d) (k : Nat) : ∀ d, d < n → ly_k a b le mo o k y d ≤ z d := by
  induction k with
  | zero => exact h
  | succ k ih => exact ly_r_le hz hab ih (Nat.le_refl o)
theorem ly_k_c {z y : Nat → Int} (hm : ly_M n o a b le mo f la z) (hab : ∀ j, j < o → a j < n ∧ b j < n) (hf : ∀ d, d < n → f d ≤ y d) (hy : ∀ d, d < n → y d ≤ z d) (k : Nat) : ly_c (ly_k a b le mo o k y) z n = n ∨ k ≤ ly_c (ly_k a b le mo o k y) z n := by
  induction k with
  | zero => exact Or.inr (Nat.zero_le _)
  | succ k ih =>
    have hz := hm.1.2
    have h1 := ly_k_le hz hab hy k
    have h2 := ly_k_le hz hab hy (k + 1)
    have h3 : ∀ d, d < n → f d ≤ ly_k a b le mo o k y d := fun d hd => Int.le_trans (hf d hd) (ly_k_ge k y d)
    have h4 : ∀ d, d < n → ly_k a b le mo o k y d = z d → ly_k a b le mo o (k + 1) y d = z d := fun d hd e => by
      have h5 : ly_k a b le mo o k y d ≤ ly_k a b le mo o (k + 1) y d := ly_r_ge o _ d
      have h6 := h2 d hd
      omega
    by_cases e : ∀ d, d < n → ly_k a b le mo o k y d = z d
    · exact Or.inl (ly_c_of (fun d hd => h4 d hd (e d hd)))
    · have h5 : ∃ d, d < n ∧ ly_k a b le mo o (k + 1) y d = z d ∧ ¬ ly_k a b le mo o k y d = z d := by
        refine Classical.byContradiction fun hno => e (ly_step hm hab h3 h1 (fun d hd hq => ?_))
        exact Classical.byContradiction fun hne => hno ⟨d, hd, hq, hne⟩
      have h6 := ly_c_lt h4 h5
      rcases ih with ih | ih
      · exact absurd (ly_c_all ih) e
      · exact Or.inr (by omega)
/-- eight rounds are enough for eight dates -/
theorem ly_k8 {z y : Nat → Int} (hm : ly_M n o a b le mo f la z) (hab : ∀ j, j < o → a j < n ∧ b j < n) (hf : ∀ d, d < n → f d ≤ y d) (hy : ∀ d, d < n → y d ≤ z d) (hn : n ≤ 8) {k : Nat} (hk : 8 ≤ k) : ∀ d, d < n → ly_k a b le mo o k y d = z d := by
  have h := ly_c_le (ly_k a b le mo o k y) z n
  rcases ly_k_c hm hab hf hy k with e | e
  · exact ly_c_all e
  · exact ly_c_all (by omega)
/-- a round without a rise: all orders hold -/
theorem ly_fix {y : Nat → Int} (hab : ∀ j, j < o → a j < n ∧ b j < n) (h : ∀ d, d < n → ly_r a b le mo o y d = y d) : ly_H o a b le mo y := by
  intro j hj
  obtain ⟨ha, hb⟩ := hab j hj
  have h1 := ly_r_b (a := a) (b := b) (le := le) (mo := mo) hj y
  have h2 := ly_r_a (a := a) (b := b) (le := le) (mo := mo) hj y
  rw [h _ hb] at h1
  rw [h _ ha] at h2
  exact ⟨h1, h2⟩
/-- the sum of what lies above f -/
def ly_s (f w : Nat → Int) : Nat → Int
  | 0 => 0
  | n + 1 => ly_s f w n + (w n - f n)
theorem ly_s_lt {f w v : Nat → Int} {n : Nat} (h : ∀ d, d < n → v d ≤ w d) (hx : ∃ d, d < n ∧ v d < w d) : ly_s f v n < ly_s f w n := by
  have hle : ∀ n, (∀ d, d < n → v d ≤ w d) → ly_s f v n ≤ ly_s f w n := by
    intro n
    induction n with
    | zero => intro _; exact Int.le_refl _
    | succ n ih =>
      intro h
      have h1 := ih (fun d hd => h d (by omega))
      have h2 := h n (by omega)
      show ly_s f v n + (v n - f n) ≤ ly_s f w n + (w n - f n)
      omega
  induction n with
  | zero => obtain ⟨d, hd, -⟩ := hx; omega
  | succ n ih =>
    obtain ⟨d, hd, hlt⟩ := hx
    have h2 := h n (by omega)
    show ly_s f v n + (v n - f n) < ly_s f w n + (w n - f n)
    by_cases e : d = n
    · subst e
      have := hle d (fun q hq => h q (by omega))
      omega
    · have := ih (fun q hq => h q (by omega)) ⟨d, by omega, hlt⟩
      omega
theorem ly_s_nn {f w : Nat → Int} {n : Nat} (h : ∀ d, d < n → f d ≤ w d) : 0 ≤ ly_s f w n := by
  induction n with
  | zero => exact Int.le_refl _
  | succ n ih =>
    have h1 := ih (fun d hd => h d (by omega))
    have h2 := h n (by omega)
    show 0 ≤ ly_s f w n + (w n - f n)
    omega
theorem ly_min {w v : Nat → Int} (hw : ly_S n o a b le mo f la w) (hv : ly_S n o a b le mo f la v) : ly_S n o a b le mo f la (fun d => if v d < w d then v d else w d) := by
  refine ⟨fun d hd => ?_, fun j hj => ?_⟩
  · have h1 := hw.1 d hd
    have h2 := hv.1 d hd
    show f d ≤ (if v d < w d then v d else w d) ∧ (if v d < w d then v d else w d) ≤ la d
    split <;> omega
  · have h1 := hw.2 j hj
    have h2 := hv.2 j hj
    show (if v (a j) < w (a j) then v (a j) else w (a j)) + le j ≤ (if v (b j) < w (b j) then v (b j) else w (b j)) ∧ (if v (b j) < w (b j) then v (b j) else w (b j)) - mo j ≤ (if v (a j) < w (a j) then v (a j) else w (a j))
    by_cases e1 : v (a j) < w (a j) <;> by_cases e2 : v (b j) < w (b j) <;> simp only [e1, e2, if_true, if_false] <;> constructor <;> omega
/-- where there are such years, there are least ones -/
theorem ly_ex : ∀ (N : Nat) (w : Nat → Int), ly_s f w n < N → ly_S n o a b le mo f la w → ∃ z, ly_M n o a b le mo f la z := by
  intro N
  induction N with
  | zero =>
    intro w h1 h2
    have := ly_s_nn (fun d hd => (h2.1 d hd).1)
    omega
  | succ N ih =>
    intro w h1 h2
    by_cases e : ∀ v, ly_S n o a b le mo f la v → ∀ d, d < n → w d ≤ v d
    · exact ⟨w, h2, e⟩
    · have hx : ∃ v, ly_S n o a b le mo f la v ∧ ∃ d, d < n ∧ v d < w d := by
        refine Classical.byContradiction fun hno => e (fun v hv d hd => ?_)
        refine Classical.byContradiction fun hlt => hno ⟨v, hv, d, hd, by omega⟩
      obtain ⟨v, hv, d, hd, hlt⟩ := hx
      refine ih (fun d => if v d < w d then v d else w d) ?_ (ly_min h2 hv)
      have h3 : ly_s f (fun d => if v d < w d then v d else w d) n < ly_s f w n := ly_s_lt (fun q _ => by show (if v q < w q then v q else w q) ≤ w q; split <;> omega) ⟨d, hd, by show (if v d < w d then v d else w d) < w d; rw [if_pos hlt]; exact hlt⟩
      omega
end LY
