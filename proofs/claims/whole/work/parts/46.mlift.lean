/-! THE REFERENCE'S LEAST YEARS, pure -/
def qO (ea lt le mo : Nat → Nat) (j : Nat) (y : Nat → Nat) : Nat → Nat := if y (lt j) < y (ea j) + le j then va_up y (lt j) (y (ea j) + le j) else if y (ea j) + mo j < y (lt j) then va_up y (ea j) (y (lt j) - mo j) else y
def qR (ea lt le mo : Nat → Nat) : Nat → (Nat → Nat) → (Nat → Nat)
  | 0, y => y
  | j + 1, y => qO ea lt le mo j (qR ea lt le mo j y)
section QR
variable {nd no : Nat} {f la : Nat → Nat} {w : Nat → Nat → Nat} {ea lt le mo : Nat → Nat}
theorem qO_ge (j : Nat) (y : Nat → Nat) (d : Nat) : y d ≤ qO ea lt le mo j y d := by
  unfold qO
  split
  · unfold va_up; split
    · subst_vars; omega
    · exact Nat.le_refl _
  · split
    · unfold va_up; split
      · subst_vars; omega
      · exact Nat.le_refl _
    · exact Nat.le_refl _
theorem qR_ge (J : Nat) (y : Nat → Nat) (d : Nat) : y d ≤ qR ea lt le mo J y d := by
  induction J with
  | zero => exact Nat.le_refl _
  | succ J ih => exact Nat.le_trans ih (qO_ge J _ d)
theorem qR_up {J K : Nat} (h : J ≤ K) (y : Nat → Nat) (d : Nat) : qR ea lt le mo J y d ≤ qR ea lt le mo K y d := by
  induction K with
  | zero => rw [show J = 0 by omega]; exact Nat.le_refl _
  | succ K ih =>
    rcases Nat.lt_or_ge J (K + 1) with q | q
    · exact Nat.le_trans (ih (by omega)) (qO_ge K _ d)
    · rw [show J = K + 1 by omega]; exact Nat.le_refl _
theorem qR_le (hwf : wfS nd no f la w ea lt le mo) {y : Nat → Nat} {B : Nat} (hb : ∀ d, d < nd → y d ≤ B) {J : Nat} (hJ : J ≤ no) : ∀ d, d < nd → qR ea lt le mo J y d ≤ B + 255 * J := by
  induction J with
  | zero => exact hb
  | succ J ih =>
    intro d hd
    have h1 := ih (by omega)
    obtain ⟨h2, h3, h4, h5, h6⟩ := hwf.2.2.2 J (by omega)
    have a1 := h1 d hd
    have a2 := h1 _ h2
    have a3 := h1 _ h3
    show qO ea lt le mo J (qR ea lt le mo J y) d ≤ _
    unfold qO
    split
    · unfold va_up; split <;> omega
    · split
      · unfold va_up; split <;> omega
      · omega
theorem qR_z (hwf : wfS nd no f la w ea lt le mo) {z : Nat → Int} (hz : yS nd no f la ea lt le mo z) {y : Nat → Nat} (hy : ∀ d, d < nd → (y d : Int) ≤ z d) {J : Nat} (hJ : J ≤ no) : ∀ d, d < nd → ((qR ea lt le mo J y d : Nat) : Int) ≤ z d := by
  induction J with
  | zero => exact hy
  | succ J ih =>
    intro d hd
    have h1 := ih (by omega)
    obtain ⟨h2, h3, h4, h5, h6⟩ := hwf.2.2.2 J (by omega)
    have o := hz.2 J (by omega)
    dsimp only at o
    have a1 := h1 d hd
    have a2 := h1 _ h2
    have a3 := h1 _ h3
    show ((qO ea lt le mo J (qR ea lt le mo J y) d : Nat) : Int) ≤ _
    unfold qO
    split
    · unfold va_up; split
      · subst_vars; omega
      · exact a1
    · split
      · unfold va_up; split
        · subst_vars; omega
        · exact a1
      · exact a1
theorem q_fix (hwf : wfS nd no f la w ea lt le mo) {y : Nat → Nat} (h : ∀ d, d < nd → qR ea lt le mo no y d = y d) : ∀ j, j < no → y (ea j) + le j ≤ y (lt j) ∧ y (lt j) ≤ y (ea j) + mo j := by
  intro j hj
  obtain ⟨h2, h3, h4, h5, h6⟩ := hwf.2.2.2 j hj
  have e : ∀ d, d < nd → ∀ J, J ≤ no → qR ea lt le mo J y d = y d := fun d hd J hJ => by
    have a := qR_ge (ea := ea) (lt := lt) (le := le) (mo := mo) J y d
    have b := qR_up (ea := ea) (lt := lt) (le := le) (mo := mo) hJ y d
    have c := h d hd
    omega
  have e1 := e _ h2 j (by omega)
  have e2 := e _ h3 j (by omega)
  have s1 : qO ea lt le mo j (qR ea lt le mo j y) (ea j) = y (ea j) := e _ h2 (j + 1) (by omega)
  have s2 : qO ea lt le mo j (qR ea lt le mo j y) (lt j) = y (lt j) := e _ h3 (j + 1) (by omega)
  unfold qO at s1 s2
  rw [e1, e2] at s1 s2
  by_cases q1 : y (lt j) < y (ea j) + le j
  · rw [if_pos q1, va_up_self] at s2
    omega
  · rw [if_neg q1] at s1
    by_cases q2 : y (ea j) + mo j < y (lt j)
    · rw [if_pos q2, va_up_self] at s1
      omega
    · omega
theorem m_yes (hwf : wfS nd no f la w ea lt le mo) {y : Nat → Nat} (h1 : ∀ d, d < nd → f d ≤ y d) (h2 : ∀ d, d < nd → y d ≤ la d) (ho : ∀ j, j < no → y (ea j) + le j ≤ y (lt j) ∧ y (lt j) ≤ y (ea j) + mo j) (hz : ∀ z, yS nd no f la ea lt le mo z → ∀ d, d < nd → (y d : Int) ≤ z d) : yM nd no f la ea lt le mo y := by
  refine ⟨⟨fun d hd => ⟨?_, ?_⟩, fun j hj => ?_⟩, hz⟩
  · have := h1 d hd; dsimp only; omega
  · have := h2 d hd; dsimp only; omega
  · have := ho j hj
    dsimp only
    omega
theorem m_no {y : Nat → Nat} (h2 : ¬ ∀ d, d < nd → y d ≤ la d) (hz : ∀ z, yS nd no f la ea lt le mo z → ∀ d, d < nd → (y d : Int) ≤ z d) : ¬ ∃ z, yS nd no f la ea lt le mo z := fun ⟨z, h⟩ => h2 (fun d hd => by
  have a := hz z h d hd
  have b := (h.1 d hd).2
  dsimp only at b
  omega)
theorem sS_lt {y v : Nat → Nat} {m : Nat} (h : ∀ d, d < m → y d ≤ v d) (h2 : ∃ d, d < m ∧ y d < v d) : sS y m + 1 ≤ sS v m := by
  induction m with
  | zero => obtain ⟨d, hd, _⟩ := h2; omega
  | succ m ih =>
    have mono : ∀ k, k ≤ m → sS y k ≤ sS v k := by
      intro k
      induction k with
      | zero => intro _; exact Nat.le_refl _
      | succ k ik =>
        intro hk
        have := ik (by omega)
        have := h k (by omega)
        show sS y k + y k ≤ sS v k + v k
        omega
    show sS y m + y m + 1 ≤ sS v m + v m
    have hm := h m (by omega)
    obtain ⟨d, hd, hlt⟩ := h2
    by_cases e : d = m
    · subst e
      have := mono d (Nat.le_refl _)
      omega
    · have := ih (fun d hd => h d (by omega)) ⟨d, by omega, hlt⟩
      omega
end QR
def rwM (nd ch : Nat) (row : Nat → Int32) (y : Nat → Nat) : Prop := ∀ i, i < nd → row (8 * ch + i) = nI (y i)
theorem rwM.put {nd ch : Nat} {row : Nat → Int32} {y : Nat → Nat} (h : rwM nd ch row y) (b v : Nat) {x : Int32} (hx : x = nI v) : rwM nd ch (upd row (8 * ch + b) x) (va_up y b v) := by
  intro i hi
  unfold upd va_up
  by_cases e : i = b
  · rw [if_pos (by omega), if_pos e]; exact hx
  · rw [if_neg (by omega), if_neg e]; exact h i hi
/-- the way to the least years -/
def lfI (nd no : Nat) (f la ea lt le mo : Nat → Nat) (y : Nat → Nat) : Prop := (∀ d, d < nd → f d ≤ y d ∧ y d ≤ 6375) ∧ ∀ z, yS nd no f la ea lt le mo z → ∀ d, d < nd → (y d : Int) ≤ z d
theorem lfI_0 {nd no : Nat} {f la : Nat → Nat} {w : Nat → Nat → Nat} {ea lt le mo : Nat → Nat} (hwf : wfS nd no f la w ea lt le mo) : lfI nd no f la ea lt le mo f := ⟨fun d hd => by have := hwf.2.2.1 d hd; omega, fun z hz d hd => (hz.1 d hd).1⟩
theorem lfI_s {nd no : Nat} {f la : Nat → Nat} {w : Nat → Nat → Nat} {ea lt le mo : Nat → Nat} (hwf : wfS nd no f la w ea lt le mo) {y : Nat → Nat} (h : lfI nd no f la ea lt le mo y) (hl : ∀ d, d < nd → y d ≤ la d) : lfI nd no f la ea lt le mo (qR ea lt le mo no y) := by
  refine ⟨fun d hd => ?_, fun z hz => qR_z hwf hz (h.2 z hz) (Nat.le_refl _)⟩
  have a := qR_ge (ea := ea) (lt := lt) (le := le) (mo := mo) no y d
  have b := (h.1 d hd).1
  have c := qR_le (y := y) hwf (B := 255) (fun d hd => by have := hl d hd; have := hwf.2.2.1 d hd; omega) (Nat.le_refl no) d hd
  have := hwf.2.1
  omega
/-- copying chain 0 to the chains below c, the first j dates of chain c too -/
def cpC (nd : Nat) (y : Nat → Nat) (row : Nat → Int32) (c j : Nat) : Prop := (∀ i, i < nd → row i = nI (y i)) ∧ (∀ c', c' < c → ∀ i, i < nd → row (8 * c' + i) = nI (y i)) ∧ ∀ i, i < j → row (8 * c + i) = nI (y i)
theorem cpC_s {nd : Nat} {y : Nat → Nat} {row : Nat → Int32} {c j : Nat} (h8 : nd ≤ 8) (h : cpC nd y row c j) (hj : j < nd) : cpC nd y (upd row (8 * c + j) (nI (y j))) c (j + 1) := by
  obtain ⟨h1, h2, h3⟩ := h
  refine ⟨fun i hi => ?_, fun c' hc i hi => ?_, fun i hi => ?_⟩
  · by_cases e : i = 8 * c + j
    · have : c = 0 := by omega
      subst this
      rw [e, pk_us, show 8 * 0 + j = j by omega]
    · rw [pk_un e]; exact h1 i hi
  · rw [pk_un (by omega)]; exact h2 c' hc i hi
  · by_cases e : i = j
    · rw [e, pk_us]
    · rw [pk_un (by omega)]; exact h3 i (by omega)
theorem cpC_n {nd : Nat} {y : Nat → Nat} {row : Nat → Int32} {c : Nat} (h : cpC nd y row c nd) : cpC nd y row (c + 1) 0 := by
  obtain ⟨h1, h2, h3⟩ := h
  refine ⟨h1, fun c' hc i hi => ?_, fun i hi => absurd hi (Nat.not_lt_zero _)⟩
  by_cases e : c' = c
  · rw [e]; exact h3 i hi
  · exact h2 c' (by omega) i hi
theorem up_cm {α : Type} (g : Nat → α) {a b : Nat} (h : a ≠ b) (x y : α) : va_up (va_up g a x) b y = va_up (va_up g b y) a x := by
  funext k
  unfold va_up
  by_cases h1 : k = b
  · rw [if_pos h1, if_neg (by omega), if_pos h1]
  · rw [if_neg h1]
    by_cases h2 : k = a
    · rw [if_pos h2, if_pos h2]
    · rw [if_neg h2, if_neg h2, if_neg h1]
