/-! THE REFERENCE'S DRAW, pure -/
theorem upd_uu (g : Nat → Int32) (k : Nat) (a b : Int32) : upd (upd g k a) k b = upd g k b := by
  funext i
  unfold upd
  by_cases h : i = k
  · rw [if_pos h, if_pos h]
  · rw [if_neg h, if_neg h, if_neg h]
theorem upd_id (g : Nat → Int32) (k : Nat) : upd g k (g k) = g := by
  funext i
  unfold upd
  by_cases h : i = k
  · rw [if_pos h, h]
  · rw [if_neg h]
theorem i_sa (a : Int32) : a - 1 + 1 = a := by simp
theorem in_sub {a b c e : Nat} (ha : a < 2 ^ 29) (hb : b < 2 ^ 29) (hc : c < 2 ^ 29) (he : e < 2 ^ 29) : (nI c ≤ nI a - nI b ∧ nI a - nI b ≤ nI e) ↔ (b + c ≤ a ∧ a ≤ b + e) := by
  rw [Int32.le_iff_toInt_le, Int32.le_iff_toInt_le, pk_sub_toInt (by omega) (by omega), nI_tri (by omega), nI_tri (by omega)]
  omega
section SO
variable {nd no : Nat} {f la : Nat → Nat} {w : Nat → Nat → Nat} {ea lt le mo : Nat → Nat} {d v j : Nat} {y : Nat → Nat}
theorem sOk_s : sOk f la ea lt le mo d y v (j + 1) ↔ sOk f la ea lt le mo d y v j ∧ ((lt j = d → y (ea j) + le j ≤ v ∧ v ≤ y (ea j) + mo j) ∧ (ea j = d → v + le j ≤ y (lt j) ∧ y (lt j) ≤ v + mo j)) := by
  constructor
  · intro h
    exact ⟨⟨h.1, h.2.1, fun k hk => h.2.2 k (by omega)⟩, h.2.2 j (by omega)⟩
  · intro h
    refine ⟨h.1.1, h.1.2.1, fun k hk => ?_⟩
    by_cases e : k = j
    · rw [e]; exact h.2
    · exact h.1.2.2 k (by omega)
theorem sOk_miss (h1 : ¬ ea j = d) (h2 : ¬ lt j = d) : sOk f la ea lt le mo d y v (j + 1) ↔ sOk f la ea lt le mo d y v j := by
  rw [sOk_s]
  exact ⟨fun q => q.1, fun q => ⟨q, fun e => absurd e h2, fun e => absurd e h1⟩⟩
theorem sOk_hit (hne : ea j ≠ lt j) (h : ea j = d ∨ lt j = d) : sOk f la ea lt le mo d y v (j + 1) ↔ sOk f la ea lt le mo d y v j ∧ (va_up y d v (ea j) + le j ≤ va_up y d v (lt j) ∧ va_up y d v (lt j) ≤ va_up y d v (ea j) + mo j) := by
  rw [sOk_s]
  rcases h with e | e
  · have h2 : ¬ lt j = d := fun q => hne (by omega)
    have e1 : va_up y d v (ea j) = v := by rw [e, va_up_self]
    have e2 : va_up y d v (lt j) = y (lt j) := va_up_ne _ _ h2
    rw [e1, e2]
    exact ⟨fun q => ⟨q.1, q.2.2 e⟩, fun q => ⟨q.1, fun z => absurd z h2, fun _ => q.2⟩⟩
  · have h2 : ¬ ea j = d := fun q => hne (by omega)
    have e1 : va_up y d v (lt j) = v := by rw [e, va_up_self]
    have e2 : va_up y d v (ea j) = y (ea j) := va_up_ne _ _ h2
    rw [e1, e2]
    exact ⟨fun q => ⟨q.1, q.2.1 e⟩, fun q => ⟨q.1, fun _ => q.2, fun z => absurd z h2⟩⟩
end SO
/-- a year's weight where all orders hold, else none -/
def gW (lo hi : Nat) (g : Nat → Nat) : Nat → Nat := fun v => if lo ≤ v ∧ v ≤ hi then g v else 0
theorem sSum_cons (g : Nat → Nat) (i k : Nat) : sSum g i (k + 1) = g i + sSum g (i + 1) k := by
  induction k with
  | zero => show 0 + g (i + 0) = g i + 0; rw [Nat.add_zero]; omega
  | succ k ih =>
    show sSum g i (k + 1) + g (i + (k + 1)) = g i + (sSum g (i + 1) k + g (i + 1 + k))
    rw [ih, show i + (k + 1) = i + 1 + k by omega]
    omega
theorem gW_sum {lo hi f : Nat} (g : Nat → Nat) (h1 : f ≤ lo) (h2 : lo ≤ hi) (m : Nat) : sSum (gW lo hi g) f m = sSum g lo ((if f + m ≤ hi + 1 then f + m else hi + 1) - lo) := by
  induction m with
  | zero =>
    rw [if_pos (by omega), show f + 0 - lo = 0 by omega]
    rfl
  | succ m ih =>
    show sSum (gW lo hi g) f m + gW lo hi g (f + m) = _
    rw [ih]
    by_cases q1 : lo ≤ f + m
    · by_cases q2 : f + m ≤ hi
      · have c : gW lo hi g (f + m) = g (f + m) := if_pos ⟨q1, q2⟩
        have A : (if f + m ≤ hi + 1 then f + m else hi + 1) = f + m := if_pos (by omega)
        have B : (if f + (m + 1) ≤ hi + 1 then f + (m + 1) else hi + 1) = f + m + 1 := if_pos (by omega)
        rw [c, A, B, sSum_succ q1]
      · have c : gW lo hi g (f + m) = 0 := if_neg (fun z => q2 z.2)
        have A : (if f + m ≤ hi + 1 then f + m else hi + 1) = hi + 1 := by
          by_cases q3 : f + m ≤ hi + 1
          · rw [if_pos q3]; omega
          · exact if_neg q3
        have B : (if f + (m + 1) ≤ hi + 1 then f + (m + 1) else hi + 1) = hi + 1 := if_neg (by omega)
        rw [c, A, B, Nat.add_zero]
    · have c : gW lo hi g (f + m) = 0 := if_neg (fun z => q1 z.1)
      have A : (if f + m ≤ hi + 1 then f + m else hi + 1) = f + m := if_pos (by omega)
      have B : (if f + (m + 1) ≤ hi + 1 then f + (m + 1) else hi + 1) = f + m + 1 := if_pos (by omega)
      rw [c, A, B, show f + m - lo = 0 by omega, show f + m + 1 - lo = 0 by omega]
      rfl
theorem sSum_mono (g : Nat → Nat) (lo : Nat) {a b : Nat} (h : a ≤ b) : sSum g lo a ≤ sSum g lo b := by
  induction b with
  | zero => rw [show a = 0 by omega]; exact Nat.le_refl _
  | succ b ih =>
    rcases Nat.lt_or_ge a (b + 1) with q | q
    · have := ih (by omega)
      show _ ≤ sSum g lo b + _
      omega
    · rw [show a = b + 1 by omega]; exact Nat.le_refl _
theorem sPick_spec (g : Nat → Nat) (m i r : Nat) (h : r < sSum g i (m + 1)) : sSum g i (sPick g m i r - i) ≤ r ∧ r < sSum g i (sPick g m i r + 1 - i) := by
  induction m generalizing i r with
  | zero =>
    have h' : r < 0 + g (i + 0) := h
    show sSum g i (i - i) ≤ r ∧ r < sSum g i (i + 1 - i)
    rw [show i - i = 0 by omega, show i + 1 - i = 0 + 1 by omega]
    exact ⟨Nat.zero_le _, h⟩
  | succ m ih =>
    simp only [sPick]
    by_cases q : r < g i
    · rw [if_pos q, show i - i = 0 by omega, show i + 1 - i = 0 + 1 by omega]
      refine ⟨Nat.zero_le _, ?_⟩
      show r < 0 + g (i + 0)
      rw [Nat.add_zero]
      omega
    · rw [if_neg q]
      rw [sSum_cons] at h
      obtain ⟨a, b⟩ := ih (i + 1) (r - g i) (by omega)
      have hp := sPick_le g m (i + 1) (r - g i)
      generalize sPick g m (i + 1) (r - g i) = p at a b hp ⊢
      rw [show p - i = (p - (i + 1)) + 1 by omega, show p + 1 - i = (p + 1 - (i + 1)) + 1 by omega, sSum_cons, sSum_cons]
      omega
section DE
variable {nd no : Nat} {f la : Nat → Nat} {w : Nat → Nat → Nat} {ea lt le mo : Nat → Nat} {d : Nat} {y : Nat → Nat}
theorem gW_tot (hwf : wfS nd no f la w ea lt le mo) (hy : wfY nd no f la ea lt le mo y) (hd : d < nd) : sSum (gW (sLo f ea lt le mo d y no) (sHi la ea lt le mo d y no) (fun q => w d (q - f d))) (f d) (la d + 1 - f d) = sSum (fun q => w d (q - f d)) (sLo f ea lt le mo d y no) (sHi la ea lt le mo d y no + 1 - sLo f ea lt le mo d y no) := by
  have h1 := wfY_lh hwf hy hd
  have h2 : f d ≤ sLo f ea lt le mo d y no := sLo_ge no
  have h3 : sHi la ea lt le mo d y no ≤ la d := sHi_la no
  rw [gW_sum _ h2 h1]
  by_cases q : la d = sHi la ea lt le mo d y no
  · rw [if_pos (by omega), show f d + (la d + 1 - f d) = sHi la ea lt le mo d y no + 1 by omega]
  · rw [if_neg (by omega)]
theorem gW_pick (hwf : wfS nd no f la w ea lt le mo) (hy : wfY nd no f la ea lt le mo y) (hd : d < nd) {x v : Nat} (hv : f d ≤ v)
    (h1 : sSum (gW (sLo f ea lt le mo d y no) (sHi la ea lt le mo d y no) (fun q => w d (q - f d))) (f d) (v - f d) ≤ x % sSum (gW (sLo f ea lt le mo d y no) (sHi la ea lt le mo d y no) (fun q => w d (q - f d))) (f d) (la d + 1 - f d))
    (h2 : x % sSum (gW (sLo f ea lt le mo d y no) (sHi la ea lt le mo d y no) (fun q => w d (q - f d))) (f d) (la d + 1 - f d) < sSum (gW (sLo f ea lt le mo d y no) (sHi la ea lt le mo d y no) (fun q => w d (q - f d))) (f d) (v + 1 - f d)) : v = dY no f la w ea lt le mo d y x := by
  rw [gW_tot hwf hy hd] at h1 h2
  have a1 := wfY_lh hwf hy hd
  have a2 : f d ≤ sLo f ea lt le mo d y no := sLo_ge no
  rw [gW_sum _ a2 a1, show f d + (v - f d) = v by omega] at h1
  rw [gW_sum _ a2 a1, show f d + (v + 1 - f d) = v + 1 by omega] at h2
  unfold dY
  have hpos : 0 < sSum (fun q => w d (q - f d)) (sLo f ea lt le mo d y no) (sHi la ea lt le mo d y no + 1 - sLo f ea lt le mo d y no) := by
    refine sSum_pos (by omega) (fun i hi => ?_)
    have h3 : sHi la ea lt le mo d y no ≤ la d := sHi_la no
    have h4 := hwf.2.2.1 d hd
    exact (h4.2.2.2 _ (by omega)).1
  have hr := Nat.mod_lt x hpos
  generalize x % sSum (fun q => w d (q - f d)) (sLo f ea lt le mo d y no) (sHi la ea lt le mo d y no + 1 - sLo f ea lt le mo d y no) = r at h1 h2 hr ⊢
  generalize sLo f ea lt le mo d y no = lo at *
  generalize sHi la ea lt le mo d y no = hi at *
  generalize (fun q => w d (q - f d)) = g at *
  have s1 := sPick_spec g (hi - lo) lo r (by rw [show hi - lo + 1 = hi + 1 - lo by omega]; exact hr)
  have s2 := sPick_le g (hi - lo) lo r
  generalize sPick g (hi - lo) lo r = p at s1 s2 ⊢
  have b1 : v ≤ hi := by
    rcases Nat.lt_or_ge hi v with q | q
    · exfalso
      rw [if_neg (by omega)] at h2
      by_cases e : v = hi + 1
      · rw [if_pos (by omega), e] at h1; omega
      · rw [if_neg (by omega)] at h1; omega
    · exact q
  rw [if_pos (by omega)] at h1 h2
  have b2 : lo ≤ v := by
    rcases Nat.lt_or_ge v lo with q | q
    · exfalso
      rw [show v + 1 - lo = 0 by omega] at h2
      exact absurd h2 (Nat.not_lt_zero _)
    · exact q
  rcases Nat.lt_trichotomy v p with q | q | q
  · exfalso
    have := sSum_mono g lo (show v + 1 - lo ≤ p - lo by omega)
    omega
  · exact q
  · exfalso
    have := sSum_mono g lo (show p + 1 - lo ≤ v - lo by omega)
    omega
end DE
