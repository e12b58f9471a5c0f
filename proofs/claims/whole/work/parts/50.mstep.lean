/-! THE REFERENCE'S STEP, pure: the chains below j have stepped on -/
def mS (n nd no : Nat) (f la : Nat → Nat) (w : Nat → Nat → Nat) (ea lt le mo : Nat → Nat) (Y : Nat → Nat → Nat) (st : Nat → Int64) (Rw : Nat → Nat → Nat → Nat) (kp sp bu ev : Nat) (I : tI) (L : tL) (j : Nat) (J : tI) (K : tL) : Prop :=
  ((∀ k, k ≠ 200 → k ≠ 209 → k ≠ 211 → J k = I k) ∧ J 200 = upd (I 200) 16 (nI (sp + 1)) ∧ ∀ k, k ≠ 210 → K k = L k) ∧
  (∀ c, c < n → (c < j → K 210 c = nS nd no f la w ea lt le mo Y st c ∧ rwM nd c (J 209) (nY nd no f la w ea lt le mo Y st c) ∧ (kN bu ev (sp + 1) = 1 → ∀ d, d < nd → J 211 (8 * (60 * c + kp) + d) = nI (nY nd no f la w ea lt le mo Y st c d))) ∧ (j ≤ c → K 210 c = st c ∧ rwM nd c (J 209) (Y c))) ∧
  ∀ c, c < n → ∀ k, k < kp → ∀ d, d < nd → J 211 (8 * (60 * c + k) + d) = nI (Rw c k d)
section MS
variable {n nd no : Nat} {f la : Nat → Nat} {w : Nat → Nat → Nat} {ea lt le mo : Nat → Nat} {Y : Nat → Nat → Nat} {st : Nat → Int64} {Rw : Nat → Nat → Nat → Nat} {kp sp bu ev : Nat} {I J : tI} {L K : tL} {j : Nat}
theorem mS_s (h : mS n nd no f la w ea lt le mo Y st Rw kp sp bu ev I L j J K) (hj : j < n) (h8 : nd ≤ 8) (hk : kp + kN bu ev (sp + 1) ≤ 60) {row r11 : Nat → Int32} (h1 : rwM nd j row (nY nd no f la w ea lt le mo Y st j)) (h2 : ∀ x, (x < 8 * j ∨ 8 * j + 8 ≤ x) → row x = J 209 x) (h3 : ∀ x, (kN bu ev (sp + 1) = 0 ∨ x < 8 * (60 * j + kp) ∨ 8 * (60 * j + kp) + 8 ≤ x) → r11 x = J 211 x) (h4 : kN bu ev (sp + 1) = 1 → ∀ d, d < nd → r11 (8 * (60 * j + kp) + d) = nI (nY nd no f la w ea lt le mo Y st j d)) :
    mS n nd no f la w ea lt le mo Y st Rw kp sp bu ev I L (j + 1) (va_up (va_up J 209 row) 211 r11) (va_up K 210 (vp_updL (K 210) j (nS nd no f la w ea lt le mo Y st j))) := by
  obtain ⟨⟨a1, a2, a3⟩, b, c⟩ := h
  have hkl := kN_le bu ev (sp + 1)
  have e9 : va_up (va_up J 209 row) 211 r11 209 = row := by rw [va_up_ne _ _ (by omega), va_up_self]
  have e11 : va_up (va_up J 209 row) 211 r11 211 = r11 := va_up_self _ _ _
  refine ⟨⟨fun k k1 k2 k3 => by rw [va_up_ne _ _ k3, va_up_ne _ _ k2]; exact a1 k k1 k2 k3, by rw [va_up_ne _ _ (by omega), va_up_ne _ _ (by omega)]; exact a2, fun k hk => by rw [va_up_ne _ _ hk]; exact a3 k hk⟩, fun c9 hc => ?_, fun c9 hc k hk9 d hd => ?_⟩
  · rw [e9, e11, va_up_self]
    by_cases e : c9 = j
    · subst e
      rw [vp_updL_self]
      exact ⟨fun _ => ⟨rfl, h1, h4⟩, fun q => by omega⟩
    · rw [pk_uLn e]
      have tr : ∀ y, rwM nd c9 (J 209) y → rwM nd c9 row y := fun y q i hi => by rw [h2 _ (by omega)]; exact q i hi
      refine ⟨fun q => ?_, fun q => ?_⟩
      · obtain ⟨q1, q2, q3⟩ := (b c9 hc).1 (by omega)
        exact ⟨q1, tr _ q2, fun z d hd => by rw [h3 _ (by omega)]; exact q3 z d hd⟩
      · obtain ⟨q1, q2⟩ := (b c9 hc).2 (by omega)
        exact ⟨q1, tr _ q2⟩
  · rw [e11, h3 _ (by omega)]
    exact c c9 hc k hk9 d hd
theorem mS_i (hMo : cMo I L n nd Y st Rw kp sp) : mS n nd no f la w ea lt le mo Y st Rw kp sp bu ev I L 0 (va_up I 200 (upd (I 200) 16 (nI (sp + 1)))) L :=
  ⟨⟨fun k k1 _ _ => va_up_ne _ _ k1, va_up_self _ _ _, fun _ _ => rfl⟩, fun c hc => ⟨fun q => absurd q (Nat.not_lt_zero _), fun _ => ⟨(hMo.2.2 c hc).1, by rw [va_up_ne _ _ (by omega)]; exact (hMo.2.2 c hc).2.1⟩⟩, fun c hc k hk d hd => by rw [va_up_ne _ _ (by omega)]; exact (hMo.2.2 c hc).2.2 k hk d hd⟩
theorem mS_e (h : mS n nd no f la w ea lt le mo Y st Rw kp sp bu ev I L n J K) (hkp : I 200 17 = nI kp) : cMo (va_up J 200 (upd (J 200) 17 (nI (kp + kN bu ev (sp + 1))))) K n nd (nY nd no f la w ea lt le mo Y st) (nS nd no f la w ea lt le mo Y st) (nR kp (nY nd no f la w ea lt le mo Y st) Rw) (kp + kN bu ev (sp + 1)) (sp + 1) := by
  obtain ⟨⟨a1, a2, a3⟩, b, c⟩ := h
  have hk1 := kN_le bu ev (sp + 1)
  refine ⟨by rw [va_up_self, pk_us], by rw [va_up_self, pk_un (by omega), a2, pk_us], fun c9 hc => ?_⟩
  rw [va_up_ne _ _ (by omega), va_up_ne _ _ (by omega)]
  obtain ⟨q1, q2, q3⟩ := (b c9 hc).1 hc
  refine ⟨q1, q2, fun k hk d hd => ?_⟩
  unfold nR
  by_cases e : k = kp
  · subst e
    rw [if_pos rfl]
    exact q3 (by omega) d hd
  · rw [if_neg e]
    exact c c9 hc k (by omega) d hd
theorem mS_fr (h : mS n nd no f la w ea lt le mo Y st Rw kp sp bu ev I L j J K) : (∀ k, k ≠ 200 → k ≠ 209 → k ≠ 211 → (va_up J 200 (upd (J 200) 17 (nI (kp + kN bu ev (sp + 1))))) k = I k) ∧ (∀ i, i ≠ 16 → i ≠ 17 → (va_up J 200 (upd (J 200) 17 (nI (kp + kN bu ev (sp + 1))))) 200 i = I 200 i) ∧ ∀ k, k ≠ 210 → K k = L k :=
  ⟨fun k k1 k2 k3 => by rw [va_up_ne _ _ k1]; exact h.1.1 k k1 k2 k3, fun i i1 i2 => by rw [va_up_self, pk_un i2, h.1.2.1, pk_un i1], h.1.2.2⟩
end MS
