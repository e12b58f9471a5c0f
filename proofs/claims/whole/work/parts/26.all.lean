theorem cCf.of {I J : tI} {n bu ev : Nat} (h : cCf I n bu ev) (hJ : J 0 = I 0) : cCf J n bu ev := by
  unfold cCf
  rw [hJ]
  exact h
section SA
variable {nd no : Nat} {f la : Nat → Nat} {w : Nat → Nat → Nat} {ea lt le mo : Nat → Nat}
/-- all chains a step on: years, states -/
def nY (nd no : Nat) (f la : Nat → Nat) (w : Nat → Nat → Nat) (ea lt le mo : Nat → Nat) (Y : Nat → Nat → Nat) (st : Nat → Int64) : Nat → Nat → Nat := fun c => (sC no f la w ea lt le mo nd (Y c, st c)).1
def nS (nd no : Nat) (f la : Nat → Nat) (w : Nat → Nat → Nat) (ea lt le mo : Nat → Nat) (Y : Nat → Nat → Nat) (st : Nat → Int64) : Nat → Int64 := fun c => (sC no f la w ea lt le mo nd (Y c, st c)).2
def nR (kp : Nat) (Y1 : Nat → Nat → Nat) (R : Nat → Nat → Nat → Nat) : Nat → Nat → Nat → Nat := fun c k d => if k = kp then Y1 c d else R c k d
/-- the chains below j have stepped on -/
def sJ (n nd no : Nat) (f la : Nat → Nat) (w : Nat → Nat → Nat) (ea lt le mo : Nat → Nat) (Y : Nat → Nat → Nat) (st : Nat → Int64) (I : tI) (L : tL) (j : Nat) (J : tI) (K : tL) : Prop :=
  (∀ k, (k < 24 ∨ 28 ≤ k) → J k = I k) ∧ (∀ k, k ≠ 22 → K k = L k) ∧ ∀ c, c < n → (c < j → K 22 c = nS nd no f la w ea lt le mo Y st c ∧ rw_Y nd (J (20 + 4 + c)) (nY nd no f la w ea lt le mo Y st c)) ∧ (j ≤ c → K 22 c = st c ∧ rw_Y nd (J (20 + 4 + c)) (Y c))
theorem sJ_s {n : Nat} {Y : Nat → Nat → Nat} {st : Nat → Int64} {I J : tI} {L K : tL} {j : Nat} (h : sJ n nd no f la w ea lt le mo Y st I L j J K) (hj : j < n) (hn : n ≤ 4) {row : Nat → Int32} (hrow : rw_Y nd row (nY nd no f la w ea lt le mo Y st j)) : sJ n nd no f la w ea lt le mo Y st I L (j + 1) (va_up J (20 + 4 + j) row) (va_up K 22 (vp_updL (K 22) j (nS nd no f la w ea lt le mo Y st j))) := by
  obtain ⟨h1, h2, h3⟩ := h
  refine ⟨fun k hk => by rw [va_up_ne _ _ (by omega)]; exact h1 k hk, fun k hk => by rw [va_up_ne _ _ hk]; exact h2 k hk, fun c hc => ?_⟩
  rw [va_up_self]
  by_cases e : c = j
  · subst e
    rw [vp_updL_self, va_up_self]
    exact ⟨fun _ => ⟨rfl, hrow⟩, fun q => by omega⟩
  · rw [va_up_ne _ _ (show 20 + 4 + c ≠ 20 + 4 + j by omega)]
    have e2 : vp_updL (K 22) j (nS nd no f la w ea lt le mo Y st j) c = K 22 c := by unfold vp_updL; rw [if_neg e]
    rw [e2]
    exact ⟨fun q => (h3 c hc).1 (by omega), fun q => (h3 c hc).2 (by omega)⟩
theorem cCo_s0 {n : Nat} {Y : Nat → Nat → Nat} {st : Nat → Int64} {R : Nat → Nat → Nat → Nat} {kp sp : Nat} {I J : tI} {L K : tL} (hCo : cCo I L n nd 20 Y st R kp sp) (h : sJ n nd no f la w ea lt le mo Y st I L n J K) (hn : n ≤ 4) : cCo (va_up J 20 (upd (J 20) 4 (nI (sp + 1)))) K n nd 20 (nY nd no f la w ea lt le mo Y st) (nS nd no f la w ea lt le mo Y st) (nR kp (nY nd no f la w ea lt le mo Y st) R) kp (sp + 1) := by
  obtain ⟨h1, h2, h3⟩ := h
  obtain ⟨g1, g2, g3⟩ := hCo
  refine ⟨?_, ?_, fun c hc => ⟨((h3 c hc).1 hc).1, fun d hd => ?_, fun k hk d hd => ?_⟩⟩
  · rw [va_up_self]
    show J 20 3 = _
    rw [h1 20 (by omega)]
    exact g1
  · rw [va_up_self]
    exact if_pos rfl
  · rw [va_up_ne _ _ (by omega)]
    exact ((h3 c hc).1 hc).2 d hd
  · rw [va_up_ne _ _ (by omega), h1 _ (by omega), (g3 c hc).2.2 k hk d hd]
    unfold nR
    rw [if_neg (by omega)]
theorem cCo_s1 {n : Nat} {Y1 : Nat → Nat → Nat} {st1 : Nat → Int64} {R : Nat → Nat → Nat → Nat} {kp sp : Nat} {J : tI} {K : tL} (hCo : cCo J K n nd 20 Y1 st1 (nR kp Y1 R) kp sp) (hn : n ≤ 4) (h8 : nd ≤ 8) (hk : kp < 60) : cCo (gKeep J 20 kp n) K n nd 20 Y1 st1 (nR kp Y1 R) (kp + 1) sp := by
  obtain ⟨g1, g2, g3⟩ := hCo
  refine ⟨?_, ?_, fun c hc => ⟨(g3 c hc).1, fun d hd => ?_, fun k hk2 d hd => ?_⟩⟩
  · unfold gKeep
    rw [va_up_self]
    exact if_pos rfl
  · unfold gKeep
    rw [va_up_self]
    exact g2
  · unfold gKeep
    rw [va_up_ne _ _ (by omega), gKY_lo _ (by omega)]
    exact (g3 c hc).2.1 d hd
  · unfold gKeep
    rw [va_up_ne _ _ (by omega)]
    unfold gKY
    rw [if_pos (by omega), show 20 + 8 + c - 4 = 20 + 4 + c by omega]
    by_cases e : k = kp
    · subst e
      rw [pk_cpy_in (by omega) (by omega), show 0 + (k * 8 + d - k * 8) = d by omega, (g3 c hc).2.1 d hd]
      unfold nR
      rw [if_pos rfl]
    · rw [pk_cpy_out (by omega)]
      exact (g3 c hc).2.2 k (by omega) d hd
end SA
