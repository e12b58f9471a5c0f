section LZ
variable {nd no : Nat} {f la : Nat → Nat} {w : Nat → Nat → Nat} {ea lt le mo : Nat → Nat}
/-- z are such years: between first and last, all orders holding -/
def yS (nd no : Nat) (f la ea lt le mo : Nat → Nat) (z : Nat → Int) : Prop := ly_S nd no ea lt (fun j => (le j : Int)) (fun j => (mo j : Int)) (fun d => (f d : Int)) (fun d => (la d : Int)) z
/-- z are the least such years -/
def yM (nd no : Nat) (f la ea lt le mo : Nat → Nat) (z : Nat → Nat) : Prop := ly_M nd no ea lt (fun j => (le j : Int)) (fun j => (mo j : Int)) (fun d => (f d : Int)) (fun d => (la d : Int)) (fun d => (z d : Int))
theorem yS_ab (hwf : wfS nd no f la w ea lt le mo) : ∀ j, j < no → ea j < nd ∧ lt j < nd := fun j hj => ⟨(hwf.2.2.2 j hj).1, (hwf.2.2.2 j hj).2.1⟩
theorem rK_ge (k : Nat) (y : Nat → Nat) (d : Nat) : y d ≤ rK ea lt le mo no k y d := by
  induction k with
  | zero => exact Nat.le_refl _
  | succ k ih => exact Nat.le_trans ih (rR_ge ea lt le mo no _ d)
theorem rK_le (hwf : wfS nd no f la w ea lt le mo) (k : Nat) : ∀ d, d < nd → rK ea lt le mo no k f d ≤ 255 + 6120 * k := by
  induction k with
  | zero => intro d hd; have := hwf.2.2.1 d hd; show f d ≤ _; omega
  | succ k ih =>
    intro d hd
    have h := rR_le hwf ih (Nat.le_refl no) d hd
    have := hwf.2.1
    show rR ea lt le mo no (rK ea lt le mo no k f) d ≤ _
    omega
theorem rK_below (hwf : wfS nd no f la w ea lt le mo) {z : Nat → Int} (hz : yS nd no f la ea lt le mo z) (k : Nat) : ∀ d, d < nd → ((rK ea lt le mo no k f d : Nat) : Int) ≤ z d := by
  intro d hd
  rw [rK_z]
  exact ly_k_le hz.2 (yS_ab hwf) (fun d hd => (hz.1 d hd).1) k d hd
theorem ls_no (hwf : wfS nd no f la w ea lt le mo) (h : ∃ d, d < nd ∧ rK ea lt le mo no 8 f d < rK ea lt le mo no 9 f d) : ¬ ∃ z, yS nd no f la ea lt le mo z := by
  intro hz
  obtain ⟨v, hv⟩ := hz
  obtain ⟨z, hm⟩ := ly_ex (Int.toNat (ly_s (fun d => (f d : Int)) v nd) + 1) v (by have := ly_s_nn (fun d hd => (hv.1 d hd).1); omega) hv
  obtain ⟨d, hd, hlt⟩ := h
  have h8 := ly_k8 (y := fun d => (f d : Int)) hm (yS_ab hwf) (fun _ _ => Int.le_refl _) (fun d hd => (hm.1.1 d hd).1) hwf.1 (Nat.le_refl 8) d hd
  have h9 := ly_k8 (y := fun d => (f d : Int)) hm (yS_ab hwf) (fun _ _ => Int.le_refl _) (fun d hd => (hm.1.1 d hd).1) hwf.1 (show 8 ≤ 9 by omega) d hd
  rw [← rK_z] at h8 h9
  omega
theorem ls_past (hwf : wfS nd no f la w ea lt le mo) {i : Nat} (h : ∃ d, d < nd ∧ la d < rK ea lt le mo no i f d) : ¬ ∃ z, yS nd no f la ea lt le mo z := by
  intro hz
  obtain ⟨z, hz⟩ := hz
  obtain ⟨d, hd, hlt⟩ := h
  have h1 := rK_below hwf hz i d hd
  have h2 := (hz.1 d hd).2
  dsimp only at h2
  omega
theorem ls_yes (hwf : wfS nd no f la w ea lt le mo) {i : Nat} (h : ∀ d, d < nd → rK ea lt le mo no (i + 1) f d = rK ea lt le mo no i f d) (hl : ∀ d, d < nd → rK ea lt le mo no (i + 1) f d ≤ la d) : yM nd no f la ea lt le mo (rK ea lt le mo no (i + 1) f) := by
  refine ⟨⟨fun d hd => ⟨?_, ?_⟩, ?_⟩, fun v hv d hd => rK_below hwf hv (i + 1) d hd⟩
  · have := rK_ge (ea := ea) (lt := lt) (le := le) (mo := mo) (no := no) (i + 1) f d
    dsimp only
    omega
  · have := hl d hd
    dsimp only
    omega
  · have hfix : ly_H no ea lt (fun j => (le j : Int)) (fun j => (mo j : Int)) (fun d => ((rK ea lt le mo no i f d : Nat) : Int)) := by
      refine ly_fix (n := nd) (yS_ab hwf) (fun d hd => ?_)
      rw [← rR_z]
      have := h d hd
      show ((rK ea lt le mo no (i + 1) f d : Nat) : Int) = _
      rw [this]
    intro j hj
    obtain ⟨ha, hb⟩ := yS_ab hwf j hj
    have h1 := hfix j hj
    dsimp only at h1 ⊢
    rw [h _ ha, h _ hb]
    exact h1
theorem yM_unique {z v : Nat → Nat} (hz : yM nd no f la ea lt le mo z) (hv : yM nd no f la ea lt le mo v) : ∀ d, d < nd → z d = v d := by
  intro d hd
  have h1 := hz.2 _ hv.1 d hd
  have h2 := hv.2 _ hz.1 d hd
  dsimp only at h1 h2
  omega
end LZ
/-- the site doesn't see what lies from code 18 on -/
theorem cSi.of {I J : tI} {nd no : Nat} {f la : Nat → Nat} {ph : Nat → Int32} {w : Nat → Nat → Nat} {ea lt le mo : Nat → Nat} (h : cSi I nd no f la ph w ea lt le mo) (h8 : nd ≤ 8) (hJ : ∀ k, 1 ≤ k → k < 18 → J k = I k) : cSi J nd no f la ph w ea lt le mo := by
  obtain ⟨h1, h2, h3, h4⟩ := h
  refine ⟨by rw [hJ 1 (by omega) (by omega)]; exact h1, by rw [hJ 1 (by omega) (by omega)]; exact h2, fun d hd => ?_, fun j hj => ?_⟩
  · rw [hJ 2 (by omega) (by omega), hJ 3 (by omega) (by omega), hJ 4 (by omega) (by omega), hJ (10 + d) (by omega) (by omega)]
    exact h3 d hd
  · rw [hJ 6 (by omega) (by omega), hJ 7 (by omega) (by omega), hJ 8 (by omega) (by omega), hJ 9 (by omega) (by omega)]
    exact h4 j hj
theorem cSi.up {I : tI} {nd no : Nat} {f la : Nat → Nat} {ph : Nat → Int32} {w : Nat → Nat → Nat} {ea lt le mo : Nat → Nat} (h : cSi I nd no f la ph w ea lt le mo) (h8 : nd ≤ 8) {ky : Nat} (hk : 18 ≤ ky) (row : Nat → Int32) : cSi (va_up I ky row) nd no f la ph w ea lt le mo := h.of h8 (fun k _ h2 => va_up_ne _ _ (by omega))
