/-! start, pure: the chains below j are set -/
def stS (se : Int32) (c : Nat) : Int64 := se.toInt64 + 1000003 * (nI c).toInt64
/-- the frame; kept and steps are 0; states; and the years, or that there are none -/
def stJ (n nd no : Nat) (f la ea lt le mo : Nat → Nat) (se : Int32) (I : tI) (L : tL) (j : Nat) (J : tI) (K : tL) : Prop :=
  ((∀ k, k ≠ 0 → (k < 20 ∨ 40 ≤ k) → J k = I k) ∧ (∀ i, i ≠ 6 → J 0 i = I 0 i) ∧ J 20 3 = nI 0 ∧ J 20 4 = nI 0 ∧ ∀ k, k ≠ 22 → K k = L k) ∧ (∀ c, c < n → c < j → K 22 c = stS se c) ∧
  ((J 0 6 = 1 ∧ ∀ c, c < n → c < j → ∃ z : Nat → Nat, yM nd no f la ea lt le mo z ∧ rw_Y nd (J (20 + 4 + c)) z) ∨ (J 0 6 = 0 ∧ ¬ ∃ z, yS nd no f la ea lt le mo z))
section SJ2
variable {n nd no : Nat} {f la ea lt le mo : Nat → Nat} {se : Int32} {I J : tI} {L K : tL} {j : Nat}
theorem stJ_i (se : Int32) (hn : n ≤ 4) : stJ n nd no f la ea lt le mo se I L 0 (va_up (va_up (va_up I 20 (upd (I 20) 3 0)) 20 (upd (va_up I 20 (upd (I 20) 3 0) 20) 4 0)) 0 (upd (va_up (va_up I 20 (upd (I 20) 3 0)) 20 (upd (va_up I 20 (upd (I 20) 3 0) 20) 4 0) 0) 6 1)) L := by
  refine ⟨⟨fun k h0 hk => ?_, fun i hi => ?_, ?_, ?_, fun _ _ => rfl⟩, fun _ _ q => absurd q (Nat.not_lt_zero _), Or.inl ⟨?_, fun _ _ q => absurd q (Nat.not_lt_zero _)⟩⟩
  · rw [va_up_ne _ _ h0, va_up_ne _ _ (by omega), va_up_ne _ _ (by omega)]
  · rw [va_up_self, pk_un hi, va_up_ne _ _ (by omega), va_up_ne _ _ (by omega)]
  · rw [va_up_ne _ _ (by omega), va_up_self, pk_un (by omega), va_up_self, pk_us]; rfl
  · rw [va_up_ne _ _ (by omega), va_up_self, pk_us]; rfl
  · rw [va_up_self, pk_us]
theorem stJ.nn (h : stJ n nd no f la ea lt le mo se I L j J K) (h0 : J 0 6 = 0) : ¬ ∃ z, yS nd no f la ea lt le mo z := by
  rcases h.2.2 with ⟨h1, _⟩ | ⟨_, h2⟩
  · rw [h0] at h1; exact absurd h1 (by decide)
  · exact h2
theorem stJ.f1 (h : stJ n nd no f la ea lt le mo se I L j J K) (h0 : ¬ J 0 6 = 0) : J 0 6 = 1 := by
  rcases h.2.2 with ⟨h1, _⟩ | ⟨h1, _⟩
  · exact h1
  · exact absurd h1 h0
theorem stJ.y (h : stJ n nd no f la ea lt le mo se I L j J K) (h0 : ¬ J 0 6 = 0) : ∀ c, c < n → c < j → ∃ z : Nat → Nat, yM nd no f la ea lt le mo z ∧ rw_Y nd (J (20 + 4 + c)) z := by
  rcases h.2.2 with ⟨_, h1⟩ | ⟨h1, _⟩
  · exact h1
  · exact absurd h1 h0
theorem stJ_fr {row : Nat → Int32} {x : Int32} (h : stJ n nd no f la ea lt le mo se I L j J K) (hj : j < n) (hn : n ≤ 4) :
    ((∀ k, k ≠ 0 → (k < 20 ∨ 40 ≤ k) → (va_up (va_up J (20 + 4 + j) row) 0 (upd (va_up J (20 + 4 + j) row 0) 6 x)) k = I k) ∧ (∀ i, i ≠ 6 → (va_up (va_up J (20 + 4 + j) row) 0 (upd (va_up J (20 + 4 + j) row 0) 6 x)) 0 i = I 0 i) ∧ (va_up (va_up J (20 + 4 + j) row) 0 (upd (va_up J (20 + 4 + j) row 0) 6 x)) 20 3 = nI 0 ∧ (va_up (va_up J (20 + 4 + j) row) 0 (upd (va_up J (20 + 4 + j) row 0) 6 x)) 20 4 = nI 0 ∧ ∀ k, k ≠ 22 → (va_up K 22 (vp_updL (K 22) j (stS se j))) k = L k) ∧ (∀ c, c < n → c < j + 1 → (va_up K 22 (vp_updL (K 22) j (stS se j))) 22 c = stS se c) := by
  obtain ⟨⟨h1, h2, h3, h4, h5⟩, h6, h7⟩ := h
  refine ⟨⟨fun k h0 hk => ?_, fun i hi => ?_, ?_, ?_, fun k hk => ?_⟩, fun c hc hj2 => ?_⟩
  · rw [va_up_ne _ _ h0, va_up_ne _ _ (by omega)]; exact h1 k h0 hk
  · rw [va_up_self, pk_un hi, va_up_ne _ _ (by omega)]; exact h2 i hi
  · rw [va_up_ne _ _ (by omega), va_up_ne _ _ (by omega)]; exact h3
  · rw [va_up_ne _ _ (by omega), va_up_ne _ _ (by omega)]; exact h4
  · rw [va_up_ne _ _ hk]; exact h5 k hk
  · rw [va_up_self]
    by_cases e : c = j
    · rw [e, vp_updL_self]
    · rw [pk_uLn e]; exact h6 c hc (by omega)
theorem stJ_1 {row : Nat → Int32} (h : stJ n nd no f la ea lt le mo se I L j J K) (hj : j < n) (hn : n ≤ 4) (h0 : ¬ va_up J (20 + 4 + j) row 0 6 = 0) (hz : ∃ z : Nat → Nat, yM nd no f la ea lt le mo z ∧ rw_Y nd row z) : stJ n nd no f la ea lt le mo se I L (j + 1) (va_up (va_up J (20 + 4 + j) row) 0 (upd (va_up J (20 + 4 + j) row 0) 6 1)) (va_up K 22 (vp_updL (K 22) j (stS se j))) := by
  obtain ⟨a, b⟩ := stJ_fr (row := row) (x := 1) h hj hn
  rw [va_up_ne _ _ (by omega)] at h0
  refine ⟨a, b, Or.inl ⟨by rw [va_up_self, pk_us], fun c hc hj2 => ?_⟩⟩
  rw [va_up_ne _ _ (by omega)]
  by_cases e : c = j
  · rw [e, va_up_self]; exact hz
  · rw [va_up_ne _ _ (by omega)]; exact h.y h0 c hc (by omega)
theorem stJ_0 {row : Nat → Int32} (h : stJ n nd no f la ea lt le mo se I L j J K) (hj : j < n) (hn : n ≤ 4) (hz : ¬ ∃ z, yS nd no f la ea lt le mo z) : stJ n nd no f la ea lt le mo se I L (j + 1) (va_up (va_up J (20 + 4 + j) row) 0 (upd (va_up J (20 + 4 + j) row 0) 6 0)) (va_up K 22 (vp_updL (K 22) j (stS se j))) := by
  obtain ⟨a, b⟩ := stJ_fr (row := row) (x := 0) h hj hn
  exact ⟨a, b, Or.inr ⟨by rw [va_up_self, pk_us], hz⟩⟩
theorem stJ.z (h : stJ n nd no f la ea lt le mo se I L n J K) (h1 : 1 ≤ n) (h0 : ¬ J 0 6 = 0) : ∃ z : Nat → Nat, yM nd no f la ea lt le mo z ∧ cCo J K n nd 20 (fun _ => z) (stS se) (fun _ _ _ => 0) 0 0 := by
  have hy := h.y h0
  obtain ⟨z, hz, _⟩ := hy 0 (by omega) (by omega)
  refine ⟨z, hz, h.1.2.2.1, h.1.2.2.2.1, fun c hc => ⟨h.2.1 c hc hc, fun d hd => ?_, fun k hk => absurd hk (Nat.not_lt_zero _)⟩⟩
  obtain ⟨v, hv, hr⟩ := hy c hc hc
  rw [hr d hd, yM_unique hv hz d hd]
end SJ2
