/-! THE REFERENCE'S ANSWERS, pure -/
def lwF (g : Nat → Nat) : Nat → Nat
  | 0 => 0
  | c + 1 => mnF g c
def hgF (g : Nat → Nat) : Nat → Nat
  | 0 => 0
  | c + 1 => mxF g c
theorem lwF_t (g : Nat → Nat) {c : Nat} (h : c = 0 ∨ g c < lwF g c) : g c = lwF g (c + 1) := by
  show g c = mnF g c
  cases c with
  | zero => rfl
  | succ c =>
    have h1 : g (c + 1) < mnF g c := h.elim (fun q => by omega) (fun q => q)
    show _ = if _ then _ else _
    rw [if_pos h1]
theorem lwF_f (g : Nat → Nat) {c : Nat} (h0 : ¬ c = 0) (h : ¬ g c < lwF g c) : lwF g c = lwF g (c + 1) := by
  cases c with
  | zero => exact absurd rfl h0
  | succ c =>
    have h1 : ¬ g (c + 1) < mnF g c := h
    show mnF g c = if _ then _ else _
    rw [if_neg h1]
theorem hgF_t (g : Nat → Nat) {c : Nat} (h : c = 0 ∨ hgF g c < g c) : g c = hgF g (c + 1) := by
  show g c = mxF g c
  cases c with
  | zero => rfl
  | succ c =>
    have h1 : mxF g c < g (c + 1) := h.elim (fun q => by omega) (fun q => q)
    show _ = if _ then _ else _
    rw [if_pos h1]
theorem hgF_f (g : Nat → Nat) {c : Nat} (h0 : ¬ c = 0) (h : ¬ hgF g c < g c) : hgF g c = hgF g (c + 1) := by
  cases c with
  | zero => exact absurd rfl h0
  | succ c =>
    have h1 : ¬ mxF g c < g (c + 1) := h
    show mxF g c = if _ then _ else _
    rw [if_neg h1]
theorem lwF_le {g : Nat → Nat} {m B : Nat} (h : ∀ i, i < m → g i ≤ B) : lwF g m ≤ B := by
  cases m with
  | zero => exact Nat.zero_le _
  | succ m => exact mnF_le (fun i hi => h i (by omega))
theorem hgF_le {g : Nat → Nat} {m B : Nat} (h : ∀ i, i < m → g i ≤ B) : hgF g m ≤ B := by
  cases m with
  | zero => exact Nat.zero_le _
  | succ m => exact mxF_le (fun i hi => h i (by omega))
theorem lwF_n (g : Nat → Nat) {n : Nat} (h : 1 ≤ n) : lwF g n = mnF g (n - 1) := by
  cases n with
  | zero => omega
  | succ n => rfl
theorem hgF_n (g : Nat → Nat) {n : Nat} (h : 1 ≤ n) : hgF g n = mxF g (n - 1) := by
  cases n with
  | zero => omega
  | succ n => rfl
theorem hI_ge {a : Nat} (ha : a < 2 ^ 29) : 0 ≤ hI a ↔ a ≠ 0 := by
  cases a with
  | zero => exact ⟨fun h => absurd h (by decide), fun h => absurd rfl h⟩
  | succ a => exact ⟨fun _ => by omega, fun _ => nI_pos' (by omega)⟩
theorem hI_le {a b : Nat} (ha : a < 2 ^ 29) (hb : b < 2 ^ 29) : nI b ≤ hI a ↔ b + 1 ≤ a := by
  cases a with
  | zero => exact ⟨fun h => absurd (i_m1 (b := b) (by omega)) (fun q => i_lt_n q h), fun h => by omega⟩
  | succ a => exact (nI_leI (by omega) (by omega)).trans (by omega)
theorem spV_m {ph : Nat → Int32} {x : Int32} {g : Nat → Nat} {nd : Nat} (hb : ∀ i, i < nd → g i ≤ 255) (h : spH ph x g nd ≠ 0) : nI (spH ph x g nd - 1 - spL ph x g 1000 nd) = spV ph x g nd := by
  unfold spV
  rw [if_neg h, spL_b (a := 1000) (b := 256) (fun i hi => by have := hb i hi; omega) h]
theorem cpy_s (f g : Nat → Int32) (o j : Nat) : upd (va_cpy f g 0 o j) (o + j) (f j) = va_cpy f g 0 o (j + 1) := by
  funext i
  by_cases h : i = o + j
  · rw [h, pk_us, pk_cpy_in (by omega) (by omega), show 0 + (o + j - o) = j by omega]
  · rw [pk_un h]
    by_cases h2 : o ≤ i ∧ i < o + j
    · rw [pk_cpy_in h2.1 h2.2, pk_cpy_in h2.1 (by omega)]
    · rw [pk_cpy_out (by omega), pk_cpy_out (by omega)]
theorem cpy_sL (f g : Nat → Int64) (o j : Nat) : vp_updL (va_cpy f g 0 o j) (o + j) (f j) = va_cpy f g 0 o (j + 1) := by
  funext i
  by_cases h : i = o + j
  · rw [h, pk_uLs, pk_cpy_in (by omega) (by omega), show 0 + (o + j - o) = j by omega]
  · rw [pk_uLn h]
    by_cases h2 : o ≤ i ∧ i < o + j
    · rw [pk_cpy_in h2.1 h2.2, pk_cpy_in h2.1 (by omega)]
    · rw [pk_cpy_out (by omega), pk_cpy_out (by omega)]
theorem cpy_b (f g : Nat → Int32) (o j : Nat) : upd (va_cpy f g o 0 j) j (f (o + j)) = va_cpy f g o 0 (j + 1) := by
  funext i
  by_cases h : i = j
  · rw [h, pk_us, pk_cpy_in (by omega) (by omega), show o + (j - 0) = o + j by omega]
  · rw [pk_un h]
    by_cases h2 : i < j
    · rw [pk_cpy_in (by omega) (by omega), pk_cpy_in (by omega) (by omega)]
    · rw [pk_cpy_out (by omega), pk_cpy_out (by omega)]
theorem cpy_bL (f g : Nat → Int64) (o j : Nat) : vp_updL (va_cpy f g o 0 j) j (f (o + j)) = va_cpy f g o 0 (j + 1) := by
  funext i
  by_cases h : i = j
  · rw [h, pk_uLs, pk_cpy_in (by omega) (by omega), show o + (j - 0) = o + j by omega]
  · rw [pk_uLn h]
    by_cases h2 : i < j
    · rw [pk_cpy_in (by omega) (by omega), pk_cpy_in (by omega) (by omega)]
    · rw [pk_cpy_out (by omega), pk_cpy_out (by omega)]
theorem cpy_0 {α : Type} (f g : Nat → α) (s o : Nat) : va_cpy f g s o 0 = g := by
  funext i
  exact pk_cpy_out (by omega)
def gV1 (J : tI) (sv : Nat) : tI := va_up (va_up J 212 (va_cpy (J 209) (J 212) 0 (32 * sv) 32)) 214 (va_cpy (J 211) (J 214) 0 (1920 * sv) 1920)
def gMv (J : tI) (sv : Nat) : tI := va_up (va_up (va_up (gV1 J sv) 215 (upd (J 215) sv (J 200 17))) 216 (upd (J 216) sv (J 200 16))) 200 (upd (J 200) 21 (nI (sv + 1)))
theorem gV1_ne (J : tI) (sv : Nat) {k : Nat} (h : k ≠ 212 ∧ k ≠ 214) : gV1 J sv k = J k := by unfold gV1; rw [va_up_ne _ _ h.2, va_up_ne _ _ h.1]
def gB1 (J : tI) (i : Nat) : tI := va_up (va_up J 209 (va_cpy (J 212) (J 209) (32 * i) 0 32)) 211 (va_cpy (J 214) (J 211) (1920 * i) 0 1920)
theorem gB1_ne (J : tI) (i : Nat) {k : Nat} (h : k ≠ 209 ∧ k ≠ 211) : gB1 J i k = J k := by unfold gB1; rw [va_up_ne _ _ h.2, va_up_ne _ _ h.1]
def gMb (J : tI) (i : Nat) : tI := va_up (gB1 J i) 200 (upd (upd (upd (J 200) 17 (J 215 i)) 16 (J 216 i)) 15 1)
