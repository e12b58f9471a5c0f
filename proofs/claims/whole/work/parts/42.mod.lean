/-! THE REFERENCE: answers that are true or false; what a call that throws leaves; its numbers -/
def bZ (P : Prop) (x : Int32) : Prop := (x = 1 ∧ P) ∨ (x = 0 ∧ ¬ P)
theorem bZ.t {P : Prop} {x : Int32} (h : bZ P x) (h0 : ¬ x = 0) : P := h.elim (fun q => q.2) (fun q => absurd q.1 h0)
theorem bZ.f {P : Prop} {x : Int32} (h : bZ P x) (h0 : x = 0) : ¬ P := h.elim (fun q => absurd h0 (by rw [q.1]; decide)) (fun q => q.2)
theorem bZ.nar {P : Prop} {x : Int32} (h : bZ P x) : x = 1 ∨ x = 0 := h.elim (fun q => Or.inl q.1) (fun q => Or.inr q.1)
theorem bZ1 {P : Prop} (h : P) : bZ P 1 := Or.inl ⟨rfl, h⟩
theorem bZ0 {P : Prop} (h : ¬ P) : bZ P 0 := Or.inr ⟨rfl, h⟩
theorem bZ.iff {P Q : Prop} {x : Int32} (h : bZ P x) (e : P ↔ Q) : bZ Q x := h.elim (fun q => Or.inl ⟨q.1, e.mp q.2⟩) (fun q => Or.inr ⟨q.1, fun z => q.2 (e.mpr z)⟩)
section JN
variable {p : Program} {l : Launch} {e : Env} {R : Room} {s : State} {m : MethodId} {args : Array Value} {below : List Frame} {meth : Method} {c : Code} {H : Heap} {locs : List Loc} {cells slots : Nat} {Q : State → Prop} {pc : Nat} {ls : Array Slot} {st : List Value}
/-- where roads meet again, with an answer that is true or false on the stack -/
theorem jnW {P : Prop} (J : Nat) (f : Int32 → List Value) (T : Heap → List Loc → Prop) (K : ∀ x H locs, bZ P x → T H locs → W p l e R s m args below meth c H locs cells slots Q (F0 m J ls (f x))) (k : (∀ x H locs, bZ P x → T H locs → W p l e R s m args below meth c H locs cells slots Q (F0 m J ls (f x))) → W p l e R s m args below meth c H locs cells slots Q (F0 m pc ls st)) : W p l e R s m args below meth c H locs cells slots Q (F0 m pc ls st) := k K
/-- .. with some number -/
theorem jnN {P : Int32 → Prop} (J : Nat) (f : Int32 → List Value) (T : Heap → List Loc → Prop) (K : ∀ x H locs, P x → T H locs → W p l e R s m args below meth c H locs cells slots Q (F0 m J ls (f x))) (k : (∀ x H locs, P x → T H locs → W p l e R s m args below meth c H locs cells slots Q (F0 m J ls (f x))) → W p l e R s m args below meth c H locs cells slots Q (F0 m pc ls st)) : W p l e R s m args below meth c H locs cells slots Q (F0 m pc ls st) := k K
end JN
def gT (I : tI) (t : Int32) : tI := va_up I 200 (upd (I 200) 0 t)
theorem gT_ne (I : tI) (t : Int32) {k : Nat} (h : k ≠ 200) : gT I t k = I k := va_up_ne _ _ h
theorem gT_i (I : tI) (t : Int32) {i : Nat} (h : i ≠ 0) : gT I t 200 i = I 200 i := by unfold gT; rw [va_up_self, pk_un h]
theorem gT_0 (I : tI) (t : Int32) : gT I t 200 0 = t := by unfold gT; rw [va_up_self, pk_us]
def gG (I : tI) : tI := va_up I 200 (upd (upd (I 200) 15 0) 21 0)
/-- the reference's site -/
def cMs (I : tI) (nd no : Nat) (f la : Nat → Nat) (ph : Nat → Int32) (w : Nat → Nat → Nat) (ea lt le mo : Nat → Nat) : Prop :=
  I 200 3 = nI nd ∧ I 200 8 = nI no ∧ (∀ d, d < nd → I 201 d = nI (f d) ∧ I 202 d = nI (la d) ∧ I 204 d = ph d ∧ ∀ i, i < 64 → I 203 (64 * d + i) = nI (w d i)) ∧ ∀ j, j < no → I 205 j = nI (ea j) ∧ I 206 j = nI (lt j) ∧ I 207 j = nI (le j) ∧ I 208 j = nI (mo j)
theorem cMs.of {I J : tI} {nd no : Nat} {f la : Nat → Nat} {ph : Nat → Int32} {w : Nat → Nat → Nat} {ea lt le mo : Nat → Nat} (h : cMs I nd no f la ph w ea lt le mo) (h3 : J 200 3 = I 200 3) (h8 : J 200 8 = I 200 8) (hJ : ∀ k, 201 ≤ k → k ≤ 208 → J k = I k) : cMs J nd no f la ph w ea lt le mo := by
  obtain ⟨h1, h2, h4, h5⟩ := h
  refine ⟨by rw [h3]; exact h1, by rw [h8]; exact h2, fun d hd => ?_, fun j hj => ?_⟩
  · rw [hJ 201 (by omega) (by omega), hJ 202 (by omega) (by omega), hJ 203 (by omega) (by omega), hJ 204 (by omega) (by omega)]
    exact h4 d hd
  · rw [hJ 205 (by omega) (by omega), hJ 206 (by omega) (by omega), hJ 207 (by omega) (by omega), hJ 208 (by omega) (by omega)]
    exact h5 j hj
theorem cMs.gT {I : tI} {nd no : Nat} {f la : Nat → Nat} {ph : Nat → Int32} {w : Nat → Nat → Nat} {ea lt le mo : Nat → Nat} (h : cMs I nd no f la ph w ea lt le mo) (t : Int32) : cMs (gT I t) nd no f la ph w ea lt le mo := h.of (gT_i I t (by omega)) (gT_i I t (by omega)) (fun k h1 _ => gT_ne I t (by omega))
/-- its own numbers: seed, chains, burn-in, thin, is it started, how many are saved -/
def cMf (I : tI) (n bu ev sd sv : Nat) (se : Int32) : Prop := I 200 1 = se ∧ I 200 2 = nI n ∧ I 200 13 = nI bu ∧ I 200 14 = nI ev ∧ I 200 15 = nI sd ∧ I 200 21 = nI sv ∧ 1 ≤ n ∧ n ≤ 4 ∧ bu ≤ 100 ∧ 1 ≤ ev ∧ ev ≤ 20 ∧ sd ≤ 1 ∧ sv ≤ 4
theorem cMf.of {I J : tI} {n bu ev sd sv : Nat} {se : Int32} (h : cMf I n bu ev sd sv se) (hJ : ∀ i, i = 1 ∨ i = 2 ∨ i = 13 ∨ i = 14 ∨ i = 15 ∨ i = 21 → J 200 i = I 200 i) : cMf J n bu ev sd sv se := by
  obtain ⟨h1, h2, h3, h4, h5, h6, h7⟩ := h
  exact ⟨by rw [hJ 1 (by omega)]; exact h1, by rw [hJ 2 (by omega)]; exact h2, by rw [hJ 13 (by omega)]; exact h3, by rw [hJ 14 (by omega)]; exact h4, by rw [hJ 15 (by omega)]; exact h5, by rw [hJ 21 (by omega)]; exact h6, h7⟩
theorem cMf.gT {I : tI} {n bu ev sd sv : Nat} {se : Int32} (h : cMf I n bu ev sd sv se) (t : Int32) : cMf (gT I t) n bu ev sd sv se := h.of (fun i hi => gT_i I t (by omega))
/-- where its chains stand -/
def cMo (I : tI) (L : tL) (n nd : Nat) (Y : Nat → Nat → Nat) (st : Nat → Int64) (R : Nat → Nat → Nat → Nat) (kp sp : Nat) : Prop :=
  I 200 17 = nI kp ∧ I 200 16 = nI sp ∧ ∀ c, c < n → L 210 c = st c ∧ (∀ d, d < nd → I 209 (8 * c + d) = nI (Y c d)) ∧ ∀ k, k < kp → ∀ d, d < nd → I 211 (8 * (60 * c + k) + d) = nI (R c k d)
theorem cMo.gT {I : tI} {L : tL} {n nd : Nat} {Y : Nat → Nat → Nat} {st : Nat → Int64} {R : Nat → Nat → Nat → Nat} {kp sp : Nat} (h : cMo I L n nd Y st R kp sp) (t : Int32) : cMo (gT I t) L n nd Y st R kp sp := by
  obtain ⟨h1, h2, h3⟩ := h
  refine ⟨by rw [gT_i I t (by omega)]; exact h1, by rw [gT_i I t (by omega)]; exact h2, fun c hc => ?_⟩
  rw [gT_ne I t (by omega), gT_ne I t (by omega)]
  exact h3 c hc
/-- bounds of a whole number -/
theorem inN_iff {N : Nat} {x : Int32} (hN : N < 2 ^ 30) : (0 ≤ x ∧ x ≤ nI N - 1) ↔ inN N x := by
  constructor
  · intro ⟨h1, h2⟩
    cases N with
    | zero =>
      exfalso
      rw [Int32.le_iff_toInt_le] at h1 h2
      rw [show (nI 0 - 1 : Int32).toInt = -1 from by decide] at h2
      rw [show (0 : Int32).toInt = 0 from rfl] at h1
      omega
    | succ N =>
      rw [nI_pred] at h2
      obtain ⟨j, _, hj, e⟩ := inR_of (a := 0) (b := N) (by omega) (Nat.zero_le _) (by rw [nI_0]; exact fun q => i_lt_n q h1) h2
      exact ⟨j, by omega, e⟩
  · intro ⟨j, hj, e⟩
    subst e
    refine ⟨nI_pos' (by omega), ?_⟩
    cases N with
    | zero => omega
    | succ N => rw [nI_pred]; exact nI_le (by omega) (by omega)
theorem inR_iff {a b : Nat} {x : Int32} (hb : b < 2 ^ 31) (ha : a ≤ b) : (nI a ≤ x ∧ x ≤ nI b) ↔ inR a b x := by
  constructor
  · intro ⟨h1, h2⟩; exact inR_of hb ha (fun q => i_lt_n q h1) h2
  · intro ⟨j, h1, h2, e⟩; rw [e]; exact ⟨nI_le h1 (by omega), nI_le h2 (by omega)⟩
theorem inRN {N : Nat} {x : Int32} (hN : 0 < N) : inR 0 (N - 1) x ↔ inN N x := ⟨fun ⟨j, _, h2, e⟩ => ⟨j, by omega, e⟩, fun ⟨j, h, e⟩ => ⟨j, Nat.zero_le _, by omega, e⟩⟩
