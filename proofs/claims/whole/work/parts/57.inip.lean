/-! WHERE THE CONSTRUCTORS' CELLS LIE: rows about functions only -/
theorem up_n {α : Type} {f : Nat → α} {k0 k : Nat} {v x : α} (h : k ≠ k0) (e : f k = x) : va_up f k0 v k = x := (va_up_ne _ _ h).trans e
theorem up_s {α : Type} {f : Nat → α} {k0 : Nat} {v : α} : va_up f k0 v k0 = v := va_up_self _ _ _
theorem mnC_n {C : Nat → Option va_E} {kO kI N : Nat} {eO eI : va_E} {k : Nat} {x : Option va_E} (h : k ≠ kO) (h2 : ¬ (kI ≤ k ∧ k < kI + N)) (e : C k = x) : mnC C kO kI N eO eI k = x := by unfold mnC; rw [if_neg h, if_neg h2]; exact e
theorem mnC_o {C : Nat → Option va_E} {kO kI N : Nat} {eO eI : va_E} : mnC C kO kI N eO eI kO = some eO := if_pos rfl
theorem mnC_i {C : Nat → Option va_E} {kO kI N : Nat} {eO eI : va_E} {i : Nat} (h : kO ≠ kI + i) (hi : i < N) : mnC C kO kI N eO eI (kI + i) = some eI := by unfold mnC; rw [if_neg (Ne.symm h), if_pos ⟨by omega, by omega⟩]
theorem mnA_n {ad : Nat → Nat} {kO kI N q : Nat} {r : Nat → Nat} {k x : Nat} (h : k ≠ kO) (h2 : ¬ (kI ≤ k ∧ k < kI + N)) (e : ad k = x) : mnA ad kO kI N q r k = x := by unfold mnA; rw [if_neg h, if_neg h2]; exact e
theorem mnA_o {ad : Nat → Nat} {kO kI N q : Nat} {r : Nat → Nat} : mnA ad kO kI N q r kO = q := if_pos rfl
theorem mnA_i {ad : Nat → Nat} {kO kI N q : Nat} {r : Nat → Nat} {i : Nat} (h : kO ≠ kI + i) (hi : i < N) : mnA ad kO kI N q r (kI + i) = r i := by unfold mnA; rw [if_neg (Ne.symm h), if_pos ⟨by omega, by omega⟩, show kI + i - kI = i by omega]
/-- which addresses a shape names -/
def dep (k j : Nat) : Prop := (k = 0 ∧ (j = 1 ∨ j = 18 ∨ j = 20)) ∨ (k = 1 ∧ 2 ≤ j ∧ j < 10) ∨ (k = 5 ∧ 10 ≤ j ∧ j < 18) ∨ (k = 18 ∧ 40 ≤ j ∧ j ≤ 100 ∧ j % 20 = 0) ∨ (20 ≤ k ∧ k < 120 ∧ (k - 20) % 20 < 4 ∧ k < j ∧ j < k - (k - 20) % 20 + 12) ∨ (k = 200 ∧ 201 ≤ j ∧ j < 217)
theorem wP_C {n : Nat} {ad : Nat → Nat} {cs : Nat → ClassId} {k : Nat} (h : 20 ≤ k) (h2 : k < 120) (r : Nat → Int32) (q : Nat → Int64) : wP n ad cs k r q = wC n ad cs k r q ((k - 20) % 20) := by
  unfold wP
  rw [if_neg (by omega), if_neg (by omega), if_neg (by omega), if_neg (by omega), if_neg (by omega), if_neg (by omega), if_neg (by omega), if_neg (by omega), if_pos h2]
theorem wP_no {n : Nat} {ad : Nat → Nat} {cs : Nat → ClassId} {k : Nat} (h : 20 ≤ k) (h2 : k < 120) (h3 : 12 ≤ (k - 20) % 20) (r : Nat → Int32) (q : Nat → Int64) : wP n ad cs k r q = none := by
  rw [wP_C h h2]
  generalize (k - 20) % 20 = o at h3
  match o, h3 with
  | 0, h => omega
  | 1, h => omega
  | 2, h => omega
  | 3, h => omega
  | 4, h => omega
  | 5, h => omega
  | 6, h => omega
  | 7, h => omega
  | 8, h => omega
  | 9, h => omega
  | 10, h => omega
  | 11, h => omega
  | o + 12, _ => rfl
theorem wP_cg {n : Nat} {ad ad' : Nat → Nat} {cs : Nat → ClassId} (hn : n ≤ 4) {k : Nat} (h : ∀ j, dep k j → ad' j = ad j) (r : Nat → Int32) (q : Nat → Int64) : wP n ad' cs k r q = wP n ad cs k r q := by
  unfold dep at h
  by_cases h0 : k = 0
  · subst h0
    show some _ = some _
    rw [h 1 (by omega), h 20 (by omega), h 18 (by omega)]
  by_cases h1 : k = 1
  · subst h1
    show some _ = some _
    rw [h 2 (by omega), h 3 (by omega), h 4 (by omega), h 5 (by omega), h 6 (by omega), h 7 (by omega), h 8 (by omega), h 9 (by omega)]
  by_cases h5 : k = 5
  · subst h5
    show some (Sum.inl (cs 2, 8, Sum.inr (Sum.inr (Sum.inr (Sum.inr (fun i => if i < 8 then some (ad' (10 + i)) else none)))))) = some (Sum.inl (cs 2, 8, Sum.inr (Sum.inr (Sum.inr (Sum.inr (fun i => if i < 8 then some (ad (10 + i)) else none))))))
    rw [show (fun i => if i < 8 then some (ad' (10 + i)) else none) = (fun i => if i < 8 then some (ad (10 + i)) else none) from funext fun i => by
      by_cases hi : i < 8
      · rw [if_pos hi, if_pos hi, h (10 + i) (by omega)]
      · rw [if_neg hi, if_neg hi]]
  by_cases h18 : k = 18
  · subst h18
    show some (Sum.inl (cs 3, 4, Sum.inr (Sum.inr (Sum.inr (Sum.inr (fun i => if i < 4 then some (ad' (40 + 20 * i)) else none)))))) = some (Sum.inl (cs 3, 4, Sum.inr (Sum.inr (Sum.inr (Sum.inr (fun i => if i < 4 then some (ad (40 + 20 * i)) else none))))))
    rw [show (fun i => if i < 4 then some (ad' (40 + 20 * i)) else none) = (fun i => if i < 4 then some (ad (40 + 20 * i)) else none) from funext fun i => by
      by_cases hi : i < 4
      · rw [if_pos hi, if_pos hi, h (40 + 20 * i) (by omega)]
      · rw [if_neg hi, if_neg hi]]
  by_cases hc : 20 ≤ k ∧ k < 120
  · rw [wP_C hc.1 hc.2, wP_C hc.1 hc.2]
    generalize ho : (k - 20) % 20 = o at h
    have fe : ∀ a, (∀ i, i < 4 → ad' (k + a + i) = ad (k + a + i)) → (fun i => if i < n then some (ad' (k + a + i)) else none) = (fun i => if i < n then some (ad (k + a + i)) else none) := fun a ha => funext fun i => by
      by_cases hi : i < n
      · rw [if_pos hi, if_pos hi, ha i (by omega)]
      · rw [if_neg hi, if_neg hi]
    match o with
    | 0 =>
      show some _ = some _
      rw [h (k + 1) (by omega), h (k + 2) (by omega), h (k + 3) (by omega)]
    | 1 =>
      show some (Sum.inl (cs 2, n, Sum.inr (Sum.inr (Sum.inr (Sum.inr (fun i => if i < n then some (ad' (k + 3 + i)) else none)))))) = some (Sum.inl (cs 2, n, Sum.inr (Sum.inr (Sum.inr (Sum.inr (fun i => if i < n then some (ad (k + 3 + i)) else none))))))
      rw [fe 3 (fun i hi => h _ (by omega))]
    | 2 => rfl
    | 3 =>
      show some (Sum.inl (cs 2, n, Sum.inr (Sum.inr (Sum.inr (Sum.inr (fun i => if i < n then some (ad' (k + 5 + i)) else none)))))) = some (Sum.inl (cs 2, n, Sum.inr (Sum.inr (Sum.inr (Sum.inr (fun i => if i < n then some (ad (k + 5 + i)) else none))))))
      rw [fe 5 (fun i hi => h _ (by omega))]
    | 4 => rfl
    | 5 => rfl
    | 6 => rfl
    | 7 => rfl
    | 8 => rfl
    | 9 => rfl
    | 10 => rfl
    | 11 => rfl
    | o + 12 => rfl
  by_cases h2 : k = 200
  · subst h2
    show some _ = some _
    rw [h 201 (by omega), h 202 (by omega), h 203 (by omega), h 204 (by omega), h 205 (by omega), h 206 (by omega), h 207 (by omega), h 208 (by omega), h 209 (by omega), h 210 (by omega), h 211 (by omega), h 212 (by omega), h 213 (by omega), h 214 (by omega), h 215 (by omega), h 216 (by omega)]
  unfold wP
  rw [if_neg h0, if_neg h0, if_neg h1, if_neg h1, if_neg h5, if_neg h5, if_neg h18, if_neg h18]
  by_cases q1 : k < 20
  · rw [if_pos q1, if_pos q1]
  · have g5 : ¬ k < 5 := by omega
    have g10 : ¬ k < 10 := by omega
    have g18 : ¬ k < 18 := by omega
    have g120 : ¬ k < 120 := by omega
    rw [if_neg g5, if_neg g5, if_neg g10, if_neg g10, if_neg g18, if_neg g18, if_neg q1, if_neg q1, if_neg g120, if_neg g120]
    by_cases q2 : k < 200
    · rw [if_pos q2, if_pos q2]
    · rw [if_neg q2, if_neg q2]
      obtain ⟨o, ho⟩ : ∃ o, k - 200 = o + 1 := ⟨k - 201, by omega⟩
      rw [ho]
      match o with
      | 0 => rfl
      | 1 => rfl
      | 2 => rfl
      | 3 => rfl
      | 4 => rfl
      | 5 => rfl
      | 6 => rfl
      | 7 => rfl
      | 8 => rfl
      | 9 => rfl
      | 10 => rfl
      | 11 => rfl
      | 12 => rfl
      | 13 => rfl
      | 14 => rfl
      | 15 => rfl
      | 16 => rfl
      | 17 => rfl
      | 18 => rfl
      | 19 => rfl
      | o + 20 => rfl
theorem wP_b4n {n : Nat} {ad : Nat → Nat} {cs : Nat → ClassId} {b : Nat} (hB : isB b) {i : Nat} (hi : ¬ i < n) (h4 : i < 4) (r : Nat → Int32) (q : Nat → Int64) : wP n ad cs (b + 4 + i) r q = none := by
  have h4 : i = 0 ∨ i = 1 ∨ i = 2 ∨ i = 3 := by omega
  rcases h4 with e | e | e | e <;> subst e <;> rcases hB with h | h | h | h | h <;> subst h <;> exact if_neg hi
theorem wP_b8n {n : Nat} {ad : Nat → Nat} {cs : Nat → ClassId} {b : Nat} (hB : isB b) {i : Nat} (hi : ¬ i < n) (h4 : i < 4) (r : Nat → Int32) (q : Nat → Int64) : wP n ad cs (b + 8 + i) r q = none := by
  have h4 : i = 0 ∨ i = 1 ∨ i = 2 ∨ i = 3 := by omega
  rcases h4 with e | e | e | e <;> subst e <;> rcases hB with h | h | h | h | h <;> subst h <;> exact if_neg hi
/-- a course's block, laid over what was there -/
def bkC (n : Nat) (ad : Nat → Nat) (cs : Nat → ClassId) (b : Nat) (C : Nat → Option va_E) : Nat → Option va_E := fun k => if b ≤ k ∧ k < b + 12 then wP n ad cs k (fun _ => 0) (fun _ => 0) else C k
theorem x0_fin {n b : Nat} {ad : Nat → Nat} {cs : Nat → ClassId} {C : Nat → Option va_E} {q1 q2 q3 : Nat} {r1 r3 : Nat → Nat} {x1 x2 x3 x4 : Option va_E} (hB : isB b) (hn4 : n ≤ 4) (hN : ∀ k, b < k → k < b + 12 → C k = none)
    (a1 : ad (b + 1) = q1) (a2 : ad (b + 2) = q2) (a3 : ad (b + 3) = q3) (a4 : ∀ i, i < n → ad (b + 4 + i) = r1 i) (a8 : ∀ i, i < n → ad (b + 8 + i) = r3 i) :
    va_up (va_up (va_up (mnC (va_up (va_up (va_up (mnC C (b + 1) (b + 4) n (.inl (cs 2, n, .inr (.inr (.inr (.inr (fun i => if i < n then some (r1 i) else none)))))) (.inl (cs 0, 8, .inl (fun _ => 0)))) b x1) (b + 2) (some (.inl (cs 1, n, .inr (.inl (fun _ => 0)))))) b x2) (b + 3) (b + 8) n (.inl (cs 2, n, .inr (.inr (.inr (.inr (fun i => if i < n then some (r3 i) else none)))))) (.inl (cs 0, 480, .inl (fun _ => 0)))) b x3) b x4) b (some (.inr (0, [.ref q1, .ref q2, .ref q3, .int 0, .int 0]))) = bkC n ad cs b C := by
  have fe : ∀ (a : Nat) (r : Nat → Nat), (∀ i, i < n → ad (b + a + i) = r i) → (fun i => if i < n then some (ad (b + a + i)) else none) = (fun i => if i < n then some (r i) else none) := fun a r ha => funext fun i => by
    by_cases hi : i < n
    · rw [if_pos hi, if_pos hi, ha i hi]
    · rw [if_neg hi, if_neg hi]
  funext k
  unfold bkC
  by_cases hk : b ≤ k ∧ k < b + 12
  · rw [if_pos hk]
    by_cases e0 : k = b
    · rw [e0, wP_b0 hB, a1, a2, a3]; exact up_s
    by_cases e1 : k = b + 1
    · rw [e1, wP_b1 hB, fe 4 r1 a4]
      exact up_n (by omega) (up_n (by omega) (up_n (by omega) (mnC_n (by omega) (by omega) (up_n (by omega) (up_n (by omega) (up_n (by omega) mnC_o))))))
    by_cases e2 : k = b + 2
    · rw [e2, wP_b2 hB]
      exact up_n (by omega) (up_n (by omega) (up_n (by omega) (mnC_n (by omega) (by omega) (up_n (by omega) up_s))))
    by_cases e3 : k = b + 3
    · rw [e3, wP_b3 hB, fe 8 r3 a8]
      exact up_n (by omega) (up_n (by omega) (up_n (by omega) mnC_o))
    by_cases e4 : k < b + 8
    · obtain ⟨i, hi, rfl⟩ : ∃ i, i < 4 ∧ k = b + 4 + i := ⟨k - b - 4, by omega, by omega⟩
      by_cases h : i < n
      · rw [wP_b4 hB hn4 h]
        exact up_n (by omega) (up_n (by omega) (up_n (by omega) (mnC_n (by omega) (by omega) (up_n (by omega) (up_n (by omega) (up_n (by omega) (mnC_i (by omega) h)))))))
      · rw [wP_b4n hB h hi]
        exact up_n (by omega) (up_n (by omega) (up_n (by omega) (mnC_n (by omega) (by omega) (up_n (by omega) (up_n (by omega) (up_n (by omega) (mnC_n (by omega) (by omega) (hN _ (by omega) (by omega)))))))))
    · obtain ⟨i, hi, rfl⟩ : ∃ i, i < 4 ∧ k = b + 8 + i := ⟨k - b - 8, by omega, by omega⟩
      by_cases h : i < n
      · rw [wP_b8 hB hn4 h]
        exact up_n (by omega) (up_n (by omega) (up_n (by omega) (mnC_i (by omega) h)))
      · rw [wP_b8n hB h hi]
        exact up_n (by omega) (up_n (by omega) (up_n (by omega) (mnC_n (by omega) (by omega) (up_n (by omega) (up_n (by omega) (up_n (by omega) (mnC_n (by omega) (by omega) (hN _ (by omega) (by omega)))))))))
  · rw [if_neg hk]
    exact up_n (by omega) (up_n (by omega) (up_n (by omega) (mnC_n (by omega) (by omega) (up_n (by omega) (up_n (by omega) (up_n (by omega) (mnC_n (by omega) (by omega) rfl)))))))
/-! SITE, MODEL, THE WHOLE: the same for the other constructors -/
theorem bkC_n {n : Nat} {ad : Nat → Nat} {cs : Nat → ClassId} {b : Nat} {C : Nat → Option va_E} {k : Nat} {x : Option va_E} (h : ¬ (b ≤ k ∧ k < b + 12)) (e : C k = x) : bkC n ad cs b C k = x := by unfold bkC; rw [if_neg h]; exact e
theorem bkC_i {n : Nat} {ad : Nat → Nat} {cs : Nat → ClassId} {b : Nat} {C : Nat → Option va_E} {k : Nat} (h : b ≤ k ∧ k < b + 12) : bkC n ad cs b C k = wP n ad cs k (fun _ => 0) (fun _ => 0) := if_pos h
def siC (n : Nat) (ad : Nat → Nat) (cs : Nat → ClassId) (C : Nat → Option va_E) : Nat → Option va_E := fun k => if 1 ≤ k ∧ k < 18 then wP n ad cs k (fun _ => 0) (fun _ => 0) else C k
theorem siC_n {n : Nat} {ad : Nat → Nat} {cs : Nat → ClassId} {C : Nat → Option va_E} {k : Nat} {x : Option va_E} (h : ¬ (1 ≤ k ∧ k < 18)) (e : C k = x) : siC n ad cs C k = x := by unfold siC; rw [if_neg h]; exact e
theorem siC_i {n : Nat} {ad : Nat → Nat} {cs : Nat → ClassId} {C : Nat → Option va_E} {k : Nat} (h : 1 ≤ k ∧ k < 18) : siC n ad cs C k = wP n ad cs k (fun _ => 0) (fun _ => 0) := if_pos h
/-- the numbers that a new object of the class and a new reference hold -/
def i0 (p0 : Int32) (n : Nat) : tI := fun k i => if k = 0 then (if i = 0 then p0 else if i = 1 then nI n else if i = 8 then 1 else 0) else if k = 200 then (if i = 1 then p0 else if i = 2 then nI n else if i = 14 then 1 else 0) else 0
theorem i0_z (p0 : Int32) (n : Nat) {k : Nat} (h : k ≠ 0) (h2 : k ≠ 200) : i0 p0 n k = fun _ => 0 := funext fun i => by unfold i0; rw [if_neg h, if_neg h2]
def moC (p0 : Int32) (n : Nat) (ad : Nat → Nat) (cs : Nat → ClassId) (C : Nat → Option va_E) : Nat → Option va_E := fun k => if 200 ≤ k ∧ k < 217 then wP n ad cs k (i0 p0 n k) (fun _ => 0) else C k
theorem moC_n {p0 : Int32} {n : Nat} {ad : Nat → Nat} {cs : Nat → ClassId} {C : Nat → Option va_E} {k : Nat} {x : Option va_E} (h : ¬ (200 ≤ k ∧ k < 217)) (e : C k = x) : moC p0 n ad cs C k = x := by unfold moC; rw [if_neg h]; exact e
theorem moC_i {p0 : Int32} {n : Nat} {ad : Nat → Nat} {cs : Nat → ClassId} {C : Nat → Option va_E} {k : Nat} (h : 200 ≤ k ∧ k < 217) : moC p0 n ad cs C k = wP n ad cs k (i0 p0 n k) (fun _ => 0) := if_pos h
theorem x1_fin {n : Nat} {ad : Nat → Nat} {cs : Nat → ClassId} {C : Nat → Option va_E} {q2 q3 q4 q5 q6 q7 q8 q9 : Nat} {r5 : Nat → Nat} {x0 x1 x2 x3 x4 x5 x6 x7 x8 : Option va_E} (a2 : ad 2 = q2) (a3 : ad 3 = q3) (a4 : ad 4 = q4) (a5 : ad 5 = q5) (a6 : ad 6 = q6) (a7 : ad 7 = q7) (a8 : ad 8 = q8) (a9 : ad 9 = q9) (ar : ∀ i, i < 8 → ad (10 + i) = r5 i) :
    va_up (va_up (va_up (va_up (va_up (va_up (va_up (va_up (va_up (va_up (va_up (mnC (va_up (va_up (va_up (va_up (va_up (va_up C 2 (some (.inl (cs 0, 8, .inl (fun _ => 0))))) 1 x0) 3 (some (.inl (cs 0, 8, .inl (fun _ => 0))))) 1 x1) 4 (some (.inl (cs 0, 8, .inl (fun _ => 0))))) 1 x2) 5 10 8 (.inl (cs 2, 8, .inr (.inr (.inr (.inr (fun i => if i < 8 then some (r5 i) else none)))))) (.inl (cs 0, 64, .inl (fun _ => 0)))) 1 x3) 6 (some (.inl (cs 0, 24, .inl (fun _ => 0))))) 1 x4) 7 (some (.inl (cs 0, 24, .inl (fun _ => 0))))) 1 x5) 8 (some (.inl (cs 0, 24, .inl (fun _ => 0))))) 1 x6) 9 (some (.inl (cs 0, 24, .inl (fun _ => 0))))) 1 x7) 1 x8) 1 (some (.inr (1, [.ref q2, .ref q3, .ref q4, .ref q5, .ref q6, .ref q7, .ref q8, .ref q9, .int 0, .int 0]))) = siC n ad cs C := by
  funext k
  by_cases hk : 1 ≤ k ∧ k < 18
  · rw [siC_i hk]
    rcases (by omega : k = 1 ∨ k = 2 ∨ k = 3 ∨ k = 4 ∨ k = 5 ∨ k = 6 ∨ k = 7 ∨ k = 8 ∨ k = 9 ∨ k = 10 ∨ k = 11 ∨ k = 12 ∨ k = 13 ∨ k = 14 ∨ k = 15 ∨ k = 16 ∨ k = 17) with rfl | rfl | rfl | rfl | rfl | rfl | rfl | rfl | rfl | rfl | rfl | rfl | rfl | rfl | rfl | rfl | rfl
    · show _ = (some (.inr (1, [.ref (ad 2), .ref (ad 3), .ref (ad 4), .ref (ad 5), .ref (ad 6), .ref (ad 7), .ref (ad 8), .ref (ad 9), .int 0, .int 0])) : Option va_E)
      rw [a2, a3, a4, a5, a6, a7, a8, a9]; exact up_s
    · exact up_n (by omega) (up_n (by omega) (up_n (by omega) (up_n (by omega) (up_n (by omega) (up_n (by omega) (up_n (by omega) (up_n (by omega) (up_n (by omega) (up_n (by omega) (up_n (by omega) (mnC_n (by omega) (by omega) (up_n (by omega) (up_n (by omega) (up_n (by omega) (up_n (by omega) (up_n (by omega) (up_s)))))))))))))))))
    · exact up_n (by omega) (up_n (by omega) (up_n (by omega) (up_n (by omega) (up_n (by omega) (up_n (by omega) (up_n (by omega) (up_n (by omega) (up_n (by omega) (up_n (by omega) (up_n (by omega) (mnC_n (by omega) (by omega) (up_n (by omega) (up_n (by omega) (up_n (by omega) (up_s)))))))))))))))
    · exact up_n (by omega) (up_n (by omega) (up_n (by omega) (up_n (by omega) (up_n (by omega) (up_n (by omega) (up_n (by omega) (up_n (by omega) (up_n (by omega) (up_n (by omega) (up_n (by omega) (mnC_n (by omega) (by omega) (up_n (by omega) (up_s)))))))))))))
    · refine (up_n (by omega) (up_n (by omega) (up_n (by omega) (up_n (by omega) (up_n (by omega) (up_n (by omega) (up_n (by omega) (up_n (by omega) (up_n (by omega) (up_n (by omega) (up_n (by omega) (mnC_o)))))))))))).trans ?_
      show some (Sum.inl (cs 2, 8, Sum.inr (Sum.inr (Sum.inr (Sum.inr (fun i => if i < 8 then some (r5 i) else none)))))) = some (Sum.inl (cs 2, 8, Sum.inr (Sum.inr (Sum.inr (Sum.inr (fun i => if i < 8 then some (ad (10 + i)) else none))))))
      rw [show (fun i => if i < 8 then some (ad (10 + i)) else none) = (fun i => if i < 8 then some (r5 i) else none) from funext fun i => by
        by_cases hi : i < 8
        · rw [if_pos hi, if_pos hi, ar i hi]
        · rw [if_neg hi, if_neg hi]]
    · exact up_n (by omega) (up_n (by omega) (up_n (by omega) (up_n (by omega) (up_n (by omega) (up_n (by omega) (up_n (by omega) (up_n (by omega) (up_n (by omega) (up_s)))))))))
    · exact up_n (by omega) (up_n (by omega) (up_n (by omega) (up_n (by omega) (up_n (by omega) (up_n (by omega) (up_n (by omega) (up_s)))))))
    · exact up_n (by omega) (up_n (by omega) (up_n (by omega) (up_n (by omega) (up_n (by omega) (up_s)))))
    · exact up_n (by omega) (up_n (by omega) (up_n (by omega) (up_s)))
    · exact up_n (by omega) (up_n (by omega) (up_n (by omega) (up_n (by omega) (up_n (by omega) (up_n (by omega) (up_n (by omega) (up_n (by omega) (up_n (by omega) (up_n (by omega) (up_n (by omega) (mnC_i (i := 0) (by omega) (by omega))))))))))))
    · exact up_n (by omega) (up_n (by omega) (up_n (by omega) (up_n (by omega) (up_n (by omega) (up_n (by omega) (up_n (by omega) (up_n (by omega) (up_n (by omega) (up_n (by omega) (up_n (by omega) (mnC_i (i := 1) (by omega) (by omega))))))))))))
    · exact up_n (by omega) (up_n (by omega) (up_n (by omega) (up_n (by omega) (up_n (by omega) (up_n (by omega) (up_n (by omega) (up_n (by omega) (up_n (by omega) (up_n (by omega) (up_n (by omega) (mnC_i (i := 2) (by omega) (by omega))))))))))))
    · exact up_n (by omega) (up_n (by omega) (up_n (by omega) (up_n (by omega) (up_n (by omega) (up_n (by omega) (up_n (by omega) (up_n (by omega) (up_n (by omega) (up_n (by omega) (up_n (by omega) (mnC_i (i := 3) (by omega) (by omega))))))))))))
    · exact up_n (by omega) (up_n (by omega) (up_n (by omega) (up_n (by omega) (up_n (by omega) (up_n (by omega) (up_n (by omega) (up_n (by omega) (up_n (by omega) (up_n (by omega) (up_n (by omega) (mnC_i (i := 4) (by omega) (by omega))))))))))))
    · exact up_n (by omega) (up_n (by omega) (up_n (by omega) (up_n (by omega) (up_n (by omega) (up_n (by omega) (up_n (by omega) (up_n (by omega) (up_n (by omega) (up_n (by omega) (up_n (by omega) (mnC_i (i := 5) (by omega) (by omega))))))))))))
    · exact up_n (by omega) (up_n (by omega) (up_n (by omega) (up_n (by omega) (up_n (by omega) (up_n (by omega) (up_n (by omega) (up_n (by omega) (up_n (by omega) (up_n (by omega) (up_n (by omega) (mnC_i (i := 6) (by omega) (by omega))))))))))))
    · exact up_n (by omega) (up_n (by omega) (up_n (by omega) (up_n (by omega) (up_n (by omega) (up_n (by omega) (up_n (by omega) (up_n (by omega) (up_n (by omega) (up_n (by omega) (up_n (by omega) (mnC_i (i := 7) (by omega) (by omega))))))))))))
  · rw [siC_n hk rfl]; exact up_n (by omega) (up_n (by omega) (up_n (by omega) (up_n (by omega) (up_n (by omega) (up_n (by omega) (up_n (by omega) (up_n (by omega) (up_n (by omega) (up_n (by omega) (up_n (by omega) (mnC_n (by omega) (by omega) (up_n (by omega) (up_n (by omega) (up_n (by omega) (up_n (by omega) (up_n (by omega) (up_n (by omega) (rfl))))))))))))))))))
theorem x3_fin {p0 : Int32} {n : Nat} {ad : Nat → Nat} {cs : Nat → ClassId} {C : Nat → Option va_E} {q201 q202 q203 q204 q205 q206 q207 q208 q209 q210 q211 q212 q213 q214 q215 q216 : Nat} {x0 x1 x2 x3 x4 x5 x6 x7 x8 x9 x10 x11 x12 x13 x14 x15 x16 x17 : Option va_E} (a201 : ad 201 = q201) (a202 : ad 202 = q202) (a203 : ad 203 = q203) (a204 : ad 204 = q204) (a205 : ad 205 = q205) (a206 : ad 206 = q206) (a207 : ad 207 = q207) (a208 : ad 208 = q208) (a209 : ad 209 = q209) (a210 : ad 210 = q210) (a211 : ad 211 = q211) (a212 : ad 212 = q212) (a213 : ad 213 = q213) (a214 : ad 214 = q214) (a215 : ad 215 = q215) (a216 : ad 216 = q216) :
    va_up (va_up (va_up (va_up (va_up (va_up (va_up (va_up (va_up (va_up (va_up (va_up (va_up (va_up (va_up (va_up (va_up (va_up (va_up (va_up (va_up (va_up (va_up (va_up (va_up (va_up (va_up (va_up (va_up (va_up (va_up (va_up (va_up (va_up (va_up C 201 (some (.inl (cs 0, 8, .inl (fun _ => 0))))) 200 x0) 202 (some (.inl (cs 0, 8, .inl (fun _ => 0))))) 200 x1) 203 (some (.inl (cs 0, 512, .inl (fun _ => 0))))) 200 x2) 204 (some (.inl (cs 0, 8, .inl (fun _ => 0))))) 200 x3) 205 (some (.inl (cs 0, 24, .inl (fun _ => 0))))) 200 x4) 206 (some (.inl (cs 0, 24, .inl (fun _ => 0))))) 200 x5) 207 (some (.inl (cs 0, 24, .inl (fun _ => 0))))) 200 x6) 208 (some (.inl (cs 0, 24, .inl (fun _ => 0))))) 200 x7) 200 x8) 209 (some (.inl (cs 0, 32, .inl (fun _ => 0))))) 200 x9) 210 (some (.inl (cs 1, 4, .inr (.inl (fun _ => 0)))))) 200 x10) 211 (some (.inl (cs 0, 1920, .inl (fun _ => 0))))) 200 x11) 212 (some (.inl (cs 0, 128, .inl (fun _ => 0))))) 200 x12) 213 (some (.inl (cs 1, 16, .inr (.inl (fun _ => 0)))))) 200 x13) 214 (some (.inl (cs 0, 7680, .inl (fun _ => 0))))) 200 x14) 215 (some (.inl (cs 0, 4, .inl (fun _ => 0))))) 200 x15) 216 (some (.inl (cs 0, 4, .inl (fun _ => 0))))) 200 x16) 200 x17) 200 (some (.inr (3, [.int 0, .int p0, .int (nI n), .int 0, .ref q201, .ref q202, .ref q203, .ref q204, .int 0, .ref q205, .ref q206, .ref q207, .ref q208, .int 0, .int 1, .int 0, .int 0, .int 0, .ref q209, .ref q210, .ref q211, .int 0, .ref q212, .ref q213, .ref q214, .ref q215, .ref q216]))) = moC p0 n ad cs C := by
  funext k
  by_cases hk : 200 ≤ k ∧ k < 217
  · rw [moC_i hk]
    rcases (by omega : k = 200 ∨ k = 201 ∨ k = 202 ∨ k = 203 ∨ k = 204 ∨ k = 205 ∨ k = 206 ∨ k = 207 ∨ k = 208 ∨ k = 209 ∨ k = 210 ∨ k = 211 ∨ k = 212 ∨ k = 213 ∨ k = 214 ∨ k = 215 ∨ k = 216) with rfl | rfl | rfl | rfl | rfl | rfl | rfl | rfl | rfl | rfl | rfl | rfl | rfl | rfl | rfl | rfl | rfl
    · show _ = (some (.inr (3, [.int 0, .int p0, .int (nI n), .int 0, .ref (ad 201), .ref (ad 202), .ref (ad 203), .ref (ad 204), .int 0, .ref (ad 205), .ref (ad 206), .ref (ad 207), .ref (ad 208), .int 0, .int 1, .int 0, .int 0, .int 0, .ref (ad 209), .ref (ad 210), .ref (ad 211), .int 0, .ref (ad 212), .ref (ad 213), .ref (ad 214), .ref (ad 215), .ref (ad 216)])) : Option va_E)
      rw [a201, a202, a203, a204, a205, a206, a207, a208, a209, a210, a211, a212, a213, a214, a215, a216]; exact up_s
    · rw [i0_z p0 n (by omega) (by omega)]; exact up_n (by omega) (up_n (by omega) (up_n (by omega) (up_n (by omega) (up_n (by omega) (up_n (by omega) (up_n (by omega) (up_n (by omega) (up_n (by omega) (up_n (by omega) (up_n (by omega) (up_n (by omega) (up_n (by omega) (up_n (by omega) (up_n (by omega) (up_n (by omega) (up_n (by omega) (up_n (by omega) (up_n (by omega) (up_n (by omega) (up_n (by omega) (up_n (by omega) (up_n (by omega) (up_n (by omega) (up_n (by omega) (up_n (by omega) (up_n (by omega) (up_n (by omega) (up_n (by omega) (up_n (by omega) (up_n (by omega) (up_n (by omega) (up_n (by omega) (up_n (by omega) (up_s))))))))))))))))))))))))))))))))))
    · rw [i0_z p0 n (by omega) (by omega)]; exact up_n (by omega) (up_n (by omega) (up_n (by omega) (up_n (by omega) (up_n (by omega) (up_n (by omega) (up_n (by omega) (up_n (by omega) (up_n (by omega) (up_n (by omega) (up_n (by omega) (up_n (by omega) (up_n (by omega) (up_n (by omega) (up_n (by omega) (up_n (by omega) (up_n (by omega) (up_n (by omega) (up_n (by omega) (up_n (by omega) (up_n (by omega) (up_n (by omega) (up_n (by omega) (up_n (by omega) (up_n (by omega) (up_n (by omega) (up_n (by omega) (up_n (by omega) (up_n (by omega) (up_n (by omega) (up_n (by omega) (up_n (by omega) (up_s))))))))))))))))))))))))))))))))
    · rw [i0_z p0 n (by omega) (by omega)]; exact up_n (by omega) (up_n (by omega) (up_n (by omega) (up_n (by omega) (up_n (by omega) (up_n (by omega) (up_n (by omega) (up_n (by omega) (up_n (by omega) (up_n (by omega) (up_n (by omega) (up_n (by omega) (up_n (by omega) (up_n (by omega) (up_n (by omega) (up_n (by omega) (up_n (by omega) (up_n (by omega) (up_n (by omega) (up_n (by omega) (up_n (by omega) (up_n (by omega) (up_n (by omega) (up_n (by omega) (up_n (by omega) (up_n (by omega) (up_n (by omega) (up_n (by omega) (up_n (by omega) (up_n (by omega) (up_s))))))))))))))))))))))))))))))
    · rw [i0_z p0 n (by omega) (by omega)]; exact up_n (by omega) (up_n (by omega) (up_n (by omega) (up_n (by omega) (up_n (by omega) (up_n (by omega) (up_n (by omega) (up_n (by omega) (up_n (by omega) (up_n (by omega) (up_n (by omega) (up_n (by omega) (up_n (by omega) (up_n (by omega) (up_n (by omega) (up_n (by omega) (up_n (by omega) (up_n (by omega) (up_n (by omega) (up_n (by omega) (up_n (by omega) (up_n (by omega) (up_n (by omega) (up_n (by omega) (up_n (by omega) (up_n (by omega) (up_n (by omega) (up_n (by omega) (up_s))))))))))))))))))))))))))))
    · rw [i0_z p0 n (by omega) (by omega)]; exact up_n (by omega) (up_n (by omega) (up_n (by omega) (up_n (by omega) (up_n (by omega) (up_n (by omega) (up_n (by omega) (up_n (by omega) (up_n (by omega) (up_n (by omega) (up_n (by omega) (up_n (by omega) (up_n (by omega) (up_n (by omega) (up_n (by omega) (up_n (by omega) (up_n (by omega) (up_n (by omega) (up_n (by omega) (up_n (by omega) (up_n (by omega) (up_n (by omega) (up_n (by omega) (up_n (by omega) (up_n (by omega) (up_n (by omega) (up_s))))))))))))))))))))))))))
    · rw [i0_z p0 n (by omega) (by omega)]; exact up_n (by omega) (up_n (by omega) (up_n (by omega) (up_n (by omega) (up_n (by omega) (up_n (by omega) (up_n (by omega) (up_n (by omega) (up_n (by omega) (up_n (by omega) (up_n (by omega) (up_n (by omega) (up_n (by omega) (up_n (by omega) (up_n (by omega) (up_n (by omega) (up_n (by omega) (up_n (by omega) (up_n (by omega) (up_n (by omega) (up_n (by omega) (up_n (by omega) (up_n (by omega) (up_n (by omega) (up_s))))))))))))))))))))))))
    · rw [i0_z p0 n (by omega) (by omega)]; exact up_n (by omega) (up_n (by omega) (up_n (by omega) (up_n (by omega) (up_n (by omega) (up_n (by omega) (up_n (by omega) (up_n (by omega) (up_n (by omega) (up_n (by omega) (up_n (by omega) (up_n (by omega) (up_n (by omega) (up_n (by omega) (up_n (by omega) (up_n (by omega) (up_n (by omega) (up_n (by omega) (up_n (by omega) (up_n (by omega) (up_n (by omega) (up_n (by omega) (up_s))))))))))))))))))))))
    · rw [i0_z p0 n (by omega) (by omega)]; exact up_n (by omega) (up_n (by omega) (up_n (by omega) (up_n (by omega) (up_n (by omega) (up_n (by omega) (up_n (by omega) (up_n (by omega) (up_n (by omega) (up_n (by omega) (up_n (by omega) (up_n (by omega) (up_n (by omega) (up_n (by omega) (up_n (by omega) (up_n (by omega) (up_n (by omega) (up_n (by omega) (up_n (by omega) (up_n (by omega) (up_s))))))))))))))))))))
    · rw [i0_z p0 n (by omega) (by omega)]; exact up_n (by omega) (up_n (by omega) (up_n (by omega) (up_n (by omega) (up_n (by omega) (up_n (by omega) (up_n (by omega) (up_n (by omega) (up_n (by omega) (up_n (by omega) (up_n (by omega) (up_n (by omega) (up_n (by omega) (up_n (by omega) (up_n (by omega) (up_n (by omega) (up_n (by omega) (up_s)))))))))))))))))
    · rw [i0_z p0 n (by omega) (by omega)]; exact up_n (by omega) (up_n (by omega) (up_n (by omega) (up_n (by omega) (up_n (by omega) (up_n (by omega) (up_n (by omega) (up_n (by omega) (up_n (by omega) (up_n (by omega) (up_n (by omega) (up_n (by omega) (up_n (by omega) (up_n (by omega) (up_n (by omega) (up_s)))))))))))))))
    · rw [i0_z p0 n (by omega) (by omega)]; exact up_n (by omega) (up_n (by omega) (up_n (by omega) (up_n (by omega) (up_n (by omega) (up_n (by omega) (up_n (by omega) (up_n (by omega) (up_n (by omega) (up_n (by omega) (up_n (by omega) (up_n (by omega) (up_n (by omega) (up_s)))))))))))))
    · rw [i0_z p0 n (by omega) (by omega)]; exact up_n (by omega) (up_n (by omega) (up_n (by omega) (up_n (by omega) (up_n (by omega) (up_n (by omega) (up_n (by omega) (up_n (by omega) (up_n (by omega) (up_n (by omega) (up_n (by omega) (up_s)))))))))))
    · rw [i0_z p0 n (by omega) (by omega)]; exact up_n (by omega) (up_n (by omega) (up_n (by omega) (up_n (by omega) (up_n (by omega) (up_n (by omega) (up_n (by omega) (up_n (by omega) (up_n (by omega) (up_s)))))))))
    · rw [i0_z p0 n (by omega) (by omega)]; exact up_n (by omega) (up_n (by omega) (up_n (by omega) (up_n (by omega) (up_n (by omega) (up_n (by omega) (up_n (by omega) (up_s)))))))
    · rw [i0_z p0 n (by omega) (by omega)]; exact up_n (by omega) (up_n (by omega) (up_n (by omega) (up_n (by omega) (up_n (by omega) (up_s)))))
    · rw [i0_z p0 n (by omega) (by omega)]; exact up_n (by omega) (up_n (by omega) (up_n (by omega) (up_s)))
  · rw [moC_n hk rfl]; exact up_n (by omega) (up_n (by omega) (up_n (by omega) (up_n (by omega) (up_n (by omega) (up_n (by omega) (up_n (by omega) (up_n (by omega) (up_n (by omega) (up_n (by omega) (up_n (by omega) (up_n (by omega) (up_n (by omega) (up_n (by omega) (up_n (by omega) (up_n (by omega) (up_n (by omega) (up_n (by omega) (up_n (by omega) (up_n (by omega) (up_n (by omega) (up_n (by omega) (up_n (by omega) (up_n (by omega) (up_n (by omega) (up_n (by omega) (up_n (by omega) (up_n (by omega) (up_n (by omega) (up_n (by omega) (up_n (by omega) (up_n (by omega) (up_n (by omega) (up_n (by omega) (up_n (by omega) (rfl)))))))))))))))))))))))))))))))))))
/-- the number of chains -/
def chN (x : Int32) : Nat := if x < 1 then 1 else if 4 < x then 4 else x.toNatClampNeg
def x2J (p0 : Int32) (n : Nat) (cs : Nat → ClassId) (ad0 : Nat → Nat) (i : Nat) (ad : Nat → Nat) (C : Nat → Option va_E) : Prop :=
  ad 0 = ad0 0 ∧ C 0 = some (.inr (2, [.int p0, .int (nI n), .ref (ad 1), .ref (ad 20), .ref (ad 18), .int 0, .int 0, .int 0, .int 0])) ∧ C 18 = some (.inl (cs 3, 4, .inr (.inr (.inr (.inr (fun j => if j < i then some (ad (40 + 20 * j)) else none)))))) ∧
  (∀ k, ((1 ≤ k ∧ k < 18) ∨ (20 ≤ k ∧ k < 32) ∨ (40 ≤ k ∧ k < 40 + 20 * i ∧ (k - 20) % 20 < 12)) → C k = wP n ad cs k (fun _ => 0) (fun _ => 0)) ∧ ∀ k, 40 + 20 * i ≤ k → k < 200 → C k = none
theorem x2J_s {p0 : Int32} {n : Nat} {cs : Nat → ClassId} {ad0 : Nat → Nat} {i : Nat} {ad ad' : Nat → Nat} {C : Nat → Option va_E} {b q : Nat} {x : Option va_E} (hn4 : n ≤ 4) (hi : i < 4) (h : x2J p0 n cs ad0 i ad C) (hb : b = 40 + 20 * i) (hw : ∀ k, ¬ (b < k ∧ k < b + 12) → ad' k = va_up ad b q k) :
    x2J p0 n cs ad0 (i + 1) ad' (va_up (bkC n ad' cs b (va_up C b x)) 18 (some (.inl (cs 3, 4, .inr (.inr (.inr (.inr (va_up (fun j => if j < i then some (ad (40 + 20 * j)) else none) i (some (ad' b)))))))))) := by
  obtain ⟨h1, h2, h3, h4, h5⟩ := h
  subst hb
  have hA : ∀ k, ¬ (40 + 20 * i ≤ k ∧ k < 52 + 20 * i) → ad' k = ad k := fun k hk => (hw k (by omega)).trans (up_n (by omega) rfl)
  refine ⟨(hA 0 (by omega)).trans h1, ?_, ?_, fun k hk => ?_, fun k h hk => up_n (by omega) (bkC_n (by omega) (up_n (by omega) (h5 k (by omega) hk)))⟩
  · rw [hA 1 (by omega), hA 20 (by omega), hA 18 (by omega)]
    exact up_n (by omega) (bkC_n (by omega) (up_n (by omega) h2))
  · rw [va_up_self, show va_up (fun j => if j < i then some (ad (40 + 20 * j)) else none) i (some (ad' (40 + 20 * i))) = (fun j => if j < i + 1 then some (ad' (40 + 20 * j)) else none) from funext fun j => by
      by_cases e : j = i
      · subst e; rw [va_up_self, if_pos (by omega)]
      · rw [va_up_ne _ _ e]
        by_cases q : j < i
        · rw [if_pos q, if_pos (by omega), hA _ (by omega)]
        · rw [if_neg q, if_neg (by omega)]]
  · by_cases hbk : 40 + 20 * i ≤ k ∧ k < 52 + 20 * i
    · exact up_n (by omega) (bkC_i (by omega))
    · refine (up_n (by omega) (bkC_n (by omega) (up_n (by omega) (h4 k (by omega))))).trans ?_
      exact (wP_cg hn4 (fun j hj => hA j (by unfold dep at hj; omega)) _ _).symm
theorem x2J_0 {p0 : Int32} {n : Nat} {cs : Nat → ClassId} {ad0 ad1 ad2 : Nat → Nat} {C : Nat → Option va_E} {q1 q20 q18 : Nat} {x1 x2 x3 x4 x5 x6 : Option va_E} (hn4 : n ≤ 4) (hN : ∀ k, 0 < k → k < 200 → C k = none) (hw1 : ∀ k, ¬ (1 < k ∧ k < 18) → ad1 k = va_up ad0 1 q1 k) (hw2 : ∀ k, ¬ (20 < k ∧ k < 32) → ad2 k = va_up ad1 20 q20 k) :
    x2J p0 n cs ad0 0 (va_up ad2 18 q18) (va_up (va_up (va_up (bkC n ad2 cs 20 (va_up (va_up (siC n ad1 cs (va_up (va_up (va_up C 0 x1) 0 x2) 1 x3)) 0 x4) 20 x5)) 0 x6) 18 (some (.inl (cs 3, 4, .inr (.inr (.inr (.inr (fun _ => none)))))))) 0 (some (.inr (2, [.int p0, .int (nI n), .ref q1, .ref q20, .ref q18, .int 0, .int 0, .int 0, .int 0])))) := by
  have b1 : va_up ad2 18 q18 1 = q1 := up_n (by omega) ((hw2 1 (by omega)).trans (up_n (by omega) ((hw1 1 (by omega)).trans up_s)))
  have b20 : va_up ad2 18 q18 20 = q20 := up_n (by omega) ((hw2 20 (by omega)).trans up_s)
  have b18 : va_up ad2 18 q18 18 = q18 := up_s
  refine ⟨up_n (by omega) ((hw2 0 (by omega)).trans (up_n (by omega) ((hw1 0 (by omega)).trans (up_n (by omega) rfl)))), ?_, ?_, fun k hk => ?_, fun k h hk => up_n (by omega) (up_n (by omega) (up_n (by omega) (bkC_n (by omega) (up_n (by omega) (up_n (by omega) (siC_n (by omega) (up_n (by omega) (up_n (by omega) (up_n (by omega) (hN k (by omega) hk))))))))))⟩
  · rw [b1, b20, b18]; exact up_s
  · refine up_n (by omega) (up_s.trans ?_)
    rw [show (fun j => if j < 0 then some (va_up ad2 18 q18 (40 + 20 * j)) else none) = (fun _ => (none : Option Nat)) from funext fun j => if_neg (Nat.not_lt_zero _)]
  · by_cases h1 : k < 18
    · refine (up_n (by omega) (up_n (by omega) (up_n (by omega) (bkC_n (by omega) (up_n (by omega) (up_n (by omega) (siC_i (by omega)))))))).trans ?_
      exact (wP_cg hn4 (fun j hj => up_n (by unfold dep at hj; omega) ((hw2 j (by unfold dep at hj; omega)).trans (up_n (by unfold dep at hj; omega) rfl))) _ _).symm
    · refine (up_n (by omega) (up_n (by omega) (up_n (by omega) (bkC_i (by omega))))).trans ?_
      exact (wP_cg hn4 (fun j hj => up_n (by unfold dep at hj; omega) rfl) _ _).symm
theorem wP_x {n : Nat} {ad : Nat → Nat} {cs : Nat → ClassId} {k : Nat} (h : k = 19 ∨ (120 ≤ k ∧ k < 200)) (r : Nat → Int32) (q : Nat → Int64) : wP n ad cs k r q = none := by
  rcases h with rfl | h
  · rfl
  · unfold wP
    rw [if_neg (by omega), if_neg (by omega), if_neg (by omega), if_neg (by omega), if_neg (by omega), if_neg (by omega), if_neg (by omega), if_neg (by omega), if_neg (by omega), if_pos h.2]
theorem x2_fin {p0 : Int32} {n : Nat} {cs : Nat → ClassId} {ad0 ad : Nat → Nat} {C : Nat → Option va_E} {y1 y2 y3 : Option va_E} (h : x2J p0 n cs ad0 4 ad C) : ∀ k e, (if k < 200 then wP n ad cs k (i0 p0 n k) (fun _ => 0) else none) = some e →
    va_up (va_up (va_up (va_up C 0 y1) 0 y2) 0 y3) 0 (some (.inr (2, [.int p0, .int (nI n), .ref (ad 1), .ref (ad 20), .ref (ad 18), .int 0, .int 0, .int 0, .int 1]))) k = some e := by
  obtain ⟨h1, h2, h3, h4, h5⟩ := h
  intro k e h
  by_cases hk : k < 200
  · rw [if_pos hk] at h
    by_cases e0 : k = 0
    · subst e0
      exact up_s.trans h
    rw [i0_z p0 n e0 (by omega)] at h
    refine up_n e0 (up_n e0 (up_n e0 (up_n e0 ?_)))
    by_cases r1 : (1 ≤ k ∧ k < 18) ∨ (20 ≤ k ∧ k < 32) ∨ (40 ≤ k ∧ k < 40 + 20 * 4 ∧ (k - 20) % 20 < 12)
    · exact (h4 k r1).trans h
    by_cases e18 : k = 18
    · subst e18
      exact h3.trans h
    by_cases c : 20 ≤ k ∧ k < 120
    · rw [wP_no c.1 c.2 (by omega)] at h; cases h
    · rw [wP_x (by omega)] at h; cases h
  · rw [if_neg hk] at h; cases h
theorem wP_y {n : Nat} {ad : Nat → Nat} {cs : Nat → ClassId} {k : Nat} (h : 217 ≤ k) (h2 : k ≠ 220) (r : Nat → Int32) (q : Nat → Int64) : wP n ad cs k r q = none := by
  unfold wP
  rw [if_neg (by omega), if_neg (by omega), if_neg (by omega), if_neg (by omega), if_neg (by omega), if_neg (by omega), if_neg (by omega), if_neg (by omega), if_neg (by omega), if_neg (by omega)]
  obtain ⟨o, rfl⟩ : ∃ o, k = 217 + o := ⟨k - 217, by omega⟩
  rw [show 217 + o - 200 = o + 17 by omega]
  match o, h2 with
  | 0, _ => rfl
  | 1, _ => rfl
  | 2, _ => rfl
  | 3, h => exact absurd rfl h
  | o + 4, _ => rfl
theorem l0_fin {p0 : Int32} {n : Nat} {cs : Nat → ClassId} {ad2 ad3 : Nat → Nat} {x : Option va_E} {q2 q : Nat} (hn4 : n ≤ 4) (hw : ∀ k, ¬ (200 < k ∧ k < 217) → ad3 k = va_up ad2 200 q2 k) : ∀ k e, tC (wP n (va_up ad3 220 q) cs) (i0 p0 n) (fun _ _ => 0) k = some e →
    va_up (moC p0 n ad3 cs (va_up (fun k => if k < 200 then wP n ad2 cs k (i0 p0 n k) (fun _ => 0) else none) 200 x)) 220 (some (.inl (cs 1, 1, .inr (.inl (fun _ => 0))))) k = some e := by
  intro k e h
  unfold tC at h
  by_cases h1 : k < 200
  · refine up_n (by omega) (moC_n (by omega) (up_n (by omega) ?_))
    rw [if_pos h1]
    refine Eq.trans ?_ h
    exact (wP_cg hn4 (fun j hj => up_n (by unfold dep at hj; omega) ((hw j (by unfold dep at hj; omega)).trans (up_n (by unfold dep at hj; omega) rfl))) _ _).symm
  by_cases h2 : k < 217
  · refine up_n (by omega) ((moC_i (by omega)).trans (Eq.trans ?_ h))
    exact (wP_cg hn4 (fun j hj => up_n (by unfold dep at hj; omega) rfl) _ _).symm
  by_cases h3 : k = 220
  · subst h3
    exact up_s.trans h
  · rw [wP_y (by omega) h3] at h; cases h
