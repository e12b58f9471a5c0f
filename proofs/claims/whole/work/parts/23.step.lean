/-! A COURSE at b: years Y, states st, rows R (chain, row, date), kp rows, sp steps -/
def cCo (I : tI) (L : tL) (n nd b : Nat) (Y : Nat → Nat → Nat) (st : Nat → Int64) (R : Nat → Nat → Nat → Nat) (kp sp : Nat) : Prop :=
  I b 3 = nI kp ∧ I b 4 = nI sp ∧ ∀ c, c < n → L (b + 2) c = st c ∧ (∀ d, d < nd → I (b + 4 + c) d = nI (Y c d)) ∧ ∀ k, k < kp → ∀ d, d < nd → I (b + 8 + c) (k * 8 + d) = nI (R c k d)
/-- years as the chains have them: between first and last, all orders holding -/
def wfY (nd no : Nat) (f la ea lt le mo : Nat → Nat) (y : Nat → Nat) : Prop := (∀ d, d < nd → f d ≤ y d ∧ y d ≤ la d) ∧ ∀ k, k < no → y (ea k) + le k ≤ y (lt k) ∧ y (lt k) ≤ y (ea k) + mo k
/-- the year that a date draws -/
def dY (no : Nat) (f la : Nat → Nat) (w : Nat → Nat → Nat) (ea lt le mo : Nat → Nat) (d : Nat) (y : Nat → Nat) (x : Nat) : Nat :=
  sPick (fun q => w d (q - f d)) (sHi la ea lt le mo d y no - sLo f ea lt le mo d y no) (sLo f ea lt le mo d y no) (x % sSum (fun q => w d (q - f d)) (sLo f ea lt le mo d y no) (sHi la ea lt le mo d y no + 1 - sLo f ea lt le mo d y no))
section SY
variable {nd no : Nat} {f la : Nat → Nat} {w : Nat → Nat → Nat} {ea lt le mo : Nat → Nat}
theorem wfY_ok (hwf : wfS nd no f la w ea lt le mo) {y : Nat → Nat} (hy : wfY nd no f la ea lt le mo y) {d : Nat} (hd : d < nd) : sOk f la ea lt le mo d y (y d) no :=
  ⟨(hy.1 d hd).1, (hy.1 d hd).2, fun k hk => ⟨fun e => by have h := hy.2 k hk; rw [e] at h; omega, fun e => by have h := hy.2 k hk; rw [e] at h; omega⟩⟩
theorem wfY_le (hwf : wfS nd no f la w ea lt le mo) {y : Nat → Nat} (hy : wfY nd no f la ea lt le mo y) : ∀ k, k < no → ea k ≠ lt k ∧ y (ea k) + le k ≤ y (lt k) := fun k hk => ⟨(hwf.2.2.2 k hk).2.2.1, (hy.2 k hk).1⟩
theorem wfY_lh (hwf : wfS nd no f la w ea lt le mo) {y : Nat → Nat} (hy : wfY nd no f la ea lt le mo y) {d : Nat} (hd : d < nd) : sLo f ea lt le mo d y no ≤ sHi la ea lt le mo d y no := by
  have h := (sOk_iff (wfY_le hwf hy) (Nat.le_refl no)).mp (wfY_ok hwf hy hd)
  omega
theorem dY_in (hwf : wfS nd no f la w ea lt le mo) {y : Nat → Nat} (hy : wfY nd no f la ea lt le mo y) {d : Nat} (hd : d < nd) (x : Nat) : sLo f ea lt le mo d y no ≤ dY no f la w ea lt le mo d y x ∧ dY no f la w ea lt le mo d y x ≤ sHi la ea lt le mo d y no := by
  have h1 := wfY_lh hwf hy hd
  have h2 := sPick_le (fun q => w d (q - f d)) (sHi la ea lt le mo d y no - sLo f ea lt le mo d y no) (sLo f ea lt le mo d y no) (x % sSum (fun q => w d (q - f d)) (sLo f ea lt le mo d y no) (sHi la ea lt le mo d y no + 1 - sLo f ea lt le mo d y no))
  unfold dY
  omega
theorem wfY_up (hwf : wfS nd no f la w ea lt le mo) {y : Nat → Nat} (hy : wfY nd no f la ea lt le mo y) {d : Nat} (hd : d < nd) {v : Nat} (hv : sOk f la ea lt le mo d y v no) : wfY nd no f la ea lt le mo (va_up y d v) := by
  refine ⟨fun i hi => ?_, fun k hk => ?_⟩
  · by_cases e : i = d
    · rw [e, va_up_self]; exact ⟨hv.1, hv.2.1⟩
    · rw [va_up_ne _ _ e]; exact hy.1 i hi
  · have hne := (hwf.2.2.2 k hk).2.2.1
    have h0 := hy.2 k hk
    by_cases e1 : lt k = d
    · have e2 : ¬ ea k = d := fun q => hne (by omega)
      rw [e1, va_up_self, va_up_ne _ _ e2]
      exact ((hv.2.2 k hk).1 e1)
    · by_cases e2 : ea k = d
      · rw [e2, va_up_self, va_up_ne _ _ e1]
        have := (hv.2.2 k hk).2 e2
        omega
      · rw [va_up_ne _ _ e1, va_up_ne _ _ e2]
        exact h0
theorem wfY_dY (hwf : wfS nd no f la w ea lt le mo) {y : Nat → Nat} (hy : wfY nd no f la ea lt le mo y) {d : Nat} (hd : d < nd) (x : Nat) : wfY nd no f la ea lt le mo (va_up y d (dY no f la w ea lt le mo d y x)) :=
  wfY_up hwf hy hd ((sOk_iff (wfY_le hwf hy) (Nat.le_refl no)).mpr (dY_in hwf hy hd x))
theorem wfY_b (hwf : wfS nd no f la w ea lt le mo) {y : Nat → Nat} (hy : wfY nd no f la ea lt le mo y) : ∀ i, i < nd → y i ≤ 255 := fun i hi => by
  have h1 := hy.1 i hi
  have h2 := hwf.2.2.1 i hi
  omega
end SY
/-- the state's next number, and what is drawn of it -/
def stN (s : Int64) : Int64 := 6364136223846793005 * s + 1442695040888963407
def sX (s : Int64) : Nat := (s.toUInt64 >>> ((33 : Int32).toInt64.toUInt64 &&& Int64.toUInt64 63)).toNat
theorem sX_eq (s : Int64) : (s.toUInt64 >>> ((33 : Int32).toInt64.toUInt64 &&& Int64.toUInt64 63)).toInt64 = lN (sX s) := by
  unfold sX
  generalize s.toUInt64 >>> ((33 : Int32).toInt64.toUInt64 &&& Int64.toUInt64 63) = u
  apply Int64.toBitVec_inj.mp
  show u.toBitVec = BitVec.ofNat 64 u.toNat
  apply BitVec.eq_of_toNat_eq
  rw [BitVec.toNat_ofNat]
  show u.toNat = u.toNat % 2 ^ 64
  rw [Nat.mod_eq_of_lt u.toNat_lt]
theorem sX_lt (s : Int64) : sX s < 2 ^ 31 := by
  unfold sX
  rw [show ((33 : Int32).toInt64.toUInt64 &&& Int64.toUInt64 63) = (33 : UInt64) from by decide, UInt64.toNat_shiftRight, show (33 : UInt64).toNat % 64 = 33 from by decide, Nat.shiftRight_eq_div_pow]
  have := s.toUInt64.toNat_lt
  omega
/-- a chain's step over the dates below j -/
def sC (no : Nat) (f la : Nat → Nat) (w : Nat → Nat → Nat) (ea lt le mo : Nat → Nat) : Nat → (Nat → Nat) × Int64 → (Nat → Nat) × Int64
  | 0, q => q
  | j + 1, q => (va_up (sC no f la w ea lt le mo j q).1 j (dY no f la w ea lt le mo j (sC no f la w ea lt le mo j q).1 (sX (stN (sC no f la w ea lt le mo j q).2))), stN (sC no f la w ea lt le mo j q).2)
theorem wfY_sC {nd no : Nat} {f la : Nat → Nat} {w : Nat → Nat → Nat} {ea lt le mo : Nat → Nat} (hwf : wfS nd no f la w ea lt le mo) {q : (Nat → Nat) × Int64} (hy : wfY nd no f la ea lt le mo q.1) {j : Nat} (hj : j ≤ nd) : wfY nd no f la ea lt le mo (sC no f la w ea lt le mo j q).1 := by
  induction j with
  | zero => exact hy
  | succ j ih => exact wfY_dY hwf (ih (by omega)) (by omega) _
/-- is a step kept; how many of the next ones are -/
def isK (bu ev s : Nat) : Prop := bu < s ∧ (s - bu) % ev = 0
theorem isK_dec (bu ev s : Nat) : isK bu ev s ∨ ¬ isK bu ev s := by unfold isK; omega
def kN (bu ev s : Nat) : Nat := if bu < s ∧ (s - bu) % ev = 0 then 1 else 0
def cK (bu ev sp : Nat) : Nat → Nat
  | 0 => 0
  | i + 1 => cK bu ev sp i + kN bu ev (sp + (i + 1))
theorem kN_le (bu ev s : Nat) : kN bu ev s ≤ 1 := by unfold kN; split <;> omega
theorem cK_le (bu ev sp i : Nat) : cK bu ev sp i ≤ i := by
  induction i with
  | zero => exact Nat.le_refl _
  | succ i ih => have := kN_le bu ev (sp + (i + 1)); show cK bu ev sp i + _ ≤ _; omega
