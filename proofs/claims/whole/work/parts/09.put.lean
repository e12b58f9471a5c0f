section TQ
variable {p : Program} {l : Launch} {e : Env} {R : Room} {s : State} {m : MethodId} {args : Array Value} {below : List Frame} {meth : Method} {c : Code} {H : Heap} {locs : List Loc} {cells slots : Nat} {Q : State → Prop}
variable {cc : ByteArray} {pc : Nat} {ls : Array Slot} {rest : List Value} {D : va_G} {cl : List vw_C} {base : Nat} {ad : Nat → Nat} {P : tP} {I : tI} {L : tL} {tys : List (ClassId × FieldType)} {H0 : Heap}
theorem tp_put (hexec : p.tables.exec = Jvm.exec) (hb : c.code = cc) {own ref Cn : String} {T : u_T} {N ci index : Nat} {Ts : List Cond} (hts : ∀ w ∈ Ts, w.before args s = true) (hin : ∀ w ∈ u_ws Cn T N, w ∈ Ts) (ty0 : Nat → FieldType) (hty : ∀ k, k < N → parseFieldDescriptor (T k).2.2.1 = some (ty0 k)) (hnm : ∀ a, a < N → ∀ b, b < N → a ≠ b → (T a).2.1 ≠ (T b).2.1) (hown : s.vm.findClass own = some m.cls) (hK : va_K D cl tys s) (hR : tR D cl base ad (tC P I L) H) (hS0 : va_S (fun q => base ≤ q) H0 H locs) (k0 : Nat) (fs : (Nat → Int32) → List Value) (hk : ∀ r q, P k0 r q = some (.inr (ci, fs r))) (hc : cl[ci]? = some (Cn, T, N)) (k : Nat) (hk1 : k < N) (hlink : (Cond.fieldLink own index ref (T k).2.1 (T k).2.2.1).before args s = true) (hsame : ∀ x, s.fieldFound? (T k).1 (T k).2.1 (T k).2.2.1 = some x → s.fieldFound? ref (T k).2.1 (T k).2.2.1 = some x) (hfin : (T k).2.2.2 = false) {ty : FieldType} {x : Int32} (hd : parseFieldDescriptor (T k).2.2.1 = some ty) (hn : narrow ty (.int x) = .int x) (hfit : fits ty (.int x) = true) (hl : k < (fs (I k0)).length) (hset : ∀ r, (fs r).set k (.int x) = fs (upd r k x))
    (hdg : decode cc pc = .ok (.putfield index, 3)) (kk : ∀ (H1 : Heap) (locs1 : List Loc), tR D cl base ad (tC P (va_up I k0 (upd (I k0) k x)) L) H1 → va_S (fun q => base ≤ q) H0 H1 locs1 → W p l e R s m args below meth c H1 locs1 cells slots Q (F0 m (pc + 3) ls rest)) : W p l e R s m args below meth c H locs cells slots Q (F0 m pc ls (.int x :: .ref (ad k0) :: rest)) := by
  refine tb_put hexec hb hts hin ty0 hty hnm hown hK hR hS0 k0 (hk _ _) hc k hk1 hlink hsame hfin hd hn hfit hl hdg (fun H1 locs1 hR1 hS1 => kk H1 locs1 ?_ hS1)
  rw [hset, ← hk _ (L k0), tC_upI] at hR1
  exact hR1
theorem tp_putN (hexec : p.tables.exec = Jvm.exec) (hb : c.code = cc) {own ref Cn host : String} {T : u_T} {N ci index : Nat} {Ts : List Cond} (hts : ∀ w ∈ Ts, w.before args s = true) (hin : ∀ w ∈ u_ws Cn T N, w ∈ Ts) (ty0 : Nat → FieldType) (hty : ∀ k, k < N → parseFieldDescriptor (T k).2.2.1 = some (ty0 k)) (hnm : ∀ a, a < N → ∀ b, b < N → a ≠ b → (T a).2.1 ≠ (T b).2.1) (hown : s.vm.findClass own = some m.cls) (hK : va_K D cl tys s) (hR : tR D cl base ad (tC P I L) H) (hS0 : va_S (fun q => base ≤ q) H0 H locs) (k0 : Nat) (fs : (Nat → Int32) → List Value) (hk : ∀ r q, P k0 r q = some (.inr (ci, fs r))) (hc : cl[ci]? = some (Cn, T, N)) (k : Nat) (hk1 : k < N) (hlink : (Cond.fieldLinkNest own index ref (T k).2.1 (T k).2.2.1 host).before args s = true) (hsame : ∀ x, s.fieldFound? (T k).1 (T k).2.1 (T k).2.2.1 = some x → s.fieldFound? ref (T k).2.1 (T k).2.2.1 = some x) (hfin : (T k).2.2.2 = false) {ty : FieldType} {x : Int32} (hd : parseFieldDescriptor (T k).2.2.1 = some ty) (hn : narrow ty (.int x) = .int x) (hfit : fits ty (.int x) = true) (hl : k < (fs (I k0)).length) (hset : ∀ r, (fs r).set k (.int x) = fs (upd r k x))
    (hdg : decode cc pc = .ok (.putfield index, 3)) (kk : ∀ (H1 : Heap) (locs1 : List Loc), tR D cl base ad (tC P (va_up I k0 (upd (I k0) k x)) L) H1 → va_S (fun q => base ≤ q) H0 H1 locs1 → W p l e R s m args below meth c H1 locs1 cells slots Q (F0 m (pc + 3) ls rest)) : W p l e R s m args below meth c H locs cells slots Q (F0 m pc ls (.int x :: .ref (ad k0) :: rest)) := by
  refine tb_putN hexec hb hts hin ty0 hty hnm hown hK hR hS0 k0 (hk _ _) hc k hk1 hlink hsame hfin hd hn hfit hl hdg (fun H1 locs1 hR1 hS1 => kk H1 locs1 ?_ hS1)
  rw [hset, ← hk _ (L k0), tC_upI] at hR1
  exact hR1
end TQ
theorem isB_sv {i : Nat} (h : i < 4) : isB (40 + 20 * i) := by unfold isB; omega
/-! THE SITE, as numbers: nd dates, no orders; first f and last la year, phase ph, weights w (of the year f d + i), orders ea, lt, le, mo -/
def cSi (I : tI) (nd no : Nat) (f la : Nat → Nat) (ph : Nat → Int32) (w : Nat → Nat → Nat) (ea lt le mo : Nat → Nat) : Prop :=
  I 1 8 = nI nd ∧ I 1 9 = nI no ∧ (∀ d, d < nd → I 2 d = nI (f d) ∧ I 3 d = nI (la d) ∧ I 4 d = ph d ∧ ∀ i, i < 64 → I (10 + d) i = nI (w d i)) ∧ ∀ j, j < no → I 6 j = nI (ea j) ∧ I 7 j = nI (lt j) ∧ I 8 j = nI (le j) ∧ I 9 j = nI (mo j)
def wfS (nd no : Nat) (f la : Nat → Nat) (w : Nat → Nat → Nat) (ea lt le mo : Nat → Nat) : Prop :=
  nd ≤ 8 ∧ no ≤ 24 ∧ (∀ d, d < nd → f d ≤ la d ∧ la d ≤ 255 ∧ la d ≤ f d + 63 ∧ ∀ i, i < 64 → 1 ≤ w d i ∧ w d i ≤ 1000) ∧ ∀ j, j < no → ea j < nd ∧ lt j < nd ∧ ea j ≠ lt j ∧ le j ≤ mo j ∧ mo j ≤ 255
/-- the least year by the orders below j, the others' years being y -/
def sLo (f ea lt le mo : Nat → Nat) (d : Nat) (y : Nat → Nat) : Nat → Nat
  | 0 => f d
  | j + 1 => if lt j = d then (if sLo f ea lt le mo d y j < y (ea j) + le j then y (ea j) + le j else sLo f ea lt le mo d y j) else if ea j = d then (if sLo f ea lt le mo d y j + mo j < y (lt j) then y (lt j) - mo j else sLo f ea lt le mo d y j) else sLo f ea lt le mo d y j
def sHi (la ea lt le mo : Nat → Nat) (d : Nat) (y : Nat → Nat) : Nat → Nat
  | 0 => la d
  | j + 1 => if lt j = d then (if y (ea j) + mo j < sHi la ea lt le mo d y j then y (ea j) + mo j else sHi la ea lt le mo d y j) else if ea j = d then (if y (lt j) - le j < sHi la ea lt le mo d y j then y (lt j) - le j else sHi la ea lt le mo d y j) else sHi la ea lt le mo d y j
theorem nI_tri {a : Nat} (h : a < 2 ^ 30) : (nI a).toInt = (a : Int) := nI_toInt (by omega)
theorem mx_add {a b c : Nat} (ha : a < 2 ^ 29) (hb : b < 2 ^ 29) (hc : c < 2 ^ 29) : (if nI a < nI b + nI c then nI b + nI c else nI a) = nI (if a < b + c then b + c else a) := by
  rw [nI_add]
  by_cases h : a < b + c
  · rw [if_pos h, if_pos (nI_lt h (by omega))]
  · rw [if_neg h, if_neg (nI_nlt (by omega) (by omega))]
theorem mn_add {a b c : Nat} (ha : a < 2 ^ 29) (hb : b < 2 ^ 29) (hc : c < 2 ^ 29) : (if nI b + nI c < nI a then nI b + nI c else nI a) = nI (if b + c < a then b + c else a) := by
  rw [nI_add]
  by_cases h : b + c < a
  · rw [if_pos h, if_pos (nI_lt h (by omega))]
  · rw [if_neg h, if_neg (nI_nlt (by omega) (by omega))]
theorem mx_sub {a b c : Nat} (ha : a < 2 ^ 29) (hb : b < 2 ^ 29) (hc : c < 2 ^ 29) : (if nI a < nI b - nI c then nI b - nI c else nI a) = nI (if a + c < b then b - c else a) := by
  by_cases h : a + c < b
  · rw [if_pos h, pk_sub (by omega), if_pos (nI_lt (by omega) (by omega))]
  · rw [if_neg h, if_neg]
    rw [Int32.lt_iff_toInt_lt, pk_sub_toInt (by omega) (by omega), nI_tri (by omega)]
    omega
theorem mn_sub {a b c : Nat} (ha : a < 2 ^ 29) (hb : b < 2 ^ 29) (hc : c ≤ b) : (if nI b - nI c < nI a then nI b - nI c else nI a) = nI (if b - c < a then b - c else a) := by
  rw [pk_sub hc]
  by_cases h : b - c < a
  · rw [if_pos h, if_pos (nI_lt h (by omega))]
  · rw [if_neg h, if_neg (nI_nlt (by omega) (by omega))]
