/-! THE CONSTRUCTORS -/
section IA
variable {p : Program} {l : Launch} {e : Env} {R : Room} {s : State} {m : MethodId} {args : Array Value} {below : List Frame} {meth : Method} {c : Code} {H : Heap} {locs : List Loc} {cells slots : Nat} {Q : State → Prop}
variable {cc : ByteArray} {pc : Nat} {ls : Array Slot} {rest : List Value} {D : va_G} {cl : List vw_C} {base : Nat} {ad : Nat → Nat} {C : Nat → Option va_E} {tys : List (ClassId × FieldType)} {H0 : Heap}
theorem tb_getA (hexec : p.tables.exec = Jvm.exec) (hb : c.code = cc) {own ref Cn : String} {T : u_T} {N ci index : Nat} {Ts : List Cond} (hts : ∀ w ∈ Ts, w.before args s = true) (hin : ∀ w ∈ u_ws Cn T N, w ∈ Ts) (hown : s.vm.findClass own = some m.cls) (hK : va_K D cl tys s) (hR : tR D cl base ad C H) (k0 : Nat) {a : Nat} (ha : ad k0 = a) {fs : List Value} (he : C k0 = some (.inr (ci, fs))) (hc : cl[ci]? = some (Cn, T, N)) (k : Nat) (hk : k < N) (hlink : (Cond.fieldLink own index ref (T k).2.1 (T k).2.2.1).before args s = true) (hsame : ∀ x, s.fieldFound? (T k).1 (T k).2.1 (T k).2.2.1 = some x → s.fieldFound? ref (T k).2.1 (T k).2.2.1 = some x) {v : Value} (hv : fs[k]? = some v) (hdg : decode cc pc = .ok (.getfield index, 3))
    (kk : W p l e R s m args below meth c H locs cells slots Q (F0 m (pc + 3) ls (v :: rest))) : W p l e R s m args below meth c H locs cells slots Q (F0 m pc ls (.ref a :: rest)) := by
  subst ha
  exact tb_get hexec hb hts hin hown hK hR k0 he hc k hk hlink hsame hv hdg kk
theorem tb_putA (hexec : p.tables.exec = Jvm.exec) (hb : c.code = cc) {own ref Cn : String} {T : u_T} {N ci index : Nat} {Ts : List Cond} (hts : ∀ w ∈ Ts, w.before args s = true) (hin : ∀ w ∈ u_ws Cn T N, w ∈ Ts) (ty0 : Nat → FieldType) (hty : ∀ k, k < N → parseFieldDescriptor (T k).2.2.1 = some (ty0 k)) (hnm : ∀ a, a < N → ∀ b, b < N → a ≠ b → (T a).2.1 ≠ (T b).2.1) (hown : s.vm.findClass own = some m.cls) (hK : va_K D cl tys s) (hR : tR D cl base ad C H) (hS0 : va_S (fun q => base ≤ q) H0 H locs) (k0 : Nat) {a : Nat} (ha : ad k0 = a) {fs : List Value} (he : C k0 = some (.inr (ci, fs))) (hc : cl[ci]? = some (Cn, T, N)) (k : Nat) (hk : k < N) (hlink : (Cond.fieldLink own index ref (T k).2.1 (T k).2.2.1).before args s = true) (hsame : ∀ x, s.fieldFound? (T k).1 (T k).2.1 (T k).2.2.1 = some x → s.fieldFound? ref (T k).2.1 (T k).2.2.1 = some x) (hfin : (T k).2.2.2 = false) {ty : FieldType} {v : Value} (hd : parseFieldDescriptor (T k).2.2.1 = some ty) (hn : narrow ty v = v) (hfit : fits ty v = true) (hl : k < fs.length) {gs : List Value} (hgs : fs.set k v = gs)
    (hdg : decode cc pc = .ok (.putfield index, 3)) (kk : ∀ (H1 : Heap) (locs1 : List Loc), tR D cl base ad (va_up C k0 (some (.inr (ci, gs)))) H1 → va_S (fun q => base ≤ q) H0 H1 locs1 → W p l e R s m args below meth c H1 locs1 cells slots Q (F0 m (pc + 3) ls rest)) : W p l e R s m args below meth c H locs cells slots Q (F0 m pc ls (v :: .ref a :: rest)) := by
  subst ha
  subst hgs
  exact tb_put hexec hb hts hin ty0 hty hnm hown hK hR hS0 k0 he hc k hk hlink hsame hfin hd hn hfit hl hdg kk
theorem tb_putFA (hexec : p.tables.exec = Jvm.exec) (hb : c.code = cc) {own ref Cn : String} {T : u_T} {N ci index : Nat} {Ts : List Cond} (hts : ∀ w ∈ Ts, w.before args s = true) (hin : ∀ w ∈ u_ws Cn T N, w ∈ Ts) (ty0 : Nat → FieldType) (hty : ∀ k, k < N → parseFieldDescriptor (T k).2.2.1 = some (ty0 k)) (hnm : ∀ a, a < N → ∀ b, b < N → a ≠ b → (T a).2.1 ≠ (T b).2.1) (hown : s.vm.findClass own = some m.cls) (hK : va_K D cl tys s) (hR : tR D cl base ad C H) (hS0 : va_S (fun q => base ≤ q) H0 H locs) (k0 : Nat) {a : Nat} (ha : ad k0 = a) {fs : List Value} (he : C k0 = some (.inr (ci, fs))) (hc : cl[ci]? = some (Cn, T, N)) (k : Nat) (hk : k < N) (hlink : (Cond.fieldLink own index ref (T k).2.1 (T k).2.2.1).before args s = true) (hsame : ∀ x, s.fieldFound? (T k).1 (T k).2.1 (T k).2.2.1 = some x → s.fieldFound? ref (T k).2.1 (T k).2.2.1 = some x) (hfin : (T k).2.2.2 = true) (hin2 : meth.name = "<init>") (hdecl : (T k).1 = own) {ty : FieldType} {v : Value} (hd : parseFieldDescriptor (T k).2.2.1 = some ty) (hn : narrow ty v = v) (hfit : fits ty v = true) (hl : k < fs.length) {gs : List Value} (hgs : fs.set k v = gs)
    (hdg : decode cc pc = .ok (.putfield index, 3)) (kk : ∀ (H1 : Heap) (locs1 : List Loc), tR D cl base ad (va_up C k0 (some (.inr (ci, gs)))) H1 → va_S (fun q => base ≤ q) H0 H1 locs1 → W p l e R s m args below meth c H1 locs1 cells slots Q (F0 m (pc + 3) ls rest)) : W p l e R s m args below meth c H locs cells slots Q (F0 m pc ls (v :: .ref a :: rest)) := by
  subst ha
  subst hgs
  exact tb_putF hexec hb hts hin ty0 hty hnm hown hK hR hS0 k0 he hc k hk hlink hsame hfin hin2 hdecl hd hn hfit hl hdg kk
theorem tb_astqA (hexec : p.tables.exec = Jvm.exec) (hb : c.code = cc) (hK : va_K D cl tys s) (hR : tR D cl base ad C H) (hS : va_S (fun q => base ≤ q) H0 H locs) (ka t0 kv ci : Nat) {a9 v9 : Nat} (ha9 : ad ka = a9) (hv9 : ad kv = v9) {cA : ClassId} {r : vw_C} {n : Nat} {vs : List Value} {f : Nat → Option Nat} (ha : C ka = some (.inl (cA, n, .inr (.inr (.inr (.inr f)))))) (ht : tys[t0]? = some (cA, .object r.1)) (hv : C kv = some (.inr (ci, vs))) (hc : cl[ci]? = some r) {i : Int32} (j : Nat) (hi : i = nI j) (hj : j < n) (hn : n < 2 ^ 31) (hdg : decode cc pc = .ok (.aastore, 1))
    (kk : ∀ (H1 : Heap) (locs1 : List Loc), tR D cl base ad (va_up C ka (some (.inl (cA, n, .inr (.inr (.inr (.inr (va_up f j (some (ad kv)))))))))) H1 → va_S (fun q => base ≤ q) H0 H1 locs1 → W p l e R s m args below meth c H1 locs1 cells slots Q (F0 m (pc + 1) ls rest)) : W p l e R s m args below meth c H locs cells slots Q (F0 m pc ls (.ref v9 :: .int i :: .ref a9 :: rest)) := by
  subst ha9
  subst hv9
  exact tb_astq hexec hb hK hR hS ka t0 kv ci ha ht hv hc j hi hj hn hdg kk
end IA
section IB
variable {p : Program} {l : Launch} {e : Env} {R : Room} {s : State} {m : MethodId} {args : Array Value} {below : List Frame} {meth : Method} {c : Code} {H : Heap} {locs : List Loc} {cells slots : Nat} {Q : State → Prop}
variable {pc : Nat} {ls : Array Slot} {rest st0 : List Value} {D : va_G} {cs : Nat → ClassId} {base : Nat} {H0 : Heap} {mc ms : Nat} {a : Array Value}
theorem kg_v {post : (Nat → Nat) → Prop} {F : (Nat → Nat) → Nat → Option va_E} (hr : va_Run p l e R s m args below meth c H locs cells slots mc ms (F0 m pc ls st0) rest (va_Qv post (fun (ad' : Nat → Nat) (t : State) => tR D vwCl base ad' (F ad') t.heap) (fun q => base ≤ q) a) (fun q => base ≤ q)) (hS : va_S (fun q => base ≤ q) H0 H locs)
    (kk : ∀ (ad' : Nat → Nat) (H1 : Heap) (locs1 : List Loc), post ad' → tR D vwCl base ad' (F ad') H1 → va_S (fun q => base ≤ q) H0 H1 locs1 → W p l e R s m args below meth c H1 locs1 (cells + mc) (slots + ms) Q (F0 m (pc + 3) ls rest)) : W p l e R s m args below meth c H locs cells slots Q (F0 m pc ls st0) :=
  va_callv hr hS (fun _ _ h => h) (fun _ h => h) (fun u t H1 locs1 ht _ hw hB _ _ hS1 => kk u H1 locs1 hw (by rw [← ht]; exact hB) hS1)
end IB
theorem i_lt_a {a b : Int32} (h : a < b) : ¬ b < a := by
  rw [Int32.lt_iff_toInt_lt] at h ⊢
  omega
theorem i_eq {a b : Int32} (h : ¬ a < b) (h2 : ¬ b < a) : a = b := by
  rw [Int32.lt_iff_toInt_lt] at h h2
  exact Int32.toInt_inj.mp (by omega)
theorem i_le_n {a b : Int32} (h : a ≤ b) : ¬ b < a := by
  rw [Int32.le_iff_toInt_le] at h
  rw [Int32.lt_iff_toInt_lt]
  omega
theorem ch_b (x : Int32) : 1 ≤ chN x ∧ chN x ≤ 4 := by
  unfold chN
  by_cases h : x < 1
  · rw [if_pos h]; omega
  · rw [if_neg h]
    by_cases h4 : 4 < x
    · rw [if_pos h4]; omega
    · rw [if_neg h4]
      have hz : ¬ x < 0 := fun q => h (i_lt_le q (by decide))
      obtain ⟨j, hj, rfl⟩ := nI_of hz
      rw [nI_clamp hj]
      have h1 : ¬ nI j < nI 1 := h
      have h2 : ¬ nI 4 < nI j := h4
      have h3 : ¬ j < 1 := fun q => h1 (nI_lt q (by omega))
      have h5 : ¬ 4 < j := fun q => h2 (nI_lt q hj)
      omega
theorem ch_1 {x : Int32} (h : x < 1) : (1 : Int32) = nI (chN x) := by unfold chN; rw [if_pos h]; rfl
theorem ch_4 {x : Int32} (h : ¬ x < 1) (h4 : 4 < x) : (4 : Int32) = nI (chN x) := by unfold chN; rw [if_neg h, if_pos h4]; rfl
theorem ch_e {x : Int32} (h : ¬ x < 1) (h4 : ¬ 4 < x) : x = nI (chN x) := by
  unfold chN
  rw [if_neg h, if_neg h4]
  have hz : ¬ x < 0 := fun q => h (i_lt_le q (by decide))
  obtain ⟨j, hj, rfl⟩ := nI_of hz
  rw [nI_clamp hj]
theorem ch_mm (x : Int32) : (if (1 : Int32) < (if x < 4 then x else 4) then (if x < 4 then x else 4) else 1) = nI (chN x) := by
  by_cases h : x < 1
  · have h4 : x < 4 := i_lt_le h (by decide)
    rw [if_pos h4, if_neg (i_lt_a h), ← ch_1 h]
  · by_cases h4 : 4 < x
    · rw [if_neg (i_lt_a h4), ← ch_4 h h4]; rfl
    · by_cases h5 : x < 4
      · rw [if_pos h5, ← ch_e h h4]
        by_cases h6 : (1 : Int32) < x
        · rw [if_pos h6]
        · rw [if_neg h6]; exact i_eq h6 h
      · rw [if_neg h5, show x = 4 from i_eq h5 h4, ← ch_e (by decide) (by decide)]; rfl
