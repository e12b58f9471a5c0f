/-! THE WORLD BY CODES: code k's cell lies at ad k and holds C k; all cells lie from base on. -/
def tR (D : va_G) (cl : List vw_C) (base : Nat) (ad : Nat → Nat) (C : Nat → Option va_E) (H : Heap) : Prop :=
  ∃ ws : va_W, va_P D cl ws H ∧ va_D (fun q => base ≤ q) ws ∧ (∀ k e, C k = some e → (ad k, e) ∈ ws) ∧ (∀ i j ei ej, C i = some ei → C j = some ej → ad i = ad j → i = j)
theorem tR.less {D : va_G} {cl : List vw_C} {base : Nat} {ad : Nat → Nat} {C C' : Nat → Option va_E} {H : Heap} (h : tR D cl base ad C H) (hC : ∀ k e, C' k = some e → C k = some e) : tR D cl base ad C' H := by
  obtain ⟨ws, hP, hD, hM, hI⟩ := h
  exact ⟨ws, hP, hD, fun k e hk => hM k e (hC k e hk), fun i j ei ej hi hj => hI i j ei ej (hC i ei hi) (hC j ej hj)⟩
theorem tR.ge {D : va_G} {cl : List vw_C} {base : Nat} {ad : Nat → Nat} {C : Nat → Option va_E} {H : Heap} (h : tR D cl base ad C H) {k : Nat} {e : va_E} (hk : C k = some e) : base ≤ ad k := by
  obtain ⟨ws, hP, hD, hM, hI⟩ := h
  obtain ⟨i, hi⟩ := List.getElem?_of_mem (hM _ _ hk)
  exact hD.2 i _ hi
/-- what lies from base on and was there stays where nothing of it is changed -/
theorem tR.kept {D : va_G} {cl : List vw_C} {base : Nat} {ad : Nat → Nat} {C : Nat → Option va_E} {H H1 : Heap} (h : tR D cl base ad C H) (hq : ∀ q : Nat, q < H.size → H1[q]? = H[q]?) : tR D cl base ad C H1 := by
  obtain ⟨ws, hP, hD, hM, hI⟩ := h
  exact ⟨ws, hP.kept (fun k q hk => hq _ ((hP k q hk).lt)), hD, hM, hI⟩
theorem tR.set {D : va_G} {cl : List vw_C} {base : Nat} {ad : Nat → Nat} {C : Nat → Option va_E} {H1 : Heap} {ws : va_W} {i k0 : Nat} {e0 e : va_E} (hP : va_P D cl (ws.set i (ad k0, e)) H1) (hD : va_D (fun q => base ≤ q) (ws.set i (ad k0, e)))
    (hM : ∀ k e, C k = some e → (ad k, e) ∈ ws) (hI : ∀ i j ei ej, C i = some ei → C j = some ej → ad i = ad j → i = j) (h0 : C k0 = some e0) (hi : ws[i]? = some (ad k0, e0)) : tR D cl base ad (va_up C k0 (some e)) H1 := by
  have hl : i < ws.length := (List.getElem?_eq_some_iff.mp hi).1
  refine ⟨_, hP, hD, fun k e' hk => ?_, fun a b ea eb ha hb hab => ?_⟩
  · by_cases h : k = k0
    · subst h
      rw [va_up_self] at hk
      cases hk
      exact List.mem_of_getElem? (i := i) (by rw [List.getElem?_set_self hl])
    · rw [va_up_ne _ _ h] at hk
      obtain ⟨j, hj⟩ := List.getElem?_of_mem (hM k e' hk)
      have hne : i ≠ j := by
        intro q
        subst q
        rw [hi] at hj
        have h9 : ad k0 = ad k := congrArg Prod.fst (Option.some.inj hj)
        exact h (hI k k0 _ _ hk h0 h9.symm)
      exact List.mem_of_getElem? (i := j) (by rw [List.getElem?_set_ne hne]; exact hj)
  · have h1 : ∃ x, C a = some x := by
      by_cases h : a = k0
      · exact ⟨e0, by rw [h]; exact h0⟩
      · rw [va_up_ne _ _ h] at ha
        exact ⟨_, ha⟩
    have h2 : ∃ x, C b = some x := by
      by_cases h : b = k0
      · exact ⟨e0, by rw [h]; exact h0⟩
      · rw [va_up_ne _ _ h] at hb
        exact ⟨_, hb⟩
    obtain ⟨x, hx⟩ := h1
    obtain ⟨y, hy⟩ := h2
    exact hI a b _ _ hx hy hab
/-- a new cell gets a code that was free -/
theorem tR.push {D : va_G} {cl : List vw_C} {base : Nat} {ad : Nat → Nat} {C : Nat → Option va_E} {H1 : Heap} {ws : va_W} {q : Nat} (k0 : Nat) {e : va_E} (hP : va_P D cl (ws ++ [(q, e)]) H1) (hD : va_D (fun q => base ≤ q) (ws ++ [(q, e)]))
    (hM : ∀ k e, C k = some e → (ad k, e) ∈ ws) (hI : ∀ i j ei ej, C i = some ei → C j = some ej → ad i = ad j → i = j) (h0 : C k0 = none) : tR D cl base (va_up ad k0 q) (va_up C k0 (some e)) H1 := by
  have hq : ∀ k x, C k = some x → ad k ≠ q := by
    intro k x hk hkq
    obtain ⟨j, hj⟩ := List.getElem?_of_mem (hM k x hk)
    have hl : j < ws.length := (List.getElem?_eq_some_iff.mp hj).1
    have h1 : (ws ++ [(q, e)])[j]? = some (ad k, x) := by rw [List.getElem?_append_left hl]; exact hj
    have h2 : (ws ++ [(q, e)])[ws.length]? = some (q, e) := by rw [List.getElem?_append_right (Nat.le_refl _), Nat.sub_self]; rfl
    have := hD.1 _ _ _ _ h1 h2 hkq
    omega
  have hne : ∀ k x, C k = some x → k ≠ k0 := fun k x hk h => by rw [h, h0] at hk; cases hk
  refine ⟨_, hP, hD, fun k e' hk => ?_, fun a b ea eb ha hb hab => ?_⟩
  · by_cases h : k = k0
    · subst h
      rw [va_up_self] at hk
      cases hk
      rw [va_up_self]
      exact List.mem_append_right _ (List.mem_singleton.mpr rfl)
    · rw [va_up_ne _ _ h] at hk
      rw [va_up_ne _ _ h]
      exact List.mem_append_left _ (hM k e' hk)
  · by_cases h1 : a = k0 <;> by_cases h2 : b = k0
    · rw [h1, h2]
    · rw [va_up_ne _ _ h2] at hb hab
      rw [h1, va_up_self] at hab
      exact absurd hab.symm (hq b _ hb)
    · rw [va_up_ne _ _ h1] at ha hab
      rw [h2, va_up_self] at hab
      exact absurd hab (hq a _ ha)
    · rw [va_up_ne _ _ h1] at ha hab
      rw [va_up_ne _ _ h2] at hb hab
      exact hI a b _ _ ha hb hab
section TB
variable {p : Program} {l : Launch} {e : Env} {R : Room} {s : State} {m : MethodId} {args : Array Value} {below : List Frame} {meth : Method} {c : Code} {H : Heap} {locs : List Loc} {cells slots : Nat} {Q : State → Prop}
variable {cc : ByteArray} {pc : Nat} {ls : Array Slot} {rest : List Value} {D : va_G} {cl : List vw_C} {base : Nat} {ad : Nat → Nat} {C : Nat → Option va_E} {tys : List (ClassId × FieldType)} {H0 : Heap}
theorem tb_get (hexec : p.tables.exec = Jvm.exec) (hb : c.code = cc) {own ref Cn : String} {T : u_T} {N ci index : Nat} {Ts : List Cond} (hts : ∀ w ∈ Ts, w.before args s = true) (hin : ∀ w ∈ u_ws Cn T N, w ∈ Ts) (hown : s.vm.findClass own = some m.cls) (hK : va_K D cl tys s) (hR : tR D cl base ad C H) (k0 : Nat) {fs : List Value} (he : C k0 = some (.inr (ci, fs))) (hc : cl[ci]? = some (Cn, T, N)) (k : Nat) (hk : k < N) (hlink : (Cond.fieldLink own index ref (T k).2.1 (T k).2.2.1).before args s = true) (hsame : ∀ x, s.fieldFound? (T k).1 (T k).2.1 (T k).2.2.1 = some x → s.fieldFound? ref (T k).2.1 (T k).2.2.1 = some x) {v : Value} (hv : fs[k]? = some v) (hdg : decode cc pc = .ok (.getfield index, 3))
    (kk : W p l e R s m args below meth c H locs cells slots Q (F0 m (pc + 3) ls (v :: rest))) : W p l e R s m args below meth c H locs cells slots Q (F0 m pc ls (.ref (ad k0) :: rest)) := by
  obtain ⟨ws, hP, hD, hM, hI⟩ := hR
  obtain ⟨i, hi⟩ := List.getElem?_of_mem (hM _ _ he)
  exact va_get hexec hb hts hin hown hK hP i hi hc k hk hlink hsame hv hdg kk
theorem tb_getN (hexec : p.tables.exec = Jvm.exec) (hb : c.code = cc) {own ref Cn host : String} {T : u_T} {N ci index : Nat} {Ts : List Cond} (hts : ∀ w ∈ Ts, w.before args s = true) (hin : ∀ w ∈ u_ws Cn T N, w ∈ Ts) (hown : s.vm.findClass own = some m.cls) (hK : va_K D cl tys s) (hR : tR D cl base ad C H) (k0 : Nat) {fs : List Value} (he : C k0 = some (.inr (ci, fs))) (hc : cl[ci]? = some (Cn, T, N)) (k : Nat) (hk : k < N) (hlink : (Cond.fieldLinkNest own index ref (T k).2.1 (T k).2.2.1 host).before args s = true) (hsame : ∀ x, s.fieldFound? (T k).1 (T k).2.1 (T k).2.2.1 = some x → s.fieldFound? ref (T k).2.1 (T k).2.2.1 = some x) {v : Value} (hv : fs[k]? = some v) (hdg : decode cc pc = .ok (.getfield index, 3))
    (kk : W p l e R s m args below meth c H locs cells slots Q (F0 m (pc + 3) ls (v :: rest))) : W p l e R s m args below meth c H locs cells slots Q (F0 m pc ls (.ref (ad k0) :: rest)) := by
  obtain ⟨ws, hP, hD, hM, hI⟩ := hR
  obtain ⟨i, hi⟩ := List.getElem?_of_mem (hM _ _ he)
  exact va_getN hexec hb hts hin hown hK hP i hi hc k hk hlink hsame hv hdg kk
theorem tb_put (hexec : p.tables.exec = Jvm.exec) (hb : c.code = cc) {own ref Cn : String} {T : u_T} {N ci index : Nat} {Ts : List Cond} (hts : ∀ w ∈ Ts, w.before args s = true) (hin : ∀ w ∈ u_ws Cn T N, w ∈ Ts) (ty0 : Nat → FieldType) (hty : ∀ k, k < N → parseFieldDescriptor (T k).2.2.1 = some (ty0 k)) (hnm : ∀ a, a < N → ∀ b, b < N → a ≠ b → (T a).2.1 ≠ (T b).2.1) (hown : s.vm.findClass own = some m.cls) (hK : va_K D cl tys s) (hR : tR D cl base ad C H) (hS0 : va_S (fun q => base ≤ q) H0 H locs) (k0 : Nat) {fs : List Value} (he : C k0 = some (.inr (ci, fs))) (hc : cl[ci]? = some (Cn, T, N)) (k : Nat) (hk : k < N) (hlink : (Cond.fieldLink own index ref (T k).2.1 (T k).2.2.1).before args s = true) (hsame : ∀ x, s.fieldFound? (T k).1 (T k).2.1 (T k).2.2.1 = some x → s.fieldFound? ref (T k).2.1 (T k).2.2.1 = some x) (hfin : (T k).2.2.2 = false) {ty : FieldType} {v : Value} (hd : parseFieldDescriptor (T k).2.2.1 = some ty) (hn : narrow ty v = v) (hfit : fits ty v = true) (hl : k < fs.length)
    (hdg : decode cc pc = .ok (.putfield index, 3)) (kk : ∀ (H1 : Heap) (locs1 : List Loc), tR D cl base ad (va_up C k0 (some (.inr (ci, fs.set k v)))) H1 → va_S (fun q => base ≤ q) H0 H1 locs1 → W p l e R s m args below meth c H1 locs1 cells slots Q (F0 m (pc + 3) ls rest)) : W p l e R s m args below meth c H locs cells slots Q (F0 m pc ls (v :: .ref (ad k0) :: rest)) := by
  obtain ⟨ws, hP, hD, hM, hI⟩ := hR
  obtain ⟨i, hi⟩ := List.getElem?_of_mem (hM _ _ he)
  exact va_put hexec hb hts hin ty0 hty hnm hown hK hP hD hS0 i hi hc k hk hlink hsame hfin hd hn hfit hl hdg (fun H1 locs1 hP1 hD1 hS1 => kk H1 locs1 (tR.set hP1 hD1 hM hI he hi) hS1)
theorem tb_putN (hexec : p.tables.exec = Jvm.exec) (hb : c.code = cc) {own ref Cn host : String} {T : u_T} {N ci index : Nat} {Ts : List Cond} (hts : ∀ w ∈ Ts, w.before args s = true) (hin : ∀ w ∈ u_ws Cn T N, w ∈ Ts) (ty0 : Nat → FieldType) (hty : ∀ k, k < N → parseFieldDescriptor (T k).2.2.1 = some (ty0 k)) (hnm : ∀ a, a < N → ∀ b, b < N → a ≠ b → (T a).2.1 ≠ (T b).2.1) (hown : s.vm.findClass own = some m.cls) (hK : va_K D cl tys s) (hR : tR D cl base ad C H) (hS0 : va_S (fun q => base ≤ q) H0 H locs) (k0 : Nat) {fs : List Value} (he : C k0 = some (.inr (ci, fs))) (hc : cl[ci]? = some (Cn, T, N)) (k : Nat) (hk : k < N) (hlink : (Cond.fieldLinkNest own index ref (T k).2.1 (T k).2.2.1 host).before args s = true) (hsame : ∀ x, s.fieldFound? (T k).1 (T k).2.1 (T k).2.2.1 = some x → s.fieldFound? ref (T k).2.1 (T k).2.2.1 = some x) (hfin : (T k).2.2.2 = false) {ty : FieldType} {v : Value} (hd : parseFieldDescriptor (T k).2.2.1 = some ty) (hn : narrow ty v = v) (hfit : fits ty v = true) (hl : k < fs.length)
    (hdg : decode cc pc = .ok (.putfield index, 3)) (kk : ∀ (H1 : Heap) (locs1 : List Loc), tR D cl base ad (va_up C k0 (some (.inr (ci, fs.set k v)))) H1 → va_S (fun q => base ≤ q) H0 H1 locs1 → W p l e R s m args below meth c H1 locs1 cells slots Q (F0 m (pc + 3) ls rest)) : W p l e R s m args below meth c H locs cells slots Q (F0 m pc ls (v :: .ref (ad k0) :: rest)) := by
  obtain ⟨ws, hP, hD, hM, hI⟩ := hR
  obtain ⟨i, hi⟩ := List.getElem?_of_mem (hM _ _ he)
  exact va_putN hexec hb hts hin ty0 hty hnm hown hK hP hD hS0 i hi hc k hk hlink hsame hfin hd hn hfit hl hdg (fun H1 locs1 hP1 hD1 hS1 => kk H1 locs1 (tR.set hP1 hD1 hM hI he hi) hS1)
theorem tb_putF (hexec : p.tables.exec = Jvm.exec) (hb : c.code = cc) {own ref Cn : String} {T : u_T} {N ci index : Nat} {Ts : List Cond} (hts : ∀ w ∈ Ts, w.before args s = true) (hin : ∀ w ∈ u_ws Cn T N, w ∈ Ts) (ty0 : Nat → FieldType) (hty : ∀ k, k < N → parseFieldDescriptor (T k).2.2.1 = some (ty0 k)) (hnm : ∀ a, a < N → ∀ b, b < N → a ≠ b → (T a).2.1 ≠ (T b).2.1) (hown : s.vm.findClass own = some m.cls) (hK : va_K D cl tys s) (hR : tR D cl base ad C H) (hS0 : va_S (fun q => base ≤ q) H0 H locs) (k0 : Nat) {fs : List Value} (he : C k0 = some (.inr (ci, fs))) (hc : cl[ci]? = some (Cn, T, N)) (k : Nat) (hk : k < N) (hlink : (Cond.fieldLink own index ref (T k).2.1 (T k).2.2.1).before args s = true) (hsame : ∀ x, s.fieldFound? (T k).1 (T k).2.1 (T k).2.2.1 = some x → s.fieldFound? ref (T k).2.1 (T k).2.2.1 = some x) (hfin : (T k).2.2.2 = true) (hin2 : meth.name = "<init>") (hdecl : (T k).1 = own) {ty : FieldType} {v : Value} (hd : parseFieldDescriptor (T k).2.2.1 = some ty) (hn : narrow ty v = v) (hfit : fits ty v = true) (hl : k < fs.length)
    (hdg : decode cc pc = .ok (.putfield index, 3)) (kk : ∀ (H1 : Heap) (locs1 : List Loc), tR D cl base ad (va_up C k0 (some (.inr (ci, fs.set k v)))) H1 → va_S (fun q => base ≤ q) H0 H1 locs1 → W p l e R s m args below meth c H1 locs1 cells slots Q (F0 m (pc + 3) ls rest)) : W p l e R s m args below meth c H locs cells slots Q (F0 m pc ls (v :: .ref (ad k0) :: rest)) := by
  obtain ⟨ws, hP, hD, hM, hI⟩ := hR
  obtain ⟨i, hi⟩ := List.getElem?_of_mem (hM _ _ he)
  exact va_putF hexec hb hts hin ty0 hty hnm hown hK hP hD hS0 i hi hc k hk hlink hsame hfin hin2 hdecl hd hn hfit hl hdg (fun H1 locs1 hP1 hD1 hS1 => kk H1 locs1 (tR.set hP1 hD1 hM hI he hi) hS1)
/-- an int array's place j -/
theorem tb_iald (hexec : p.tables.exec = Jvm.exec) (hb : c.code = cc) (hK : va_K D cl tys s) (hR : tR D cl base ad C H) (k0 t0 : Nat) {cA : ClassId} {n : Nat} {f : Nat → Int32} (ha : C k0 = some (.inl (cA, n, .inl f))) (ht : tys[t0]? = some (cA, .int)) {i : Int32} (j : Nat) (hi : i = nI j) (hj : j < n) (hn : n < 2 ^ 31) (hdg : decode cc pc = .ok (.iaload, 1))
    (kk : W p l e R s m args below meth c H locs cells slots Q (F0 m (pc + 1) ls (.int (f j) :: rest))) : W p l e R s m args below meth c H locs cells slots Q (F0 m pc ls (.int i :: .ref (ad k0) :: rest)) := by
  obtain ⟨ws, hP, hD, hM, hI⟩ := hR
  obtain ⟨x, hx⟩ := List.getElem?_of_mem (hM _ _ ha)
  subst hi
  refine va_iald hexec hb hK hP x t0 hx ht (vp_in_nI hj hn) hdg ?_
  rw [nI_clamp (by omega)]
  exact kk
theorem tb_lald (hexec : p.tables.exec = Jvm.exec) (hb : c.code = cc) (hK : va_K D cl tys s) (hR : tR D cl base ad C H) (k0 t0 : Nat) {cA : ClassId} {n : Nat} {f : Nat → Int64} (ha : C k0 = some (.inl (cA, n, .inr (.inl f)))) (ht : tys[t0]? = some (cA, .long)) {i : Int32} (j : Nat) (hi : i = nI j) (hj : j < n) (hn : n < 2 ^ 31) (hdg : decode cc pc = .ok (.laload, 1))
    (kk : W p l e R s m args below meth c H locs cells slots Q (F0 m (pc + 1) ls (.long (f j) :: rest))) : W p l e R s m args below meth c H locs cells slots Q (F0 m pc ls (.int i :: .ref (ad k0) :: rest)) := by
  obtain ⟨ws, hP, hD, hM, hI⟩ := hR
  obtain ⟨x, hx⟩ := List.getElem?_of_mem (hM _ _ ha)
  subst hi
  refine va_lald hexec hb hK hP x t0 hx ht (vp_in_nI hj hn) hdg ?_
  rw [nI_clamp (by omega)]
  exact kk
theorem tb_iast (hexec : p.tables.exec = Jvm.exec) (hb : c.code = cc) (hK : va_K D cl tys s) (hR : tR D cl base ad C H) (hS : va_S (fun q => base ≤ q) H0 H locs) (k0 t0 : Nat) {cA : ClassId} {n : Nat} {f : Nat → Int32} (ha : C k0 = some (.inl (cA, n, .inl f))) (ht : tys[t0]? = some (cA, .int)) {i x : Int32} (j : Nat) (hi : i = nI j) (hj : j < n) (hn : n < 2 ^ 31) (hdg : decode cc pc = .ok (.iastore, 1))
    (kk : ∀ (H1 : Heap) (locs1 : List Loc), tR D cl base ad (va_up C k0 (some (.inl (cA, n, .inl (upd f j x))))) H1 → va_S (fun q => base ≤ q) H0 H1 locs1 → W p l e R s m args below meth c H1 locs1 cells slots Q (F0 m (pc + 1) ls rest)) : W p l e R s m args below meth c H locs cells slots Q (F0 m pc ls (.int x :: .int i :: .ref (ad k0) :: rest)) := by
  obtain ⟨ws, hP, hD, hM, hI⟩ := hR
  obtain ⟨y, hy⟩ := List.getElem?_of_mem (hM _ _ ha)
  subst hi
  have hcl : (nI j).toNatClampNeg = j := nI_clamp (by omega)
  refine va_iast hexec hb hK hP hD hS y t0 hy ht (vp_in_nI hj hn) hdg (fun H1 locs1 hP1 hD1 hS1 => ?_)
  rw [hcl] at hP1 hD1
  exact kk H1 locs1 (tR.set hP1 hD1 hM hI ha hy) hS1
theorem tb_last (hexec : p.tables.exec = Jvm.exec) (hb : c.code = cc) (hK : va_K D cl tys s) (hR : tR D cl base ad C H) (hS : va_S (fun q => base ≤ q) H0 H locs) (k0 t0 : Nat) {cA : ClassId} {n : Nat} {f : Nat → Int64} (ha : C k0 = some (.inl (cA, n, .inr (.inl f)))) (ht : tys[t0]? = some (cA, .long)) {i : Int32} {x : Int64} (j : Nat) (hi : i = nI j) (hj : j < n) (hn : n < 2 ^ 31) (hdg : decode cc pc = .ok (.lastore, 1))
    (kk : ∀ (H1 : Heap) (locs1 : List Loc), tR D cl base ad (va_up C k0 (some (.inl (cA, n, .inr (.inl (vp_updL f j x)))))) H1 → va_S (fun q => base ≤ q) H0 H1 locs1 → W p l e R s m args below meth c H1 locs1 cells slots Q (F0 m (pc + 1) ls rest)) : W p l e R s m args below meth c H locs cells slots Q (F0 m pc ls (.long x :: .int i :: .ref (ad k0) :: rest)) := by
  obtain ⟨ws, hP, hD, hM, hI⟩ := hR
  obtain ⟨y, hy⟩ := List.getElem?_of_mem (hM _ _ ha)
  subst hi
  have hcl : (nI j).toNatClampNeg = j := nI_clamp (by omega)
  refine va_last hexec hb hK hP hD hS y t0 hy ht (vp_in_nI hj hn) hdg (fun H1 locs1 hP1 hD1 hS1 => ?_)
  rw [hcl] at hP1 hD1
  exact kk H1 locs1 (tR.set hP1 hD1 hM hI ha hy) hS1
theorem tb_alen (hexec : p.tables.exec = Jvm.exec) (hb : c.code = cc) (hK : va_K D cl tys s) (hR : tR D cl base ad C H) (k0 t0 : Nat) {cA : ClassId} {x : vp_A} (ha : C k0 = some (.inl (cA, x))) {ty : FieldType} (ht : tys[t0]? = some (cA, ty)) {v : Int32} (hv : Int32.ofNat x.1 = v) (hdg : decode cc pc = .ok (.arraylength, 1))
    (kk : W p l e R s m args below meth c H locs cells slots Q (F0 m (pc + 1) ls (.int v :: rest))) : W p l e R s m args below meth c H locs cells slots Q (F0 m pc ls (.ref (ad k0) :: rest)) := by
  obtain ⟨ws, hP, hD, hM, hI⟩ := hR
  obtain ⟨y, hy⟩ := List.getElem?_of_mem (hM _ _ ha)
  exact va_alen hexec hb hK hP y t0 hy ht hv hdg kk
/-- a row of an array of arrays -/
theorem tb_aald (hexec : p.tables.exec = Jvm.exec) (hb : c.code = cc) (hK : va_K D cl tys s) (hR : tR D cl base ad C H) (k0 t0 : Nat) {cA : ClassId} {t : FieldType} {n : Nat} {f : Nat → Option Nat} (ha : C k0 = some (.inl (cA, n, .inr (.inr (.inr (.inr f)))))) (ht : tys[t0]? = some (cA, .array t)) {i : Int32} (j : Nat) (hi : i = nI j) (hj : j < n) (hn : n < 2 ^ 31) {y : Nat} (hf : f j = some y) (hdg : decode cc pc = .ok (.aaload, 1))
    (kk : W p l e R s m args below meth c H locs cells slots Q (F0 m (pc + 1) ls (.ref y :: rest))) : W p l e R s m args below meth c H locs cells slots Q (F0 m pc ls (.int i :: .ref (ad k0) :: rest)) := by
  obtain ⟨ws, hP, hD, hM, hI⟩ := hR
  obtain ⟨x, hx⟩ := List.getElem?_of_mem (hM _ _ ha)
  subst hi
  have hin : vp_in (nI j) n := vp_in_nI hj hn
  have hcl : (nI j).toNatClampNeg = j := nI_clamp (by omega)
  exact W.aald (v := .ref y) (ty := .array t) hexec hb (hP x _ hx) ((hK.2 t0 _ ht).1 n (fun q => va_rf (f q))) rfl (fun q => by cases q) (by show ¬ (nI j < 0 ∨ (arrV _ _ _).slots.size ≤ _); rw [arrV_size]; exact hin) (by show (arrV _ _ _).slots[_]? = _; rw [hcl, arrV_read _ _ hj, hf]; rfl) rfl rfl hdg kk
/-- an object of an array of objects -/
theorem tb_oald (hexec : p.tables.exec = Jvm.exec) (hb : c.code = cc) (hK : va_K D cl tys s) (hR : tR D cl base ad C H) (k0 t0 : Nat) {cA : ClassId} {Cn : String} {n : Nat} {f : Nat → Option Nat} (ha : C k0 = some (.inl (cA, n, .inr (.inr (.inr (.inr f)))))) (ht : tys[t0]? = some (cA, .object Cn)) {i : Int32} (j : Nat) (hi : i = nI j) (hj : j < n) (hn : n < 2 ^ 31) {y : Nat} (hf : f j = some y) (hdg : decode cc pc = .ok (.aaload, 1))
    (kk : W p l e R s m args below meth c H locs cells slots Q (F0 m (pc + 1) ls (.ref y :: rest))) : W p l e R s m args below meth c H locs cells slots Q (F0 m pc ls (.int i :: .ref (ad k0) :: rest)) := by
  obtain ⟨ws, hP, hD, hM, hI⟩ := hR
  obtain ⟨x, hx⟩ := List.getElem?_of_mem (hM _ _ ha)
  subst hi
  refine va_aldq hexec hb hK hP x t0 hx ht (vp_in_nI hj hn) hdg ?_
  rw [nI_clamp (by omega), hf]
  exact kk
end TB
/-! THE STATE: whole numbers I (by code and place), long ones L; P says how a code's cell looks with its own numbers -/
abbrev tI : Type := Nat → Nat → Int32
abbrev tL : Type := Nat → Nat → Int64
abbrev tP : Type := Nat → (Nat → Int32) → (Nat → Int64) → Option va_E
def tC (P : tP) (I : tI) (L : tL) : Nat → Option va_E := fun k => P k (I k) (L k)
theorem tC_upI (P : tP) (I : tI) (L : tL) (k : Nat) (r : Nat → Int32) : va_up (tC P I L) k (P k r (L k)) = tC P (va_up I k r) L := by
  funext j
  by_cases h : j = k
  · subst h; rw [va_up_self]; simp [tC, va_up_self]
  · rw [va_up_ne _ _ h]; simp [tC, va_up_ne _ _ h]
theorem tC_upL (P : tP) (I : tI) (L : tL) (k : Nat) (r : Nat → Int64) : va_up (tC P I L) k (P k (I k) r) = tC P I (va_up L k r) := by
  funext j
  by_cases h : j = k
  · subst h; rw [va_up_self]; simp [tC, va_up_self]
  · rw [va_up_ne _ _ h]; simp [tC, va_up_ne _ _ h]
section TP
variable {p : Program} {l : Launch} {e : Env} {R : Room} {s : State} {m : MethodId} {args : Array Value} {below : List Frame} {meth : Method} {c : Code} {H : Heap} {locs : List Loc} {cells slots : Nat} {Q : State → Prop}
variable {cc : ByteArray} {pc : Nat} {ls : Array Slot} {rest : List Value} {D : va_G} {cl : List vw_C} {base : Nat} {ad : Nat → Nat} {P : tP} {I : tI} {L : tL} {tys : List (ClassId × FieldType)} {H0 : Heap}
theorem tp_iald (hexec : p.tables.exec = Jvm.exec) (hb : c.code = cc) (hK : va_K D cl tys s) (hR : tR D cl base ad (tC P I L) H) (k0 t0 : Nat) {cA : ClassId} {n : Nat} (hk : ∀ r q, P k0 r q = some (.inl (cA, n, .inl r))) (ht : tys[t0]? = some (cA, .int)) {i : Int32} (j : Nat) (hi : i = nI j) (hj : j < n) (hn : n < 2 ^ 31) (hdg : decode cc pc = .ok (.iaload, 1))
    (kk : W p l e R s m args below meth c H locs cells slots Q (F0 m (pc + 1) ls (.int (I k0 j) :: rest))) : W p l e R s m args below meth c H locs cells slots Q (F0 m pc ls (.int i :: .ref (ad k0) :: rest)) :=
  tb_iald hexec hb hK hR k0 t0 (hk _ _) ht j hi hj hn hdg kk
theorem tp_lald (hexec : p.tables.exec = Jvm.exec) (hb : c.code = cc) (hK : va_K D cl tys s) (hR : tR D cl base ad (tC P I L) H) (k0 t0 : Nat) {cA : ClassId} {n : Nat} (hk : ∀ r q, P k0 r q = some (.inl (cA, n, .inr (.inl q)))) (ht : tys[t0]? = some (cA, .long)) {i : Int32} (j : Nat) (hi : i = nI j) (hj : j < n) (hn : n < 2 ^ 31) (hdg : decode cc pc = .ok (.laload, 1))
    (kk : W p l e R s m args below meth c H locs cells slots Q (F0 m (pc + 1) ls (.long (L k0 j) :: rest))) : W p l e R s m args below meth c H locs cells slots Q (F0 m pc ls (.int i :: .ref (ad k0) :: rest)) :=
  tb_lald hexec hb hK hR k0 t0 (hk _ _) ht j hi hj hn hdg kk
theorem tp_iast (hexec : p.tables.exec = Jvm.exec) (hb : c.code = cc) (hK : va_K D cl tys s) (hR : tR D cl base ad (tC P I L) H) (hS : va_S (fun q => base ≤ q) H0 H locs) (k0 t0 : Nat) {cA : ClassId} {n : Nat} (hk : ∀ r q, P k0 r q = some (.inl (cA, n, .inl r))) (ht : tys[t0]? = some (cA, .int)) {i x : Int32} (j : Nat) (hi : i = nI j) (hj : j < n) (hn : n < 2 ^ 31) (hdg : decode cc pc = .ok (.iastore, 1))
    (kk : ∀ (H1 : Heap) (locs1 : List Loc), tR D cl base ad (tC P (va_up I k0 (upd (I k0) j x)) L) H1 → va_S (fun q => base ≤ q) H0 H1 locs1 → W p l e R s m args below meth c H1 locs1 cells slots Q (F0 m (pc + 1) ls rest)) : W p l e R s m args below meth c H locs cells slots Q (F0 m pc ls (.int x :: .int i :: .ref (ad k0) :: rest)) := by
  refine tb_iast hexec hb hK hR hS k0 t0 (hk _ _) ht j hi hj hn hdg (fun H1 locs1 hR1 hS1 => kk H1 locs1 ?_ hS1)
  rw [← hk _ (L k0), tC_upI] at hR1
  exact hR1
theorem tp_last (hexec : p.tables.exec = Jvm.exec) (hb : c.code = cc) (hK : va_K D cl tys s) (hR : tR D cl base ad (tC P I L) H) (hS : va_S (fun q => base ≤ q) H0 H locs) (k0 t0 : Nat) {cA : ClassId} {n : Nat} (hk : ∀ r q, P k0 r q = some (.inl (cA, n, .inr (.inl q)))) (ht : tys[t0]? = some (cA, .long)) {i : Int32} {x : Int64} (j : Nat) (hi : i = nI j) (hj : j < n) (hn : n < 2 ^ 31) (hdg : decode cc pc = .ok (.lastore, 1))
    (kk : ∀ (H1 : Heap) (locs1 : List Loc), tR D cl base ad (tC P I (va_up L k0 (vp_updL (L k0) j x))) H1 → va_S (fun q => base ≤ q) H0 H1 locs1 → W p l e R s m args below meth c H1 locs1 cells slots Q (F0 m (pc + 1) ls rest)) : W p l e R s m args below meth c H locs cells slots Q (F0 m pc ls (.long x :: .int i :: .ref (ad k0) :: rest)) := by
  refine tb_last hexec hb hK hR hS k0 t0 (hk _ _) ht j hi hj hn hdg (fun H1 locs1 hR1 hS1 => kk H1 locs1 ?_ hS1)
  rw [← hk (I k0) _, tC_upL] at hR1
  exact hR1
/-- System.arraycopy between two int arrays of different codes -/
theorem tp_copyi (hexec : p.tables.exec = Jvm.exec) (hb : c.code = cc) (hml : c.maxLocals = ls.size) {own : String} {index : Nat} (hown : s.vm.findClass own = some m.cls) (hlink : (Cond.methodLink own index arraycopyName).before args s = true) (hnat : (Cond.native arraycopyName).before args s = true) (hstat : (Cond.static arraycopyName).before args s = true) (hini : (Cond.initialized "java/lang/System").before args s = true)
    (hK : va_K D cl tys s) (hR : tR D cl base ad (tC P I L) H) (hS : va_S (fun q => base ≤ q) H0 H locs) (k0 k1 t0 : Nat) {cA : ClassId} {n0 n1 : Nat} (hk0 : ∀ r q, P k0 r q = some (.inl (cA, n0, .inl r))) (hk1 : ∀ r q, P k1 r q = some (.inl (cA, n1, .inl r))) (ht : tys[t0]? = some (cA, .int))
    {sp dp n : Int32} (a b z : Nat) (ha : sp = nI a) (hb1 : dp = nI b) (hz : n = nI z) (h4 : a + z ≤ n0) (h5 : b + z ≤ n1) (hn0 : n0 < 2 ^ 31) (hn1 : n1 < 2 ^ 31)
    (hframes : 1 ≤ R.frames) (hlocals : (rest.map fun v => v.category).sum + (nativeFrameWords "java/lang/System" "arraycopy" 5 + 11) ≤ R.locals) (hdg : decode cc pc = .ok (.invokestatic index, 3))
    (kk : ∀ (H1 : Heap) (locs1 : List Loc), tR D cl base ad (tC P (va_up I k1 (va_cpy (I k0) (I k1) a b z)) L) H1 → va_S (fun q => base ≤ q) H0 H1 locs1 → W p l e R s m args below meth c H1 locs1 cells slots Q (F0 m (pc + 3) ls rest)) : W p l e R s m args below meth c H locs cells slots Q (F0 m pc ls (.int n :: .int dp :: .ref (ad k1) :: .int sp :: .ref (ad k0) :: rest)) := by
  obtain ⟨ws, hP, hD, hM, hI⟩ := hR
  obtain ⟨x, hx⟩ := List.getElem?_of_mem (hM k0 _ (hk0 (I k0) (L k0)))
  obtain ⟨y, hy⟩ := List.getElem?_of_mem (hM k1 _ (hk1 (I k1) (L k1)))
  subst ha; subst hb1; subst hz
  have e1 : (nI a).toNatClampNeg = a := nI_clamp (by omega)
  have e2 : (nI b).toNatClampNeg = b := nI_clamp (by omega)
  have e3 : (nI z).toNatClampNeg = z := nI_clamp (by omega)
  refine va_copyi hexec hb hml hown hlink hnat hstat hini hK hP hD hS x y t0 t0 hx hy ht ht rfl (nI_pos (by omega)) (nI_pos (by omega)) (nI_pos (by omega)) (by rw [e1, e3]; exact h4) (by rw [e2, e3]; exact h5) (fun _ _ => rfl) hframes hlocals hdg (fun H1 locs1 hP1 hD1 hS1 => ?_)
  rw [e1, e2, e3] at hP1 hD1
  have hR1 := tR.set hP1 hD1 hM hI (hk1 (I k1) (L k1)) hy
  rw [← hk1 _ (L k1), tC_upI] at hR1
  exact kk H1 locs1 hR1 hS1
end TP
