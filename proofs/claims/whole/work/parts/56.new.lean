/-! NEW CELLS get codes that were free -/
theorem K_u {s : State} {cA cB : ClassId} {ty : FieldType} (hA : va_RA s cA ty) (hB : va_RA s cB ty) : cA = cB := by
  cases ty with
  | object C =>
    obtain ⟨_, _, _, _, _, h1⟩ := hA
    obtain ⟨_, _, _, _, _, h2⟩ := hB
    exact Option.some.inj (h1.symm.trans h2)
  | _ => exact Option.some.inj (Eq.trans (Eq.symm hA) hB)
theorem tR.lt {D : va_G} {cl : List vw_C} {base : Nat} {ad : Nat → Nat} {C : Nat → Option va_E} {H : Heap} (h : tR D cl base ad C H) {k : Nat} {e : va_E} (hk : C k = some e) : ad k < H.size := by
  obtain ⟨ws, hP, hD, hM, hI⟩ := h
  obtain ⟨i, hi⟩ := List.getElem?_of_mem (hM _ _ hk)
  exact (hP i _ hi).lt
theorem tR.base {D : va_G} {cl : List vw_C} {base : Nat} {ad : Nat → Nat} {C : Nat → Option va_E} {H : Heap} (h : tR D cl base ad C H) {k : Nat} {e : va_E} (hk : C k = some e) : base ≤ H.size := Nat.le_of_lt (Nat.lt_of_le_of_lt (h.ge hk) (h.lt hk))
/-- addresses of what isn't there are free to choose -/
theorem tR.cg {D : va_G} {cl : List vw_C} {base : Nat} {ad ad' : Nat → Nat} {C : Nat → Option va_E} {H : Heap} (h : tR D cl base ad C H) (e : ∀ k x, C k = some x → ad' k = ad k) : tR D cl base ad' C H := by
  obtain ⟨ws, hP, hD, hM, hI⟩ := h
  exact ⟨ws, hP, hD, fun k x hk => by rw [e k x hk]; exact hM k x hk, fun i j ei ej hi hj hij => hI i j ei ej hi hj (by rw [← e i ei hi, ← e j ej hj]; exact hij)⟩
def mnA (ad : Nat → Nat) (kO kI N q : Nat) (r : Nat → Nat) : Nat → Nat := fun k => if k = kO then q else if kI ≤ k ∧ k < kI + N then r (k - kI) else ad k
def mnC (C : Nat → Option va_E) (kO kI N : Nat) (eO eI : va_E) : Nat → Option va_E := fun k => if k = kO then some eO else if kI ≤ k ∧ k < kI + N then some eI else C k
section NW
variable {p : Program} {l : Launch} {e : Env} {R : Room} {s : State} {m : MethodId} {args : Array Value} {below : List Frame} {meth : Method} {c : Code} {H : Heap} {locs : List Loc} {cells slots : Nat} {Q : State → Prop}
variable {cc : ByteArray} {pc : Nat} {ls : Array Slot} {rest : List Value} {D : va_G} {cl : List vw_C} {base : Nat} {ad : Nat → Nat} {C : Nat → Option va_E} {tys : List (ClassId × FieldType)} {H0 : Heap}
theorem tb_newa (hexec : p.tables.exec = Jvm.exec) (hb : c.code = cc) {atype : ArrayType} (harr : (Cond.arrayClass (newarray.typeOf atype)).before args s = true) {ty : FieldType} (hty : newarray.typeOf atype = ty) (hK : va_K D cl tys s) (hR : tR D cl base ad C H) (hS : va_S (fun q => base ≤ q) H0 H locs) (hA : base ≤ H0.size) (k0 : Nat) (h0 : C k0 = none) (t0 : Nat) {cA0 : ClassId} (ht : tys[t0]? = some (cA0, ty))
    {n : Int32} {N' : Nat} {a0 : vp_A} (ha : ∀ cA : ClassId, vp_cell cA a0 = arrV cA N' (fun _ => defaultValue ty)) (hn : ¬ n < 0) (hN : n.toNatClampNeg = N') (hbytes : N' * componentBytes ty ≤ 536870912) (hcells : cells + 1 ≤ R.cells) (hslots : slots + N' ≤ R.slots) (hdg : decode cc pc = .ok (.newarray atype, 2))
    (kk : ∀ (q : Nat) (H1 : Heap), tR D cl base (va_up ad k0 q) (va_up C k0 (some (.inl (cA0, a0)))) H1 → va_S (fun q => base ≤ q) H0 H1 locs → W p l e R s m args below meth c H1 locs (cells + 1) (slots + N') Q (F0 m (pc + 2) ls (.ref q :: rest))) : W p l e R s m args below meth c H locs cells slots Q (F0 m pc ls (.int n :: rest)) := by
  obtain ⟨ws, hP, hD, hM, hI⟩ := hR
  refine va_newa hexec hb harr hty hK hP hD hS (fun q h => Nat.le_trans hA h) ha hn hN hbytes hcells hslots hdg (fun q cA H1 hK1 hP1 hD1 hS1 => ?_)
  have e9 : cA = cA0 := K_u (hK1.2 tys.length (cA, ty) (by rw [List.getElem?_append_right (Nat.le_refl _), Nat.sub_self]; rfl)).2 (hK.2 t0 _ ht).2
  subst e9
  exact kk q H1 (tR.push k0 hP1 hD1 hM hI h0) hS1
theorem tb_newq (hexec : p.tables.exec = Jvm.exec) (hb : c.code = cc) {own Cn : String} {index : Nat} (hown : s.vm.findClass own = some m.cls) (hclink : (Cond.classLink own index Cn).before args s = true) (hover : va_AO Cn s) (hK : va_K D cl tys s) (hR : tR D cl base ad C H) (hS : va_S (fun q => base ≤ q) H0 H locs) (hA : base ≤ H0.size) (k0 : Nat) (h0 : C k0 = none) (t0 : Nat) {cA0 : ClassId} (ht : tys[t0]? = some (cA0, .object Cn))
    {n : Int32} {N' : Nat} (hn : ¬ n < 0) (hN : n.toNatClampNeg = N') (hbytes : N' * 4 ≤ 536870912) (hcells : cells + 1 ≤ R.cells) (hslots : slots + N' ≤ R.slots) (hdg : decode cc pc = .ok (.anewarray index, 3))
    (kk : ∀ (q : Nat) (H1 : Heap), tR D cl base (va_up ad k0 q) (va_up C k0 (some (.inl (cA0, N', .inr (.inr (.inr (.inr (fun _ => none)))))))) H1 → va_S (fun q => base ≤ q) H0 H1 locs → W p l e R s m args below meth c H1 locs (cells + 1) (slots + N') Q (F0 m (pc + 3) ls (.ref q :: rest))) : W p l e R s m args below meth c H locs cells slots Q (F0 m pc ls (.int n :: rest)) := by
  obtain ⟨ws, hP, hD, hM, hI⟩ := hR
  refine va_newq hexec hb hown hclink hover hK hP hD hS (fun q h => Nat.le_trans hA h) hn hN hbytes hcells hslots hdg (fun q cA H1 hK1 hP1 hD1 hS1 => ?_)
  have e9 : cA = cA0 := K_u (hK1.2 tys.length (cA, .object Cn) (by rw [List.getElem?_append_right (Nat.le_refl _), Nat.sub_self]; rfl)).2 (hK.2 t0 _ ht).2
  subst e9
  exact kk q H1 (tR.push k0 hP1 hD1 hM hI h0) hS1
theorem tb_new (hexec : p.tables.exec = Jvm.exec) (hb : c.code = cc) {own Cn : String} {T : u_T} {N ci index : Nat} {Ts : List Cond} (hts : ∀ w ∈ Ts, w.before args s = true) (hin : ∀ w ∈ u_ws Cn T N, w ∈ Ts) (ty : Nat → FieldType) (hty : ∀ k, k < N → parseFieldDescriptor (T k).2.2.1 = some (ty k)) (hown : s.vm.findClass own = some m.cls) (hcl : (Cond.classLink own index Cn).before args s = true) (hinst : (Cond.instantiable Cn N).before args s = true) (hini : (Cond.initialized Cn).before args s = true)
    (hK : va_K D cl tys s) (hR : tR D cl base ad C H) (hS : va_S (fun q => base ≤ q) H0 H locs) (hA : base ≤ H0.size) (k0 : Nat) (h0 : C k0 = none) (hc : cl[ci]? = some (Cn, T, N)) {fs : List Value} (hfs : ∀ j, j < N → defaultValue (ty j) = vp_V fs j) (hcells : cells + 1 ≤ R.cells) (hslots : slots + N ≤ R.slots) (hdg : decode cc pc = .ok (.new index, 3))
    (kk : ∀ (q : Nat) (H1 : Heap), tR D cl base (va_up ad k0 q) (va_up C k0 (some (.inr (ci, fs)))) H1 → va_S (fun q => base ≤ q) H0 H1 locs → W p l e R s m args below meth c H1 locs (cells + 1) (slots + N) Q (F0 m (pc + 3) ls (.ref q :: rest))) : W p l e R s m args below meth c H locs cells slots Q (F0 m pc ls rest) := by
  obtain ⟨ws, hP, hD, hM, hI⟩ := hR
  exact va_new hexec hb hts hin ty hty hown hcl hinst hini hK hP hD hS (fun q h => Nat.le_trans hA h) hc hfs hcells hslots hdg (fun q H1 hP1 hD1 hS1 => kk q H1 (tR.push k0 hP1 hD1 hM hI h0) hS1)
theorem tb_mna (hexec : p.tables.exec = Jvm.exec) (hb : c.code = cc) {own : String} {index : Nat} (hown : s.vm.findClass own = some m.cls) (hclink : (Cond.classLink own index "[[I").before args s = true) (hover : va_AOA .int s) (harr : (Cond.arrayClass .int).before args s = true) {cs : Nat → ClassId}
    (hK : va_K D cl (tyL cs) s) (hR : tR D cl base ad C H) (hS : va_S (fun q => base ≤ q) H0 H locs) (hA : base ≤ H0.size) {n k : Int32} {N' K' : Nat} (kO kI : Nat) (h0 : C kO = none) (h1 : ∀ i, i < N' → C (kI + i) = none) (hne : ∀ i, i < N' → kO ≠ kI + i) (hn : ¬ n < 0) (hk : ¬ k < 0) (hN : n.toNatClampNeg = N') (hM : k.toNatClampNeg = K')
    (hb1 : N' * 4 ≤ 536870912) (hb2 : K' * 4 ≤ 536870912) (hcells : cells + (1 + N') ≤ R.cells) (hslots : slots + (N' + N' * K') ≤ R.slots) (hdg : decode cc pc = .ok (.multianewarray index 2, 4))
    (kk : ∀ (q : Nat) (r : Nat → Nat) (H1 : Heap), tR D cl base (mnA ad kO kI N' q r) (mnC C kO kI N' (.inl (cs 2, N', .inr (.inr (.inr (.inr (fun i => if i < N' then some (r i) else none)))))) (.inl (cs 0, K', .inl (fun _ => 0)))) H1 → va_S (fun q => base ≤ q) H0 H1 locs → W p l e R s m args below meth c H1 locs (cells + 1 + N') (slots + N' + N' * K') Q (F0 m (pc + 4) ls (.ref q :: rest))) : W p l e R s m args below meth c H locs cells slots Q (F0 m pc ls (.int k :: .int n :: rest)) := by
  obtain ⟨ws, hP, hD, hM9, hI⟩ := hR
  have hR0 := (hK.2 0 (cs 0, .int) rfl).2
  have hR2 := (hK.2 2 (cs 2, .array .int) rfl).2
  refine va_mna (X := ws) (L := []) (f := fun _ => .inl (cs 0, K', .inl (fun _ => 0))) (ty := .int) (cy := cs 0) (z := (K', .inl (fun _ => 0))) hexec hb hown (by rw [show "[" ++ (FieldType.array .int).toString = "[[I" from by decide]; exact hclink) hover harr hR0 hK (by rw [show va_pl [] (fun _ => (.inl (cs 0, K', .inl (fun _ => 0)) : va_E)) = [] from rfl, List.append_nil]; exact hP) (by rw [show va_pl [] (fun _ => (.inl (cs 0, K', .inl (fun _ => 0)) : va_E)) = [] from rfl, List.append_nil]; exact hD) hS (fun q h => Nat.le_trans hA h) hn hk hN hM hb1 hb2 (by omega) rfl rfl hcells hslots (fun c9 => by
    show ({ cls := c9, slots := Array.replicate K' (.int 0), vm := .none } : Cell) = arrV c9 K' (fun _ => .int 0)
    rw [arrV_new]) hdg (fun q r cA H1 hrI _ hK1 hP1 hD1 hS1 => ?_)
  have e9 : cA = cs 2 := K_u (hK1.2 4 (cA, .array .int) rfl).2 hR2
  subst e9
  rw [List.nil_append] at hP1 hD1
  refine kk q r H1 ⟨_, hP1, hD1, fun k9 x hx => ?_, fun a b ea eb ha hb9 hab => ?_⟩ hS1
  · unfold mnC at hx
    unfold mnA
    by_cases q1 : k9 = kO
    · rw [if_pos q1] at hx
      cases hx
      rw [if_pos q1]
      exact List.mem_append_left _ (List.mem_append_right _ (List.mem_singleton.mpr rfl))
    · rw [if_neg q1] at hx
      rw [if_neg q1]
      by_cases q2 : kI ≤ k9 ∧ k9 < kI + N'
      · rw [if_pos q2] at hx
        cases hx
        rw [if_pos q2]
        have hm : r (k9 - kI) ∈ (List.range N').map r := List.mem_map.mpr ⟨k9 - kI, List.mem_range.mpr (by omega), rfl⟩
        refine List.mem_append_right _ (List.mem_map.mpr ⟨r (k9 - kI), hm, ?_⟩)
        rw [vr_up_in hm]
      · rw [if_neg q2] at hx
        rw [if_neg q2]
        exact List.mem_append_left _ (List.mem_append_left _ (hM9 k9 x hx))
  · have ix : ∀ k9 x, mnC C kO kI N' (.inl (cs 2, N', .inr (.inr (.inr (.inr (fun i => if i < N' then some (r i) else none)))))) (.inl (cs 0, K', .inl (fun _ => 0))) k9 = some x → (k9 = kO ∧ ((ws ++ [(q, (.inl (cs 2, N', .inr (.inr (.inr (.inr (fun i => if i < N' then some (r i) else none))))) : va_E))]) ++ va_pl ((List.range N').map r) (vr_up (fun _ => .inl (cs 0, K', .inl (fun _ => 0))) ((List.range N').map r) (.inl (cs 0, K', .inl (fun _ => 0)))))[ws.length]? = some (mnA ad kO kI N' q r k9, x)) ∨ ((kI ≤ k9 ∧ k9 < kI + N') ∧ mnA ad kO kI N' q r k9 = r (k9 - kI) ∧ ∃ i, ws.length < i ∧ ((ws ++ [(q, (.inl (cs 2, N', .inr (.inr (.inr (.inr (fun i => if i < N' then some (r i) else none))))) : va_E))]) ++ va_pl ((List.range N').map r) (vr_up (fun _ => .inl (cs 0, K', .inl (fun _ => 0))) ((List.range N').map r) (.inl (cs 0, K', .inl (fun _ => 0)))))[i]? = some (mnA ad kO kI N' q r k9, x)) ∨ (C k9 = some x ∧ mnA ad kO kI N' q r k9 = ad k9 ∧ ∃ i, i < ws.length ∧ ((ws ++ [(q, (.inl (cs 2, N', .inr (.inr (.inr (.inr (fun i => if i < N' then some (r i) else none))))) : va_E))]) ++ va_pl ((List.range N').map r) (vr_up (fun _ => .inl (cs 0, K', .inl (fun _ => 0))) ((List.range N').map r) (.inl (cs 0, K', .inl (fun _ => 0)))))[i]? = some (mnA ad kO kI N' q r k9, x)) := by
      intro k9 x hx
      unfold mnC at hx
      unfold mnA
      by_cases q1 : k9 = kO
      · rw [if_pos q1] at hx
        cases hx
        rw [if_pos q1]
        refine Or.inl ⟨q1, ?_⟩
        rw [List.getElem?_append_left (by simp), List.getElem?_append_right (Nat.le_refl _), Nat.sub_self]
        rfl
      · rw [if_neg q1] at hx
        rw [if_neg q1]
        by_cases q2 : kI ≤ k9 ∧ k9 < kI + N'
        · rw [if_pos q2] at hx
          cases hx
          rw [if_pos q2]
          have hm : r (k9 - kI) ∈ (List.range N').map r := List.mem_map.mpr ⟨k9 - kI, List.mem_range.mpr (by omega), rfl⟩
          have hm2 : (r (k9 - kI), (.inl (cs 0, K', .inl (fun _ => 0)) : va_E)) ∈ va_pl ((List.range N').map r) (vr_up (fun _ => .inl (cs 0, K', .inl (fun _ => 0))) ((List.range N').map r) (.inl (cs 0, K', .inl (fun _ => 0)))) := List.mem_map.mpr ⟨r (k9 - kI), hm, by rw [vr_up_in hm]⟩
          obtain ⟨i, hi⟩ := List.getElem?_of_mem hm2
          refine Or.inr (Or.inl ⟨q2, rfl, ws.length + 1 + i, by omega, ?_⟩)
          rw [List.getElem?_append_right (by simp), show ws.length + 1 + i - (ws ++ [(q, (.inl (cs 2, N', .inr (.inr (.inr (.inr (fun i => if i < N' then some (r i) else none))))) : va_E))]).length = i by simp]
          exact hi
        · rw [if_neg q2] at hx
          rw [if_neg q2]
          obtain ⟨i, hi⟩ := List.getElem?_of_mem (hM9 k9 x hx)
          have hl : i < ws.length := (List.getElem?_eq_some_iff.mp hi).1
          refine Or.inr (Or.inr ⟨hx, rfl, i, hl, ?_⟩)
          rw [List.getElem?_append_left (by simp; omega), List.getElem?_append_left hl]
          exact hi
    rcases ix a ea ha with ⟨a1, a2⟩ | ⟨a1, a2, ia, a3, a4⟩ | ⟨a1, a2, ia, a3, a4⟩ <;> rcases ix b eb hb9 with ⟨b1, b2⟩ | ⟨b1, b2, ib, b3, b4⟩ | ⟨b1, b2, ib, b3, b4⟩
    · omega
    · have := hD1.1 _ _ _ _ a2 b4 hab; omega
    · have := hD1.1 _ _ _ _ a2 b4 hab; omega
    · have := hD1.1 _ _ _ _ a4 b2 hab; omega
    · have := hrI (a - kI) (b - kI) (by omega) (by omega) (by rw [← a2, ← b2]; exact hab)
      omega
    · have := hD1.1 _ _ _ _ a4 b4 hab; omega
    · have := hD1.1 _ _ _ _ a4 b2 hab; omega
    · have := hD1.1 _ _ _ _ a4 b4 hab; omega
    · exact hI a b _ _ a1 b1 (by rw [← a2, ← b2]; exact hab)
theorem tb_astq (hexec : p.tables.exec = Jvm.exec) (hb : c.code = cc) (hK : va_K D cl tys s) (hR : tR D cl base ad C H) (hS : va_S (fun q => base ≤ q) H0 H locs) (ka t0 kv ci : Nat) {cA : ClassId} {r : vw_C} {n : Nat} {vs : List Value} {f : Nat → Option Nat} (ha : C ka = some (.inl (cA, n, .inr (.inr (.inr (.inr f)))))) (ht : tys[t0]? = some (cA, .object r.1)) (hv : C kv = some (.inr (ci, vs))) (hc : cl[ci]? = some r) {i : Int32} (j : Nat) (hi : i = nI j) (hj : j < n) (hn : n < 2 ^ 31) (hdg : decode cc pc = .ok (.aastore, 1))
    (kk : ∀ (H1 : Heap) (locs1 : List Loc), tR D cl base ad (va_up C ka (some (.inl (cA, n, .inr (.inr (.inr (.inr (va_up f j (some (ad kv)))))))))) H1 → va_S (fun q => base ≤ q) H0 H1 locs1 → W p l e R s m args below meth c H1 locs1 cells slots Q (F0 m (pc + 1) ls rest)) : W p l e R s m args below meth c H locs cells slots Q (F0 m pc ls (.ref (ad kv) :: .int i :: .ref (ad ka) :: rest)) := by
  obtain ⟨ws, hP, hD, hM, hI⟩ := hR
  obtain ⟨y, hy⟩ := List.getElem?_of_mem (hM _ _ ha)
  obtain ⟨z, hz⟩ := List.getElem?_of_mem (hM _ _ hv)
  subst hi
  have hcl : (nI j).toNatClampNeg = j := nI_clamp (by omega)
  refine va_astq hexec hb hK hP hD hS y t0 z ci hy ht hz hc (vp_in_nI hj hn) hdg (fun H1 locs1 hP1 hD1 hS1 => ?_)
  rw [hcl] at hP1 hD1
  exact kk H1 locs1 (tR.set hP1 hD1 hM hI ha hy) hS1
end NW
/-- what a constructor starts from -/
def kG (D : va_G) (cs : Nat → ClassId) (base : Nat) (sa : Nat → Nat) (ad : Nat → Nat) (C : Nat → Option va_E) (U : State) : Prop := eV D cs base sa U ∧ tR D vwCl base ad C U.heap
theorem kG_pre {D : va_G} {cs : Nat → ClassId} {base : Nat} {sa : Nat → Nat} {ad : Nat → Nat} {C : Nat → Option va_E} {s : State} {H : Heap} {locs : List Loc} (hE : eV D cs base sa s) (hR : tR D vwCl base ad C H) (hS : va_S (fun q => base ≤ q) s.heap H locs) (As : List Value) : PreS s H (va_Pc As (kG D cs base sa ad C)) As :=
  ⟨fun _ _ _ _ q => ⟨q.1, eV.fr q.2.1 rfl rfl, q.2.2⟩, fun U hU hW => ⟨rfl, hE.mv hW (fun q h1 h2 => by rw [hU]; exact hS.2.1 q h1 h2), by rw [hU]; exact hR⟩⟩
