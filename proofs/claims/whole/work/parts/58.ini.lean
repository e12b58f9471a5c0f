/-! THE CONSTRUCTORS -/
section IA
variable {p : Program} {l : Launch} {e : Env} {R : Room} {s : State} {m : MethodId} {args : Array Value} {below : List Frame} {meth : Method} {c : Code} {H : Heap} {locs : List Loc} {cells slots : Nat} {Q : State → Prop}
variable {cc : ByteArray} {pc : Nat} {ls : Array Slot} {rest : List Value} {D : va_G} {cl : List vw_C} {base : Nat} {ad : Nat → Nat} {C : Nat → Option va_E} {tys : List (ClassId × FieldType)} {H0 : Heap}
theorem tb_getA (hexec : p.tables.exec = Jvm.exec) (hb : c.code = cc) {own ref Cn : String} {T : u_T} {N ci index : Nat} {Ts : List Cond} (hts : ∀ w ∈ Ts, w.before args s = true) (hin : ∀ w ∈ u_ws Cn T N, w ∈ Ts) (hown : s.vm.findClass own = some m.cls) (hK : va_K D cl tys s) (hR : tR D cl base ad C H) (k0 : Nat) {a : Nat} (ha : ad k0 = a) {fs : List Value} (he : C k0 = some (.inr (ci, fs))) (hc : cl[ci]? = some (Cn, T, N)) (k : Nat) (hk : k < N) (hlink : (Cond.fieldLink own index ref (T k).2.1 (T k).2.2.1).before args s = true) (hsame : ∀ x, s.fieldFound? (T k).1 (T k).2.1 (T k).2.2.1 = some x → s.fieldFound? ref (T k).2.1 (T k).2.2.1 = some x) {v : Value} (hv : fs[k]? = some v) (hdg : decode cc pc = .ok (.getfield index, 3))
    (kk : W p l e R s m args below meth c H locs cells slots Q (F0 m (pc + 3) ls (v :: rest))) : W p l e R s m args below meth c H locs cells slots Q (F0 m pc ls (.ref a :: rest)) := by
  subst ha
  exact tb_get hexec hb hts hin hown hK hR k0 he hc k hk hlink hsame hv hdg kk
theorem tb_putA (hexec : p.tables.exec = Jvm.exec) (hb : c.code = cc) {own ref Cn : String} {T : u_T} {N ci index : Nat} {Ts : List Cond} (hts : ∀ w ∈ Ts, w.before args s = true) (hin : ∀ w ∈ u_ws Cn T N, w ∈ Ts) (ty0 : Nat → FieldType) (hty : ∀ k, k < N → parseFieldDescriptor (T k).2.2.1 = some (ty0 k)) (hnm : ∀ a, a < N → ∀ b, b < N → a ≠ b → (T a).2.1 ≠ (T b).2.1) (hown : s.vm.findClass own = some m.cls) (hK : va_K D cl tys s) (hR : tR D cl base ad C H) (hS0 : va_S (fun q => base ≤ q) H0 H locs) (k0 : Nat) {a : Nat} (ha : ad k0 = a) {fs : List Value} (he : C k0 = some (.inr (ci, fs))) (hc : cl[ci]? = some (Cn, T, N)) (k : Nat) (hk : k < N) (hlink : (Cond.fieldLink own index ref (T k).2.1 (T k).2.2.1).before args s = true) (hsame : ∀ x, s.fieldFound? (T k).1 (T k).2.1 (T k).2.2.1 = some x → s.fieldFound? ref (T k).2.1 (T k).2.2.1 = some x) (hfin : (T k).2.2.2 = false) {ty : FieldType} {v : Value} (hd : parseFieldDescriptor (T k).2.2.1 = some ty) (hn : narrow ty v = v) (hfit : fits ty v = true) (hl : k < fs.length)
    (hdg : decode cc pc = .ok (.putfield index, 3)) (kk : ∀ (H1 : Heap) (locs1 : List Loc), tR D cl base ad (va_up C k0 (some (.inr (ci, fs.set k v)))) H1 → va_S (fun q => base ≤ q) H0 H1 locs1 → W p l e R s m args below meth c H1 locs1 cells slots Q (F0 m (pc + 3) ls rest)) : W p l e R s m args below meth c H locs cells slots Q (F0 m pc ls (v :: .ref a :: rest)) := by
  subst ha
  exact tb_put hexec hb hts hin ty0 hty hnm hown hK hR hS0 k0 he hc k hk hlink hsame hfin hd hn hfit hl hdg kk
theorem tb_putFA (hexec : p.tables.exec = Jvm.exec) (hb : c.code = cc) {own ref Cn : String} {T : u_T} {N ci index : Nat} {Ts : List Cond} (hts : ∀ w ∈ Ts, w.before args s = true) (hin : ∀ w ∈ u_ws Cn T N, w ∈ Ts) (ty0 : Nat → FieldType) (hty : ∀ k, k < N → parseFieldDescriptor (T k).2.2.1 = some (ty0 k)) (hnm : ∀ a, a < N → ∀ b, b < N → a ≠ b → (T a).2.1 ≠ (T b).2.1) (hown : s.vm.findClass own = some m.cls) (hK : va_K D cl tys s) (hR : tR D cl base ad C H) (hS0 : va_S (fun q => base ≤ q) H0 H locs) (k0 : Nat) {a : Nat} (ha : ad k0 = a) {fs : List Value} (he : C k0 = some (.inr (ci, fs))) (hc : cl[ci]? = some (Cn, T, N)) (k : Nat) (hk : k < N) (hlink : (Cond.fieldLink own index ref (T k).2.1 (T k).2.2.1).before args s = true) (hsame : ∀ x, s.fieldFound? (T k).1 (T k).2.1 (T k).2.2.1 = some x → s.fieldFound? ref (T k).2.1 (T k).2.2.1 = some x) (hfin : (T k).2.2.2 = true) (hin2 : meth.name = "<init>") (hdecl : (T k).1 = own) {ty : FieldType} {v : Value} (hd : parseFieldDescriptor (T k).2.2.1 = some ty) (hn : narrow ty v = v) (hfit : fits ty v = true) (hl : k < fs.length)
    (hdg : decode cc pc = .ok (.putfield index, 3)) (kk : ∀ (H1 : Heap) (locs1 : List Loc), tR D cl base ad (va_up C k0 (some (.inr (ci, fs.set k v)))) H1 → va_S (fun q => base ≤ q) H0 H1 locs1 → W p l e R s m args below meth c H1 locs1 cells slots Q (F0 m (pc + 3) ls rest)) : W p l e R s m args below meth c H locs cells slots Q (F0 m pc ls (v :: .ref a :: rest)) := by
  subst ha
  exact tb_putF hexec hb hts hin ty0 hty hnm hown hK hR hS0 k0 he hc k hk hlink hsame hfin hin2 hdecl hd hn hfit hl hdg kk
theorem tb_astqA (hexec : p.tables.exec = Jvm.exec) (hb : c.code = cc) (hK : va_K D cl tys s) (hR : tR D cl base ad C H) (hS : va_S (fun q => base ≤ q) H0 H locs) (ka t0 kv ci : Nat) {a9 v9 : Nat} (ha9 : ad ka = a9) (hv9 : ad kv = v9) {cA : ClassId} {r : vw_C} {n : Nat} {vs : List Value} {f : Nat → Option Nat} (ha : C ka = some (.inl (cA, n, .inr (.inr (.inr (.inr f)))))) (ht : tys[t0]? = some (cA, .object r.1)) (hv : C kv = some (.inr (ci, vs))) (hc : cl[ci]? = some r) {i : Int32} (j : Nat) (hi : i = nI j) (hj : j < n) (hn : n < 2 ^ 31) (hdg : decode cc pc = .ok (.aastore, 1))
    (kk : ∀ (H1 : Heap) (locs1 : List Loc), tR D cl base ad (va_up C ka (some (.inl (cA, n, .inr (.inr (.inr (.inr (va_up f j (some (ad kv)))))))))) H1 → va_S (fun q => base ≤ q) H0 H1 locs1 → W p l e R s m args below meth c H1 locs1 cells slots Q (F0 m (pc + 1) ls rest)) : W p l e R s m args below meth c H locs cells slots Q (F0 m pc ls (.ref v9 :: .int i :: .ref a9 :: rest)) := by
  subst ha9
  subst hv9
  exact tb_astq hexec hb hK hR hS ka t0 kv ci ha ht hv hc j hi hj hn hdg kk
end IA
section IB
variable {p : Program} {l : Launch} {e : Env} {R : Room} {s : State} {m : MethodId} {args : Array Value} {below : List Frame} {meth : Method} {c : Code} {H : Heap} {locs : List Loc} {cells slots : Nat} {Q : State → Prop}
variable {pc : Nat} {ls : Array Slot} {rest st0 : List Value} {D : va_G} {cs : Nat → ClassId} {base : Nat} {H0 : Heap} {mc ms : Nat} {a : Array Value}
theorem kg_v {post : (Nat → Nat) → Prop} {F : (Nat → Nat) → Nat → Option va_E} (hr : va_Run p l e R s m args below meth c H locs cells slots mc ms (F0 m pc ls st0) rest (va_Qv post (fun (ad' : Nat → Nat) (t : State) => tR D vwCl base ad' (F ad') t.heap) (fun q => base ≤ q) a) (fun q => base ≤ q)) (hS : va_S (fun q => base ≤ q) H0 H locs)
    (kk : ∀ (ad' : Nat → Nat) (H1 : Heap) (locs1 : List Loc), post ad' → tR D vwCl base ad' (F ad') H1 → va_S (fun q => base ≤ q) H0 H1 locs1 → W p l e R s m args below meth c H1 locs1 (cells + mc) (slots + ms) Q (F0 m (pc + 3) ls rest)) : W p l e R s m args below meth c H locs cells slots Q (F0 m pc ls st0) :=
  va_callv hr hS (fun _ _ h => h) (fun _ h => h) (fun u t H1 locs1 ht _ hw hB _ _ hS1 => kk u H1 locs1 hw (by rw [← ht]; exact hB) hS1)
end IB
theorem i_lt_a {a b : Int32} (h : a < b) : ¬ b < a := by
  rw [Int32.lt_iff_toInt_lt] at h ⊢
  omega
theorem i_eq {a b : Int32} (h : ¬ a < b) (h2 : ¬ b < a) : a = b := by
  rw [Int32.lt_iff_toInt_lt] at h h2
  exact Int32.toInt_inj.mp (by omega)
theorem i_le_n {a b : Int32} (h : a ≤ b) : ¬ b < a := by
  rw [Int32.le_iff_toInt_le] at h
  rw [Int32.lt_iff_toInt_lt]
  omega
theorem ch_b (x : Int32) : 1 ≤ chN x ∧ chN x ≤ 4 := by
  unfold chN
  by_cases h : x < 1
  · rw [if_pos h]; omega
  · rw [if_neg h]
    by_cases h4 : 4 < x
    · rw [if_pos h4]; omega
    · rw [if_neg h4]
      have hz : ¬ x < 0 := fun q => h (i_lt_le q (by decide))
      obtain ⟨j, hj, rfl⟩ := nI_of hz
      rw [nI_clamp hj]
      have h1 : ¬ nI j < nI 1 := h
      have h2 : ¬ nI 4 < nI j := h4
      have h3 : ¬ j < 1 := fun q => h1 (nI_lt q (by omega))
      have h5 : ¬ 4 < j := fun q => h2 (nI_lt q hj)
      omega
theorem ch_1 {x : Int32} (h : x < 1) : (1 : Int32) = nI (chN x) := by unfold chN; rw [if_pos h]; rfl
theorem ch_4 {x : Int32} (h : ¬ x < 1) (h4 : 4 < x) : (4 : Int32) = nI (chN x) := by unfold chN; rw [if_neg h, if_pos h4]; rfl
theorem ch_e {x : Int32} (h : ¬ x < 1) (h4 : ¬ 4 < x) : x = nI (chN x) := by
  unfold chN
  rw [if_neg h, if_neg h4]
  have hz : ¬ x < 0 := fun q => h (i_lt_le q (by decide))
  obtain ⟨j, hj, rfl⟩ := nI_of hz
  rw [nI_clamp hj]
theorem ch_mm (x : Int32) : (if (1 : Int32) < (if x < 4 then x else 4) then (if x < 4 then x else 4) else 1) = nI (chN x) := by
  by_cases h : x < 1
  · have h4 : x < 4 := i_lt_le h (by decide)
    rw [if_pos h4, if_neg (i_lt_a h), ← ch_1 h]
  · by_cases h4 : 4 < x
    · rw [if_neg (i_lt_a h4), ← ch_4 h h4]; rfl
    · by_cases h5 : x < 4
      · rw [if_pos h5, ← ch_e h h4]
        by_cases h6 : (1 : Int32) < x
        · rw [if_pos h6]
        · rw [if_neg h6]; exact i_eq h6 h
      · rw [if_neg h5, show x = 4 from i_eq h5 h4, ← ch_e (by decide) (by decide)]; rfl
section I1
variable {l : Launch} {D : va_G} {cs : Nat → ClassId} {base : Nat} {sa : Nat → Nat} {n : Nat} {ad : Nat → Nat}
set_option maxHeartbeats 4000000 in
set_option maxRecDepth 100000 in
/-- new Course(n), at b -/
theorem mX0_init (b a : Nat) (C : Nat → Option va_E) (ha : ad b = a) (hB : isB b) (hn1 : 1 ≤ n) (hn4 : n ≤ 4) (h0 : C b = some (.inr (0, [.null, .null, .null, .int 0, .int 0]))) (hN : ∀ k, b < k → k < b + 12 → C k = none) : Met l yX0_init wX0_init ({ frames := 1, cells := 11, slots := 2000, locals := 20 }) (va_Pc [.ref a, .int (nI n)] (kG D cs base sa ad C)) (va_Qv (fun (ad' : Nat → Nat) => ∀ k, ¬ (b < k ∧ k < b + 12) → ad' k = ad k) (fun (ad' : Nat → Nat) (t : State) => tR D vwCl base ad' (bkC n ad' cs b C) t.heap) (fun q => base ≤ q)) 11 2000 (fun q => base ≤ q) := by
  refine Met.ofW (cc := cX0_init) (maxL := 2) (ret := none) (by decide) rfl ?_
  intro p e s m args below meth c s₁ Bd hml hv
  obtain ⟨rfl, hE, hR⟩ := hv
  have hx := Bd.exec
  have hb := Bd.bytes
  have hr := Bd.returns
  have hts := atoms_spec (ws := wX0_init) Bd.pre
  have hown : s.vm.findClass RX0 = some m.cls := findClass_of_methodNamed Bd.named
  have hlocks := Bd.notSynchronized
  have hK := hE.K
  have hS : va_S (fun q => base ≤ q) s.heap s.heap [] := va_S.rf
  have hR : tR D vwCl base ad (C) s.heap := hR
  have hl := lv_entry ([.ref a, .int (nI n)]) (n := 2) (Nat.le_of_ble_eq_true rfl)
  rw [lg_entry_eq]
  generalize (lg_sl ([.ref a, .int (nI n)]) ++ List.replicate (2 - (lg_sl ([.ref a, .int (nI n)])).length) Slot.unset).toArray = ls at hl ⊢
  have hl : lv_has ls 2 [(0, .ref a), (1, .int (nI n))] := hl
  have hin2 : meth.name = "<init>" := (name_of_methodNamed Bd.named Bd.method).1
  have hA9 : base ≤ s.heap.size := hR.base h0
  refine lv_aload_n hx hb dX0_init_0 rfl (lv_at hl 0 rfl) ?_
  refine W.objInit hx hb hown (hts _ (List.mem_cons_of_mem _ k77)) (hts _ (List.mem_cons_of_mem _ k19)) (hts _ (List.mem_cons_of_mem _ k20)) rfl (by rw [hml]; exact hl.1) rfl dX0_init_1 (Nat.le_of_ble_eq_true rfl) (Nat.le_of_ble_eq_true rfl) ?_
  refine W.eq (g2 := F0 m 4 ls []) rfl ?_
  refine lv_aload_n hx hb dX0_init_4 rfl (lv_at hl 0 rfl) ?_
  refine lv_iload_n hx hb dX0_init_5 rfl (lv_at hl 1 rfl) ?_
  refine lv_bipush (v := 8) hx hb dX0_init_6 (by decide) ?_
  refine tb_mna (N' := n) (K' := 8) hx hb hown (hts _ (List.mem_cons_of_mem _ k78)) hE.2.2.2.2.2.2.1 (hts _ (List.mem_cons_of_mem _ k71)) hK hR hS hA9 (b + 1) (b + 4) (hN _ (by omega) (by omega)) (fun i hi => hN _ (by omega) (by omega)) (fun i hi => by omega) (nI_pos (by omega)) (by decide) (nI_clamp (by omega)) (by decide) (by omega) (by omega) (by show 0 + (1 + n) ≤ 11; omega) (by show 0 + (n + n * 8) ≤ 2000; omega) dX0_init_8 (fun qb1 rb1 H hR hS => ?_)
  refine W.widen (k := 5) (n := 36) (by omega) (by omega) ?_
  refine tb_putFA hx hb hts (fun w h => List.mem_cons_of_mem _ (inX0 w h)) tyX0 tyX0_ok nmX0 hown hK hR hS b (mnA_n (by omega) (by omega) (ha)) (mnC_n (by omega) (by omega) (h0)) rfl 0 (by decide) (hts _ (List.mem_cons_of_mem _ k79)) (fun _ h => h) rfl hin2 rfl (tyX0_ok 0 (by decide)) rfl rfl (by show 0 < 5; decide) dX0_init_12 (fun H locs hR hS => ?_)
  refine lv_aload_n hx hb dX0_init_15 rfl (lv_at hl 0 rfl) ?_
  refine lv_iload_n hx hb dX0_init_16 rfl (lv_at hl 1 rfl) ?_
  refine tb_newa (atype := .long) hx hb (hts _ (List.mem_cons_of_mem _ k99)) (ty := .long) rfl hK hR hS hA9 (b + 2) (up_n (by omega) (mnC_n (by omega) (by omega) (hN _ (by omega) (by omega)))) 1 rfl (N' := n) (a0 := (n, .inr (.inl (fun _ => 0)))) (fun _ => rfl) (nI_pos (by omega)) (nI_clamp (by omega)) (by show n * 8 ≤ 536870912; omega) (by show 5 + 1 ≤ 11; omega) (by show 36 + n ≤ 2000; omega) dX0_init_17 (fun qb2 H hR hS => ?_)
  refine W.widen (k := 6) (n := 40) (by omega) (by omega) ?_
  refine tb_putFA hx hb hts (fun w h => List.mem_cons_of_mem _ (inX0 w h)) tyX0 tyX0_ok nmX0 hown hK hR hS b (up_n (by omega) (mnA_n (by omega) (by omega) (ha))) (up_n (by omega) (up_s)) rfl 1 (by decide) (hts _ (List.mem_cons_of_mem _ k81)) (fun _ h => h) rfl hin2 rfl (tyX0_ok 1 (by decide)) rfl rfl (by show 1 < 5; decide) dX0_init_19 (fun H locs hR hS => ?_)
  refine lv_aload_n hx hb dX0_init_22 rfl (lv_at hl 0 rfl) ?_
  refine lv_iload_n hx hb dX0_init_23 rfl (lv_at hl 1 rfl) ?_
  refine lv_sipush (v := 480) hx hb dX0_init_24 (by decide) ?_
  refine tb_mna (N' := n) (K' := 480) hx hb hown (hts _ (List.mem_cons_of_mem _ k78)) hE.2.2.2.2.2.2.1 (hts _ (List.mem_cons_of_mem _ k71)) hK hR hS hA9 (b + 3) (b + 8) (up_n (by omega) (up_n (by omega) (up_n (by omega) (mnC_n (by omega) (by omega) (hN _ (by omega) (by omega)))))) (fun i hi => up_n (by omega) (up_n (by omega) (up_n (by omega) (mnC_n (by omega) (by omega) (hN _ (by omega) (by omega)))))) (fun i hi => by omega) (nI_pos (by omega)) (by decide) (nI_clamp (by omega)) (by decide) (by omega) (by omega) (by show 6 + (1 + n) ≤ 11; omega) (by show 40 + (n + n * 480) ≤ 2000; omega) dX0_init_27 (fun qb3 rb3 H hR hS => ?_)
  refine W.widen (k := 11) (n := 2000) (by omega) (by omega) ?_
  refine tb_putFA hx hb hts (fun w h => List.mem_cons_of_mem _ (inX0 w h)) tyX0 tyX0_ok nmX0 hown hK hR hS b (mnA_n (by omega) (by omega) (up_n (by omega) (mnA_n (by omega) (by omega) (ha)))) (mnC_n (by omega) (by omega) (up_s)) rfl 2 (by decide) (hts _ (List.mem_cons_of_mem _ k83)) (fun _ h => h) rfl hin2 rfl (tyX0_ok 2 (by decide)) rfl rfl (by show 2 < 5; decide) dX0_init_31 (fun H locs hR hS => ?_)
  refine lv_aload_n hx hb dX0_init_34 rfl (lv_at hl 0 rfl) ?_
  refine lv_iconst (v := 0) hx hb dX0_init_35 (by decide) ?_
  refine tb_putA hx hb hts (fun w h => List.mem_cons_of_mem _ (inX0 w h)) tyX0 tyX0_ok nmX0 hown hK hR hS b (mnA_n (by omega) (by omega) (up_n (by omega) (mnA_n (by omega) (by omega) (ha)))) (up_s) rfl 3 (by decide) (hts _ (List.mem_cons_of_mem _ k84)) (fun _ h => h) rfl (tyX0_ok 3 (by decide)) rfl rfl (by show 3 < 5; decide) dX0_init_36 (fun H locs hR hS => ?_)
  refine lv_aload_n hx hb dX0_init_39 rfl (lv_at hl 0 rfl) ?_
  refine lv_iconst (v := 0) hx hb dX0_init_40 (by decide) ?_
  refine tb_putA hx hb hts (fun w h => List.mem_cons_of_mem _ (inX0 w h)) tyX0 tyX0_ok nmX0 hown hK hR hS b (mnA_n (by omega) (by omega) (up_n (by omega) (mnA_n (by omega) (by omega) (ha)))) (up_s) rfl 4 (by decide) (hts _ (List.mem_cons_of_mem _ k86)) (fun _ h => h) rfl (tyX0_ok 4 (by decide)) rfl rfl (by show 4 < 5; decide) dX0_init_41 (fun H locs hR hS => ?_)
  rw [show _ = bkC n (mnA (va_up (mnA ad (b + 1) (b + 4) n qb1 rb1) (b + 2) qb2) (b + 3) (b + 8) n qb3 rb3) cs b C from x0_fin hB hn4 hN (mnA_n (by omega) (by omega) (up_n (by omega) mnA_o)) (mnA_n (by omega) (by omega) up_s) mnA_o (fun i hi => mnA_n (by omega) (by omega) (up_n (by omega) (mnA_i (by omega) hi))) (fun i hi => mnA_i (by omega) hi)] at hR
  refine W.widen (k := 11) (n := 2000) (by omega) (by omega) ?_
  exact W.vret hx hb hr (fun t ht hW => ⟨⟨mnA (va_up (mnA ad (b + 1) (b + 4) n qb1 rb1) (b + 2) qb2) (b + 3) (b + 8) n qb3 rb3, rfl, fun k hk => mnA_n (by omega) (by omega) (up_n (by omega) (mnA_n (by omega) (by omega) rfl)), by show tR _ _ _ _ _ t.heap; rw [ht]; exact hR⟩, hS.F ht⟩) hS.2.2 dX0_init_44
set_option maxHeartbeats 4000000 in
set_option maxRecDepth 100000 in
/-- new Site() -/
theorem mX1_init (a : Nat) (C : Nat → Option va_E) (ha : ad 1 = a) (h0 : C 1 = some (.inr (1, [.null, .null, .null, .null, .null, .null, .null, .null, .int 0, .int 0]))) (hN : ∀ k, 1 < k → k < 18 → C k = none) : Met l yX1_init wX1_init ({ frames := 1, cells := 16, slots := 640, locals := 20 }) (va_Pc [.ref a] (kG D cs base sa ad C)) (va_Qv (fun (ad' : Nat → Nat) => ∀ k, ¬ (1 < k ∧ k < 18) → ad' k = ad k) (fun (ad' : Nat → Nat) (t : State) => tR D vwCl base ad' (siC n ad' cs C) t.heap) (fun q => base ≤ q)) 16 640 (fun q => base ≤ q) := by
  refine Met.ofW (cc := cX1_init) (maxL := 1) (ret := none) (by decide) rfl ?_
  intro p e s m args below meth c s₁ Bd hml hv
  obtain ⟨rfl, hE, hR⟩ := hv
  have hx := Bd.exec
  have hb := Bd.bytes
  have hr := Bd.returns
  have hts := atoms_spec (ws := wX1_init) Bd.pre
  have hown : s.vm.findClass RX1 = some m.cls := findClass_of_methodNamed Bd.named
  have hlocks := Bd.notSynchronized
  have hK := hE.K
  have hS : va_S (fun q => base ≤ q) s.heap s.heap [] := va_S.rf
  have hR : tR D vwCl base ad (C) s.heap := hR
  have hl := lv_entry ([.ref a]) (n := 1) (Nat.le_of_ble_eq_true rfl)
  rw [lg_entry_eq]
  generalize (lg_sl ([.ref a]) ++ List.replicate (1 - (lg_sl ([.ref a])).length) Slot.unset).toArray = ls at hl ⊢
  have hl : lv_has ls 1 [(0, .ref a)] := hl
  have hin2 : meth.name = "<init>" := (name_of_methodNamed Bd.named Bd.method).1
  have hA9 : base ≤ s.heap.size := hR.base h0
  refine lv_aload_n hx hb dX1_init_0 rfl (lv_at hl 0 rfl) ?_
  refine W.objInit hx hb hown (hts _ (List.mem_cons_of_mem _ k32)) (hts _ (List.mem_cons_of_mem _ k19)) (hts _ (List.mem_cons_of_mem _ k20)) rfl (by rw [hml]; exact hl.1) rfl dX1_init_1 (Nat.le_of_ble_eq_true rfl) (Nat.le_of_ble_eq_true rfl) ?_
  refine W.eq (g2 := F0 m 4 ls []) rfl ?_
  refine lv_aload_n hx hb dX1_init_4 rfl (lv_at hl 0 rfl) ?_
  refine lv_bipush (v := 8) hx hb dX1_init_5 (by decide) ?_
  refine tb_newa (atype := .int) hx hb (hts _ (List.mem_cons_of_mem _ k71)) (ty := .int) rfl hK hR hS hA9 2 (hN _ (by omega) (by omega)) 0 rfl (N' := 8) (a0 := (8, .inl (fun _ => 0))) (fun _ => rfl) (by decide) (by decide) (by decide) (by show 0 + 1 ≤ 16; omega) (by show 0 + 8 ≤ 640; omega) dX1_init_7 (fun q2 H hR hS => ?_)
  refine W.widen (k := 1) (n := 8) (by omega) (by omega) ?_
  refine tb_putFA hx hb hts (fun w h => List.mem_cons_of_mem _ (inX1 w h)) tyX1 tyX1_ok nmX1 hown hK hR hS 1 (up_n (by omega) (ha)) (up_n (by omega) (h0)) rfl 0 (by decide) (hts _ (List.mem_cons_of_mem _ k35)) (fun _ h => h) rfl hin2 rfl (tyX1_ok 0 (by decide)) rfl rfl (by show 0 < 10; decide) dX1_init_9 (fun H locs hR hS => ?_)
  refine lv_aload_n hx hb dX1_init_12 rfl (lv_at hl 0 rfl) ?_
  refine lv_bipush (v := 8) hx hb dX1_init_13 (by decide) ?_
  refine tb_newa (atype := .int) hx hb (hts _ (List.mem_cons_of_mem _ k71)) (ty := .int) rfl hK hR hS hA9 3 (up_n (by omega) (up_n (by omega) (hN _ (by omega) (by omega)))) 0 rfl (N' := 8) (a0 := (8, .inl (fun _ => 0))) (fun _ => rfl) (by decide) (by decide) (by decide) (by show 1 + 1 ≤ 16; omega) (by show 8 + 8 ≤ 640; omega) dX1_init_15 (fun q3 H hR hS => ?_)
  refine W.widen (k := 2) (n := 16) (by omega) (by omega) ?_
  refine tb_putFA hx hb hts (fun w h => List.mem_cons_of_mem _ (inX1 w h)) tyX1 tyX1_ok nmX1 hown hK hR hS 1 (up_n (by omega) (up_n (by omega) (ha))) (up_n (by omega) (up_s)) rfl 1 (by decide) (hts _ (List.mem_cons_of_mem _ k37)) (fun _ h => h) rfl hin2 rfl (tyX1_ok 1 (by decide)) rfl rfl (by show 1 < 10; decide) dX1_init_17 (fun H locs hR hS => ?_)
  refine lv_aload_n hx hb dX1_init_20 rfl (lv_at hl 0 rfl) ?_
  refine lv_bipush (v := 8) hx hb dX1_init_21 (by decide) ?_
  refine tb_newa (atype := .int) hx hb (hts _ (List.mem_cons_of_mem _ k71)) (ty := .int) rfl hK hR hS hA9 4 (up_n (by omega) (up_n (by omega) (up_n (by omega) (up_n (by omega) (hN _ (by omega) (by omega)))))) 0 rfl (N' := 8) (a0 := (8, .inl (fun _ => 0))) (fun _ => rfl) (by decide) (by decide) (by decide) (by show 2 + 1 ≤ 16; omega) (by show 16 + 8 ≤ 640; omega) dX1_init_23 (fun q4 H hR hS => ?_)
  refine W.widen (k := 3) (n := 24) (by omega) (by omega) ?_
  refine tb_putFA hx hb hts (fun w h => List.mem_cons_of_mem _ (inX1 w h)) tyX1 tyX1_ok nmX1 hown hK hR hS 1 (up_n (by omega) (up_n (by omega) (up_n (by omega) (ha)))) (up_n (by omega) (up_s)) rfl 2 (by decide) (hts _ (List.mem_cons_of_mem _ k39)) (fun _ h => h) rfl hin2 rfl (tyX1_ok 2 (by decide)) rfl rfl (by show 2 < 10; decide) dX1_init_25 (fun H locs hR hS => ?_)
  refine lv_aload_n hx hb dX1_init_28 rfl (lv_at hl 0 rfl) ?_
  refine lv_bipush (v := 8) hx hb dX1_init_29 (by decide) ?_
  refine lv_bipush (v := 64) hx hb dX1_init_31 (by decide) ?_
  refine tb_mna (N' := 8) (K' := 64) hx hb hown (hts _ (List.mem_cons_of_mem _ k33)) hE.2.2.2.2.2.2.1 (hts _ (List.mem_cons_of_mem _ k71)) hK hR hS hA9 5 10 (up_n (by omega) (up_n (by omega) (up_n (by omega) (up_n (by omega) (up_n (by omega) (up_n (by omega) (hN _ (by omega) (by omega)))))))) (fun i hi => up_n (by omega) (up_n (by omega) (up_n (by omega) (up_n (by omega) (up_n (by omega) (up_n (by omega) (hN _ (by omega) (by omega)))))))) (fun i hi => by omega) (by decide) (by decide) (by decide) (by decide) (by omega) (by omega) (by show 3 + (1 + 8) ≤ 16; omega) (by show 24 + (8 + 8 * 64) ≤ 640; omega) dX1_init_33 (fun q5 r5 H hR hS => ?_)
  refine W.widen (k := 12) (n := 544) (by omega) (by omega) ?_
  refine tb_putFA hx hb hts (fun w h => List.mem_cons_of_mem _ (inX1 w h)) tyX1 tyX1_ok nmX1 hown hK hR hS 1 (mnA_n (by omega) (by omega) (up_n (by omega) (up_n (by omega) (up_n (by omega) (ha))))) (mnC_n (by omega) (by omega) (up_s)) rfl 3 (by decide) (hts _ (List.mem_cons_of_mem _ k41)) (fun _ h => h) rfl hin2 rfl (tyX1_ok 3 (by decide)) rfl rfl (by show 3 < 10; decide) dX1_init_37 (fun H locs hR hS => ?_)
  refine lv_aload_n hx hb dX1_init_40 rfl (lv_at hl 0 rfl) ?_
  refine lv_bipush (v := 24) hx hb dX1_init_41 (by decide) ?_
  refine tb_newa (atype := .int) hx hb (hts _ (List.mem_cons_of_mem _ k71)) (ty := .int) rfl hK hR hS hA9 6 (up_n (by omega) (mnC_n (by omega) (by omega) (up_n (by omega) (up_n (by omega) (up_n (by omega) (up_n (by omega) (up_n (by omega) (up_n (by omega) (hN _ (by omega) (by omega)))))))))) 0 rfl (N' := 24) (a0 := (24, .inl (fun _ => 0))) (fun _ => rfl) (by decide) (by decide) (by decide) (by show 12 + 1 ≤ 16; omega) (by show 544 + 24 ≤ 640; omega) dX1_init_43 (fun q6 H hR hS => ?_)
  refine W.widen (k := 13) (n := 568) (by omega) (by omega) ?_
  refine tb_putFA hx hb hts (fun w h => List.mem_cons_of_mem _ (inX1 w h)) tyX1 tyX1_ok nmX1 hown hK hR hS 1 (up_n (by omega) (mnA_n (by omega) (by omega) (up_n (by omega) (up_n (by omega) (up_n (by omega) (ha)))))) (up_n (by omega) (up_s)) rfl 4 (by decide) (hts _ (List.mem_cons_of_mem _ k42)) (fun _ h => h) rfl hin2 rfl (tyX1_ok 4 (by decide)) rfl rfl (by show 4 < 10; decide) dX1_init_45 (fun H locs hR hS => ?_)
  refine lv_aload_n hx hb dX1_init_48 rfl (lv_at hl 0 rfl) ?_
  refine lv_bipush (v := 24) hx hb dX1_init_49 (by decide) ?_
  refine tb_newa (atype := .int) hx hb (hts _ (List.mem_cons_of_mem _ k71)) (ty := .int) rfl hK hR hS hA9 7 (up_n (by omega) (up_n (by omega) (up_n (by omega) (mnC_n (by omega) (by omega) (up_n (by omega) (up_n (by omega) (up_n (by omega) (up_n (by omega) (up_n (by omega) (up_n (by omega) (hN _ (by omega) (by omega)))))))))))) 0 rfl (N' := 24) (a0 := (24, .inl (fun _ => 0))) (fun _ => rfl) (by decide) (by decide) (by decide) (by show 13 + 1 ≤ 16; omega) (by show 568 + 24 ≤ 640; omega) dX1_init_51 (fun q7 H hR hS => ?_)
  refine W.widen (k := 14) (n := 592) (by omega) (by omega) ?_
  refine tb_putFA hx hb hts (fun w h => List.mem_cons_of_mem _ (inX1 w h)) tyX1 tyX1_ok nmX1 hown hK hR hS 1 (up_n (by omega) (up_n (by omega) (mnA_n (by omega) (by omega) (up_n (by omega) (up_n (by omega) (up_n (by omega) (ha))))))) (up_n (by omega) (up_s)) rfl 5 (by decide) (hts _ (List.mem_cons_of_mem _ k43)) (fun _ h => h) rfl hin2 rfl (tyX1_ok 5 (by decide)) rfl rfl (by show 5 < 10; decide) dX1_init_53 (fun H locs hR hS => ?_)
  refine lv_aload_n hx hb dX1_init_56 rfl (lv_at hl 0 rfl) ?_
  refine lv_bipush (v := 24) hx hb dX1_init_57 (by decide) ?_
  refine tb_newa (atype := .int) hx hb (hts _ (List.mem_cons_of_mem _ k71)) (ty := .int) rfl hK hR hS hA9 8 (up_n (by omega) (up_n (by omega) (up_n (by omega) (up_n (by omega) (up_n (by omega) (mnC_n (by omega) (by omega) (up_n (by omega) (up_n (by omega) (up_n (by omega) (up_n (by omega) (up_n (by omega) (up_n (by omega) (hN _ (by omega) (by omega)))))))))))))) 0 rfl (N' := 24) (a0 := (24, .inl (fun _ => 0))) (fun _ => rfl) (by decide) (by decide) (by decide) (by show 14 + 1 ≤ 16; omega) (by show 592 + 24 ≤ 640; omega) dX1_init_59 (fun q8 H hR hS => ?_)
  refine W.widen (k := 15) (n := 616) (by omega) (by omega) ?_
  refine tb_putFA hx hb hts (fun w h => List.mem_cons_of_mem _ (inX1 w h)) tyX1 tyX1_ok nmX1 hown hK hR hS 1 (up_n (by omega) (up_n (by omega) (up_n (by omega) (mnA_n (by omega) (by omega) (up_n (by omega) (up_n (by omega) (up_n (by omega) (ha)))))))) (up_n (by omega) (up_s)) rfl 6 (by decide) (hts _ (List.mem_cons_of_mem _ k44)) (fun _ h => h) rfl hin2 rfl (tyX1_ok 6 (by decide)) rfl rfl (by show 6 < 10; decide) dX1_init_61 (fun H locs hR hS => ?_)
  refine lv_aload_n hx hb dX1_init_64 rfl (lv_at hl 0 rfl) ?_
  refine lv_bipush (v := 24) hx hb dX1_init_65 (by decide) ?_
  refine tb_newa (atype := .int) hx hb (hts _ (List.mem_cons_of_mem _ k71)) (ty := .int) rfl hK hR hS hA9 9 (up_n (by omega) (up_n (by omega) (up_n (by omega) (up_n (by omega) (up_n (by omega) (up_n (by omega) (up_n (by omega) (mnC_n (by omega) (by omega) (up_n (by omega) (up_n (by omega) (up_n (by omega) (up_n (by omega) (up_n (by omega) (up_n (by omega) (hN _ (by omega) (by omega)))))))))))))))) 0 rfl (N' := 24) (a0 := (24, .inl (fun _ => 0))) (fun _ => rfl) (by decide) (by decide) (by decide) (by show 15 + 1 ≤ 16; omega) (by show 616 + 24 ≤ 640; omega) dX1_init_67 (fun q9 H hR hS => ?_)
  refine W.widen (k := 16) (n := 640) (by omega) (by omega) ?_
  refine tb_putFA hx hb hts (fun w h => List.mem_cons_of_mem _ (inX1 w h)) tyX1 tyX1_ok nmX1 hown hK hR hS 1 (up_n (by omega) (up_n (by omega) (up_n (by omega) (up_n (by omega) (mnA_n (by omega) (by omega) (up_n (by omega) (up_n (by omega) (up_n (by omega) (ha))))))))) (up_n (by omega) (up_s)) rfl 7 (by decide) (hts _ (List.mem_cons_of_mem _ k45)) (fun _ h => h) rfl hin2 rfl (tyX1_ok 7 (by decide)) rfl rfl (by show 7 < 10; decide) dX1_init_69 (fun H locs hR hS => ?_)
  refine lv_aload_n hx hb dX1_init_72 rfl (lv_at hl 0 rfl) ?_
  refine lv_iconst (v := 0) hx hb dX1_init_73 (by decide) ?_
  refine tb_putA hx hb hts (fun w h => List.mem_cons_of_mem _ (inX1 w h)) tyX1 tyX1_ok nmX1 hown hK hR hS 1 (up_n (by omega) (up_n (by omega) (up_n (by omega) (up_n (by omega) (mnA_n (by omega) (by omega) (up_n (by omega) (up_n (by omega) (up_n (by omega) (ha))))))))) (up_s) rfl 8 (by decide) (hts _ (List.mem_cons_of_mem _ k46)) (fun _ h => h) rfl (tyX1_ok 8 (by decide)) rfl rfl (by show 8 < 10; decide) dX1_init_74 (fun H locs hR hS => ?_)
  refine lv_aload_n hx hb dX1_init_77 rfl (lv_at hl 0 rfl) ?_
  refine lv_iconst (v := 0) hx hb dX1_init_78 (by decide) ?_
  refine tb_putA hx hb hts (fun w h => List.mem_cons_of_mem _ (inX1 w h)) tyX1 tyX1_ok nmX1 hown hK hR hS 1 (up_n (by omega) (up_n (by omega) (up_n (by omega) (up_n (by omega) (mnA_n (by omega) (by omega) (up_n (by omega) (up_n (by omega) (up_n (by omega) (ha))))))))) (up_s) rfl 9 (by decide) (hts _ (List.mem_cons_of_mem _ k48)) (fun _ h => h) rfl (tyX1_ok 9 (by decide)) rfl rfl (by show 9 < 10; decide) dX1_init_79 (fun H locs hR hS => ?_)
  rw [show _ = siC n (va_up (va_up (va_up (va_up (mnA (va_up (va_up (va_up ad 2 q2) 3 q3) 4 q4) 5 10 8 q5 r5) 6 q6) 7 q7) 8 q8) 9 q9) cs C from x1_fin (up_n (by omega) (up_n (by omega) (up_n (by omega) (up_n (by omega) (mnA_n (by omega) (by omega) (up_n (by omega) (up_n (by omega) (up_s)))))))) (up_n (by omega) (up_n (by omega) (up_n (by omega) (up_n (by omega) (mnA_n (by omega) (by omega) (up_n (by omega) (up_s))))))) (up_n (by omega) (up_n (by omega) (up_n (by omega) (up_n (by omega) (mnA_n (by omega) (by omega) (up_s)))))) (up_n (by omega) (up_n (by omega) (up_n (by omega) (up_n (by omega) (mnA_o))))) (up_n (by omega) (up_n (by omega) (up_n (by omega) (up_s)))) (up_n (by omega) (up_n (by omega) (up_s))) (up_n (by omega) (up_s)) (up_s) (fun i hi => up_n (by omega) (up_n (by omega) (up_n (by omega) (up_n (by omega) (mnA_i (by omega) hi)))))] at hR
  refine W.widen (k := 16) (n := 640) (by omega) (by omega) ?_
  exact W.vret hx hb hr (fun t ht hW => ⟨⟨va_up (va_up (va_up (va_up (mnA (va_up (va_up (va_up ad 2 q2) 3 q3) 4 q4) 5 10 8 q5 r5) 6 q6) 7 q7) 8 q8) 9 q9, rfl, fun k hk => up_n (by omega) (up_n (by omega) (up_n (by omega) (up_n (by omega) (mnA_n (by omega) (by omega) (up_n (by omega) (up_n (by omega) (up_n (by omega) (rfl)))))))), by show tR _ _ _ _ _ t.heap; rw [ht]; exact hR⟩, hS.F ht⟩) hS.2.2 dX1_init_82
set_option maxHeartbeats 4000000 in
set_option maxRecDepth 100000 in
/-- new SeedChainsModel(seed, chains) -/
theorem mX3_init (a : Nat) (p0 p1 : Int32) (C : Nat → Option va_E) (ha : ad 200 = a) (hn : n = chN p1) (h0 : C 200 = some (.inr (3, [.int 0, .int 0, .int 0, .int 0, .null, .null, .null, .null, .int 0, .null, .null, .null, .null, .int 0, .int 0, .int 0, .int 0, .int 0, .null, .null, .null, .int 0, .null, .null, .null, .null, .null]))) (hN : ∀ k, 200 < k → k < 217 → C k = none) : Met l yX3_init wX3_init ({ frames := 1, cells := 16, slots := 11000, locals := 20 }) (va_Pc [.ref a, .int p0, .int p1] (kG D cs base sa ad C)) (va_Qv (fun (ad' : Nat → Nat) => ∀ k, ¬ (200 < k ∧ k < 217) → ad' k = ad k) (fun (ad' : Nat → Nat) (t : State) => tR D vwCl base ad' (moC p0 n ad' cs C) t.heap) (fun q => base ≤ q)) 16 11000 (fun q => base ≤ q) := by
  refine Met.ofW (cc := cX3_init) (maxL := 3) (ret := none) (by decide) rfl ?_
  intro p e s m args below meth c s₁ Bd hml hv
  obtain ⟨rfl, hE, hR⟩ := hv
  have hx := Bd.exec
  have hb := Bd.bytes
  have hr := Bd.returns
  have hts := atoms_spec (ws := wX3_init) Bd.pre
  have hown : s.vm.findClass RX3 = some m.cls := findClass_of_methodNamed Bd.named
  have hlocks := Bd.notSynchronized
  have hK := hE.K
  have hS : va_S (fun q => base ≤ q) s.heap s.heap [] := va_S.rf
  have hR : tR D vwCl base ad (C) s.heap := hR
  have hl := lv_entry ([.ref a, .int p0, .int p1]) (n := 3) (Nat.le_of_ble_eq_true rfl)
  rw [lg_entry_eq]
  generalize (lg_sl ([.ref a, .int p0, .int p1]) ++ List.replicate (3 - (lg_sl ([.ref a, .int p0, .int p1])).length) Slot.unset).toArray = ls at hl ⊢
  have hl : lv_has ls 3 [(0, .ref a), (1, .int p0), (2, .int p1)] := hl
  have hin2 : meth.name = "<init>" := (name_of_methodNamed Bd.named Bd.method).1
  have hA9 : base ≤ s.heap.size := hR.base h0
  refine lv_aload_n hx hb dX3_init_0 rfl (lv_at hl 0 rfl) ?_
  refine W.objInit hx hb hown (hts _ (List.mem_cons_of_mem _ k477)) (hts _ (List.mem_cons_of_mem _ k19)) (hts _ (List.mem_cons_of_mem _ k20)) rfl (by rw [hml]; exact hl.1) rfl dX3_init_1 (Nat.le_of_ble_eq_true rfl) (Nat.le_of_ble_eq_true rfl) ?_
  refine W.eq (g2 := F0 m 4 ls []) rfl ?_
  refine lv_aload_n hx hb dX3_init_4 rfl (lv_at hl 0 rfl) ?_
  refine lv_bipush (v := 8) hx hb dX3_init_5 (by decide) ?_
  refine tb_newa (atype := .int) hx hb (hts _ (List.mem_cons_of_mem _ k71)) (ty := .int) rfl hK hR hS hA9 201 (hN _ (by omega) (by omega)) 0 rfl (N' := 8) (a0 := (8, .inl (fun _ => 0))) (fun _ => rfl) (by decide) (by decide) (by decide) (by show 0 + 1 ≤ 16; omega) (by show 0 + 8 ≤ 11000; omega) dX3_init_7 (fun q201 H hR hS => ?_)
  refine W.widen (k := 1) (n := 8) (by omega) (by omega) ?_
  refine tb_putFA hx hb hts (fun w h => List.mem_cons_of_mem _ (inX3 w h)) tyX3 tyX3_ok nmX3 hown hK hR hS 200 (up_n (by omega) (ha)) (up_n (by omega) (h0)) rfl 4 (by decide) (hts _ (List.mem_cons_of_mem _ k482)) (fun _ h => h) rfl hin2 rfl (tyX3_ok 4 (by decide)) rfl rfl (by show 4 < 27; decide) dX3_init_9 (fun H locs hR hS => ?_)
  refine lv_aload_n hx hb dX3_init_12 rfl (lv_at hl 0 rfl) ?_
  refine lv_bipush (v := 8) hx hb dX3_init_13 (by decide) ?_
  refine tb_newa (atype := .int) hx hb (hts _ (List.mem_cons_of_mem _ k71)) (ty := .int) rfl hK hR hS hA9 202 (up_n (by omega) (up_n (by omega) (hN _ (by omega) (by omega)))) 0 rfl (N' := 8) (a0 := (8, .inl (fun _ => 0))) (fun _ => rfl) (by decide) (by decide) (by decide) (by show 1 + 1 ≤ 16; omega) (by show 8 + 8 ≤ 11000; omega) dX3_init_15 (fun q202 H hR hS => ?_)
  refine W.widen (k := 2) (n := 16) (by omega) (by omega) ?_
  refine tb_putFA hx hb hts (fun w h => List.mem_cons_of_mem _ (inX3 w h)) tyX3 tyX3_ok nmX3 hown hK hR hS 200 (up_n (by omega) (up_n (by omega) (ha))) (up_n (by omega) (up_s)) rfl 5 (by decide) (hts _ (List.mem_cons_of_mem _ k483)) (fun _ h => h) rfl hin2 rfl (tyX3_ok 5 (by decide)) rfl rfl (by show 5 < 27; decide) dX3_init_17 (fun H locs hR hS => ?_)
  refine lv_aload_n hx hb dX3_init_20 rfl (lv_at hl 0 rfl) ?_
  refine lv_sipush (v := 512) hx hb dX3_init_21 (by decide) ?_
  refine tb_newa (atype := .int) hx hb (hts _ (List.mem_cons_of_mem _ k71)) (ty := .int) rfl hK hR hS hA9 203 (up_n (by omega) (up_n (by omega) (up_n (by omega) (up_n (by omega) (hN _ (by omega) (by omega)))))) 0 rfl (N' := 512) (a0 := (512, .inl (fun _ => 0))) (fun _ => rfl) (by decide) (by decide) (by decide) (by show 2 + 1 ≤ 16; omega) (by show 16 + 512 ≤ 11000; omega) dX3_init_24 (fun q203 H hR hS => ?_)
  refine W.widen (k := 3) (n := 528) (by omega) (by omega) ?_
  refine tb_putFA hx hb hts (fun w h => List.mem_cons_of_mem _ (inX3 w h)) tyX3 tyX3_ok nmX3 hown hK hR hS 200 (up_n (by omega) (up_n (by omega) (up_n (by omega) (ha)))) (up_n (by omega) (up_s)) rfl 6 (by decide) (hts _ (List.mem_cons_of_mem _ k484)) (fun _ h => h) rfl hin2 rfl (tyX3_ok 6 (by decide)) rfl rfl (by show 6 < 27; decide) dX3_init_26 (fun H locs hR hS => ?_)
  refine lv_aload_n hx hb dX3_init_29 rfl (lv_at hl 0 rfl) ?_
  refine lv_bipush (v := 8) hx hb dX3_init_30 (by decide) ?_
  refine tb_newa (atype := .int) hx hb (hts _ (List.mem_cons_of_mem _ k71)) (ty := .int) rfl hK hR hS hA9 204 (up_n (by omega) (up_n (by omega) (up_n (by omega) (up_n (by omega) (up_n (by omega) (up_n (by omega) (hN _ (by omega) (by omega)))))))) 0 rfl (N' := 8) (a0 := (8, .inl (fun _ => 0))) (fun _ => rfl) (by decide) (by decide) (by decide) (by show 3 + 1 ≤ 16; omega) (by show 528 + 8 ≤ 11000; omega) dX3_init_32 (fun q204 H hR hS => ?_)
  refine W.widen (k := 4) (n := 536) (by omega) (by omega) ?_
  refine tb_putFA hx hb hts (fun w h => List.mem_cons_of_mem _ (inX3 w h)) tyX3 tyX3_ok nmX3 hown hK hR hS 200 (up_n (by omega) (up_n (by omega) (up_n (by omega) (up_n (by omega) (ha))))) (up_n (by omega) (up_s)) rfl 7 (by decide) (hts _ (List.mem_cons_of_mem _ k485)) (fun _ h => h) rfl hin2 rfl (tyX3_ok 7 (by decide)) rfl rfl (by show 7 < 27; decide) dX3_init_34 (fun H locs hR hS => ?_)
  refine lv_aload_n hx hb dX3_init_37 rfl (lv_at hl 0 rfl) ?_
  refine lv_bipush (v := 24) hx hb dX3_init_38 (by decide) ?_
  refine tb_newa (atype := .int) hx hb (hts _ (List.mem_cons_of_mem _ k71)) (ty := .int) rfl hK hR hS hA9 205 (up_n (by omega) (up_n (by omega) (up_n (by omega) (up_n (by omega) (up_n (by omega) (up_n (by omega) (up_n (by omega) (up_n (by omega) (hN _ (by omega) (by omega)))))))))) 0 rfl (N' := 24) (a0 := (24, .inl (fun _ => 0))) (fun _ => rfl) (by decide) (by decide) (by decide) (by show 4 + 1 ≤ 16; omega) (by show 536 + 24 ≤ 11000; omega) dX3_init_40 (fun q205 H hR hS => ?_)
  refine W.widen (k := 5) (n := 560) (by omega) (by omega) ?_
  refine tb_putFA hx hb hts (fun w h => List.mem_cons_of_mem _ (inX3 w h)) tyX3 tyX3_ok nmX3 hown hK hR hS 200 (up_n (by omega) (up_n (by omega) (up_n (by omega) (up_n (by omega) (up_n (by omega) (ha)))))) (up_n (by omega) (up_s)) rfl 9 (by decide) (hts _ (List.mem_cons_of_mem _ k487)) (fun _ h => h) rfl hin2 rfl (tyX3_ok 9 (by decide)) rfl rfl (by show 9 < 27; decide) dX3_init_42 (fun H locs hR hS => ?_)
  refine lv_aload_n hx hb dX3_init_45 rfl (lv_at hl 0 rfl) ?_
  refine lv_bipush (v := 24) hx hb dX3_init_46 (by decide) ?_
  refine tb_newa (atype := .int) hx hb (hts _ (List.mem_cons_of_mem _ k71)) (ty := .int) rfl hK hR hS hA9 206 (up_n (by omega) (up_n (by omega) (up_n (by omega) (up_n (by omega) (up_n (by omega) (up_n (by omega) (up_n (by omega) (up_n (by omega) (up_n (by omega) (up_n (by omega) (hN _ (by omega) (by omega)))))))))))) 0 rfl (N' := 24) (a0 := (24, .inl (fun _ => 0))) (fun _ => rfl) (by decide) (by decide) (by decide) (by show 5 + 1 ≤ 16; omega) (by show 560 + 24 ≤ 11000; omega) dX3_init_48 (fun q206 H hR hS => ?_)
  refine W.widen (k := 6) (n := 584) (by omega) (by omega) ?_
  refine tb_putFA hx hb hts (fun w h => List.mem_cons_of_mem _ (inX3 w h)) tyX3 tyX3_ok nmX3 hown hK hR hS 200 (up_n (by omega) (up_n (by omega) (up_n (by omega) (up_n (by omega) (up_n (by omega) (up_n (by omega) (ha))))))) (up_n (by omega) (up_s)) rfl 10 (by decide) (hts _ (List.mem_cons_of_mem _ k488)) (fun _ h => h) rfl hin2 rfl (tyX3_ok 10 (by decide)) rfl rfl (by show 10 < 27; decide) dX3_init_50 (fun H locs hR hS => ?_)
  refine lv_aload_n hx hb dX3_init_53 rfl (lv_at hl 0 rfl) ?_
  refine lv_bipush (v := 24) hx hb dX3_init_54 (by decide) ?_
  refine tb_newa (atype := .int) hx hb (hts _ (List.mem_cons_of_mem _ k71)) (ty := .int) rfl hK hR hS hA9 207 (up_n (by omega) (up_n (by omega) (up_n (by omega) (up_n (by omega) (up_n (by omega) (up_n (by omega) (up_n (by omega) (up_n (by omega) (up_n (by omega) (up_n (by omega) (up_n (by omega) (up_n (by omega) (hN _ (by omega) (by omega)))))))))))))) 0 rfl (N' := 24) (a0 := (24, .inl (fun _ => 0))) (fun _ => rfl) (by decide) (by decide) (by decide) (by show 6 + 1 ≤ 16; omega) (by show 584 + 24 ≤ 11000; omega) dX3_init_56 (fun q207 H hR hS => ?_)
  refine W.widen (k := 7) (n := 608) (by omega) (by omega) ?_
  refine tb_putFA hx hb hts (fun w h => List.mem_cons_of_mem _ (inX3 w h)) tyX3 tyX3_ok nmX3 hown hK hR hS 200 (up_n (by omega) (up_n (by omega) (up_n (by omega) (up_n (by omega) (up_n (by omega) (up_n (by omega) (up_n (by omega) (ha)))))))) (up_n (by omega) (up_s)) rfl 11 (by decide) (hts _ (List.mem_cons_of_mem _ k489)) (fun _ h => h) rfl hin2 rfl (tyX3_ok 11 (by decide)) rfl rfl (by show 11 < 27; decide) dX3_init_58 (fun H locs hR hS => ?_)
  refine lv_aload_n hx hb dX3_init_61 rfl (lv_at hl 0 rfl) ?_
  refine lv_bipush (v := 24) hx hb dX3_init_62 (by decide) ?_
  refine tb_newa (atype := .int) hx hb (hts _ (List.mem_cons_of_mem _ k71)) (ty := .int) rfl hK hR hS hA9 208 (up_n (by omega) (up_n (by omega) (up_n (by omega) (up_n (by omega) (up_n (by omega) (up_n (by omega) (up_n (by omega) (up_n (by omega) (up_n (by omega) (up_n (by omega) (up_n (by omega) (up_n (by omega) (up_n (by omega) (up_n (by omega) (hN _ (by omega) (by omega)))))))))))))))) 0 rfl (N' := 24) (a0 := (24, .inl (fun _ => 0))) (fun _ => rfl) (by decide) (by decide) (by decide) (by show 7 + 1 ≤ 16; omega) (by show 608 + 24 ≤ 11000; omega) dX3_init_64 (fun q208 H hR hS => ?_)
  refine W.widen (k := 8) (n := 632) (by omega) (by omega) ?_
  refine tb_putFA hx hb hts (fun w h => List.mem_cons_of_mem _ (inX3 w h)) tyX3 tyX3_ok nmX3 hown hK hR hS 200 (up_n (by omega) (up_n (by omega) (up_n (by omega) (up_n (by omega) (up_n (by omega) (up_n (by omega) (up_n (by omega) (up_n (by omega) (ha))))))))) (up_n (by omega) (up_s)) rfl 12 (by decide) (hts _ (List.mem_cons_of_mem _ k490)) (fun _ h => h) rfl hin2 rfl (tyX3_ok 12 (by decide)) rfl rfl (by show 12 < 27; decide) dX3_init_66 (fun H locs hR hS => ?_)
  refine lv_aload_n hx hb dX3_init_69 rfl (lv_at hl 0 rfl) ?_
  refine lv_iconst (v := 1) hx hb dX3_init_70 (by decide) ?_
  refine tb_putA hx hb hts (fun w h => List.mem_cons_of_mem _ (inX3 w h)) tyX3 tyX3_ok nmX3 hown hK hR hS 200 (up_n (by omega) (up_n (by omega) (up_n (by omega) (up_n (by omega) (up_n (by omega) (up_n (by omega) (up_n (by omega) (up_n (by omega) (ha))))))))) (up_s) rfl 14 (by decide) (hts _ (List.mem_cons_of_mem _ k492)) (fun _ h => h) rfl (tyX3_ok 14 (by decide)) rfl rfl (by show 14 < 27; decide) dX3_init_71 (fun H locs hR hS => ?_)
  refine lv_aload_n hx hb dX3_init_74 rfl (lv_at hl 0 rfl) ?_
  refine lv_bipush (v := 32) hx hb dX3_init_75 (by decide) ?_
  refine tb_newa (atype := .int) hx hb (hts _ (List.mem_cons_of_mem _ k71)) (ty := .int) rfl hK hR hS hA9 209 (up_n (by omega) (up_n (by omega) (up_n (by omega) (up_n (by omega) (up_n (by omega) (up_n (by omega) (up_n (by omega) (up_n (by omega) (up_n (by omega) (up_n (by omega) (up_n (by omega) (up_n (by omega) (up_n (by omega) (up_n (by omega) (up_n (by omega) (up_n (by omega) (up_n (by omega) (hN _ (by omega) (by omega))))))))))))))))))) 0 rfl (N' := 32) (a0 := (32, .inl (fun _ => 0))) (fun _ => rfl) (by decide) (by decide) (by decide) (by show 8 + 1 ≤ 16; omega) (by show 632 + 32 ≤ 11000; omega) dX3_init_77 (fun q209 H hR hS => ?_)
  refine W.widen (k := 9) (n := 664) (by omega) (by omega) ?_
  refine tb_putFA hx hb hts (fun w h => List.mem_cons_of_mem _ (inX3 w h)) tyX3 tyX3_ok nmX3 hown hK hR hS 200 (up_n (by omega) (up_n (by omega) (up_n (by omega) (up_n (by omega) (up_n (by omega) (up_n (by omega) (up_n (by omega) (up_n (by omega) (up_n (by omega) (ha)))))))))) (up_n (by omega) (up_s)) rfl 18 (by decide) (hts _ (List.mem_cons_of_mem _ k496)) (fun _ h => h) rfl hin2 rfl (tyX3_ok 18 (by decide)) rfl rfl (by show 18 < 27; decide) dX3_init_79 (fun H locs hR hS => ?_)
  refine lv_aload_n hx hb dX3_init_82 rfl (lv_at hl 0 rfl) ?_
  refine lv_iconst (v := 4) hx hb dX3_init_83 (by decide) ?_
  refine tb_newa (atype := .long) hx hb (hts _ (List.mem_cons_of_mem _ k99)) (ty := .long) rfl hK hR hS hA9 210 (up_n (by omega) (up_n (by omega) (up_n (by omega) (up_n (by omega) (up_n (by omega) (up_n (by omega) (up_n (by omega) (up_n (by omega) (up_n (by omega) (up_n (by omega) (up_n (by omega) (up_n (by omega) (up_n (by omega) (up_n (by omega) (up_n (by omega) (up_n (by omega) (up_n (by omega) (up_n (by omega) (up_n (by omega) (hN _ (by omega) (by omega))))))))))))))))))))) 1 rfl (N' := 4) (a0 := (4, .inr (.inl (fun _ => 0)))) (fun _ => rfl) (by decide) (by decide) (by decide) (by show 9 + 1 ≤ 16; omega) (by show 664 + 4 ≤ 11000; omega) dX3_init_84 (fun q210 H hR hS => ?_)
  refine W.widen (k := 10) (n := 668) (by omega) (by omega) ?_
  refine tb_putFA hx hb hts (fun w h => List.mem_cons_of_mem _ (inX3 w h)) tyX3 tyX3_ok nmX3 hown hK hR hS 200 (up_n (by omega) (up_n (by omega) (up_n (by omega) (up_n (by omega) (up_n (by omega) (up_n (by omega) (up_n (by omega) (up_n (by omega) (up_n (by omega) (up_n (by omega) (ha))))))))))) (up_n (by omega) (up_s)) rfl 19 (by decide) (hts _ (List.mem_cons_of_mem _ k497)) (fun _ h => h) rfl hin2 rfl (tyX3_ok 19 (by decide)) rfl rfl (by show 19 < 27; decide) dX3_init_86 (fun H locs hR hS => ?_)
  refine lv_aload_n hx hb dX3_init_89 rfl (lv_at hl 0 rfl) ?_
  refine lv_sipush (v := 1920) hx hb dX3_init_90 (by decide) ?_
  refine tb_newa (atype := .int) hx hb (hts _ (List.mem_cons_of_mem _ k71)) (ty := .int) rfl hK hR hS hA9 211 (up_n (by omega) (up_n (by omega) (up_n (by omega) (up_n (by omega) (up_n (by omega) (up_n (by omega) (up_n (by omega) (up_n (by omega) (up_n (by omega) (up_n (by omega) (up_n (by omega) (up_n (by omega) (up_n (by omega) (up_n (by omega) (up_n (by omega) (up_n (by omega) (up_n (by omega) (up_n (by omega) (up_n (by omega) (up_n (by omega) (up_n (by omega) (hN _ (by omega) (by omega))))))))))))))))))))))) 0 rfl (N' := 1920) (a0 := (1920, .inl (fun _ => 0))) (fun _ => rfl) (by decide) (by decide) (by decide) (by show 10 + 1 ≤ 16; omega) (by show 668 + 1920 ≤ 11000; omega) dX3_init_93 (fun q211 H hR hS => ?_)
  refine W.widen (k := 11) (n := 2588) (by omega) (by omega) ?_
  refine tb_putFA hx hb hts (fun w h => List.mem_cons_of_mem _ (inX3 w h)) tyX3 tyX3_ok nmX3 hown hK hR hS 200 (up_n (by omega) (up_n (by omega) (up_n (by omega) (up_n (by omega) (up_n (by omega) (up_n (by omega) (up_n (by omega) (up_n (by omega) (up_n (by omega) (up_n (by omega) (up_n (by omega) (ha)))))))))))) (up_n (by omega) (up_s)) rfl 20 (by decide) (hts _ (List.mem_cons_of_mem _ k498)) (fun _ h => h) rfl hin2 rfl (tyX3_ok 20 (by decide)) rfl rfl (by show 20 < 27; decide) dX3_init_95 (fun H locs hR hS => ?_)
  refine lv_aload_n hx hb dX3_init_98 rfl (lv_at hl 0 rfl) ?_
  refine lv_sipush (v := 128) hx hb dX3_init_99 (by decide) ?_
  refine tb_newa (atype := .int) hx hb (hts _ (List.mem_cons_of_mem _ k71)) (ty := .int) rfl hK hR hS hA9 212 (up_n (by omega) (up_n (by omega) (up_n (by omega) (up_n (by omega) (up_n (by omega) (up_n (by omega) (up_n (by omega) (up_n (by omega) (up_n (by omega) (up_n (by omega) (up_n (by omega) (up_n (by omega) (up_n (by omega) (up_n (by omega) (up_n (by omega) (up_n (by omega) (up_n (by omega) (up_n (by omega) (up_n (by omega) (up_n (by omega) (up_n (by omega) (up_n (by omega) (up_n (by omega) (hN _ (by omega) (by omega))))))))))))))))))))))))) 0 rfl (N' := 128) (a0 := (128, .inl (fun _ => 0))) (fun _ => rfl) (by decide) (by decide) (by decide) (by show 11 + 1 ≤ 16; omega) (by show 2588 + 128 ≤ 11000; omega) dX3_init_102 (fun q212 H hR hS => ?_)
  refine W.widen (k := 12) (n := 2716) (by omega) (by omega) ?_
  refine tb_putFA hx hb hts (fun w h => List.mem_cons_of_mem _ (inX3 w h)) tyX3 tyX3_ok nmX3 hown hK hR hS 200 (up_n (by omega) (up_n (by omega) (up_n (by omega) (up_n (by omega) (up_n (by omega) (up_n (by omega) (up_n (by omega) (up_n (by omega) (up_n (by omega) (up_n (by omega) (up_n (by omega) (up_n (by omega) (ha))))))))))))) (up_n (by omega) (up_s)) rfl 22 (by decide) (hts _ (List.mem_cons_of_mem _ k500)) (fun _ h => h) rfl hin2 rfl (tyX3_ok 22 (by decide)) rfl rfl (by show 22 < 27; decide) dX3_init_104 (fun H locs hR hS => ?_)
  refine lv_aload_n hx hb dX3_init_107 rfl (lv_at hl 0 rfl) ?_
  refine lv_bipush (v := 16) hx hb dX3_init_108 (by decide) ?_
  refine tb_newa (atype := .long) hx hb (hts _ (List.mem_cons_of_mem _ k99)) (ty := .long) rfl hK hR hS hA9 213 (up_n (by omega) (up_n (by omega) (up_n (by omega) (up_n (by omega) (up_n (by omega) (up_n (by omega) (up_n (by omega) (up_n (by omega) (up_n (by omega) (up_n (by omega) (up_n (by omega) (up_n (by omega) (up_n (by omega) (up_n (by omega) (up_n (by omega) (up_n (by omega) (up_n (by omega) (up_n (by omega) (up_n (by omega) (up_n (by omega) (up_n (by omega) (up_n (by omega) (up_n (by omega) (up_n (by omega) (up_n (by omega) (hN _ (by omega) (by omega))))))))))))))))))))))))))) 1 rfl (N' := 16) (a0 := (16, .inr (.inl (fun _ => 0)))) (fun _ => rfl) (by decide) (by decide) (by decide) (by show 12 + 1 ≤ 16; omega) (by show 2716 + 16 ≤ 11000; omega) dX3_init_110 (fun q213 H hR hS => ?_)
  refine W.widen (k := 13) (n := 2732) (by omega) (by omega) ?_
  refine tb_putFA hx hb hts (fun w h => List.mem_cons_of_mem _ (inX3 w h)) tyX3 tyX3_ok nmX3 hown hK hR hS 200 (up_n (by omega) (up_n (by omega) (up_n (by omega) (up_n (by omega) (up_n (by omega) (up_n (by omega) (up_n (by omega) (up_n (by omega) (up_n (by omega) (up_n (by omega) (up_n (by omega) (up_n (by omega) (up_n (by omega) (ha)))))))))))))) (up_n (by omega) (up_s)) rfl 23 (by decide) (hts _ (List.mem_cons_of_mem _ k501)) (fun _ h => h) rfl hin2 rfl (tyX3_ok 23 (by decide)) rfl rfl (by show 23 < 27; decide) dX3_init_112 (fun H locs hR hS => ?_)
  refine lv_aload_n hx hb dX3_init_115 rfl (lv_at hl 0 rfl) ?_
  refine lv_sipush (v := 7680) hx hb dX3_init_116 (by decide) ?_
  refine tb_newa (atype := .int) hx hb (hts _ (List.mem_cons_of_mem _ k71)) (ty := .int) rfl hK hR hS hA9 214 (up_n (by omega) (up_n (by omega) (up_n (by omega) (up_n (by omega) (up_n (by omega) (up_n (by omega) (up_n (by omega) (up_n (by omega) (up_n (by omega) (up_n (by omega) (up_n (by omega) (up_n (by omega) (up_n (by omega) (up_n (by omega) (up_n (by omega) (up_n (by omega) (up_n (by omega) (up_n (by omega) (up_n (by omega) (up_n (by omega) (up_n (by omega) (up_n (by omega) (up_n (by omega) (up_n (by omega) (up_n (by omega) (up_n (by omega) (up_n (by omega) (hN _ (by omega) (by omega))))))))))))))))))))))))))))) 0 rfl (N' := 7680) (a0 := (7680, .inl (fun _ => 0))) (fun _ => rfl) (by decide) (by decide) (by decide) (by show 13 + 1 ≤ 16; omega) (by show 2732 + 7680 ≤ 11000; omega) dX3_init_119 (fun q214 H hR hS => ?_)
  refine W.widen (k := 14) (n := 10412) (by omega) (by omega) ?_
  refine tb_putFA hx hb hts (fun w h => List.mem_cons_of_mem _ (inX3 w h)) tyX3 tyX3_ok nmX3 hown hK hR hS 200 (up_n (by omega) (up_n (by omega) (up_n (by omega) (up_n (by omega) (up_n (by omega) (up_n (by omega) (up_n (by omega) (up_n (by omega) (up_n (by omega) (up_n (by omega) (up_n (by omega) (up_n (by omega) (up_n (by omega) (up_n (by omega) (ha))))))))))))))) (up_n (by omega) (up_s)) rfl 24 (by decide) (hts _ (List.mem_cons_of_mem _ k502)) (fun _ h => h) rfl hin2 rfl (tyX3_ok 24 (by decide)) rfl rfl (by show 24 < 27; decide) dX3_init_121 (fun H locs hR hS => ?_)
  refine lv_aload_n hx hb dX3_init_124 rfl (lv_at hl 0 rfl) ?_
  refine lv_iconst (v := 4) hx hb dX3_init_125 (by decide) ?_
  refine tb_newa (atype := .int) hx hb (hts _ (List.mem_cons_of_mem _ k71)) (ty := .int) rfl hK hR hS hA9 215 (up_n (by omega) (up_n (by omega) (up_n (by omega) (up_n (by omega) (up_n (by omega) (up_n (by omega) (up_n (by omega) (up_n (by omega) (up_n (by omega) (up_n (by omega) (up_n (by omega) (up_n (by omega) (up_n (by omega) (up_n (by omega) (up_n (by omega) (up_n (by omega) (up_n (by omega) (up_n (by omega) (up_n (by omega) (up_n (by omega) (up_n (by omega) (up_n (by omega) (up_n (by omega) (up_n (by omega) (up_n (by omega) (up_n (by omega) (up_n (by omega) (up_n (by omega) (up_n (by omega) (hN _ (by omega) (by omega))))))))))))))))))))))))))))))) 0 rfl (N' := 4) (a0 := (4, .inl (fun _ => 0))) (fun _ => rfl) (by decide) (by decide) (by decide) (by show 14 + 1 ≤ 16; omega) (by show 10412 + 4 ≤ 11000; omega) dX3_init_126 (fun q215 H hR hS => ?_)
  refine W.widen (k := 15) (n := 10416) (by omega) (by omega) ?_
  refine tb_putFA hx hb hts (fun w h => List.mem_cons_of_mem _ (inX3 w h)) tyX3 tyX3_ok nmX3 hown hK hR hS 200 (up_n (by omega) (up_n (by omega) (up_n (by omega) (up_n (by omega) (up_n (by omega) (up_n (by omega) (up_n (by omega) (up_n (by omega) (up_n (by omega) (up_n (by omega) (up_n (by omega) (up_n (by omega) (up_n (by omega) (up_n (by omega) (up_n (by omega) (ha)))))))))))))))) (up_n (by omega) (up_s)) rfl 25 (by decide) (hts _ (List.mem_cons_of_mem _ k503)) (fun _ h => h) rfl hin2 rfl (tyX3_ok 25 (by decide)) rfl rfl (by show 25 < 27; decide) dX3_init_128 (fun H locs hR hS => ?_)
  refine lv_aload_n hx hb dX3_init_131 rfl (lv_at hl 0 rfl) ?_
  refine lv_iconst (v := 4) hx hb dX3_init_132 (by decide) ?_
  refine tb_newa (atype := .int) hx hb (hts _ (List.mem_cons_of_mem _ k71)) (ty := .int) rfl hK hR hS hA9 216 (up_n (by omega) (up_n (by omega) (up_n (by omega) (up_n (by omega) (up_n (by omega) (up_n (by omega) (up_n (by omega) (up_n (by omega) (up_n (by omega) (up_n (by omega) (up_n (by omega) (up_n (by omega) (up_n (by omega) (up_n (by omega) (up_n (by omega) (up_n (by omega) (up_n (by omega) (up_n (by omega) (up_n (by omega) (up_n (by omega) (up_n (by omega) (up_n (by omega) (up_n (by omega) (up_n (by omega) (up_n (by omega) (up_n (by omega) (up_n (by omega) (up_n (by omega) (up_n (by omega) (up_n (by omega) (up_n (by omega) (hN _ (by omega) (by omega))))))))))))))))))))))))))))))))) 0 rfl (N' := 4) (a0 := (4, .inl (fun _ => 0))) (fun _ => rfl) (by decide) (by decide) (by decide) (by show 15 + 1 ≤ 16; omega) (by show 10416 + 4 ≤ 11000; omega) dX3_init_133 (fun q216 H hR hS => ?_)
  refine W.widen (k := 16) (n := 10420) (by omega) (by omega) ?_
  refine tb_putFA hx hb hts (fun w h => List.mem_cons_of_mem _ (inX3 w h)) tyX3 tyX3_ok nmX3 hown hK hR hS 200 (up_n (by omega) (up_n (by omega) (up_n (by omega) (up_n (by omega) (up_n (by omega) (up_n (by omega) (up_n (by omega) (up_n (by omega) (up_n (by omega) (up_n (by omega) (up_n (by omega) (up_n (by omega) (up_n (by omega) (up_n (by omega) (up_n (by omega) (up_n (by omega) (ha))))))))))))))))) (up_n (by omega) (up_s)) rfl 26 (by decide) (hts _ (List.mem_cons_of_mem _ k504)) (fun _ h => h) rfl hin2 rfl (tyX3_ok 26 (by decide)) rfl rfl (by show 26 < 27; decide) dX3_init_135 (fun H locs hR hS => ?_)
  refine lv_aload_n hx hb dX3_init_138 rfl (lv_at hl 0 rfl) ?_
  refine lv_iload_n hx hb dX3_init_139 rfl (lv_at hl 1 rfl) ?_
  refine tb_putFA hx hb hts (fun w h => List.mem_cons_of_mem _ (inX3 w h)) tyX3 tyX3_ok nmX3 hown hK hR hS 200 (up_n (by omega) (up_n (by omega) (up_n (by omega) (up_n (by omega) (up_n (by omega) (up_n (by omega) (up_n (by omega) (up_n (by omega) (up_n (by omega) (up_n (by omega) (up_n (by omega) (up_n (by omega) (up_n (by omega) (up_n (by omega) (up_n (by omega) (up_n (by omega) (ha))))))))))))))))) (up_s) rfl 1 (by decide) (hts _ (List.mem_cons_of_mem _ k479)) (fun _ h => h) rfl hin2 rfl (tyX3_ok 1 (by decide)) rfl rfl (by show 1 < 27; decide) dX3_init_140 (fun H locs hR hS => ?_)
  refine lv_aload_n hx hb dX3_init_143 rfl (lv_at hl 0 rfl) ?_
  refine lv_iload_n hx hb dX3_init_144 rfl (lv_at hl 2 rfl) ?_
  refine lv_iconst (v := 1) hx hb dX3_init_145 (by decide) ?_
  refine lv_icmp_ge (tgt := 153) hx hb dX3_init_146 (by decide) (fun c1 => ?_) (fun c1 => ?_)
  · refine lv_iload_n hx hb dX3_init_153 rfl (lv_at hl 2 rfl) ?_
    refine lv_iconst (v := 4) hx hb dX3_init_154 (by decide) ?_
    refine lv_icmp_le (tgt := 162) hx hb dX3_init_155 (by decide) (fun c2 => ?_) (fun c2 => ?_)
    · refine lv_iload_n hx hb dX3_init_162 rfl (lv_at hl 2 rfl) ?_
      rw [show (p1 : Int32) = nI n from by rw [hn]; exact ch_e (i_le_n c1) (i_le_n c2)]
      refine tb_putFA hx hb hts (fun w h => List.mem_cons_of_mem _ (inX3 w h)) tyX3 tyX3_ok nmX3 hown hK hR hS 200 (up_n (by omega) (up_n (by omega) (up_n (by omega) (up_n (by omega) (up_n (by omega) (up_n (by omega) (up_n (by omega) (up_n (by omega) (up_n (by omega) (up_n (by omega) (up_n (by omega) (up_n (by omega) (up_n (by omega) (up_n (by omega) (up_n (by omega) (up_n (by omega) (ha))))))))))))))))) (up_s) rfl 2 (by decide) (hts _ (List.mem_cons_of_mem _ k480)) (fun _ h => h) rfl hin2 rfl (tyX3_ok 2 (by decide)) rfl rfl (by show 2 < 27; decide) dX3_init_163 (fun H locs hR hS => ?_)
      rw [show _ = moC p0 n (va_up (va_up (va_up (va_up (va_up (va_up (va_up (va_up (va_up (va_up (va_up (va_up (va_up (va_up (va_up (va_up ad 201 q201) 202 q202) 203 q203) 204 q204) 205 q205) 206 q206) 207 q207) 208 q208) 209 q209) 210 q210) 211 q211) 212 q212) 213 q213) 214 q214) 215 q215) 216 q216) cs C from x3_fin (up_n (by omega) (up_n (by omega) (up_n (by omega) (up_n (by omega) (up_n (by omega) (up_n (by omega) (up_n (by omega) (up_n (by omega) (up_n (by omega) (up_n (by omega) (up_n (by omega) (up_n (by omega) (up_n (by omega) (up_n (by omega) (up_n (by omega) (up_s)))))))))))))))) (up_n (by omega) (up_n (by omega) (up_n (by omega) (up_n (by omega) (up_n (by omega) (up_n (by omega) (up_n (by omega) (up_n (by omega) (up_n (by omega) (up_n (by omega) (up_n (by omega) (up_n (by omega) (up_n (by omega) (up_n (by omega) (up_s))))))))))))))) (up_n (by omega) (up_n (by omega) (up_n (by omega) (up_n (by omega) (up_n (by omega) (up_n (by omega) (up_n (by omega) (up_n (by omega) (up_n (by omega) (up_n (by omega) (up_n (by omega) (up_n (by omega) (up_n (by omega) (up_s)))))))))))))) (up_n (by omega) (up_n (by omega) (up_n (by omega) (up_n (by omega) (up_n (by omega) (up_n (by omega) (up_n (by omega) (up_n (by omega) (up_n (by omega) (up_n (by omega) (up_n (by omega) (up_n (by omega) (up_s))))))))))))) (up_n (by omega) (up_n (by omega) (up_n (by omega) (up_n (by omega) (up_n (by omega) (up_n (by omega) (up_n (by omega) (up_n (by omega) (up_n (by omega) (up_n (by omega) (up_n (by omega) (up_s)))))))))))) (up_n (by omega) (up_n (by omega) (up_n (by omega) (up_n (by omega) (up_n (by omega) (up_n (by omega) (up_n (by omega) (up_n (by omega) (up_n (by omega) (up_n (by omega) (up_s))))))))))) (up_n (by omega) (up_n (by omega) (up_n (by omega) (up_n (by omega) (up_n (by omega) (up_n (by omega) (up_n (by omega) (up_n (by omega) (up_n (by omega) (up_s)))))))))) (up_n (by omega) (up_n (by omega) (up_n (by omega) (up_n (by omega) (up_n (by omega) (up_n (by omega) (up_n (by omega) (up_n (by omega) (up_s))))))))) (up_n (by omega) (up_n (by omega) (up_n (by omega) (up_n (by omega) (up_n (by omega) (up_n (by omega) (up_n (by omega) (up_s)))))))) (up_n (by omega) (up_n (by omega) (up_n (by omega) (up_n (by omega) (up_n (by omega) (up_n (by omega) (up_s))))))) (up_n (by omega) (up_n (by omega) (up_n (by omega) (up_n (by omega) (up_n (by omega) (up_s)))))) (up_n (by omega) (up_n (by omega) (up_n (by omega) (up_n (by omega) (up_s))))) (up_n (by omega) (up_n (by omega) (up_n (by omega) (up_s)))) (up_n (by omega) (up_n (by omega) (up_s))) (up_n (by omega) (up_s)) (up_s)] at hR
      refine W.widen (k := 16) (n := 11000) (by omega) (by omega) ?_
      exact W.vret hx hb hr (fun t ht hW => ⟨⟨va_up (va_up (va_up (va_up (va_up (va_up (va_up (va_up (va_up (va_up (va_up (va_up (va_up (va_up (va_up (va_up ad 201 q201) 202 q202) 203 q203) 204 q204) 205 q205) 206 q206) 207 q207) 208 q208) 209 q209) 210 q210) 211 q211) 212 q212) 213 q213) 214 q214) 215 q215) 216 q216, rfl, fun k hk => up_n (by omega) (up_n (by omega) (up_n (by omega) (up_n (by omega) (up_n (by omega) (up_n (by omega) (up_n (by omega) (up_n (by omega) (up_n (by omega) (up_n (by omega) (up_n (by omega) (up_n (by omega) (up_n (by omega) (up_n (by omega) (up_n (by omega) (up_n (by omega) (rfl)))))))))))))))), by show tR _ _ _ _ _ t.heap; rw [ht]; exact hR⟩, hS.F ht⟩) hS.2.2 dX3_init_166
    · refine lv_iconst (v := 4) hx hb dX3_init_158 (by decide) ?_
      refine lv_goto (tgt := 163) hx hb dX3_init_159 (by decide) ?_
      rw [show (4 : Int32) = nI n from by rw [hn]; exact ch_4 (i_le_n c1) (i_nle c2)]
      refine tb_putFA hx hb hts (fun w h => List.mem_cons_of_mem _ (inX3 w h)) tyX3 tyX3_ok nmX3 hown hK hR hS 200 (up_n (by omega) (up_n (by omega) (up_n (by omega) (up_n (by omega) (up_n (by omega) (up_n (by omega) (up_n (by omega) (up_n (by omega) (up_n (by omega) (up_n (by omega) (up_n (by omega) (up_n (by omega) (up_n (by omega) (up_n (by omega) (up_n (by omega) (up_n (by omega) (ha))))))))))))))))) (up_s) rfl 2 (by decide) (hts _ (List.mem_cons_of_mem _ k480)) (fun _ h => h) rfl hin2 rfl (tyX3_ok 2 (by decide)) rfl rfl (by show 2 < 27; decide) dX3_init_163 (fun H locs hR hS => ?_)
      rw [show _ = moC p0 n (va_up (va_up (va_up (va_up (va_up (va_up (va_up (va_up (va_up (va_up (va_up (va_up (va_up (va_up (va_up (va_up ad 201 q201) 202 q202) 203 q203) 204 q204) 205 q205) 206 q206) 207 q207) 208 q208) 209 q209) 210 q210) 211 q211) 212 q212) 213 q213) 214 q214) 215 q215) 216 q216) cs C from x3_fin (up_n (by omega) (up_n (by omega) (up_n (by omega) (up_n (by omega) (up_n (by omega) (up_n (by omega) (up_n (by omega) (up_n (by omega) (up_n (by omega) (up_n (by omega) (up_n (by omega) (up_n (by omega) (up_n (by omega) (up_n (by omega) (up_n (by omega) (up_s)))))))))))))))) (up_n (by omega) (up_n (by omega) (up_n (by omega) (up_n (by omega) (up_n (by omega) (up_n (by omega) (up_n (by omega) (up_n (by omega) (up_n (by omega) (up_n (by omega) (up_n (by omega) (up_n (by omega) (up_n (by omega) (up_n (by omega) (up_s))))))))))))))) (up_n (by omega) (up_n (by omega) (up_n (by omega) (up_n (by omega) (up_n (by omega) (up_n (by omega) (up_n (by omega) (up_n (by omega) (up_n (by omega) (up_n (by omega) (up_n (by omega) (up_n (by omega) (up_n (by omega) (up_s)))))))))))))) (up_n (by omega) (up_n (by omega) (up_n (by omega) (up_n (by omega) (up_n (by omega) (up_n (by omega) (up_n (by omega) (up_n (by omega) (up_n (by omega) (up_n (by omega) (up_n (by omega) (up_n (by omega) (up_s))))))))))))) (up_n (by omega) (up_n (by omega) (up_n (by omega) (up_n (by omega) (up_n (by omega) (up_n (by omega) (up_n (by omega) (up_n (by omega) (up_n (by omega) (up_n (by omega) (up_n (by omega) (up_s)))))))))))) (up_n (by omega) (up_n (by omega) (up_n (by omega) (up_n (by omega) (up_n (by omega) (up_n (by omega) (up_n (by omega) (up_n (by omega) (up_n (by omega) (up_n (by omega) (up_s))))))))))) (up_n (by omega) (up_n (by omega) (up_n (by omega) (up_n (by omega) (up_n (by omega) (up_n (by omega) (up_n (by omega) (up_n (by omega) (up_n (by omega) (up_s)))))))))) (up_n (by omega) (up_n (by omega) (up_n (by omega) (up_n (by omega) (up_n (by omega) (up_n (by omega) (up_n (by omega) (up_n (by omega) (up_s))))))))) (up_n (by omega) (up_n (by omega) (up_n (by omega) (up_n (by omega) (up_n (by omega) (up_n (by omega) (up_n (by omega) (up_s)))))))) (up_n (by omega) (up_n (by omega) (up_n (by omega) (up_n (by omega) (up_n (by omega) (up_n (by omega) (up_s))))))) (up_n (by omega) (up_n (by omega) (up_n (by omega) (up_n (by omega) (up_n (by omega) (up_s)))))) (up_n (by omega) (up_n (by omega) (up_n (by omega) (up_n (by omega) (up_s))))) (up_n (by omega) (up_n (by omega) (up_n (by omega) (up_s)))) (up_n (by omega) (up_n (by omega) (up_s))) (up_n (by omega) (up_s)) (up_s)] at hR
      refine W.widen (k := 16) (n := 11000) (by omega) (by omega) ?_
      exact W.vret hx hb hr (fun t ht hW => ⟨⟨va_up (va_up (va_up (va_up (va_up (va_up (va_up (va_up (va_up (va_up (va_up (va_up (va_up (va_up (va_up (va_up ad 201 q201) 202 q202) 203 q203) 204 q204) 205 q205) 206 q206) 207 q207) 208 q208) 209 q209) 210 q210) 211 q211) 212 q212) 213 q213) 214 q214) 215 q215) 216 q216, rfl, fun k hk => up_n (by omega) (up_n (by omega) (up_n (by omega) (up_n (by omega) (up_n (by omega) (up_n (by omega) (up_n (by omega) (up_n (by omega) (up_n (by omega) (up_n (by omega) (up_n (by omega) (up_n (by omega) (up_n (by omega) (up_n (by omega) (up_n (by omega) (up_n (by omega) (rfl)))))))))))))))), by show tR _ _ _ _ _ t.heap; rw [ht]; exact hR⟩, hS.F ht⟩) hS.2.2 dX3_init_166
  · refine lv_iconst (v := 1) hx hb dX3_init_149 (by decide) ?_
    refine lv_goto (tgt := 163) hx hb dX3_init_150 (by decide) ?_
    rw [show (1 : Int32) = nI n from by rw [hn]; exact ch_1 (i_nle c1)]
    refine tb_putFA hx hb hts (fun w h => List.mem_cons_of_mem _ (inX3 w h)) tyX3 tyX3_ok nmX3 hown hK hR hS 200 (up_n (by omega) (up_n (by omega) (up_n (by omega) (up_n (by omega) (up_n (by omega) (up_n (by omega) (up_n (by omega) (up_n (by omega) (up_n (by omega) (up_n (by omega) (up_n (by omega) (up_n (by omega) (up_n (by omega) (up_n (by omega) (up_n (by omega) (up_n (by omega) (ha))))))))))))))))) (up_s) rfl 2 (by decide) (hts _ (List.mem_cons_of_mem _ k480)) (fun _ h => h) rfl hin2 rfl (tyX3_ok 2 (by decide)) rfl rfl (by show 2 < 27; decide) dX3_init_163 (fun H locs hR hS => ?_)
    rw [show _ = moC p0 n (va_up (va_up (va_up (va_up (va_up (va_up (va_up (va_up (va_up (va_up (va_up (va_up (va_up (va_up (va_up (va_up ad 201 q201) 202 q202) 203 q203) 204 q204) 205 q205) 206 q206) 207 q207) 208 q208) 209 q209) 210 q210) 211 q211) 212 q212) 213 q213) 214 q214) 215 q215) 216 q216) cs C from x3_fin (up_n (by omega) (up_n (by omega) (up_n (by omega) (up_n (by omega) (up_n (by omega) (up_n (by omega) (up_n (by omega) (up_n (by omega) (up_n (by omega) (up_n (by omega) (up_n (by omega) (up_n (by omega) (up_n (by omega) (up_n (by omega) (up_n (by omega) (up_s)))))))))))))))) (up_n (by omega) (up_n (by omega) (up_n (by omega) (up_n (by omega) (up_n (by omega) (up_n (by omega) (up_n (by omega) (up_n (by omega) (up_n (by omega) (up_n (by omega) (up_n (by omega) (up_n (by omega) (up_n (by omega) (up_n (by omega) (up_s))))))))))))))) (up_n (by omega) (up_n (by omega) (up_n (by omega) (up_n (by omega) (up_n (by omega) (up_n (by omega) (up_n (by omega) (up_n (by omega) (up_n (by omega) (up_n (by omega) (up_n (by omega) (up_n (by omega) (up_n (by omega) (up_s)))))))))))))) (up_n (by omega) (up_n (by omega) (up_n (by omega) (up_n (by omega) (up_n (by omega) (up_n (by omega) (up_n (by omega) (up_n (by omega) (up_n (by omega) (up_n (by omega) (up_n (by omega) (up_n (by omega) (up_s))))))))))))) (up_n (by omega) (up_n (by omega) (up_n (by omega) (up_n (by omega) (up_n (by omega) (up_n (by omega) (up_n (by omega) (up_n (by omega) (up_n (by omega) (up_n (by omega) (up_n (by omega) (up_s)))))))))))) (up_n (by omega) (up_n (by omega) (up_n (by omega) (up_n (by omega) (up_n (by omega) (up_n (by omega) (up_n (by omega) (up_n (by omega) (up_n (by omega) (up_n (by omega) (up_s))))))))))) (up_n (by omega) (up_n (by omega) (up_n (by omega) (up_n (by omega) (up_n (by omega) (up_n (by omega) (up_n (by omega) (up_n (by omega) (up_n (by omega) (up_s)))))))))) (up_n (by omega) (up_n (by omega) (up_n (by omega) (up_n (by omega) (up_n (by omega) (up_n (by omega) (up_n (by omega) (up_n (by omega) (up_s))))))))) (up_n (by omega) (up_n (by omega) (up_n (by omega) (up_n (by omega) (up_n (by omega) (up_n (by omega) (up_n (by omega) (up_s)))))))) (up_n (by omega) (up_n (by omega) (up_n (by omega) (up_n (by omega) (up_n (by omega) (up_n (by omega) (up_s))))))) (up_n (by omega) (up_n (by omega) (up_n (by omega) (up_n (by omega) (up_n (by omega) (up_s)))))) (up_n (by omega) (up_n (by omega) (up_n (by omega) (up_n (by omega) (up_s))))) (up_n (by omega) (up_n (by omega) (up_n (by omega) (up_s)))) (up_n (by omega) (up_n (by omega) (up_s))) (up_n (by omega) (up_s)) (up_s)] at hR
    refine W.widen (k := 16) (n := 11000) (by omega) (by omega) ?_
    exact W.vret hx hb hr (fun t ht hW => ⟨⟨va_up (va_up (va_up (va_up (va_up (va_up (va_up (va_up (va_up (va_up (va_up (va_up (va_up (va_up (va_up (va_up ad 201 q201) 202 q202) 203 q203) 204 q204) 205 q205) 206 q206) 207 q207) 208 q208) 209 q209) 210 q210) 211 q211) 212 q212) 213 q213) 214 q214) 215 q215) 216 q216, rfl, fun k hk => up_n (by omega) (up_n (by omega) (up_n (by omega) (up_n (by omega) (up_n (by omega) (up_n (by omega) (up_n (by omega) (up_n (by omega) (up_n (by omega) (up_n (by omega) (up_n (by omega) (up_n (by omega) (up_n (by omega) (up_n (by omega) (up_n (by omega) (up_n (by omega) (rfl)))))))))))))))), by show tR _ _ _ _ _ t.heap; rw [ht]; exact hR⟩, hS.F ht⟩) hS.2.2 dX3_init_166
theorem x2_pk {p0 : Int32} {i : Nat} {ad0 ad' : Nat → Nat} {C : Nat → Option va_E} {H : Heap} (h : x2J p0 n cs ad0 i ad' C) (hR : tR D vwCl base ad' C H) : ∃ (a9 : Nat → Nat) (C9 : Nat → Option va_E), x2J p0 n cs ad0 i a9 C9 ∧ tR D vwCl base a9 C9 H := ⟨_, _, h, hR⟩
set_option maxHeartbeats 4000000 in
set_option maxRecDepth 100000 in
/-- new SeedChains(seed, chains) -/
theorem mX2_init (a : Nat) (p0 p1 : Int32) (C : Nat → Option va_E) (ha : ad 0 = a) (hn : n = chN p1) (h0 : C 0 = some (.inr (2, [.int 0, .int 0, .null, .null, .null, .int 0, .int 0, .int 0, .int 0]))) (hN : ∀ k, 0 < k → k < 200 → C k = none) : Met l yX2_init wX2_init ({ frames := 4, cells := 80, slots := 11000, locals := 120 }) (va_Pc [.ref a, .int p0, .int p1] (kG D cs base sa ad C)) (va_Qv (fun (ad' : Nat → Nat) => ad' 0 = ad 0) (fun (ad' : Nat → Nat) (t : State) => tR D vwCl base ad' (fun k => if k < 200 then wP n ad' cs k (i0 p0 n k) (fun _ => 0) else none) t.heap) (fun q => base ≤ q)) 80 11000 (fun q => base ≤ q) := by
  refine Met.ofW (cc := cX2_init) (maxL := 4) (ret := none) (by decide) rfl ?_
  intro p e s m args below meth c s₁ Bd hml hv
  obtain ⟨rfl, hE, hR⟩ := hv
  have hx := Bd.exec
  have hb := Bd.bytes
  have hr := Bd.returns
  have hts := atoms_spec (ws := wX2_init) Bd.pre
  have hown : s.vm.findClass RX2 = some m.cls := findClass_of_methodNamed Bd.named
  have hlocks := Bd.notSynchronized
  have hK := hE.K
  have hS : va_S (fun q => base ≤ q) s.heap s.heap [] := va_S.rf
  have hR : tR D vwCl base ad (C) s.heap := hR
  have hl := lv_entry ([.ref a, .int p0, .int p1]) (n := 4) (Nat.le_of_ble_eq_true rfl)
  rw [lg_entry_eq]
  generalize (lg_sl ([.ref a, .int p0, .int p1]) ++ List.replicate (4 - (lg_sl ([.ref a, .int p0, .int p1])).length) Slot.unset).toArray = ls at hl ⊢
  have hl : lv_has ls 4 [(0, .ref a), (1, .int p0), (2, .int p1)] := hl
  have hin2 : meth.name = "<init>" := (name_of_methodNamed Bd.named Bd.method).1
  have hA9 : base ≤ s.heap.size := hR.base h0
  obtain ⟨hn1, hn4⟩ : 1 ≤ n ∧ n ≤ 4 := by rw [hn]; exact ch_b p1
  refine lv_aload_n hx hb dX2_init_0 rfl (lv_at hl 0 rfl) ?_
  refine W.objInit hx hb hown (hts _ (List.mem_cons_of_mem _ k18)) (hts _ (List.mem_cons_of_mem _ k19)) (hts _ (List.mem_cons_of_mem _ k20)) rfl (by rw [hml]; exact hl.1) rfl dX2_init_1 (Nat.le_of_ble_eq_true rfl) (Nat.le_of_ble_eq_true rfl) ?_
  refine W.eq (g2 := F0 m 4 ls []) rfl ?_
  refine lv_aload_n hx hb dX2_init_4 rfl (lv_at hl 0 rfl) ?_
  refine lv_iload_n hx hb dX2_init_5 rfl (lv_at hl 1 rfl) ?_
  refine tb_putFA hx hb hts (fun w h => List.mem_cons_of_mem _ (inX2 w h)) tyX2 tyX2_ok nmX2 hown hK hR hS 0 (ha) (h0) rfl 0 (by decide) (hts _ (List.mem_cons_of_mem _ k101)) (fun _ h => h) rfl hin2 rfl (tyX2_ok 0 (by decide)) rfl rfl (by show 0 < 9; decide) dX2_init_6 (fun H locs hR hS => ?_)
  refine lv_aload_n hx hb dX2_init_9 rfl (lv_at hl 0 rfl) ?_
  refine lv_iconst (v := 1) hx hb dX2_init_10 (by decide) ?_
  refine lv_iconst (v := 4) hx hb dX2_init_11 (by decide) ?_
  refine lv_iload_n hx hb dX2_init_12 rfl (lv_at hl 2 rfl) ?_
  refine va_mmin hx hb (hml.trans hl.1.symm) hown (hts _ (List.mem_cons_of_mem _ k21)) (hts _ (List.mem_cons_of_mem _ k22)) (hts _ (List.mem_cons_of_mem _ k2)) (hts _ (List.mem_cons_of_mem _ k23)) (Nat.le_of_ble_eq_true rfl) (Nat.le_of_ble_eq_true rfl) (Nat.le_of_ble_eq_true rfl) (Nat.le_of_ble_eq_true rfl) dX2_init_13 ?_
  refine va_mmax hx hb (hml.trans hl.1.symm) hown (hts _ (List.mem_cons_of_mem _ k24)) (hts _ (List.mem_cons_of_mem _ k25)) (hts _ (List.mem_cons_of_mem _ k2)) (hts _ (List.mem_cons_of_mem _ k26)) (Nat.le_of_ble_eq_true rfl) (Nat.le_of_ble_eq_true rfl) (Nat.le_of_ble_eq_true rfl) (Nat.le_of_ble_eq_true rfl) dX2_init_16 ?_
  rw [show (if 1 < if p1 < 4 then p1 else 4 then if p1 < 4 then p1 else 4 else 1) = nI n from by rw [hn]; exact ch_mm p1]
  refine tb_putFA hx hb hts (fun w h => List.mem_cons_of_mem _ (inX2 w h)) tyX2 tyX2_ok nmX2 hown hK hR hS 0 (ha) (up_s) rfl 1 (by decide) (hts _ (List.mem_cons_of_mem _ k102)) (fun _ h => h) rfl hin2 rfl (tyX2_ok 1 (by decide)) rfl rfl (by show 1 < 9; decide) dX2_init_19 (fun H locs hR hS => ?_)
  refine lv_aload_n hx hb dX2_init_22 rfl (lv_at hl 0 rfl) ?_
  refine tb_new (fs := [.null, .null, .null, .null, .null, .null, .null, .null, .int 0, .int 0]) hx hb hts (fun w h => List.mem_cons_of_mem _ (inX1 w h)) tyX1 tyX1_ok hown (hts _ (List.mem_cons_of_mem _ k27)) (hts _ (List.mem_cons_of_mem _ k28)) (hts _ (List.mem_cons_of_mem _ k3)) hK hR hS hA9 1 (up_n (by omega) (up_n (by omega) (hN _ (by omega) (by omega)))) (ci := 1) rfl (fun j hj => by rcases (show j = 0 ∨ j = 1 ∨ j = 2 ∨ j = 3 ∨ j = 4 ∨ j = 5 ∨ j = 6 ∨ j = 7 ∨ j = 8 ∨ j = 9 by omega) with rfl | rfl | rfl | rfl | rfl | rfl | rfl | rfl | rfl | rfl <;> rfl) (Nat.le_of_ble_eq_true rfl) (Nat.le_of_ble_eq_true rfl) dX2_init_23 (fun q1 H hR hS => ?_)
  refine lv_dup hx hb dX2_init_26 rfl ?_
  refine kg_v (va_runIN (As := []) (rest := [.ref q1, .ref a]) ⟨hx, hb, hml, hown, hts⟩ (mX1_init (n := n) (ad := va_up ad 1 q1) q1 (va_up (va_up (va_up C 0 _) 0 _) 1 _) up_s up_s (fun k h1 h2 => up_n (by omega) (up_n (by omega) (up_n (by omega) (hN k (by omega) (by omega)))))) ⟨va_cnB 0 hts (kw_N k31) rfl rfl rfl (hE.2.2.1 (27, yX1_init) (by decide)) (hts _ (List.mem_cons_of_mem _ k3)) (by decide +kernel) ⟨(Nat.le_of_ble_eq_true rfl), (Nat.le_of_ble_eq_true rfl)⟩, rfl, hts _ (List.mem_cons_of_mem _ k30)⟩ (kG_pre hE hR hS [.ref q1]) rfl rfl hl.1 rfl (lv_room (Nat.le_of_ble_eq_true rfl)) dX2_init_27 ⟨(Nat.le_of_ble_eq_true rfl), (Nat.le_of_ble_eq_true rfl)⟩) hS (fun ad1 H locs hwad1 hR hS => ?_)
  refine tb_putFA hx hb hts (fun w h => List.mem_cons_of_mem _ (inX2 w h)) tyX2 tyX2_ok nmX2 hown hK hR hS 0 ((hwad1 0 (by omega)).trans (up_n (by omega) ha)) (siC_n (by omega) (up_n (by omega) up_s)) rfl 2 (by decide) (hts _ (List.mem_cons_of_mem _ k103)) (fun _ h => h) rfl hin2 rfl (tyX2_ok 2 (by decide)) rfl rfl (by show 2 < 9; decide) dX2_init_30 (fun H locs hR hS => ?_)
  refine lv_aload_n hx hb dX2_init_33 rfl (lv_at hl 0 rfl) ?_
  refine tb_new (fs := [.null, .null, .null, .int 0, .int 0]) hx hb hts (fun w h => List.mem_cons_of_mem _ (inX0 w h)) tyX0 tyX0_ok hown (hts _ (List.mem_cons_of_mem _ k72)) (hts _ (List.mem_cons_of_mem _ k73)) (hts _ (List.mem_cons_of_mem _ k4)) hK hR hS hA9 20 (up_n (by omega) (siC_n (by omega) (up_n (by omega) (up_n (by omega) (up_n (by omega) (hN _ (by omega) (by omega))))))) (ci := 0) rfl (fun j hj => by rcases (show j = 0 ∨ j = 1 ∨ j = 2 ∨ j = 3 ∨ j = 4 by omega) with rfl | rfl | rfl | rfl | rfl <;> rfl) (Nat.le_of_ble_eq_true rfl) (Nat.le_of_ble_eq_true rfl) dX2_init_34 (fun q20 H hR hS => ?_)
  refine lv_dup hx hb dX2_init_37 rfl ?_
  refine lv_aload_n hx hb dX2_init_38 rfl (lv_at hl 0 rfl) ?_
  refine tb_getA hx hb hts (fun w h => List.mem_cons_of_mem _ (inX2 w h)) hown hK hR 0 (up_n (by omega) ((hwad1 0 (by omega)).trans (up_n (by omega) ha))) (up_n (by omega) up_s) rfl 1 (by decide) (hts _ (List.mem_cons_of_mem _ k102)) (fun _ h => h) (v := .int (nI n)) rfl dX2_init_39 ?_
  refine kg_v (va_runIN (As := [.int (nI n)]) (rest := [.ref q20, .ref a]) ⟨hx, hb, hml, hown, hts⟩ (mX0_init (n := n) (ad := va_up ad1 20 q20) 20 q20 (va_up (va_up (siC n ad1 cs (va_up (va_up (va_up C 0 _) 0 _) 1 _)) 0 _) 20 _) up_s (Or.inl rfl) hn1 hn4 up_s (fun k h1 h2 => up_n (by omega) (up_n (by omega) (siC_n (by omega) (up_n (by omega) (up_n (by omega) (up_n (by omega) (hN k (by omega) (by omega))))))))) ⟨va_cnB 1 hts (kw_N k76) rfl rfl rfl (hE.2.2.1 (34, yX0_init) (by decide)) (hts _ (List.mem_cons_of_mem _ k4)) (by decide +kernel) ⟨(Nat.le_of_ble_eq_true rfl), (Nat.le_of_ble_eq_true rfl)⟩, rfl, hts _ (List.mem_cons_of_mem _ k75)⟩ (kG_pre hE hR hS [.ref q20, .int (nI n)]) rfl rfl hl.1 rfl (lv_room (Nat.le_of_ble_eq_true rfl)) dX2_init_42 ⟨(Nat.le_of_ble_eq_true rfl), (Nat.le_of_ble_eq_true rfl)⟩) hS (fun ad2 H locs hwad2 hR hS => ?_)
  refine tb_putFA hx hb hts (fun w h => List.mem_cons_of_mem _ (inX2 w h)) tyX2 tyX2_ok nmX2 hown hK hR hS 0 ((hwad2 0 (by omega)).trans (up_n (by omega) ((hwad1 0 (by omega)).trans (up_n (by omega) ha)))) (bkC_n (by omega) (up_n (by omega) up_s)) rfl 3 (by decide) (hts _ (List.mem_cons_of_mem _ k104)) (fun _ h => h) rfl hin2 rfl (tyX2_ok 3 (by decide)) rfl rfl (by show 3 < 9; decide) dX2_init_45 (fun H locs hR hS => ?_)
  refine lv_aload_n hx hb dX2_init_48 rfl (lv_at hl 0 rfl) ?_
  refine lv_iconst (v := 4) hx hb dX2_init_49 (by decide) ?_
  refine tb_newq hx hb hown (hts _ (List.mem_cons_of_mem _ k72)) hE.2.2.2.2.2.2.2.1 hK hR hS hA9 18 (up_n (by omega) (bkC_n (by omega) (up_n (by omega) (up_n (by omega) (siC_n (by omega) (up_n (by omega) (up_n (by omega) (up_n (by omega) (hN _ (by omega) (by omega)))))))))) 3 rfl (N' := 4) (by decide) (by decide) (by decide) (Nat.le_of_ble_eq_true rfl) (Nat.le_of_ble_eq_true rfl) dX2_init_50 (fun q18 H hR hS => ?_)
  refine tb_putFA hx hb hts (fun w h => List.mem_cons_of_mem _ (inX2 w h)) tyX2 tyX2_ok nmX2 hown hK hR hS 0 (up_n (by omega) ((hwad2 0 (by omega)).trans (up_n (by omega) ((hwad1 0 (by omega)).trans (up_n (by omega) ha))))) (up_n (by omega) up_s) rfl 4 (by decide) (hts _ (List.mem_cons_of_mem _ k105)) (fun _ h => h) rfl hin2 rfl (tyX2_ok 4 (by decide)) rfl rfl (by show 4 < 9; decide) dX2_init_53 (fun H locs hR hS => ?_)
  obtain ⟨ad3, C3, hJ, hR⟩ := x2_pk (x2J_0 hn4 hN hwad1 hwad2) hR
  refine lv_iconst (v := nI 0) hx hb dX2_init_56 (by decide) ?_
  refine lv_istore_n (lv' := [(3, .int (nI 0)), (0, .ref a), (1, .int p0), (2, .int p1)]) hx hb dX2_init_57 rfl hl (by decide) rfl (fun ls hl => ?_)
  refine lv_iload_n hx hb dX2_init_58 rfl (lv_at hl 0 rfl) ?_
  refine lv_iconst (v := 4) hx hb dX2_init_59 (by decide) ?_
  refine lv_icmp_ge (tgt := 86) hx hb dX2_init_60 (by decide) (fun c9 => absurd c9 (by decide)) (fun _ => ?_)
  refine lv_aload_n hx hb dX2_init_63 rfl (lv_at hl 1 rfl) ?_
  refine tb_getA hx hb hts (fun w h => List.mem_cons_of_mem _ (inX2 w h)) hown hK hR 0 (hJ.1.trans ha) (hJ.2.1) rfl 4 (by decide) (hts _ (List.mem_cons_of_mem _ k105)) (fun _ h => h) (v := .ref (ad3 18)) rfl dX2_init_64 ?_
  refine lv_iload_n hx hb dX2_init_67 rfl (lv_at hl 0 rfl) ?_
  refine tb_new (fs := [.null, .null, .null, .int 0, .int 0]) hx hb hts (fun w h => List.mem_cons_of_mem _ (inX0 w h)) tyX0 tyX0_ok hown (hts _ (List.mem_cons_of_mem _ k72)) (hts _ (List.mem_cons_of_mem _ k73)) (hts _ (List.mem_cons_of_mem _ k4)) hK hR hS hA9 40 (hJ.2.2.2.2 40 (by omega) (by omega)) (ci := 0) rfl (fun j hj => by rcases (show j = 0 ∨ j = 1 ∨ j = 2 ∨ j = 3 ∨ j = 4 by omega) with rfl | rfl | rfl | rfl | rfl <;> rfl) (Nat.le_of_ble_eq_true rfl) (Nat.le_of_ble_eq_true rfl) dX2_init_68 (fun q40 H hR hS => ?_)
  refine lv_dup hx hb dX2_init_71 rfl ?_
  refine lv_aload_n hx hb dX2_init_72 rfl (lv_at hl 1 rfl) ?_
  refine tb_getA hx hb hts (fun w h => List.mem_cons_of_mem _ (inX2 w h)) hown hK hR 0 (up_n (by omega) (hJ.1.trans ha)) (up_n (by omega) hJ.2.1) rfl 1 (by decide) (hts _ (List.mem_cons_of_mem _ k102)) (fun _ h => h) (v := .int (nI n)) rfl dX2_init_73 ?_
  refine kg_v (va_runIN (As := [.int (nI n)]) (rest := [.ref q40, .int (nI 0), .ref (ad3 18)]) ⟨hx, hb, hml, hown, hts⟩ (mX0_init (n := n) (ad := va_up ad3 40 q40) 40 q40 (va_up C3 40 _) up_s (by unfold isB; omega) hn1 hn4 up_s (fun k h1 h2 => up_n (by omega) (hJ.2.2.2.2 k (by omega) (by omega)))) ⟨va_cnB 1 hts (kw_N k76) rfl rfl rfl (hE.2.2.1 (34, yX0_init) (by decide)) (hts _ (List.mem_cons_of_mem _ k4)) (by decide +kernel) ⟨(Nat.le_of_ble_eq_true rfl), (Nat.le_of_ble_eq_true rfl)⟩, rfl, hts _ (List.mem_cons_of_mem _ k75)⟩ (kG_pre hE hR hS [.ref q40, .int (nI n)]) rfl rfl hl.1 rfl (lv_room (Nat.le_of_ble_eq_true rfl)) dX2_init_76 ⟨(Nat.le_of_ble_eq_true rfl), (Nat.le_of_ble_eq_true rfl)⟩) hS (fun ad4 H locs hwad4 hR hS => ?_)
  refine tb_astqA (r := (RX0, TX0, 5)) hx hb hK hR hS 18 3 40 0 ((hwad4 18 (by omega)).trans (up_n (by omega) rfl)) ((hwad4 40 (by omega)).trans up_s) (bkC_n (by omega) (up_n (by omega) hJ.2.2.1)) rfl ((bkC_i (by omega)).trans (wP_b0 (by unfold isB; omega) _ _)) rfl 0 rfl (by decide) (by decide) dX2_init_79 (fun H locs hR hS => ?_)
  obtain ⟨ad3, C3, hJ, hR⟩ := x2_pk (x2J_s (i := 0) (b := 40) hn4 (by omega) hJ rfl hwad4) hR
  refine lv_iinc (v := nI 1) (lv' := [(3, .int (nI 1)), (0, .ref a), (1, .int p0), (2, .int p1)]) hx hb dX2_init_80 hl (k := 0) rfl (nI_1 0) (by decide) rfl (fun ls hl => ?_)
  refine lv_goto (tgt := 58) hx hb dX2_init_83 (by decide) ?_
  refine lv_iload_n hx hb dX2_init_58 rfl (lv_at hl 0 rfl) ?_
  refine lv_iconst (v := 4) hx hb dX2_init_59 (by decide) ?_
  refine lv_icmp_ge (tgt := 86) hx hb dX2_init_60 (by decide) (fun c9 => absurd c9 (by decide)) (fun _ => ?_)
  refine lv_aload_n hx hb dX2_init_63 rfl (lv_at hl 1 rfl) ?_
  refine tb_getA hx hb hts (fun w h => List.mem_cons_of_mem _ (inX2 w h)) hown hK hR 0 (hJ.1.trans ha) (hJ.2.1) rfl 4 (by decide) (hts _ (List.mem_cons_of_mem _ k105)) (fun _ h => h) (v := .ref (ad3 18)) rfl dX2_init_64 ?_
  refine lv_iload_n hx hb dX2_init_67 rfl (lv_at hl 0 rfl) ?_
  refine tb_new (fs := [.null, .null, .null, .int 0, .int 0]) hx hb hts (fun w h => List.mem_cons_of_mem _ (inX0 w h)) tyX0 tyX0_ok hown (hts _ (List.mem_cons_of_mem _ k72)) (hts _ (List.mem_cons_of_mem _ k73)) (hts _ (List.mem_cons_of_mem _ k4)) hK hR hS hA9 60 (hJ.2.2.2.2 60 (by omega) (by omega)) (ci := 0) rfl (fun j hj => by rcases (show j = 0 ∨ j = 1 ∨ j = 2 ∨ j = 3 ∨ j = 4 by omega) with rfl | rfl | rfl | rfl | rfl <;> rfl) (Nat.le_of_ble_eq_true rfl) (Nat.le_of_ble_eq_true rfl) dX2_init_68 (fun q60 H hR hS => ?_)
  refine lv_dup hx hb dX2_init_71 rfl ?_
  refine lv_aload_n hx hb dX2_init_72 rfl (lv_at hl 1 rfl) ?_
  refine tb_getA hx hb hts (fun w h => List.mem_cons_of_mem _ (inX2 w h)) hown hK hR 0 (up_n (by omega) (hJ.1.trans ha)) (up_n (by omega) hJ.2.1) rfl 1 (by decide) (hts _ (List.mem_cons_of_mem _ k102)) (fun _ h => h) (v := .int (nI n)) rfl dX2_init_73 ?_
  refine kg_v (va_runIN (As := [.int (nI n)]) (rest := [.ref q60, .int (nI 1), .ref (ad3 18)]) ⟨hx, hb, hml, hown, hts⟩ (mX0_init (n := n) (ad := va_up ad3 60 q60) 60 q60 (va_up C3 60 _) up_s (by unfold isB; omega) hn1 hn4 up_s (fun k h1 h2 => up_n (by omega) (hJ.2.2.2.2 k (by omega) (by omega)))) ⟨va_cnB 1 hts (kw_N k76) rfl rfl rfl (hE.2.2.1 (34, yX0_init) (by decide)) (hts _ (List.mem_cons_of_mem _ k4)) (by decide +kernel) ⟨(Nat.le_of_ble_eq_true rfl), (Nat.le_of_ble_eq_true rfl)⟩, rfl, hts _ (List.mem_cons_of_mem _ k75)⟩ (kG_pre hE hR hS [.ref q60, .int (nI n)]) rfl rfl hl.1 rfl (lv_room (Nat.le_of_ble_eq_true rfl)) dX2_init_76 ⟨(Nat.le_of_ble_eq_true rfl), (Nat.le_of_ble_eq_true rfl)⟩) hS (fun ad4 H locs hwad4 hR hS => ?_)
  refine tb_astqA (r := (RX0, TX0, 5)) hx hb hK hR hS 18 3 60 0 ((hwad4 18 (by omega)).trans (up_n (by omega) rfl)) ((hwad4 60 (by omega)).trans up_s) (bkC_n (by omega) (up_n (by omega) hJ.2.2.1)) rfl ((bkC_i (by omega)).trans (wP_b0 (by unfold isB; omega) _ _)) rfl 1 rfl (by decide) (by decide) dX2_init_79 (fun H locs hR hS => ?_)
  obtain ⟨ad3, C3, hJ, hR⟩ := x2_pk (x2J_s (i := 1) (b := 60) hn4 (by omega) hJ rfl hwad4) hR
  refine lv_iinc (v := nI 2) (lv' := [(3, .int (nI 2)), (0, .ref a), (1, .int p0), (2, .int p1)]) hx hb dX2_init_80 hl (k := 0) rfl (nI_1 1) (by decide) rfl (fun ls hl => ?_)
  refine lv_goto (tgt := 58) hx hb dX2_init_83 (by decide) ?_
  refine lv_iload_n hx hb dX2_init_58 rfl (lv_at hl 0 rfl) ?_
  refine lv_iconst (v := 4) hx hb dX2_init_59 (by decide) ?_
  refine lv_icmp_ge (tgt := 86) hx hb dX2_init_60 (by decide) (fun c9 => absurd c9 (by decide)) (fun _ => ?_)
  refine lv_aload_n hx hb dX2_init_63 rfl (lv_at hl 1 rfl) ?_
  refine tb_getA hx hb hts (fun w h => List.mem_cons_of_mem _ (inX2 w h)) hown hK hR 0 (hJ.1.trans ha) (hJ.2.1) rfl 4 (by decide) (hts _ (List.mem_cons_of_mem _ k105)) (fun _ h => h) (v := .ref (ad3 18)) rfl dX2_init_64 ?_
  refine lv_iload_n hx hb dX2_init_67 rfl (lv_at hl 0 rfl) ?_
  refine tb_new (fs := [.null, .null, .null, .int 0, .int 0]) hx hb hts (fun w h => List.mem_cons_of_mem _ (inX0 w h)) tyX0 tyX0_ok hown (hts _ (List.mem_cons_of_mem _ k72)) (hts _ (List.mem_cons_of_mem _ k73)) (hts _ (List.mem_cons_of_mem _ k4)) hK hR hS hA9 80 (hJ.2.2.2.2 80 (by omega) (by omega)) (ci := 0) rfl (fun j hj => by rcases (show j = 0 ∨ j = 1 ∨ j = 2 ∨ j = 3 ∨ j = 4 by omega) with rfl | rfl | rfl | rfl | rfl <;> rfl) (Nat.le_of_ble_eq_true rfl) (Nat.le_of_ble_eq_true rfl) dX2_init_68 (fun q80 H hR hS => ?_)
  refine lv_dup hx hb dX2_init_71 rfl ?_
  refine lv_aload_n hx hb dX2_init_72 rfl (lv_at hl 1 rfl) ?_
  refine tb_getA hx hb hts (fun w h => List.mem_cons_of_mem _ (inX2 w h)) hown hK hR 0 (up_n (by omega) (hJ.1.trans ha)) (up_n (by omega) hJ.2.1) rfl 1 (by decide) (hts _ (List.mem_cons_of_mem _ k102)) (fun _ h => h) (v := .int (nI n)) rfl dX2_init_73 ?_
  refine kg_v (va_runIN (As := [.int (nI n)]) (rest := [.ref q80, .int (nI 2), .ref (ad3 18)]) ⟨hx, hb, hml, hown, hts⟩ (mX0_init (n := n) (ad := va_up ad3 80 q80) 80 q80 (va_up C3 80 _) up_s (by unfold isB; omega) hn1 hn4 up_s (fun k h1 h2 => up_n (by omega) (hJ.2.2.2.2 k (by omega) (by omega)))) ⟨va_cnB 1 hts (kw_N k76) rfl rfl rfl (hE.2.2.1 (34, yX0_init) (by decide)) (hts _ (List.mem_cons_of_mem _ k4)) (by decide +kernel) ⟨(Nat.le_of_ble_eq_true rfl), (Nat.le_of_ble_eq_true rfl)⟩, rfl, hts _ (List.mem_cons_of_mem _ k75)⟩ (kG_pre hE hR hS [.ref q80, .int (nI n)]) rfl rfl hl.1 rfl (lv_room (Nat.le_of_ble_eq_true rfl)) dX2_init_76 ⟨(Nat.le_of_ble_eq_true rfl), (Nat.le_of_ble_eq_true rfl)⟩) hS (fun ad4 H locs hwad4 hR hS => ?_)
  refine tb_astqA (r := (RX0, TX0, 5)) hx hb hK hR hS 18 3 80 0 ((hwad4 18 (by omega)).trans (up_n (by omega) rfl)) ((hwad4 80 (by omega)).trans up_s) (bkC_n (by omega) (up_n (by omega) hJ.2.2.1)) rfl ((bkC_i (by omega)).trans (wP_b0 (by unfold isB; omega) _ _)) rfl 2 rfl (by decide) (by decide) dX2_init_79 (fun H locs hR hS => ?_)
  obtain ⟨ad3, C3, hJ, hR⟩ := x2_pk (x2J_s (i := 2) (b := 80) hn4 (by omega) hJ rfl hwad4) hR
  refine lv_iinc (v := nI 3) (lv' := [(3, .int (nI 3)), (0, .ref a), (1, .int p0), (2, .int p1)]) hx hb dX2_init_80 hl (k := 0) rfl (nI_1 2) (by decide) rfl (fun ls hl => ?_)
  refine lv_goto (tgt := 58) hx hb dX2_init_83 (by decide) ?_
  refine lv_iload_n hx hb dX2_init_58 rfl (lv_at hl 0 rfl) ?_
  refine lv_iconst (v := 4) hx hb dX2_init_59 (by decide) ?_
  refine lv_icmp_ge (tgt := 86) hx hb dX2_init_60 (by decide) (fun c9 => absurd c9 (by decide)) (fun _ => ?_)
  refine lv_aload_n hx hb dX2_init_63 rfl (lv_at hl 1 rfl) ?_
  refine tb_getA hx hb hts (fun w h => List.mem_cons_of_mem _ (inX2 w h)) hown hK hR 0 (hJ.1.trans ha) (hJ.2.1) rfl 4 (by decide) (hts _ (List.mem_cons_of_mem _ k105)) (fun _ h => h) (v := .ref (ad3 18)) rfl dX2_init_64 ?_
  refine lv_iload_n hx hb dX2_init_67 rfl (lv_at hl 0 rfl) ?_
  refine tb_new (fs := [.null, .null, .null, .int 0, .int 0]) hx hb hts (fun w h => List.mem_cons_of_mem _ (inX0 w h)) tyX0 tyX0_ok hown (hts _ (List.mem_cons_of_mem _ k72)) (hts _ (List.mem_cons_of_mem _ k73)) (hts _ (List.mem_cons_of_mem _ k4)) hK hR hS hA9 100 (hJ.2.2.2.2 100 (by omega) (by omega)) (ci := 0) rfl (fun j hj => by rcases (show j = 0 ∨ j = 1 ∨ j = 2 ∨ j = 3 ∨ j = 4 by omega) with rfl | rfl | rfl | rfl | rfl <;> rfl) (Nat.le_of_ble_eq_true rfl) (Nat.le_of_ble_eq_true rfl) dX2_init_68 (fun q100 H hR hS => ?_)
  refine lv_dup hx hb dX2_init_71 rfl ?_
  refine lv_aload_n hx hb dX2_init_72 rfl (lv_at hl 1 rfl) ?_
  refine tb_getA hx hb hts (fun w h => List.mem_cons_of_mem _ (inX2 w h)) hown hK hR 0 (up_n (by omega) (hJ.1.trans ha)) (up_n (by omega) hJ.2.1) rfl 1 (by decide) (hts _ (List.mem_cons_of_mem _ k102)) (fun _ h => h) (v := .int (nI n)) rfl dX2_init_73 ?_
  refine kg_v (va_runIN (As := [.int (nI n)]) (rest := [.ref q100, .int (nI 3), .ref (ad3 18)]) ⟨hx, hb, hml, hown, hts⟩ (mX0_init (n := n) (ad := va_up ad3 100 q100) 100 q100 (va_up C3 100 _) up_s (by unfold isB; omega) hn1 hn4 up_s (fun k h1 h2 => up_n (by omega) (hJ.2.2.2.2 k (by omega) (by omega)))) ⟨va_cnB 1 hts (kw_N k76) rfl rfl rfl (hE.2.2.1 (34, yX0_init) (by decide)) (hts _ (List.mem_cons_of_mem _ k4)) (by decide +kernel) ⟨(Nat.le_of_ble_eq_true rfl), (Nat.le_of_ble_eq_true rfl)⟩, rfl, hts _ (List.mem_cons_of_mem _ k75)⟩ (kG_pre hE hR hS [.ref q100, .int (nI n)]) rfl rfl hl.1 rfl (lv_room (Nat.le_of_ble_eq_true rfl)) dX2_init_76 ⟨(Nat.le_of_ble_eq_true rfl), (Nat.le_of_ble_eq_true rfl)⟩) hS (fun ad4 H locs hwad4 hR hS => ?_)
  refine tb_astqA (r := (RX0, TX0, 5)) hx hb hK hR hS 18 3 100 0 ((hwad4 18 (by omega)).trans (up_n (by omega) rfl)) ((hwad4 100 (by omega)).trans up_s) (bkC_n (by omega) (up_n (by omega) hJ.2.2.1)) rfl ((bkC_i (by omega)).trans (wP_b0 (by unfold isB; omega) _ _)) rfl 3 rfl (by decide) (by decide) dX2_init_79 (fun H locs hR hS => ?_)
  obtain ⟨ad3, C3, hJ, hR⟩ := x2_pk (x2J_s (i := 3) (b := 100) hn4 (by omega) hJ rfl hwad4) hR
  refine lv_iinc (v := nI 4) (lv' := [(3, .int (nI 4)), (0, .ref a), (1, .int p0), (2, .int p1)]) hx hb dX2_init_80 hl (k := 0) rfl (nI_1 3) (by decide) rfl (fun ls hl => ?_)
  refine lv_goto (tgt := 58) hx hb dX2_init_83 (by decide) ?_
  refine lv_iload_n hx hb dX2_init_58 rfl (lv_at hl 0 rfl) ?_
  refine lv_iconst (v := 4) hx hb dX2_init_59 (by decide) ?_
  refine lv_icmp_ge (tgt := 86) hx hb dX2_init_60 (by decide) (fun _ => ?_) (fun c9 => absurd (by decide) c9)
  refine lv_aload_n hx hb dX2_init_86 rfl (lv_at hl 1 rfl) ?_
  refine lv_iconst (v := 0) hx hb dX2_init_87 (by decide) ?_
  refine tb_putA hx hb hts (fun w h => List.mem_cons_of_mem _ (inX2 w h)) tyX2 tyX2_ok nmX2 hown hK hR hS 0 (hJ.1.trans ha) (hJ.2.1) rfl 5 (by decide) (hts _ (List.mem_cons_of_mem _ k106)) (fun _ h => h) rfl (tyX2_ok 5 (by decide)) rfl rfl (by show 5 < 9; decide) dX2_init_88 (fun H locs hR hS => ?_)
  refine lv_aload_n hx hb dX2_init_91 rfl (lv_at hl 1 rfl) ?_
  refine lv_iconst (v := 0) hx hb dX2_init_92 (by decide) ?_
  refine tb_putA hx hb hts (fun w h => List.mem_cons_of_mem _ (inX2 w h)) tyX2 tyX2_ok nmX2 hown hK hR hS 0 (hJ.1.trans ha) (up_s) rfl 6 (by decide) (hts _ (List.mem_cons_of_mem _ k107)) (fun _ h => h) rfl (tyX2_ok 6 (by decide)) rfl rfl (by show 6 < 9; decide) dX2_init_93 (fun H locs hR hS => ?_)
  refine lv_aload_n hx hb dX2_init_96 rfl (lv_at hl 1 rfl) ?_
  refine lv_iconst (v := 0) hx hb dX2_init_97 (by decide) ?_
  refine tb_putA hx hb hts (fun w h => List.mem_cons_of_mem _ (inX2 w h)) tyX2 tyX2_ok nmX2 hown hK hR hS 0 (hJ.1.trans ha) (up_s) rfl 7 (by decide) (hts _ (List.mem_cons_of_mem _ k108)) (fun _ h => h) rfl (tyX2_ok 7 (by decide)) rfl rfl (by show 7 < 9; decide) dX2_init_98 (fun H locs hR hS => ?_)
  refine lv_aload_n hx hb dX2_init_101 rfl (lv_at hl 1 rfl) ?_
  refine lv_iconst (v := 1) hx hb dX2_init_102 (by decide) ?_
  refine tb_putA hx hb hts (fun w h => List.mem_cons_of_mem _ (inX2 w h)) tyX2 tyX2_ok nmX2 hown hK hR hS 0 (hJ.1.trans ha) (up_s) rfl 8 (by decide) (hts _ (List.mem_cons_of_mem _ k109)) (fun _ h => h) rfl (tyX2_ok 8 (by decide)) rfl rfl (by show 8 < 9; decide) dX2_init_103 (fun H locs hR hS => ?_)
  replace hR := hR.less (x2_fin hJ)
  refine W.widen (k := 80) (n := 11000) (by omega) (by omega) ?_
  exact W.vret hx hb hr (fun t ht hW => ⟨⟨ad3, rfl, hJ.1, by show tR _ _ _ _ _ t.heap; rw [ht]; exact hR⟩, hS.F ht⟩) hS.2.2 dX2_init_106
end I1
