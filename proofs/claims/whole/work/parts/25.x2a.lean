section C7
variable {l : Launch} {D : va_G} {cs : Nat → ClassId} {base : Nat} {sa : Nat → Nat} {n : Nat} {ad : Nat → Nat}
set_option maxHeartbeats 4000000 in
set_option maxRecDepth 100000 in
theorem mX2_isKept (I : tI) (L : tL) (x : Nat) (bu ev : Nat) (hcf : cCf I n bu ev) (hx20 : x < 2 ^ 20) : Met l yX2_isKept wX2_isKept ({ frames := 0, cells := 0, slots := 0, locals := 0 }) (va_Pc [.ref (ad 0), .int (nI x)] (kB D cs base sa n ad I L)) (va_Qi (fun (r : Int32) (u : tI × tL) => r = nI (kN bu ev x) ∧ u = (I, L)) (kA D cs base n ad) (fun q => base ≤ q)) 0 0 (fun q => base ≤ q) := by
  refine Met.ofW (cc := cX2_isKept) (maxL := 2) (ret := (some .boolean)) (by decide) rfl ?_
  intro p e s m args below meth c s₁ Bd hml hv
  obtain ⟨rfl, hE, hR⟩ := hv
  have hx := Bd.exec
  have hb := Bd.bytes
  have hr := Bd.returns
  have hts := atoms_spec (ws := wX2_isKept) Bd.pre
  have hown : s.vm.findClass RX2 = some m.cls := findClass_of_methodNamed Bd.named
  have hlocks := Bd.notSynchronized
  have hK := hE.K
  have hS : va_S (fun q => base ≤ q) s.heap s.heap [] := va_S.rf
  have hR : tR D vwCl base ad (tC (wP n ad cs) I L) s.heap := hR
  have hl := lv_entry ([.ref (ad 0), .int (nI x)]) (n := 2) (Nat.le_of_ble_eq_true rfl)
  rw [lg_entry_eq]
  generalize (lg_sl ([.ref (ad 0), .int (nI x)]) ++ List.replicate (2 - (lg_sl ([.ref (ad 0), .int (nI x)])).length) Slot.unset).toArray = ls at hl ⊢
  have hl : lv_has ls 2 [(0, .ref (ad 0)), (1, .int (nI x))] := hl
  obtain ⟨h_c1, h_c2, h_c3, h_n1, h_n4, h_bu, h_e1, h_e2⟩ := id hcf
  refine lv_iload_n hx hb dX2_isKept_0 rfl (lv_at hl 1 rfl) ?_
  refine lv_aload_n hx hb dX2_isKept_1 rfl (lv_at hl 0 rfl) ?_
  refine tb_get hx hb hts (fun w h => List.mem_cons_of_mem _ (inX2 w h)) hown hK hR 0 rfl rfl 7 (by decide) (hts _ (List.mem_cons_of_mem _ k108)) (fun _ h => h) rfl dX2_isKept_2 ?_
  rw [show I 0 7 = nI bu from hcf.2.1]
  refine lv_icmp_le (tgt := 33) hx hb dX2_isKept_5 (by decide) (fun c1 => ?_) (fun c1 => ?_)
  · have hq : ¬ (bu < x ∧ (x - bu) % ev = 0) := fun z => by have q := (nI_leI (by omega) (by omega)).mp c1; omega
    refine lv_iconst (v := 0) hx hb dX2_isKept_33 (by decide) ?_
    exact W.zret (v := 0) hx hb hr rfl (fun t ht hW => ⟨⟨_, (I, L), rfl, ⟨kN_0 hq, rfl⟩, by show tR _ _ _ _ _ t.heap; rw [ht]; exact hR⟩, hS.F ht⟩) hS.2.2 dX2_isKept_34
  · have hq1 : bu < x := Nat.lt_of_not_le (fun q => c1 (nI_le q (by omega)))
    refine lv_aload_n hx hb dX2_isKept_8 rfl (lv_at hl 0 rfl) ?_
    refine tb_get hx hb hts (fun w h => List.mem_cons_of_mem _ (inX2 w h)) hown hK hR 0 rfl rfl 8 (by decide) (hts _ (List.mem_cons_of_mem _ k109)) (fun _ h => h) rfl dX2_isKept_9 ?_
    rw [show I 0 8 = nI ev from hcf.2.2.1]
    refine lv_if_le (tgt := 33) hx hb dX2_isKept_12 (by decide) (fun c2 => ?_) (fun c2 => ?_)
    · exact absurd c2 (nI_nle (by omega) (by omega))
    · refine lv_iload_n hx hb dX2_isKept_15 rfl (lv_at hl 1 rfl) ?_
      refine lv_aload_n hx hb dX2_isKept_16 rfl (lv_at hl 0 rfl) ?_
      refine tb_get hx hb hts (fun w h => List.mem_cons_of_mem _ (inX2 w h)) hown hK hR 0 rfl rfl 7 (by decide) (hts _ (List.mem_cons_of_mem _ k108)) (fun _ h => h) rfl dX2_isKept_17 ?_
      rw [show I 0 7 = nI bu from hcf.2.1]
      refine lv_isub hx hb dX2_isKept_20 ?_
      rw [pk_sub (by omega)]
      refine lv_aload_n hx hb dX2_isKept_21 rfl (lv_at hl 0 rfl) ?_
      refine tb_get hx hb hts (fun w h => List.mem_cons_of_mem _ (inX2 w h)) hown hK hR 0 rfl rfl 8 (by decide) (hts _ (List.mem_cons_of_mem _ k109)) (fun _ h => h) rfl dX2_isKept_22 ?_
      rw [show I 0 8 = nI ev from hcf.2.2.1]
      refine lv_irem hx hb dX2_isKept_25 (nI_ne0 (by omega) (by omega)) ?_
      rw [pk_rem (by omega) (by omega) (by omega)]
      refine lv_if_ne (tgt := 33) hx hb dX2_isKept_26 (by decide) (fun c3 => ?_) (fun c3 => ?_)
      · have hq : ¬ (bu < x ∧ (x - bu) % ev = 0) := fun z => c3 (by rw [z.2]; rfl)
        refine lv_iconst (v := 0) hx hb dX2_isKept_33 (by decide) ?_
        exact W.zret (v := 0) hx hb hr rfl (fun t ht hW => ⟨⟨_, (I, L), rfl, ⟨kN_0 hq, rfl⟩, by show tR _ _ _ _ _ t.heap; rw [ht]; exact hR⟩, hS.F ht⟩) hS.2.2 dX2_isKept_34
      · have hq2 : (x - bu) % ev = 0 := (nI_z (by have := Nat.mod_lt (x - bu) (show 0 < ev by omega); omega)).mp c3
        refine lv_iconst (v := 1) hx hb dX2_isKept_29 (by decide) ?_
        refine lv_goto (tgt := 34) hx hb dX2_isKept_30 (by decide) ?_
        exact W.zret (v := 1) hx hb hr rfl (fun t ht hW => ⟨⟨_, (I, L), rfl, ⟨kN_1 hq1 hq2, rfl⟩, by show tR _ _ _ _ _ t.heap; rw [ht]; exact hR⟩, hS.F ht⟩) hS.2.2 dX2_isKept_34
set_option maxHeartbeats 4000000 in
set_option maxRecDepth 100000 in
theorem lpX2_rowsToCome {p : Program} {e : Env} {R : Room} {s : State} {m : MethodId} {args : Array Value} {below : List Frame} {meth : Method} {c : Code} {cells slots : Nat} {Q : State → Prop} (S0 : CallFix p m c cX2_rowsToCome 4 s args wX2_rowsToCome RX2) (hE : eV D cs base sa s) (hRf : 1 ≤ R.frames) (hRl : 30 ≤ R.locals) (hRc : cells ≤ R.cells) (hRs : slots ≤ R.slots) (I : tI) (L : tL) (x sp : Nat) (bu ev : Nat) (hcf : cCf I n bu ev) (hsp : I 20 4 = nI sp) (hx100 : x ≤ 100) (hsp2 : sp < 2 ^ 19)
    (kx : ∀ (H : Heap) (locs : List Loc) (ls : Array Slot), 1 ≤ x + 1 → tR D vwCl base ad (tC (wP n ad cs) I L) H → va_S (fun q => base ≤ q) s.heap H locs → lv_has ls 4 [(3, .int (nI (x + 1))), (2, .int (nI (cK bu ev sp ((x + 1) - 1)))), (0, .ref (ad 0)), (1, .int (nI x))] → W p l e R s m args below meth c H locs cells slots Q (F0 m 34 ls [])) :
    ∀ (k j : Nat) (H : Heap) (locs : List Loc) (ls : Array Slot), j ≤ x + 1 → x + 1 + 1 ≤ j + k → 1 ≤ j → tR D vwCl base ad (tC (wP n ad cs) I L) H → va_S (fun q => base ≤ q) s.heap H locs → lv_has ls 4 [(3, .int (nI j)), (2, .int (nI (cK bu ev sp (j - 1)))), (0, .ref (ad 0)), (1, .int (nI x))] → W p l e R s m args below meth c H locs cells slots Q (F0 m 4 ls []) := by
  obtain ⟨hx, hb, hml, hown, hts⟩ := S0
  have hK := hE.K
  obtain ⟨h_c1, h_c2, h_c3, h_n1, h_n4, h_bu, h_e1, h_e2⟩ := id hcf
  intro k
  induction k with
  | zero => intro j  H locs ls h1 h2; exact absurd h2 (by omega)
  | succ k ih =>
    intro j  H locs ls hj hk hj1 hR hS hl
    refine lv_iload_n hx hb dX2_rowsToCome_4 rfl (lv_at hl 0 rfl) ?_
    refine lv_iload_n hx hb dX2_rowsToCome_5 rfl (lv_at hl 3 rfl) ?_
    refine lv_icmp_gt (tgt := 34) hx hb dX2_rowsToCome_6 (by decide) (fun c1 => ?_) (fun c1 => ?_)
    · have hjN : j = x + 1 := by have e9 := (nI_ltI (by omega) (by omega)).mp c1; omega
      subst hjN
      exact kx  H locs ls hj1 hR hS (lv_sub hl [0, 1, 2, 3] rfl)
    · have hjN : j < x + 1 := by
        rcases Nat.lt_or_ge j (x + 1) with q | q
        · exact q
        · exact absurd (nI_lt (by omega) (by omega)) c1
      refine lv_aload_n hx hb dX2_rowsToCome_9 rfl (lv_at hl 2 rfl) ?_
      refine lv_aload_n hx hb dX2_rowsToCome_10 rfl (lv_at hl 2 rfl) ?_
      refine tb_get hx hb hts (fun w h => List.mem_cons_of_mem _ (inX2 w h)) hown hK hR 0 rfl rfl 3 (by decide) (hts _ (List.mem_cons_of_mem _ k104)) (fun _ h => h) rfl dX2_rowsToCome_11 ?_
      refine tb_getN hx hb hts (fun w h => List.mem_cons_of_mem _ (inX0 w h)) hown hK hR 20 rfl rfl 4 (by decide) (va_Nw.use rfl (hE.2.1 (120, "SeedChains$Course", "steps", "I") (by decide))) (fun _ h => h) rfl dX2_rowsToCome_14 ?_
      rw [show I 20 4 = nI sp from hsp]
      refine lv_iload_n hx hb dX2_rowsToCome_17 rfl (lv_at hl 0 rfl) ?_
      refine lv_iadd hx hb dX2_rowsToCome_18 ?_
      rw [nI_add]
      refine kc_i (va_runV (As := [.int (nI (sp + j))]) (rest := []) ⟨hx, hb, hml, hown, hts⟩ (mX2_isKept I L (sp + j) bu ev hcf (by omega)) (cwV 1 hts (kw_V k353 k355 ks13 k1 k356) rfl rfl rfl (by decide +kernel) ⟨Nat.le_trans (Nat.le_of_ble_eq_true rfl) hRf, Nat.le_trans (Nat.le_of_ble_eq_true rfl) hRl⟩) (kB_preV hE hR hS 0 rfl rfl [.int (nI (sp + j))]) rfl rfl hl.1 rfl (lv_room (Nat.le_of_ble_eq_true rfl)) dX2_rowsToCome_19 ⟨hRc, hRs⟩) hS (fun r u H locs hw hR hS => ?_)
      obtain ⟨rfl, rfl⟩ := hw
      have hR : tR D vwCl base ad (tC (wP n ad cs) I L) H := hR
      refine lv_if_eq (tgt := 28) hx hb dX2_rowsToCome_22 (by decide) (fun c2 => ?_) (fun c2 => ?_)
      · have hq : kN bu ev (sp + j) = 0 := (nI_z (by have := kN_le bu ev (sp + j); omega)).mp c2
        rw [show cK bu ev sp (j - 1) = cK bu ev sp (j + 1 - 1) from by rw [cK_s hj1, hq]; rfl] at hl
        refine lv_iinc (v := nI (j + 1)) (lv' := [(3, .int (nI (j + 1))), (2, .int (nI (cK bu ev sp (j + 1 - 1)))), (0, .ref (ad 0)), (1, .int (nI x))]) hx hb dX2_rowsToCome_28 hl (k := 0) rfl (nI_1 _) (by decide) rfl (fun ls hl => ?_)
        refine lv_goto (tgt := 4) hx hb dX2_rowsToCome_31 (by decide) ?_
        exact ih (j + 1)  H locs ls (by omega) (by omega) (by omega) hR hS (lv_sub hl [0, 1, 2, 3] rfl)
      · have hq : kN bu ev (sp + j) = 1 := by have q1 := kN_le bu ev (sp + j); have q2 : ¬ kN bu ev (sp + j) = 0 := fun z => c2 (by rw [z]; rfl); omega
        refine lv_iinc (v := nI (cK bu ev sp (j - 1) + 1)) (lv' := [(2, .int (nI (cK bu ev sp (j - 1) + 1))), (3, .int (nI j)), (0, .ref (ad 0)), (1, .int (nI x))]) hx hb dX2_rowsToCome_25 hl (k := 1) rfl (nI_1 _) (by decide) rfl (fun ls hl => ?_)
        rw [show cK bu ev sp (j - 1) + 1 = cK bu ev sp (j + 1 - 1) from by rw [cK_s hj1, hq]] at hl
        refine lv_iinc (v := nI (j + 1)) (lv' := [(3, .int (nI (j + 1))), (2, .int (nI (cK bu ev sp (j + 1 - 1)))), (0, .ref (ad 0)), (1, .int (nI x))]) hx hb dX2_rowsToCome_28 hl (k := 1) rfl (nI_1 _) (by decide) rfl (fun ls hl => ?_)
        refine lv_goto (tgt := 4) hx hb dX2_rowsToCome_31 (by decide) ?_
        exact ih (j + 1)  H locs ls (by omega) (by omega) (by omega) hR hS (lv_sub hl [0, 1, 2, 3] rfl)
set_option maxHeartbeats 4000000 in
set_option maxRecDepth 100000 in
theorem mX2_rowsToCome (I : tI) (L : tL) (x sp : Nat) (bu ev : Nat) (hcf : cCf I n bu ev) (hsp : I 20 4 = nI sp) (hx100 : x ≤ 100) (hsp2 : sp < 2 ^ 19) : Met l yX2_rowsToCome wX2_rowsToCome ({ frames := 1, cells := 0, slots := 0, locals := 30 }) (va_Pc [.ref (ad 0), .int (nI x)] (kB D cs base sa n ad I L)) (va_Qi (fun (r : Int32) (u : tI × tL) => r = nI (cK bu ev sp x) ∧ u = (I, L)) (kA D cs base n ad) (fun q => base ≤ q)) 0 0 (fun q => base ≤ q) := by
  refine Met.ofW (cc := cX2_rowsToCome) (maxL := 4) (ret := (some .int)) (by decide) rfl ?_
  intro p e s m args below meth c s₁ Bd hml hv
  obtain ⟨rfl, hE, hR⟩ := hv
  have hx := Bd.exec
  have hb := Bd.bytes
  have hr := Bd.returns
  have hts := atoms_spec (ws := wX2_rowsToCome) Bd.pre
  have hown : s.vm.findClass RX2 = some m.cls := findClass_of_methodNamed Bd.named
  have hlocks := Bd.notSynchronized
  have hK := hE.K
  have hS : va_S (fun q => base ≤ q) s.heap s.heap [] := va_S.rf
  have hR : tR D vwCl base ad (tC (wP n ad cs) I L) s.heap := hR
  have hl := lv_entry ([.ref (ad 0), .int (nI x)]) (n := 4) (Nat.le_of_ble_eq_true rfl)
  rw [lg_entry_eq]
  generalize (lg_sl ([.ref (ad 0), .int (nI x)]) ++ List.replicate (4 - (lg_sl ([.ref (ad 0), .int (nI x)])).length) Slot.unset).toArray = ls at hl ⊢
  have hl : lv_has ls 4 [(0, .ref (ad 0)), (1, .int (nI x))] := hl
  refine lv_iconst (v := 0) hx hb dX2_rowsToCome_0 (by decide) ?_
  rw [show (0 : Int32) = nI (cK bu ev sp (1 - 1)) from rfl]
  refine lv_istore_n (lv' := [(2, .int (nI (cK bu ev sp (1 - 1)))), (0, .ref (ad 0)), (1, .int (nI x))]) hx hb dX2_rowsToCome_1 rfl hl (by decide) rfl (fun ls hl => ?_)
  refine lv_iconst (v := 1) hx hb dX2_rowsToCome_2 (by decide) ?_
  rw [show (1 : Int32) = nI 1 from rfl]
  refine lv_istore_n (lv' := [(3, .int (nI 1)), (2, .int (nI (cK bu ev sp (1 - 1)))), (0, .ref (ad 0)), (1, .int (nI x))]) hx hb dX2_rowsToCome_3 rfl hl (by decide) rfl (fun ls hl => ?_)
  refine lpX2_rowsToCome ⟨hx, hb, hml, hown, hts⟩ hE (Nat.le_of_ble_eq_true rfl) (Nat.le_of_ble_eq_true rfl) (Nat.le_of_ble_eq_true rfl) (Nat.le_of_ble_eq_true rfl) I L x sp bu ev hcf hsp hx100 hsp2 (fun H locs ls _ hR hS hl => ?_) (x + 1) 1 _ _ ls (by omega) (by omega) (Nat.le_refl _) hR hS (lv_sub hl [0, 1, 2, 3] rfl)
  refine lv_iload_n hx hb dX2_rowsToCome_34 rfl (lv_at hl 1 rfl) ?_
  exact W.iret (v := nI (cK bu ev sp (x + 1 - 1))) hx hb hr (fun t ht hW => ⟨⟨_, (I, L), rfl, ⟨rfl, rfl⟩, by show tR _ _ _ _ _ t.heap; rw [ht]; exact hR⟩, hS.F ht⟩) hS.2.2 dX2_rowsToCome_35
set_option maxHeartbeats 4000000 in
set_option maxRecDepth 100000 in
theorem mX2_forget (I : tI) (L : tL)   : Met l yX2_forget wX2_forget ({ frames := 0, cells := 0, slots := 0, locals := 0 }) (va_Pc [.ref (ad 0)] (kB D cs base sa n ad I L)) (va_Qv (fun (u : tI × tL) => u = (va_up I 0 (upd (upd (I 0) 6 0) 5 0), L)) (kA D cs base n ad) (fun q => base ≤ q)) 0 0 (fun q => base ≤ q) := by
  refine Met.ofW (cc := cX2_forget) (maxL := 1) (ret := none) (by decide) rfl ?_
  intro p e s m args below meth c s₁ Bd hml hv
  obtain ⟨rfl, hE, hR⟩ := hv
  have hx := Bd.exec
  have hb := Bd.bytes
  have hr := Bd.returns
  have hts := atoms_spec (ws := wX2_forget) Bd.pre
  have hown : s.vm.findClass RX2 = some m.cls := findClass_of_methodNamed Bd.named
  have hlocks := Bd.notSynchronized
  have hK := hE.K
  have hS : va_S (fun q => base ≤ q) s.heap s.heap [] := va_S.rf
  have hR : tR D vwCl base ad (tC (wP n ad cs) I L) s.heap := hR
  have hl := lv_entry ([.ref (ad 0)]) (n := 1) (Nat.le_of_ble_eq_true rfl)
  rw [lg_entry_eq]
  generalize (lg_sl ([.ref (ad 0)]) ++ List.replicate (1 - (lg_sl ([.ref (ad 0)])).length) Slot.unset).toArray = ls at hl ⊢
  have hl : lv_has ls 1 [(0, .ref (ad 0))] := hl
  refine lv_aload_n hx hb dX2_forget_0 rfl (lv_at hl 0 rfl) ?_
  refine lv_iconst (v := 0) hx hb dX2_forget_1 (by decide) ?_
  refine tp_put hx hb hts (fun w h => List.mem_cons_of_mem _ (inX2 w h)) tyX2 tyX2_ok nmX2 hown hK hR hS 0 (fun r => [.int (r 0), .int (r 1), .ref (ad 1), .ref (ad 20), .ref (ad 18), .int (r 5), .int (r 6), .int (r 7), .int (r 8)]) (fun _ _ => rfl) rfl 6 (by decide) (hts _ (List.mem_cons_of_mem _ k107)) (fun _ h => h) rfl (ty := .boolean) rfl rfl rfl (by simp) (fun _ => rfl) dX2_forget_2 (fun H locs hR hS => ?_)
  refine lv_aload_n hx hb dX2_forget_5 rfl (lv_at hl 0 rfl) ?_
  refine lv_iconst (v := 0) hx hb dX2_forget_6 (by decide) ?_
  refine tp_put hx hb hts (fun w h => List.mem_cons_of_mem _ (inX2 w h)) tyX2 tyX2_ok nmX2 hown hK hR hS 0 (fun r => [.int (r 0), .int (r 1), .ref (ad 1), .ref (ad 20), .ref (ad 18), .int (r 5), .int (r 6), .int (r 7), .int (r 8)]) (fun _ _ => rfl) rfl 5 (by decide) (hts _ (List.mem_cons_of_mem _ k106)) (fun _ h => h) rfl (ty := .int) rfl rfl rfl (by simp) (fun _ => rfl) dX2_forget_7 (fun H locs hR hS => ?_)
  rw [bx_uu, va_up_self] at hR
  exact W.vret hx hb hr (fun t ht hW => ⟨⟨(va_up I 0 (upd (upd (I 0) 6 0) 5 0), L), rfl, rfl, by show tR _ _ _ _ _ t.heap; rw [ht]; exact hR⟩, hS.F ht⟩) hS.2.2 dX2_forget_10
set_option maxHeartbeats 4000000 in
set_option maxRecDepth 100000 in
theorem lpX2_stepChain {p : Program} {e : Env} {R : Room} {s : State} {m : MethodId} {args : Array Value} {below : List Frame} {meth : Method} {c : Code} {cells slots : Nat} {Q : State → Prop} (S0 : CallFix p m c cX2_stepChain 4 s args wX2_stepChain RX2) (hE : eV D cs base sa s) (hRf : 3 ≤ R.frames) (hRl : 100 ≤ R.locals) (hRc : cells ≤ R.cells) (hRs : slots ≤ R.slots) (I : tI) (L : tL) {nd no : Nat} {f la : Nat → Nat} {ph : Nat → Int32} {w : Nat → Nat → Nat} {ea lt le mo : Nat → Nat} (ch : Nat) (Y : Nat → Nat) (s0 : Int64) (hSi : cSi I nd no f la ph w ea lt le mo) (hwf : wfS nd no f la w ea lt le mo) (hn4 : n ≤ 4) (hch : ch < n) (hwY : wfY nd no f la ea lt le mo Y)
    (kx : ∀ (y : Nat → Nat) (s9 : Int64) (row : Nat → Int32) (H : Heap) (locs : List Loc) (ls : Array Slot), rw_Y nd row y → (y, s9) = sC no f la w ea lt le mo nd (Y, s0) → tR D vwCl base ad (tC (wP n ad cs) (va_up I (20 + 4 + ch) row) (va_up L 22 (vp_updL (L 22) ch s9))) H → va_S (fun q => base ≤ q) s.heap H locs → lv_has ls 4 [(3, .int (nI nd)), (0, .ref (ad 0)), (1, .int (nI ch)), (2, .ref (ad (20 + 4 + ch)))] → W p l e R s m args below meth c H locs cells slots Q (F0 m 79 ls [])) :
    ∀ (k j : Nat) (y : Nat → Nat) (s9 : Int64) (row : Nat → Int32) (H : Heap) (locs : List Loc) (ls : Array Slot), j ≤ nd → nd + 1 ≤ j + k → rw_Y nd row y → (y, s9) = sC no f la w ea lt le mo j (Y, s0) → tR D vwCl base ad (tC (wP n ad cs) (va_up I (20 + 4 + ch) row) (va_up L 22 (vp_updL (L 22) ch s9))) H → va_S (fun q => base ≤ q) s.heap H locs → lv_has ls 4 [(3, .int (nI j)), (0, .ref (ad 0)), (1, .int (nI ch)), (2, .ref (ad (20 + 4 + ch)))] → W p l e R s m args below meth c H locs cells slots Q (F0 m 12 ls []) := by
  obtain ⟨hx, hb, hml, hown, hts⟩ := S0
  have hK := hE.K
  obtain ⟨h_nd, h_no, h_d, h_o⟩ := id hwf
  intro k
  induction k with
  | zero => intro j y s9 row H locs ls h1 h2; exact absurd h2 (by omega)
  | succ k ih =>
    intro j y s9 row H locs ls hj hk hrow hys hR hS hl
    refine lv_iload_n hx hb dX2_stepChain_12 rfl (lv_at hl 0 rfl) ?_
    refine lv_aload_n hx hb dX2_stepChain_13 rfl (lv_at hl 1 rfl) ?_
    refine tb_get hx hb hts (fun w h => List.mem_cons_of_mem _ (inX2 w h)) hown hK hR 0 rfl rfl 2 (by decide) (hts _ (List.mem_cons_of_mem _ k103)) (fun _ h => h) rfl dX2_stepChain_14 ?_
    refine tb_getN hx hb hts (fun w h => List.mem_cons_of_mem _ (inX1 w h)) hown hK hR 1 rfl rfl 8 (by decide) (va_Nw.use rfl (hE.2.1 (68, "SeedChains$Site", "dates", "I") (by decide))) (fun _ h => h) rfl dX2_stepChain_17 ?_
    rw [show (va_up I (20 + 4 + ch) row) 1 8 = nI nd from (by rw [va_up_ne _ _ (by omega)]; exact hSi.1)]
    refine lv_icmp_ge (tgt := 79) hx hb dX2_stepChain_20 (by decide) (fun c1 => ?_) (fun c1 => ?_)
    · have hjN : j = nd := by have e9 := (nI_leI (by omega) (by omega)).mp c1; omega
      subst hjN
      exact kx y s9 row H locs ls hrow hys hR hS (lv_sub hl [0, 1, 2, 3] rfl)
    · have hjN : j < nd := by
        rcases Nat.lt_or_ge j nd with q | q
        · exact q
        · exact absurd (nI_le (by omega) (by omega)) c1
      have hwy : wfY nd no f la ea lt le mo y := by have q := wfY_sC hwf (q := (Y, s0)) hwY (j := j) (by omega); rw [← hys] at q; exact q
      refine lv_aload_n hx hb dX2_stepChain_23 rfl (lv_at hl 1 rfl) ?_
      refine tb_get hx hb hts (fun w h => List.mem_cons_of_mem _ (inX2 w h)) hown hK hR 0 rfl rfl 3 (by decide) (hts _ (List.mem_cons_of_mem _ k104)) (fun _ h => h) rfl dX2_stepChain_24 ?_
      refine tb_getN hx hb hts (fun w h => List.mem_cons_of_mem _ (inX0 w h)) hown hK hR 20 rfl rfl 1 (by decide) (va_Nw.use rfl (hE.2.1 (123, "SeedChains$Course", "states", "[J") (by decide))) (fun _ h => h) rfl dX2_stepChain_27 ?_
      refine lv_iload_n hx hb dX2_stepChain_30 rfl (lv_at hl 2 rfl) ?_
      refine lv_ldc2 (v := 6364136223846793005) hx hb hown (hts _ (List.mem_cons_of_mem _ k366)) dX2_stepChain_31 ?_
      refine lv_aload_n hx hb dX2_stepChain_34 rfl (lv_at hl 1 rfl) ?_
      refine tb_get hx hb hts (fun w h => List.mem_cons_of_mem _ (inX2 w h)) hown hK hR 0 rfl rfl 3 (by decide) (hts _ (List.mem_cons_of_mem _ k104)) (fun _ h => h) rfl dX2_stepChain_35 ?_
      refine tb_getN hx hb hts (fun w h => List.mem_cons_of_mem _ (inX0 w h)) hown hK hR 20 rfl rfl 1 (by decide) (va_Nw.use rfl (hE.2.1 (123, "SeedChains$Course", "states", "[J") (by decide))) (fun _ h => h) rfl dX2_stepChain_38 ?_
      refine lv_iload_n hx hb dX2_stepChain_41 rfl (lv_at hl 2 rfl) ?_
      refine tp_lald hx hb hK hR 22 1 (fun _ _ => rfl) rfl ch rfl (by omega) (by omega) dX2_stepChain_42 ?_
      rw [show (va_up L 22 (vp_updL (L 22) ch s9)) 22 ch = s9 from (by rw [va_up_self, vp_updL_self])]
      refine lv_lmul hx hb dX2_stepChain_43 ?_
      refine lv_ldc2 (v := 1442695040888963407) hx hb hown (hts _ (List.mem_cons_of_mem _ k367)) dX2_stepChain_44 ?_
      refine lv_ladd hx hb dX2_stepChain_47 ?_
      refine tp_last hx hb hK hR hS 22 1 (fun _ _ => rfl) rfl ch rfl (by omega) (by omega) dX2_stepChain_48 (fun H locs hR hS => ?_)
      have hR : tR D vwCl base ad (tC (wP n ad cs) (va_up I (20 + 4 + ch) row) (va_up L 22 (vp_updL (L 22) ch (stN s9)))) H := by rw [bx_uu, va_up_self, vp_updL_uu] at hR; exact hR
      refine lv_aload_n hx hb dX2_stepChain_49 rfl (lv_at hl 3 rfl) ?_
      refine lv_iload_n hx hb dX2_stepChain_50 rfl (lv_at hl 0 rfl) ?_
      refine lv_aload_n hx hb dX2_stepChain_51 rfl (lv_at hl 1 rfl) ?_
      refine tb_get hx hb hts (fun w h => List.mem_cons_of_mem _ (inX2 w h)) hown hK hR 0 rfl rfl 2 (by decide) (hts _ (List.mem_cons_of_mem _ k103)) (fun _ h => h) rfl dX2_stepChain_52 ?_
      refine lv_iload_n hx hb dX2_stepChain_55 rfl (lv_at hl 0 rfl) ?_
      refine lv_aload_n hx hb dX2_stepChain_56 rfl (lv_at hl 3 rfl) ?_
      refine lv_aload_n hx hb dX2_stepChain_57 rfl (lv_at hl 1 rfl) ?_
      refine tb_get hx hb hts (fun w h => List.mem_cons_of_mem _ (inX2 w h)) hown hK hR 0 rfl rfl 3 (by decide) (hts _ (List.mem_cons_of_mem _ k104)) (fun _ h => h) rfl dX2_stepChain_58 ?_
      refine tb_getN hx hb hts (fun w h => List.mem_cons_of_mem _ (inX0 w h)) hown hK hR 20 rfl rfl 1 (by decide) (va_Nw.use rfl (hE.2.1 (123, "SeedChains$Course", "states", "[J") (by decide))) (fun _ h => h) rfl dX2_stepChain_61 ?_
      refine lv_iload_n hx hb dX2_stepChain_64 rfl (lv_at hl 2 rfl) ?_
      refine tp_lald hx hb hK hR 22 1 (fun _ _ => rfl) rfl ch rfl (by omega) (by omega) dX2_stepChain_65 ?_
      rw [show (va_up L 22 (vp_updL (L 22) ch (stN s9))) 22 ch = stN s9 from (by rw [va_up_self, vp_updL_self])]
      refine lv_bipush (v := 33) hx hb dX2_stepChain_66 (by decide) ?_
      refine lv_lushr hx hb dX2_stepChain_68 rfl ?_
      rw [show (((stN s9).toUInt64 >>> ((33 : Int32).toInt64.toUInt64 &&& Int64.toUInt64 63)).toInt64) = lN (sX (stN s9)) from sX_eq _]
      refine kc_i (va_runVN (As := [.int (nI j), .ref (ad (20 + 4 + ch)), .long (lN (sX (stN s9)))]) (rest := [.int (nI j), .ref (ad (20 + 4 + ch))]) ⟨hx, hb, hml, hown, hts⟩ (mX1_drawnYear (va_up I (20 + 4 + ch) row) (va_up L 22 (vp_updL (L 22) ch (stN s9))) (20 + 4 + ch) j y (sX (stN s9)) (hSi.up h_nd (by omega) row) hwf hjN (fun r q => wP_b4 (Or.inl rfl) hn4 hch r q) (fun i hi => by rw [va_up_self]; exact hrow i hi) (wfY_b hwf hwy) (fun k hk => (hwy.2 k hk).1) _ _ rfl rfl (wfY_lh hwf hwy hjN) (sX_lt _)) ⟨va_cnB 3 hts (kw_N k371) rfl rfl rfl (hE.2.2.1 (212, yX1_drawnYear) (by decide)) (hts _ (List.mem_cons_of_mem _ k3)) (by decide +kernel) ⟨Nat.le_trans (Nat.le_of_ble_eq_true rfl) hRf, Nat.le_trans (Nat.le_of_ble_eq_true rfl) hRl⟩, hts _ (List.mem_cons_of_mem _ k370), hts _ (List.mem_cons_of_mem _ ks16)⟩ (kB_preV hE hR hS 1 rfl rfl [.int (nI j), .ref (ad (20 + 4 + ch)), .long (lN (sX (stN s9)))]) rfl rfl hl.1 rfl (lv_room (Nat.le_of_ble_eq_true rfl)) dX2_stepChain_69 ⟨hRc, hRs⟩) hS (fun r u H locs hw hR hS => ?_)
      have hw : r = nI (dY no f la w ea lt le mo j y (sX (stN s9))) ∧ u = (va_up I (20 + 4 + ch) row, va_up L 22 (vp_updL (L 22) ch (stN s9))) := hw
      obtain ⟨rfl, rfl⟩ := hw
      have hR : tR D vwCl base ad (tC (wP n ad cs) (va_up I (20 + 4 + ch) row) (va_up L 22 (vp_updL (L 22) ch (stN s9)))) H := hR
      refine tp_iast hx hb hK hR hS (20 + 4 + ch) 0 (fun _ _ => wP_b4 (Or.inl rfl) hn4 hch _ _) rfl j rfl (by omega) (by decide) dX2_stepChain_72 (fun H locs hR hS => ?_)
      rw [bx_uu, va_up_self] at hR
      have hrow1 : rw_Y nd (upd row j (nI (dY no f la w ea lt le mo j y (sX (stN s9))))) (va_up y j (dY no f la w ea lt le mo j y (sX (stN s9)))) := hrow.put _ _ rfl
      have hys1 : (va_up y j (dY no f la w ea lt le mo j y (sX (stN s9))), stN s9) = sC no f la w ea lt le mo (j + 1) (Y, s0) := by simp only [sC]; rw [← hys]
      refine lv_iinc (v := nI (j + 1)) (lv' := [(3, .int (nI (j + 1))), (0, .ref (ad 0)), (1, .int (nI ch)), (2, .ref (ad (20 + 4 + ch)))]) hx hb dX2_stepChain_73 hl (k := 0) rfl (nI_1 _) (by decide) rfl (fun ls hl => ?_)
      refine lv_goto (tgt := 12) hx hb dX2_stepChain_76 (by decide) ?_
      exact ih (j + 1) (va_up y j (dY no f la w ea lt le mo j y (sX (stN s9)))) (stN s9) (upd row j (nI (dY no f la w ea lt le mo j y (sX (stN s9))))) H locs ls (by omega) (by omega) hrow1 hys1 hR hS (lv_sub hl [0, 1, 2, 3] rfl)
set_option maxHeartbeats 4000000 in
set_option maxRecDepth 100000 in
theorem mX2_stepChain (I : tI) (L : tL) {nd no : Nat} {f la : Nat → Nat} {ph : Nat → Int32} {w : Nat → Nat → Nat} {ea lt le mo : Nat → Nat} (ch : Nat) (Y : Nat → Nat) (hSi : cSi I nd no f la ph w ea lt le mo) (hwf : wfS nd no f la w ea lt le mo) (hn4 : n ≤ 4) (hch : ch < n) (hY : rw_Y nd (I (20 + 4 + ch)) Y) (hwY : wfY nd no f la ea lt le mo Y) : Met l yX2_stepChain wX2_stepChain ({ frames := 3, cells := 0, slots := 0, locals := 100 }) (va_Pc [.ref (ad 0), .int (nI ch)] (kB D cs base sa n ad I L)) (va_Qv (fun (u : tI × tL) => ∃ row : Nat → Int32, u = (va_up I (20 + 4 + ch) row, va_up L 22 (vp_updL (L 22) ch (sC no f la w ea lt le mo nd (Y, L 22 ch)).2)) ∧ rw_Y nd row (sC no f la w ea lt le mo nd (Y, L 22 ch)).1) (kA D cs base n ad) (fun q => base ≤ q)) 0 0 (fun q => base ≤ q) := by
  refine Met.ofW (cc := cX2_stepChain) (maxL := 4) (ret := none) (by decide) rfl ?_
  intro p e s m args below meth c s₁ Bd hml hv
  obtain ⟨rfl, hE, hR⟩ := hv
  have hx := Bd.exec
  have hb := Bd.bytes
  have hr := Bd.returns
  have hts := atoms_spec (ws := wX2_stepChain) Bd.pre
  have hown : s.vm.findClass RX2 = some m.cls := findClass_of_methodNamed Bd.named
  have hlocks := Bd.notSynchronized
  have hK := hE.K
  have hS : va_S (fun q => base ≤ q) s.heap s.heap [] := va_S.rf
  have hR : tR D vwCl base ad (tC (wP n ad cs) I L) s.heap := hR
  have hl := lv_entry ([.ref (ad 0), .int (nI ch)]) (n := 4) (Nat.le_of_ble_eq_true rfl)
  rw [lg_entry_eq]
  generalize (lg_sl ([.ref (ad 0), .int (nI ch)]) ++ List.replicate (4 - (lg_sl ([.ref (ad 0), .int (nI ch)])).length) Slot.unset).toArray = ls at hl ⊢
  have hl : lv_has ls 4 [(0, .ref (ad 0)), (1, .int (nI ch))] := hl
  obtain ⟨h_nd, h_no, h_d, h_o⟩ := id hwf
  refine lv_aload_n hx hb dX2_stepChain_0 rfl (lv_at hl 0 rfl) ?_
  refine tb_get hx hb hts (fun w h => List.mem_cons_of_mem _ (inX2 w h)) hown hK hR 0 rfl rfl 3 (by decide) (hts _ (List.mem_cons_of_mem _ k104)) (fun _ h => h) rfl dX2_stepChain_1 ?_
  refine tb_getN hx hb hts (fun w h => List.mem_cons_of_mem _ (inX0 w h)) hown hK hR 20 rfl rfl 0 (by decide) (va_Nw.use rfl (hE.2.1 (129, "SeedChains$Course", "years", "[[I") (by decide))) (fun _ h => h) rfl dX2_stepChain_4 ?_
  refine lv_iload_n hx hb dX2_stepChain_7 rfl (lv_at hl 1 rfl) ?_
  refine tb_aald hx hb hK hR 21 2 rfl rfl ch rfl (by omega) (by omega) (if_pos (by omega)) dX2_stepChain_8 ?_
  refine lv_astore_n (lv' := [(2, .ref (ad (20 + 4 + ch))), (0, .ref (ad 0)), (1, .int (nI ch))]) hx hb dX2_stepChain_9 rfl hl (by decide) rfl (fun ls hl => ?_)
  refine lv_iconst (v := 0) hx hb dX2_stepChain_10 (by decide) ?_
  rw [show (0 : Int32) = nI 0 from nI_0.symm]
  refine lv_istore_n (lv' := [(3, .int (nI 0)), (2, .ref (ad (20 + 4 + ch))), (0, .ref (ad 0)), (1, .int (nI ch))]) hx hb dX2_stepChain_11 rfl hl (by decide) rfl (fun ls hl => ?_)
  have hR : tR D vwCl base ad (tC (wP n ad cs) (va_up I (20 + 4 + ch) (I (20 + 4 + ch))) (va_up L 22 (vp_updL (L 22) ch (L 22 ch)))) s.heap := by rw [va_up_id, vp_updL_id, va_up_id]; exact hR
  refine lpX2_stepChain ⟨hx, hb, hml, hown, hts⟩ hE (Nat.le_of_ble_eq_true rfl) (Nat.le_of_ble_eq_true rfl) (Nat.le_of_ble_eq_true rfl) (Nat.le_of_ble_eq_true rfl) I L ch Y (L 22 ch) hSi hwf hn4 hch hwY (fun y s9 row H locs ls hrow hys hR hS hl => ?_) (nd + 1) 0 Y (L 22 ch) (I (20 + 4 + ch)) _ _ ls (Nat.zero_le _) (by omega) hY rfl hR hS (lv_sub hl [0, 2, 3, 1] rfl)
  rw [← hys]
  exact W.vret hx hb hr (fun t ht hW => ⟨⟨(va_up I (20 + 4 + ch) row, va_up L 22 (vp_updL (L 22) ch s9)), rfl, ⟨row, rfl, hrow⟩, by show tR _ _ _ _ _ t.heap; rw [ht]; exact hR⟩, hS.F ht⟩) hS.2.2 dX2_stepChain_79
end C7
