section C6
variable {l : Launch} {D : va_G} {cs : Nat → ClassId} {base : Nat} {sa : Nat → Nat} {n : Nat} {ad : Nat → Nat}
set_option maxHeartbeats 4000000 in
set_option maxRecDepth 100000 in
/-- Course.keptYear -/
theorem mX0_keptYear (I : tI) (L : tL) (b ch k d : Nat) (hB : isB b) (hn4 : n ≤ 4) (hch : ch < n) (hkd : k * 8 + d < 480) : Met l yX0_keptYear wX0_keptYear ({ frames := 0, cells := 0, slots := 0, locals := 0 }) (va_Pc [.ref (ad b), .int (nI ch), .int (nI k), .int (nI d)] (kB D cs base sa n ad I L)) (va_Qi (fun (r : Int32) (u : tI × tL) => r = I (b + 8 + ch) (k * 8 + d) ∧ u = (I, L)) (kA D cs base n ad) (fun q => base ≤ q)) 0 0 (fun q => base ≤ q) := by
  refine Met.ofW (cc := cX0_keptYear) (maxL := 4) (ret := (some .int)) (by decide) rfl ?_
  intro p e s m args below meth c s₁ Bd hml hv
  obtain ⟨rfl, hE, hR⟩ := hv
  have hx := Bd.exec
  have hb := Bd.bytes
  have hr := Bd.returns
  have hts := atoms_spec (ws := wX0_keptYear) Bd.pre
  have hown : s.vm.findClass RX0 = some m.cls := findClass_of_methodNamed Bd.named
  have hlocks := Bd.notSynchronized
  have hK := hE.K
  have hS : va_S (fun q => base ≤ q) s.heap s.heap [] := va_S.rf
  have hR : tR D vwCl base ad (tC (wP n ad cs) I L) s.heap := hR
  have hl := lv_entry ([.ref (ad b), .int (nI ch), .int (nI k), .int (nI d)]) (n := 4) (Nat.le_of_ble_eq_true rfl)
  rw [lg_entry_eq]
  generalize (lg_sl ([.ref (ad b), .int (nI ch), .int (nI k), .int (nI d)]) ++ List.replicate (4 - (lg_sl ([.ref (ad b), .int (nI ch), .int (nI k), .int (nI d)])).length) Slot.unset).toArray = ls at hl ⊢
  have hl : lv_has ls 4 [(0, .ref (ad b)), (1, .int (nI ch)), (2, .int (nI k)), (3, .int (nI d))] := hl
  refine lv_aload_n hx hb dX0_keptYear_0 rfl (lv_at hl 0 rfl) ?_
  refine tb_get hx hb hts (fun w h => List.mem_cons_of_mem _ (inX0 w h)) hown hK hR b (wP_b0 hB _ _) rfl 2 (by decide) (hts _ (List.mem_cons_of_mem _ k83)) (fun _ h => h) rfl dX0_keptYear_1 ?_
  refine lv_iload_n hx hb dX0_keptYear_4 rfl (lv_at hl 1 rfl) ?_
  refine tb_aald hx hb hK hR (b + 3) 2 (wP_b3 hB _ _) rfl ch rfl (by omega) (by omega) (if_pos (by omega)) dX0_keptYear_5 ?_
  refine lv_iload_n hx hb dX0_keptYear_6 rfl (lv_at hl 2 rfl) ?_
  refine lv_bipush (v := nI 8) hx hb dX0_keptYear_7 (by decide) ?_
  refine lv_imul hx hb dX0_keptYear_9 ?_
  rw [pk_mul]
  refine lv_iload_n hx hb dX0_keptYear_10 rfl (lv_at hl 3 rfl) ?_
  refine lv_iadd hx hb dX0_keptYear_11 ?_
  rw [nI_add]
  refine tp_iald hx hb hK hR (b + 8 + ch) 0 (fun _ _ => wP_b8 hB hn4 (by omega) _ _) rfl (k * 8 + d) rfl (by omega) (by decide) dX0_keptYear_12 ?_
  exact W.iret (v := I (b + 8 + ch) (k * 8 + d)) hx hb hr (fun t ht hW => ⟨⟨_, (I, L), rfl, ⟨rfl, rfl⟩, by show tR _ _ _ _ _ t.heap; rw [ht]; exact hR⟩, hS.F ht⟩) hS.2.2 dX0_keptYear_13
set_option maxHeartbeats 4000000 in
set_option maxRecDepth 100000 in
theorem lpX0_keepYears {p : Program} {e : Env} {R : Room} {s : State} {m : MethodId} {args : Array Value} {below : List Frame} {meth : Method} {c : Code} {cells slots : Nat} {Q : State → Prop} (S0 : CallFix p m c cX0_keepYears 2 s args wX0_keepYears RX0) (hE : eV D cs base sa s) (hRf : 1 ≤ R.frames) (hRl : 40 ≤ R.locals) (hRc : cells ≤ R.cells) (hRs : slots ≤ R.slots) (I : tI) (L : tL) (b kp : Nat) (hB : isB b) (hn4 : n ≤ 4) (hkp : I b 3 = nI kp) (hk60 : kp < 60)
    (kx : ∀ (H : Heap) (locs : List Loc) (ls : Array Slot), tR D vwCl base ad (tC (wP n ad cs) (gKY I b kp n) L) H → va_S (fun q => base ≤ q) s.heap H locs → lv_has ls 2 [(1, .int (nI n)), (0, .ref (ad b))] → W p l e R s m args below meth c H locs cells slots Q (F0 m 42 ls [])) :
    ∀ (k j : Nat) (H : Heap) (locs : List Loc) (ls : Array Slot), j ≤ n → n + 1 ≤ j + k → tR D vwCl base ad (tC (wP n ad cs) (gKY I b kp j) L) H → va_S (fun q => base ≤ q) s.heap H locs → lv_has ls 2 [(1, .int (nI j)), (0, .ref (ad b))] → W p l e R s m args below meth c H locs cells slots Q (F0 m 2 ls []) := by
  obtain ⟨hx, hb, hml, hown, hts⟩ := S0
  have hK := hE.K
  intro k
  induction k with
  | zero => intro j  H locs ls h1 h2; exact absurd h2 (by omega)
  | succ k ih =>
    intro j  H locs ls hj hk  hR hS hl
    refine lv_iload_n hx hb dX0_keepYears_2 rfl (lv_at hl 0 rfl) ?_
    refine lv_aload_n hx hb dX0_keepYears_3 rfl (lv_at hl 1 rfl) ?_
    refine tb_get hx hb hts (fun w h => List.mem_cons_of_mem _ (inX0 w h)) hown hK hR b (wP_b0 hB _ _) rfl 1 (by decide) (hts _ (List.mem_cons_of_mem _ k81)) (fun _ h => h) rfl dX0_keepYears_4 ?_
    refine tb_alen hx hb hK hR (b + 2) 1 (wP_b2 hB _ _) rfl (v := nI n) rfl dX0_keepYears_7 ?_
    refine lv_icmp_ge (tgt := 42) hx hb dX0_keepYears_8 (by decide) (fun c1 => ?_) (fun c1 => ?_)
    · have hjN : j = n := by have e9 := (nI_leI (by omega) (by omega)).mp c1; omega
      subst hjN
      exact kx  H locs ls  hR hS (lv_sub hl [0, 1] rfl)
    · have hjN : j < n := by
        rcases Nat.lt_or_ge j n with q | q
        · exact q
        · exact absurd (nI_le (by omega) (by omega)) c1
      refine lv_aload_n hx hb dX0_keepYears_11 rfl (lv_at hl 1 rfl) ?_
      refine tb_get hx hb hts (fun w h => List.mem_cons_of_mem _ (inX0 w h)) hown hK hR b (wP_b0 hB _ _) rfl 0 (by decide) (hts _ (List.mem_cons_of_mem _ k79)) (fun _ h => h) rfl dX0_keepYears_12 ?_
      refine lv_iload_n hx hb dX0_keepYears_15 rfl (lv_at hl 0 rfl) ?_
      refine tb_aald hx hb hK hR (b + 1) 2 (wP_b1 hB _ _) rfl j rfl (by omega) (by omega) (if_pos (by omega)) dX0_keepYears_16 ?_
      refine lv_iconst (v := nI 0) hx hb dX0_keepYears_17 (by decide) ?_
      refine lv_aload_n hx hb dX0_keepYears_18 rfl (lv_at hl 1 rfl) ?_
      refine tb_get hx hb hts (fun w h => List.mem_cons_of_mem _ (inX0 w h)) hown hK hR b (wP_b0 hB _ _) rfl 2 (by decide) (hts _ (List.mem_cons_of_mem _ k83)) (fun _ h => h) rfl dX0_keepYears_19 ?_
      refine lv_iload_n hx hb dX0_keepYears_22 rfl (lv_at hl 0 rfl) ?_
      refine tb_aald hx hb hK hR (b + 3) 2 (wP_b3 hB _ _) rfl j rfl (by omega) (by omega) (if_pos (by omega)) dX0_keepYears_23 ?_
      refine lv_aload_n hx hb dX0_keepYears_24 rfl (lv_at hl 1 rfl) ?_
      refine tb_get hx hb hts (fun w h => List.mem_cons_of_mem _ (inX0 w h)) hown hK hR b (wP_b0 hB _ _) rfl 3 (by decide) (hts _ (List.mem_cons_of_mem _ k84)) (fun _ h => h) rfl dX0_keepYears_25 ?_
      rw [show (gKY I b kp j) b 3 = nI kp from (by rw [gKY_lo _ (by omega)]; exact hkp)]
      refine lv_bipush (v := nI 8) hx hb dX0_keepYears_28 (by decide) ?_
      refine lv_imul hx hb dX0_keepYears_30 ?_
      rw [pk_mul]
      refine lv_bipush (v := nI 8) hx hb dX0_keepYears_31 (by decide) ?_
      refine tp_copyi hx hb (hml.trans hl.1.symm) hown (hts _ (List.mem_cons_of_mem _ k386)) (hts _ (List.mem_cons_of_mem _ k388)) (hts _ (List.mem_cons_of_mem _ k387)) (hts _ (List.mem_cons_of_mem _ k12)) hK hR hS (b + 4 + j) (b + 8 + j) 0 (fun _ _ => wP_b4 hB hn4 (by omega) _ _) (fun _ _ => wP_b8 hB hn4 (by omega) _ _) rfl 0 (kp * 8) 8 rfl rfl rfl (by omega) (by omega) (by decide) (by decide) (Nat.le_trans (Nat.le_of_ble_eq_true rfl) hRf) (Nat.le_trans (Nat.le_of_ble_eq_true rfl) hRl) dX0_keepYears_33 (fun H locs hR hS => ?_)
      rw [gKY_s _ (by omega)] at hR
      refine lv_iinc (v := nI (j + 1)) (lv' := [(1, .int (nI (j + 1))), (0, .ref (ad b))]) hx hb dX0_keepYears_36 hl (k := 0) rfl (nI_1 _) (by decide) rfl (fun ls hl => ?_)
      refine lv_goto (tgt := 2) hx hb dX0_keepYears_39 (by decide) ?_
      exact ih (j + 1)  H locs ls (by omega) (by omega)  hR hS (lv_sub hl [0, 1] rfl)
set_option maxHeartbeats 4000000 in
set_option maxRecDepth 100000 in
theorem mX0_keepYears (I : tI) (L : tL) (b kp : Nat) (hB : isB b) (hn4 : n ≤ 4) (hkp : I b 3 = nI kp) (hk60 : kp < 60) : Met l yX0_keepYears wX0_keepYears ({ frames := 1, cells := 0, slots := 0, locals := 40 }) (va_Pc [.ref (ad b)] (kB D cs base sa n ad I L)) (va_Qv (fun (u : tI × tL) => u = (gKeep I b kp n, L)) (kA D cs base n ad) (fun q => base ≤ q)) 0 0 (fun q => base ≤ q) := by
  refine Met.ofW (cc := cX0_keepYears) (maxL := 2) (ret := none) (by decide) rfl ?_
  intro p e s m args below meth c s₁ Bd hml hv
  obtain ⟨rfl, hE, hR⟩ := hv
  have hx := Bd.exec
  have hb := Bd.bytes
  have hr := Bd.returns
  have hts := atoms_spec (ws := wX0_keepYears) Bd.pre
  have hown : s.vm.findClass RX0 = some m.cls := findClass_of_methodNamed Bd.named
  have hlocks := Bd.notSynchronized
  have hK := hE.K
  have hS : va_S (fun q => base ≤ q) s.heap s.heap [] := va_S.rf
  have hR : tR D vwCl base ad (tC (wP n ad cs) I L) s.heap := hR
  have hl := lv_entry ([.ref (ad b)]) (n := 2) (Nat.le_of_ble_eq_true rfl)
  rw [lg_entry_eq]
  generalize (lg_sl ([.ref (ad b)]) ++ List.replicate (2 - (lg_sl ([.ref (ad b)])).length) Slot.unset).toArray = ls at hl ⊢
  have hl : lv_has ls 2 [(0, .ref (ad b))] := hl
  refine lv_iconst (v := 0) hx hb dX0_keepYears_0 (by decide) ?_
  rw [show (0 : Int32) = nI 0 from nI_0.symm]
  refine lv_istore_n (lv' := [(1, .int (nI 0)), (0, .ref (ad b))]) hx hb dX0_keepYears_1 rfl hl (by decide) rfl (fun ls hl => ?_)
  have hR : tR D vwCl base ad (tC (wP n ad cs) (gKY I b kp 0) L) s.heap := by rw [gKY_0]; exact hR
  refine lpX0_keepYears ⟨hx, hb, hml, hown, hts⟩ hE (Nat.le_of_ble_eq_true rfl) (Nat.le_of_ble_eq_true rfl) (Nat.le_of_ble_eq_true rfl) (Nat.le_of_ble_eq_true rfl) I L b kp hB hn4 hkp hk60 (fun H locs ls hR hS hl => ?_) (n + 1) 0 _ _ ls (Nat.zero_le _) (by omega) hR hS (lv_sub hl [0, 1] rfl)
  refine lv_aload_n hx hb dX0_keepYears_42 rfl (lv_at hl 1 rfl) ?_
  refine lv_dup hx hb dX0_keepYears_43 rfl ?_
  refine tb_get hx hb hts (fun w h => List.mem_cons_of_mem _ (inX0 w h)) hown hK hR b (wP_b0 hB _ _) rfl 3 (by decide) (hts _ (List.mem_cons_of_mem _ k84)) (fun _ h => h) rfl dX0_keepYears_44 ?_
  rw [show (gKY I b kp n) b 3 = nI kp from (by rw [gKY_lo _ (by omega)]; exact hkp)]
  refine lv_iconst (v := 1) hx hb dX0_keepYears_47 (by decide) ?_
  refine lv_iadd hx hb dX0_keepYears_48 ?_
  rw [nI_1]
  refine tp_put hx hb hts (fun w h => List.mem_cons_of_mem _ (inX0 w h)) tyX0 tyX0_ok nmX0 hown hK hR hS b (fun r => [.ref (ad (b + 1)), .ref (ad (b + 2)), .ref (ad (b + 3)), .int (r 3), .int (r 4)]) (fun _ _ => wP_b0 hB _ _) rfl 3 (by decide) (hts _ (List.mem_cons_of_mem _ k84)) (fun _ h => h) rfl (ty := .int) rfl rfl rfl (by simp) (fun _ => rfl) dX0_keepYears_49 (fun H locs hR hS => ?_)
  rw [gKY_lo I (show b < b + 8 by omega)] at hR
  exact W.vret hx hb hr (fun t ht hW => ⟨⟨(gKeep I b kp n, L), rfl, rfl, by show tR _ _ _ _ _ t.heap; rw [ht]; exact hR⟩, hS.F ht⟩) hS.2.2 dX0_keepYears_52
set_option maxHeartbeats 4000000 in
set_option maxRecDepth 100000 in
theorem lpX0_take {p : Program} {e : Env} {R : Room} {s : State} {m : MethodId} {args : Array Value} {below : List Frame} {meth : Method} {c : Code} {cells slots : Nat} {Q : State → Prop} (S0 : CallFix p m c cX0_take 3 s args wX0_take RX0) (hE : eV D cs base sa s) (hRf : 1 ≤ R.frames) (hRl : 40 ≤ R.locals) (hRc : cells ≤ R.cells) (hRs : slots ≤ R.slots) (I : tI) (L : tL) (b b2 kp : Nat) (hB : isB b) (hB2 : isB b2) (hne : b ≠ b2) (hn4 : n ≤ 4) (hkp : I b2 3 = nI kp) (hk60 : kp ≤ 60)
    (kx : ∀ (H : Heap) (locs : List Loc) (ls : Array Slot), tR D vwCl base ad (tC (wP n ad cs) (gTk I b b2 kp n) (gTl L b b2 n)) H → va_S (fun q => base ≤ q) s.heap H locs → lv_has ls 3 [(2, .int (nI n)), (0, .ref (ad b)), (1, .ref (ad b2))] → W p l e R s m args below meth c H locs cells slots Q (F0 m 72 ls [])) :
    ∀ (k j : Nat) (H : Heap) (locs : List Loc) (ls : Array Slot), j ≤ n → n + 1 ≤ j + k → tR D vwCl base ad (tC (wP n ad cs) (gTk I b b2 kp j) (gTl L b b2 j)) H → va_S (fun q => base ≤ q) s.heap H locs → lv_has ls 3 [(2, .int (nI j)), (0, .ref (ad b)), (1, .ref (ad b2))] → W p l e R s m args below meth c H locs cells slots Q (F0 m 2 ls []) := by
  obtain ⟨hx, hb, hml, hown, hts⟩ := S0
  have hK := hE.K
  intro k
  induction k with
  | zero => intro j  H locs ls h1 h2; exact absurd h2 (by omega)
  | succ k ih =>
    intro j  H locs ls hj hk  hR hS hl
    refine lv_iload_n hx hb dX0_take_2 rfl (lv_at hl 0 rfl) ?_
    refine lv_aload_n hx hb dX0_take_3 rfl (lv_at hl 1 rfl) ?_
    refine tb_get hx hb hts (fun w h => List.mem_cons_of_mem _ (inX0 w h)) hown hK hR b (wP_b0 hB _ _) rfl 1 (by decide) (hts _ (List.mem_cons_of_mem _ k81)) (fun _ h => h) rfl dX0_take_4 ?_
    refine tb_alen hx hb hK hR (b + 2) 1 (wP_b2 hB _ _) rfl (v := nI n) rfl dX0_take_7 ?_
    refine lv_icmp_ge (tgt := 72) hx hb dX0_take_8 (by decide) (fun c1 => ?_) (fun c1 => ?_)
    · have hjN : j = n := by have e9 := (nI_leI (by omega) (by omega)).mp c1; omega
      subst hjN
      exact kx  H locs ls  hR hS (lv_sub hl [0, 1, 2] rfl)
    · have hjN : j < n := by
        rcases Nat.lt_or_ge j n with q | q
        · exact q
        · exact absurd (nI_le (by omega) (by omega)) c1
      refine lv_aload_n hx hb dX0_take_11 rfl (lv_at hl 2 rfl) ?_
      refine tb_get hx hb hts (fun w h => List.mem_cons_of_mem _ (inX0 w h)) hown hK hR b2 (wP_b0 hB2 _ _) rfl 0 (by decide) (hts _ (List.mem_cons_of_mem _ k79)) (fun _ h => h) rfl dX0_take_12 ?_
      refine lv_iload_n hx hb dX0_take_15 rfl (lv_at hl 0 rfl) ?_
      refine tb_aald hx hb hK hR (b2 + 1) 2 (wP_b1 hB2 _ _) rfl j rfl (by omega) (by omega) (if_pos (by omega)) dX0_take_16 ?_
      refine lv_iconst (v := nI 0) hx hb dX0_take_17 (by decide) ?_
      refine lv_aload_n hx hb dX0_take_18 rfl (lv_at hl 1 rfl) ?_
      refine tb_get hx hb hts (fun w h => List.mem_cons_of_mem _ (inX0 w h)) hown hK hR b (wP_b0 hB _ _) rfl 0 (by decide) (hts _ (List.mem_cons_of_mem _ k79)) (fun _ h => h) rfl dX0_take_19 ?_
      refine lv_iload_n hx hb dX0_take_22 rfl (lv_at hl 0 rfl) ?_
      refine tb_aald hx hb hK hR (b + 1) 2 (wP_b1 hB _ _) rfl j rfl (by omega) (by omega) (if_pos (by omega)) dX0_take_23 ?_
      refine lv_iconst (v := nI 0) hx hb dX0_take_24 (by decide) ?_
      refine lv_bipush (v := nI 8) hx hb dX0_take_25 (by decide) ?_
      refine tp_copyi hx hb (hml.trans hl.1.symm) hown (hts _ (List.mem_cons_of_mem _ k386)) (hts _ (List.mem_cons_of_mem _ k388)) (hts _ (List.mem_cons_of_mem _ k387)) (hts _ (List.mem_cons_of_mem _ k12)) hK hR hS (b2 + 4 + j) (b + 4 + j) 0 (fun _ _ => wP_b4 hB2 hn4 (by omega) _ _) (fun _ _ => wP_b4 hB hn4 (by omega) _ _) rfl 0 0 8 rfl rfl rfl (by omega) (by omega) (by decide) (by decide) (Nat.le_trans (Nat.le_of_ble_eq_true rfl) hRf) (Nat.le_trans (Nat.le_of_ble_eq_true rfl) hRl) dX0_take_27 (fun H locs hR hS => ?_)
      refine lv_aload_n hx hb dX0_take_30 rfl (lv_at hl 2 rfl) ?_
      refine tb_get hx hb hts (fun w h => List.mem_cons_of_mem _ (inX0 w h)) hown hK hR b2 (wP_b0 hB2 _ _) rfl 2 (by decide) (hts _ (List.mem_cons_of_mem _ k83)) (fun _ h => h) rfl dX0_take_31 ?_
      refine lv_iload_n hx hb dX0_take_34 rfl (lv_at hl 0 rfl) ?_
      refine tb_aald hx hb hK hR (b2 + 3) 2 (wP_b3 hB2 _ _) rfl j rfl (by omega) (by omega) (if_pos (by omega)) dX0_take_35 ?_
      refine lv_iconst (v := nI 0) hx hb dX0_take_36 (by decide) ?_
      refine lv_aload_n hx hb dX0_take_37 rfl (lv_at hl 1 rfl) ?_
      refine tb_get hx hb hts (fun w h => List.mem_cons_of_mem _ (inX0 w h)) hown hK hR b (wP_b0 hB _ _) rfl 2 (by decide) (hts _ (List.mem_cons_of_mem _ k83)) (fun _ h => h) rfl dX0_take_38 ?_
      refine lv_iload_n hx hb dX0_take_41 rfl (lv_at hl 0 rfl) ?_
      refine tb_aald hx hb hK hR (b + 3) 2 (wP_b3 hB _ _) rfl j rfl (by omega) (by omega) (if_pos (by omega)) dX0_take_42 ?_
      refine lv_iconst (v := nI 0) hx hb dX0_take_43 (by decide) ?_
      refine lv_aload_n hx hb dX0_take_44 rfl (lv_at hl 2 rfl) ?_
      refine tb_get hx hb hts (fun w h => List.mem_cons_of_mem _ (inX0 w h)) hown hK hR b2 (wP_b0 hB2 _ _) rfl 3 (by decide) (hts _ (List.mem_cons_of_mem _ k84)) (fun _ h => h) rfl dX0_take_45 ?_
      rw [show (va_up (gTk I b b2 kp j) (b + 4 + j) (va_cpy ((gTk I b b2 kp j) (b2 + 4 + j)) ((gTk I b b2 kp j) (b + 4 + j)) 0 0 8)) b2 3 = nI kp from (by first | (rw [gTk_n _ (by unfold isB at hB hB2; omega) (by unfold isB at hB hB2; omega)]; exact hkp) | (rw [va_up_ne _ _ (by unfold isB at hB hB2; omega), gTk_n _ (by unfold isB at hB hB2; omega) (by unfold isB at hB hB2; omega)]; exact hkp))]
      refine lv_bipush (v := nI 8) hx hb dX0_take_48 (by decide) ?_
      refine lv_imul hx hb dX0_take_50 ?_
      rw [pk_mul]
      refine tp_copyi hx hb (hml.trans hl.1.symm) hown (hts _ (List.mem_cons_of_mem _ k386)) (hts _ (List.mem_cons_of_mem _ k388)) (hts _ (List.mem_cons_of_mem _ k387)) (hts _ (List.mem_cons_of_mem _ k12)) hK hR hS (b2 + 8 + j) (b + 8 + j) 0 (fun _ _ => wP_b8 hB2 hn4 (by omega) _ _) (fun _ _ => wP_b8 hB hn4 (by omega) _ _) rfl 0 0 (kp * 8) rfl rfl rfl (by omega) (by omega) (by decide) (by decide) (Nat.le_trans (Nat.le_of_ble_eq_true rfl) hRf) (Nat.le_trans (Nat.le_of_ble_eq_true rfl) hRl) dX0_take_51 (fun H locs hR hS => ?_)
      rw [gTk_s I hB hB2 hne (by omega)] at hR
      refine lv_aload_n hx hb dX0_take_54 rfl (lv_at hl 1 rfl) ?_
      refine tb_get hx hb hts (fun w h => List.mem_cons_of_mem _ (inX0 w h)) hown hK hR b (wP_b0 hB _ _) rfl 1 (by decide) (hts _ (List.mem_cons_of_mem _ k81)) (fun _ h => h) rfl dX0_take_55 ?_
      refine lv_iload_n hx hb dX0_take_58 rfl (lv_at hl 0 rfl) ?_
      refine lv_aload_n hx hb dX0_take_59 rfl (lv_at hl 2 rfl) ?_
      refine tb_get hx hb hts (fun w h => List.mem_cons_of_mem _ (inX0 w h)) hown hK hR b2 (wP_b0 hB2 _ _) rfl 1 (by decide) (hts _ (List.mem_cons_of_mem _ k81)) (fun _ h => h) rfl dX0_take_60 ?_
      refine lv_iload_n hx hb dX0_take_63 rfl (lv_at hl 0 rfl) ?_
      refine tp_lald hx hb hK hR (b2 + 2) 1 (fun _ _ => wP_b2 hB2 _ _) rfl j rfl (by omega) (by omega) dX0_take_64 ?_
      refine tp_last hx hb hK hR hS (b + 2) 1 (fun _ _ => wP_b2 hB _ _) rfl j rfl (by omega) (by omega) dX0_take_65 (fun H locs hR hS => ?_)
      rw [gTl_s L hB hB2 hne] at hR
      refine lv_iinc (v := nI (j + 1)) (lv' := [(2, .int (nI (j + 1))), (0, .ref (ad b)), (1, .ref (ad b2))]) hx hb dX0_take_66 hl (k := 0) rfl (nI_1 _) (by decide) rfl (fun ls hl => ?_)
      refine lv_goto (tgt := 2) hx hb dX0_take_69 (by decide) ?_
      exact ih (j + 1)  H locs ls (by omega) (by omega)  hR hS (lv_sub hl [0, 1, 2] rfl)
set_option maxHeartbeats 4000000 in
set_option maxRecDepth 100000 in
theorem mX0_take (I : tI) (L : tL) (b b2 kp : Nat) (hB : isB b) (hB2 : isB b2) (hne : b ≠ b2) (hn4 : n ≤ 4) (hkp : I b2 3 = nI kp) (hk60 : kp ≤ 60) : Met l yX0_take wX0_take ({ frames := 1, cells := 0, slots := 0, locals := 40 }) (va_Pc [.ref (ad b), .ref (ad b2)] (kB D cs base sa n ad I L)) (va_Qv (fun (u : tI × tL) => u = (gTake I b b2 kp n, gTl L b b2 n)) (kA D cs base n ad) (fun q => base ≤ q)) 0 0 (fun q => base ≤ q) := by
  refine Met.ofW (cc := cX0_take) (maxL := 3) (ret := none) (by decide) rfl ?_
  intro p e s m args below meth c s₁ Bd hml hv
  obtain ⟨rfl, hE, hR⟩ := hv
  have hx := Bd.exec
  have hb := Bd.bytes
  have hr := Bd.returns
  have hts := atoms_spec (ws := wX0_take) Bd.pre
  have hown : s.vm.findClass RX0 = some m.cls := findClass_of_methodNamed Bd.named
  have hlocks := Bd.notSynchronized
  have hK := hE.K
  have hS : va_S (fun q => base ≤ q) s.heap s.heap [] := va_S.rf
  have hR : tR D vwCl base ad (tC (wP n ad cs) I L) s.heap := hR
  have hl := lv_entry ([.ref (ad b), .ref (ad b2)]) (n := 3) (Nat.le_of_ble_eq_true rfl)
  rw [lg_entry_eq]
  generalize (lg_sl ([.ref (ad b), .ref (ad b2)]) ++ List.replicate (3 - (lg_sl ([.ref (ad b), .ref (ad b2)])).length) Slot.unset).toArray = ls at hl ⊢
  have hl : lv_has ls 3 [(0, .ref (ad b)), (1, .ref (ad b2))] := hl
  refine lv_iconst (v := 0) hx hb dX0_take_0 (by decide) ?_
  rw [show (0 : Int32) = nI 0 from nI_0.symm]
  refine lv_istore_n (lv' := [(2, .int (nI 0)), (0, .ref (ad b)), (1, .ref (ad b2))]) hx hb dX0_take_1 rfl hl (by decide) rfl (fun ls hl => ?_)
  have hR : tR D vwCl base ad (tC (wP n ad cs) (gTk I b b2 kp 0) (gTl L b b2 0)) s.heap := by rw [gTk_0, gTl_0]; exact hR
  refine lpX0_take ⟨hx, hb, hml, hown, hts⟩ hE (Nat.le_of_ble_eq_true rfl) (Nat.le_of_ble_eq_true rfl) (Nat.le_of_ble_eq_true rfl) (Nat.le_of_ble_eq_true rfl) I L b b2 kp hB hB2 hne hn4 hkp hk60 (fun H locs ls hR hS hl => ?_) (n + 1) 0 _ _ ls (Nat.zero_le _) (by omega) hR hS (lv_sub hl [0, 1, 2] rfl)
  refine lv_aload_n hx hb dX0_take_72 rfl (lv_at hl 1 rfl) ?_
  refine lv_aload_n hx hb dX0_take_73 rfl (lv_at hl 2 rfl) ?_
  refine tb_get hx hb hts (fun w h => List.mem_cons_of_mem _ (inX0 w h)) hown hK hR b2 (wP_b0 hB2 _ _) rfl 3 (by decide) (hts _ (List.mem_cons_of_mem _ k84)) (fun _ h => h) rfl dX0_take_74 ?_
  refine tp_put hx hb hts (fun w h => List.mem_cons_of_mem _ (inX0 w h)) tyX0 tyX0_ok nmX0 hown hK hR hS b (fun r => [.ref (ad (b + 1)), .ref (ad (b + 2)), .ref (ad (b + 3)), .int (r 3), .int (r 4)]) (fun _ _ => wP_b0 hB _ _) rfl 3 (by decide) (hts _ (List.mem_cons_of_mem _ k84)) (fun _ h => h) rfl (ty := .int) rfl rfl rfl (by simp) (fun _ => rfl) dX0_take_77 (fun H locs hR hS => ?_)
  refine lv_aload_n hx hb dX0_take_80 rfl (lv_at hl 1 rfl) ?_
  refine lv_aload_n hx hb dX0_take_81 rfl (lv_at hl 2 rfl) ?_
  refine tb_get hx hb hts (fun w h => List.mem_cons_of_mem _ (inX0 w h)) hown hK hR b2 (wP_b0 hB2 _ _) rfl 4 (by decide) (hts _ (List.mem_cons_of_mem _ k86)) (fun _ h => h) rfl dX0_take_82 ?_
  refine tp_put hx hb hts (fun w h => List.mem_cons_of_mem _ (inX0 w h)) tyX0 tyX0_ok nmX0 hown hK hR hS b (fun r => [.ref (ad (b + 1)), .ref (ad (b + 2)), .ref (ad (b + 3)), .int (r 3), .int (r 4)]) (fun _ _ => wP_b0 hB _ _) rfl 4 (by decide) (hts _ (List.mem_cons_of_mem _ k86)) (fun _ h => h) rfl (ty := .int) rfl rfl rfl (by simp) (fun _ => rfl) dX0_take_85 (fun H locs hR hS => ?_)
  have e1 : gTk I b b2 kp n b = I b := gTk_n I (by unfold isB at hB hB2; omega) (by unfold isB at hB hB2; omega)
  have e2 : gTk I b b2 kp n b2 = I b2 := gTk_n I (by unfold isB at hB hB2; omega) (by unfold isB at hB hB2; omega)
  rw [bx_uu, va_up_self, va_up_ne _ _ (Ne.symm hne), e1, e2] at hR
  exact W.vret hx hb hr (fun t ht hW => ⟨⟨(gTake I b b2 kp n, gTl L b b2 n), rfl, rfl, by show tR _ _ _ _ _ t.heap; rw [ht]; exact hR⟩, hS.F ht⟩) hS.2.2 dX0_take_88
end C6
