section C3
variable {l : Launch} {D : va_G} {cs : Nat → ClassId} {base : Nat} {sa : Nat → Nat} {n : Nat} {ad : Nat → Nat}
set_option maxHeartbeats 4000000 in
set_option maxRecDepth 100000 in
theorem lpX1_greatestWeight {p : Program} {e : Env} {R : Room} {s : State} {m : MethodId} {args : Array Value} {below : List Frame} {meth : Method} {c : Code} {cells slots : Nat} {Q : State → Prop} (S0 : CallFix p m c cX1_greatestWeight 4 s args wX1_greatestWeight RX1) (hE : eV D cs base sa s) (hRf : 1 ≤ R.frames) (hRl : 30 ≤ R.locals) (hRc : cells ≤ R.cells) (hRs : slots ≤ R.slots) (I : tI) (L : tL) {nd no : Nat} {f la : Nat → Nat} {ph : Nat → Int32} {w : Nat → Nat → Nat} {ea lt le mo : Nat → Nat} (d : Nat) (hSi : cSi I nd no f la ph w ea lt le mo) (hwf : wfS nd no f la w ea lt le mo) (hd : d < nd)
    (kx : ∀ (H : Heap) (locs : List Loc) (ls : Array Slot), f d ≤ la d + 1 → tR D vwCl base ad (tC (wP n ad cs) I L) H → va_S (fun q => base ≤ q) s.heap H locs → lv_has ls 4 [(3, .int (nI (la d + 1))), (2, .int (nI (sMx (fun q => w d (q - f d)) (f d) ((la d + 1) - f d)))), (0, .ref (ad 1)), (1, .int (nI d))] → W p l e R s m args below meth c H locs cells slots Q (F0 m 36 ls [])) :
    ∀ (k j : Nat) (H : Heap) (locs : List Loc) (ls : Array Slot), j ≤ la d + 1 → la d + 1 + 1 ≤ j + k → f d ≤ j → tR D vwCl base ad (tC (wP n ad cs) I L) H → va_S (fun q => base ≤ q) s.heap H locs → lv_has ls 4 [(3, .int (nI j)), (2, .int (nI (sMx (fun q => w d (q - f d)) (f d) (j - f d)))), (0, .ref (ad 1)), (1, .int (nI d))] → W p l e R s m args below meth c H locs cells slots Q (F0 m 9 ls []) := by
  obtain ⟨hx, hb, hml, hown, hts⟩ := S0
  have hK := hE.K
  obtain ⟨h_nd, h_no, h_d, h_o⟩ := id hwf
  obtain ⟨h_f, h_la, h_63, h_w⟩ := h_d d hd
  intro k
  induction k with
  | zero => intro j  H locs ls h1 h2; exact absurd h2 (by omega)
  | succ k ih =>
    intro j  H locs ls hj hk hlj hR hS hl
    refine lv_iload_n hx hb dX1_greatestWeight_9 rfl (lv_at hl 0 rfl) ?_
    refine lv_aload_n hx hb dX1_greatestWeight_10 rfl (lv_at hl 2 rfl) ?_
    refine tb_get hx hb hts (fun w h => List.mem_cons_of_mem _ (inX1 w h)) hown hK hR 1 rfl rfl 1 (by decide) (hts _ (List.mem_cons_of_mem _ k37)) (fun _ h => h) rfl dX1_greatestWeight_11 ?_
    refine lv_iload_n hx hb dX1_greatestWeight_14 rfl (lv_at hl 3 rfl) ?_
    refine tp_iald hx hb hK hR 3 0 (fun _ _ => rfl) rfl d rfl (by omega) (by decide) dX1_greatestWeight_15 ?_
    rw [show I 3 d = nI (la d) from (hSi.2.2.1 d (by omega)).2.1]
    refine lv_icmp_gt (tgt := 36) hx hb dX1_greatestWeight_16 (by decide) (fun c1 => ?_) (fun c1 => ?_)
    · have hjN : j = la d + 1 := by have e9 := (nI_ltI (by omega) (by omega)).mp c1; omega
      subst hjN
      exact kx  H locs ls hlj hR hS (lv_sub hl [0, 1, 2, 3] rfl)
    · have hjN : j < la d + 1 := by
        rcases Nat.lt_or_ge j (la d + 1) with q | q
        · exact q
        · exact absurd (nI_lt (by omega) (by omega)) c1
      have h_M : sMx (fun q => w d (q - f d)) (f d) (j - f d) ≤ 1000 := sMx_le (fun i hi9 => (h_w _ (by omega)).2)
      refine lv_iload_n hx hb dX1_greatestWeight_19 rfl (lv_at hl 1 rfl) ?_
      refine lv_aload_n hx hb dX1_greatestWeight_20 rfl (lv_at hl 2 rfl) ?_
      refine lv_iload_n hx hb dX1_greatestWeight_21 rfl (lv_at hl 3 rfl) ?_
      refine lv_iload_n hx hb dX1_greatestWeight_22 rfl (lv_at hl 0 rfl) ?_
      refine kc_i (va_runV (As := [.int (nI d), .int (nI j)]) (rest := [.int (nI (sMx (fun q => w d (q - f d)) (f d) (j - f d)))]) ⟨hx, hb, hml, hown, hts⟩ (mX1_weightOf I L d (j - f d) (nI j) (by omega) (by rw [show I 2 d = nI (f d) from (hSi.2.2.1 d hd).1, pk_sub (by omega)]) (by omega)) (cwV 2 hts (kw_V k292 k294 ks9 k3 k295) rfl rfl rfl (by decide +kernel) ⟨Nat.le_trans (Nat.le_of_ble_eq_true rfl) hRf, Nat.le_trans (Nat.le_of_ble_eq_true rfl) hRl⟩) (kB_preV hE hR hS 1 rfl rfl [.int (nI d), .int (nI j)]) rfl rfl hl.1 rfl (lv_room (Nat.le_of_ble_eq_true rfl)) dX1_greatestWeight_23 ⟨hRc, hRs⟩) hS (fun r u H locs hw hR hS => ?_)
      obtain ⟨rfl, rfl⟩ := hw
      have hR : tR D vwCl base ad (tC (wP n ad cs) I L) H := hR
      rw [show (I (10 + d) (j - f d)) = nI (w d (j - f d)) from (hSi.2.2.1 d hd).2.2.2 _ (by omega)]
      have h_wj := h_w (j - f d) (by omega)
      refine va_mmax hx hb (hml.trans hl.1.symm) hown (hts _ (List.mem_cons_of_mem _ k376)) (hts _ (List.mem_cons_of_mem _ k25)) (hts _ (List.mem_cons_of_mem _ k2)) (hts _ (List.mem_cons_of_mem _ k26)) (Nat.le_trans (Nat.le_of_ble_eq_true rfl) hRf) (Nat.le_trans (Nat.le_of_ble_eq_true rfl) hRl) hRc hRs dX1_greatestWeight_26 ?_
      rw [show (if nI (sMx (fun q => w d (q - f d)) (f d) (j - f d)) < nI (w d (j - f d)) then nI (w d (j - f d)) else nI (sMx (fun q => w d (q - f d)) (f d) (j - f d))) = nI (sMx (fun q => w d (q - f d)) (f d) (j + 1 - f d)) from by rw [mx_n (by omega) (by omega), sMx_succ hlj]]
      refine lv_istore_n (lv' := [(2, .int (nI (sMx (fun q => w d (q - f d)) (f d) (j + 1 - f d)))), (3, .int (nI j)), (0, .ref (ad 1)), (1, .int (nI d))]) hx hb dX1_greatestWeight_29 rfl hl (by decide) rfl (fun ls hl => ?_)
      refine lv_iinc (v := nI (j + 1)) (lv' := [(3, .int (nI (j + 1))), (2, .int (nI (sMx (fun q => w d (q - f d)) (f d) (j + 1 - f d)))), (0, .ref (ad 1)), (1, .int (nI d))]) hx hb dX1_greatestWeight_30 hl (k := 1) rfl (nI_1 _) (by decide) rfl (fun ls hl => ?_)
      refine lv_goto (tgt := 9) hx hb dX1_greatestWeight_33 (by decide) ?_
      exact ih (j + 1)  H locs ls (by omega) (by omega) (by omega) hR hS (lv_sub hl [0, 1, 2, 3] rfl)
set_option maxHeartbeats 4000000 in
set_option maxRecDepth 100000 in
theorem mX1_greatestWeight (I : tI) (L : tL) {nd no : Nat} {f la : Nat → Nat} {ph : Nat → Int32} {w : Nat → Nat → Nat} {ea lt le mo : Nat → Nat} (d : Nat) (hSi : cSi I nd no f la ph w ea lt le mo) (hwf : wfS nd no f la w ea lt le mo) (hd : d < nd) : Met l yX1_greatestWeight wX1_greatestWeight ({ frames := 1, cells := 0, slots := 0, locals := 30 }) (va_Pc [.ref (ad 1), .int (nI d)] (kB D cs base sa n ad I L)) (va_Qi (fun (r : Int32) (u : tI × tL) => r = nI (sMx (fun q => w d (q - f d)) (f d) (la d + 1 - f d)) ∧ u = (I, L)) (kA D cs base n ad) (fun q => base ≤ q)) 0 0 (fun q => base ≤ q) := by
  refine Met.ofW (cc := cX1_greatestWeight) (maxL := 4) (ret := (some .int)) (by decide) rfl ?_
  intro p e s m args below meth c s₁ B hml hv
  obtain ⟨rfl, hE, hR⟩ := hv
  have hx := B.exec
  have hb := B.bytes
  have hr := B.returns
  have hts := atoms_spec (ws := wX1_greatestWeight) B.pre
  have hown : s.vm.findClass RX1 = some m.cls := findClass_of_methodNamed B.named
  have hlocks := B.notSynchronized
  have hK := hE.K
  have hS : va_S (fun q => base ≤ q) s.heap s.heap [] := va_S.rf
  have hR : tR D vwCl base ad (tC (wP n ad cs) I L) s.heap := hR
  have hl := lv_entry ([.ref (ad 1), .int (nI d)]) (n := 4) (Nat.le_of_ble_eq_true rfl)
  rw [lg_entry_eq]
  generalize (lg_sl ([.ref (ad 1), .int (nI d)]) ++ List.replicate (4 - (lg_sl ([.ref (ad 1), .int (nI d)])).length) Slot.unset).toArray = ls at hl ⊢
  have hl : lv_has ls 4 [(0, .ref (ad 1)), (1, .int (nI d))] := hl
  obtain ⟨h_nd, h_no, h_d, h_o⟩ := id hwf
  obtain ⟨h_f, h_la, h_63, h_w⟩ := h_d d hd
  refine lv_iconst (v := 0) hx hb dX1_greatestWeight_0 (by decide) ?_
  rw [show (0 : Int32) = nI (sMx (fun q => w d (q - f d)) (f d) (f d - f d)) from by rw [Nat.sub_self]; rfl]
  refine lv_istore_n (lv' := [(2, .int (nI (sMx (fun q => w d (q - f d)) (f d) (f d - f d)))), (0, .ref (ad 1)), (1, .int (nI d))]) hx hb dX1_greatestWeight_1 rfl hl (by decide) rfl (fun ls hl => ?_)
  refine lv_aload_n hx hb dX1_greatestWeight_2 rfl (lv_at hl 1 rfl) ?_
  refine tb_get hx hb hts (fun w h => List.mem_cons_of_mem _ (inX1 w h)) hown hK hR 1 rfl rfl 0 (by decide) (hts _ (List.mem_cons_of_mem _ k35)) (fun _ h => h) rfl dX1_greatestWeight_3 ?_
  refine lv_iload_n hx hb dX1_greatestWeight_6 rfl (lv_at hl 2 rfl) ?_
  refine tp_iald hx hb hK hR 2 0 (fun _ _ => rfl) rfl d rfl (by omega) (by decide) dX1_greatestWeight_7 ?_
  rw [show I 2 d = nI (f d) from (hSi.2.2.1 d (by omega)).1]
  refine lv_istore_n (lv' := [(3, .int (nI (f d))), (2, .int (nI (sMx (fun q => w d (q - f d)) (f d) (f d - f d)))), (0, .ref (ad 1)), (1, .int (nI d))]) hx hb dX1_greatestWeight_8 rfl hl (by decide) rfl (fun ls hl => ?_)
  refine lpX1_greatestWeight ⟨hx, hb, hml, hown, hts⟩ hE (Nat.le_of_ble_eq_true rfl) (Nat.le_of_ble_eq_true rfl) (Nat.le_of_ble_eq_true rfl) (Nat.le_of_ble_eq_true rfl) I L d hSi hwf hd (fun H locs ls _ hR hS hl => ?_) (la d + 2 - f d) (f d) _ _ ls (by omega) (by omega) (Nat.le_refl _) hR hS (lv_sub hl [0, 1, 2, 3] rfl)
  refine lv_iload_n hx hb dX1_greatestWeight_36 rfl (lv_at hl 1 rfl) ?_
  exact W.iret (v := nI (sMx (fun q => w d (q - f d)) (f d) ((la d + 1) - f d))) hx hb hr (fun t ht hW => ⟨⟨_, (I, L), rfl, ⟨rfl, rfl⟩, by show tR _ _ _ _ _ t.heap; rw [ht]; exact hR⟩, hS.F ht⟩) hS.2.2 dX1_greatestWeight_37
set_option maxHeartbeats 4000000 in
set_option maxRecDepth 100000 in
theorem mX1_changeWeight (I : tI) (L : tL) (d j : Nat) (y x : Int32) (hd : d < 8) (hy : y - I 2 d = nI j) (hj : j < 64) : Met l yX1_changeWeight wX1_changeWeight ({ frames := 1, cells := 0, slots := 0, locals := 30 }) (va_Pc [.ref (ad 1), .int (nI d), .int y, .int x] (kB D cs base sa n ad I L)) (va_Qi (fun (r : Int32) (u : tI × tL) => r = I (10 + d) j ∧ u = (va_up I (10 + d) (upd (I (10 + d)) j x), L)) (kA D cs base n ad) (fun q => base ≤ q)) 0 0 (fun q => base ≤ q) := by
  refine Met.ofW (cc := cX1_changeWeight) (maxL := 5) (ret := (some .int)) (by decide) rfl ?_
  intro p e s m args below meth c s₁ B hml hv
  obtain ⟨rfl, hE, hR⟩ := hv
  have hx := B.exec
  have hb := B.bytes
  have hr := B.returns
  have hts := atoms_spec (ws := wX1_changeWeight) B.pre
  have hown : s.vm.findClass RX1 = some m.cls := findClass_of_methodNamed B.named
  have hlocks := B.notSynchronized
  have hK := hE.K
  have hS : va_S (fun q => base ≤ q) s.heap s.heap [] := va_S.rf
  have hR : tR D vwCl base ad (tC (wP n ad cs) I L) s.heap := hR
  have hl := lv_entry ([.ref (ad 1), .int (nI d), .int y, .int x]) (n := 5) (Nat.le_of_ble_eq_true rfl)
  rw [lg_entry_eq]
  generalize (lg_sl ([.ref (ad 1), .int (nI d), .int y, .int x]) ++ List.replicate (5 - (lg_sl ([.ref (ad 1), .int (nI d), .int y, .int x])).length) Slot.unset).toArray = ls at hl ⊢
  have hl : lv_has ls 5 [(0, .ref (ad 1)), (1, .int (nI d)), (2, .int y), (3, .int x)] := hl
  refine lv_aload_n hx hb dX1_changeWeight_0 rfl (lv_at hl 0 rfl) ?_
  refine lv_iload_n hx hb dX1_changeWeight_1 rfl (lv_at hl 1 rfl) ?_
  refine lv_iload_n hx hb dX1_changeWeight_2 rfl (lv_at hl 2 rfl) ?_
  refine kc_i (va_runV (As := [.int (nI d), .int y]) (rest := []) ⟨hx, hb, hml, hown, hts⟩ (mX1_weightOf I L d j y hd hy hj) (cwV 2 hts (kw_V k292 k294 ks9 k3 k295) rfl rfl rfl (by decide +kernel) ⟨Nat.le_of_ble_eq_true rfl, Nat.le_of_ble_eq_true rfl⟩) (kB_preV hE hR hS 1 rfl rfl [.int (nI d), .int y]) rfl rfl hl.1 rfl (lv_room (Nat.le_of_ble_eq_true rfl)) dX1_changeWeight_3 ⟨Nat.le_of_ble_eq_true rfl, Nat.le_of_ble_eq_true rfl⟩) hS (fun r u H locs hw hR hS => ?_)
  obtain ⟨rfl, rfl⟩ := hw
  have hR : tR D vwCl base ad (tC (wP n ad cs) I L) H := hR
  refine lv_istore (lv' := [(4, .int (I (10 + d) j)), (0, .ref (ad 1)), (1, .int (nI d)), (2, .int y), (3, .int x)]) hx hb dX1_changeWeight_6 hl (by decide) rfl (fun ls hl => ?_)
  refine lv_aload_n hx hb dX1_changeWeight_8 rfl (lv_at hl 1 rfl) ?_
  refine tb_get hx hb hts (fun w h => List.mem_cons_of_mem _ (inX1 w h)) hown hK hR 1 rfl rfl 3 (by decide) (hts _ (List.mem_cons_of_mem _ k41)) (fun _ h => h) rfl dX1_changeWeight_9 ?_
  refine lv_iload_n hx hb dX1_changeWeight_12 rfl (lv_at hl 2 rfl) ?_
  refine tb_aald hx hb hK hR 5 2 rfl rfl d rfl (by omega) (by decide) (if_pos (by omega)) dX1_changeWeight_13 ?_
  refine lv_iload_n hx hb dX1_changeWeight_14 rfl (lv_at hl 3 rfl) ?_
  refine lv_aload_n hx hb dX1_changeWeight_15 rfl (lv_at hl 1 rfl) ?_
  refine tb_get hx hb hts (fun w h => List.mem_cons_of_mem _ (inX1 w h)) hown hK hR 1 rfl rfl 0 (by decide) (hts _ (List.mem_cons_of_mem _ k35)) (fun _ h => h) rfl dX1_changeWeight_16 ?_
  refine lv_iload_n hx hb dX1_changeWeight_19 rfl (lv_at hl 2 rfl) ?_
  refine tp_iald hx hb hK hR 2 0 (fun _ _ => rfl) rfl d rfl (by omega) (by decide) dX1_changeWeight_20 ?_
  refine lv_isub hx hb dX1_changeWeight_21 ?_
  rw [hy]
  refine lv_iload_n hx hb dX1_changeWeight_22 rfl (lv_at hl 4 rfl) ?_
  refine tp_iast hx hb hK hR hS (10 + d) 0 (fun _ _ => wP_w (by omega) _ _) rfl j rfl (by omega) (by decide) dX1_changeWeight_23 (fun H locs hR hS => ?_)
  refine lv_iload hx hb dX1_changeWeight_24 (lv_at hl 0 rfl) ?_
  exact W.iret (v := I (10 + d) j) hx hb hr (fun t ht hW => ⟨⟨_, (va_up I (10 + d) (upd (I (10 + d)) j x), L), rfl, ⟨rfl, rfl⟩, by show tR _ _ _ _ _ t.heap; rw [ht]; exact hR⟩, hS.F ht⟩) hS.2.2 dX1_changeWeight_26
set_option maxHeartbeats 4000000 in
set_option maxRecDepth 100000 in
theorem mX1_addOrder (I : tI) (L : tL) (no : Nat) (p0 p1 p2 p3 : Int32) (hno : I 1 9 = nI no) (h24 : no < 24) : Met l yX1_addOrder wX1_addOrder ({ frames := 0, cells := 0, slots := 0, locals := 0 }) (va_Pc [.ref (ad 1), .int p0, .int p1, .int p2, .int p3] (kB D cs base sa n ad I L)) (va_Qi (fun (r : Int32) (u : tI × tL) => r = nI no ∧ u = (gAO I no p0 p1 p2 p3, L)) (kA D cs base n ad) (fun q => base ≤ q)) 0 0 (fun q => base ≤ q) := by
  refine Met.ofW (cc := cX1_addOrder) (maxL := 6) (ret := (some .int)) (by decide) rfl ?_
  intro p e s m args below meth c s₁ B hml hv
  obtain ⟨rfl, hE, hR⟩ := hv
  have hx := B.exec
  have hb := B.bytes
  have hr := B.returns
  have hts := atoms_spec (ws := wX1_addOrder) B.pre
  have hown : s.vm.findClass RX1 = some m.cls := findClass_of_methodNamed B.named
  have hlocks := B.notSynchronized
  have hK := hE.K
  have hS : va_S (fun q => base ≤ q) s.heap s.heap [] := va_S.rf
  have hR : tR D vwCl base ad (tC (wP n ad cs) I L) s.heap := hR
  have hl := lv_entry ([.ref (ad 1), .int p0, .int p1, .int p2, .int p3]) (n := 6) (Nat.le_of_ble_eq_true rfl)
  rw [lg_entry_eq]
  generalize (lg_sl ([.ref (ad 1), .int p0, .int p1, .int p2, .int p3]) ++ List.replicate (6 - (lg_sl ([.ref (ad 1), .int p0, .int p1, .int p2, .int p3])).length) Slot.unset).toArray = ls at hl ⊢
  have hl : lv_has ls 6 [(0, .ref (ad 1)), (1, .int p0), (2, .int p1), (3, .int p2), (4, .int p3)] := hl
  refine lv_aload_n hx hb dX1_addOrder_0 rfl (lv_at hl 0 rfl) ?_
  refine tb_get hx hb hts (fun w h => List.mem_cons_of_mem _ (inX1 w h)) hown hK hR 1 rfl rfl 9 (by decide) (hts _ (List.mem_cons_of_mem _ k48)) (fun _ h => h) rfl dX1_addOrder_1 ?_
  rw [show I 1 9 = nI no from hno]
  refine lv_istore (lv' := [(5, .int (nI no)), (0, .ref (ad 1)), (1, .int p0), (2, .int p1), (3, .int p2), (4, .int p3)]) hx hb dX1_addOrder_4 hl (by decide) rfl (fun ls hl => ?_)
  refine lv_aload_n hx hb dX1_addOrder_6 rfl (lv_at hl 1 rfl) ?_
  refine tb_get hx hb hts (fun w h => List.mem_cons_of_mem _ (inX1 w h)) hown hK hR 1 rfl rfl 4 (by decide) (hts _ (List.mem_cons_of_mem _ k42)) (fun _ h => h) rfl dX1_addOrder_7 ?_
  refine lv_iload hx hb dX1_addOrder_10 (lv_at hl 0 rfl) ?_
  refine lv_iload_n hx hb dX1_addOrder_12 rfl (lv_at hl 2 rfl) ?_
  refine tp_iast hx hb hK hR hS 6 0 (fun _ _ => rfl) rfl no rfl (by omega) (by decide) dX1_addOrder_13 (fun H locs hR hS => ?_)
  refine lv_aload_n hx hb dX1_addOrder_14 rfl (lv_at hl 1 rfl) ?_
  refine tb_get hx hb hts (fun w h => List.mem_cons_of_mem _ (inX1 w h)) hown hK hR 1 rfl rfl 5 (by decide) (hts _ (List.mem_cons_of_mem _ k43)) (fun _ h => h) rfl dX1_addOrder_15 ?_
  refine lv_iload hx hb dX1_addOrder_18 (lv_at hl 0 rfl) ?_
  refine lv_iload_n hx hb dX1_addOrder_20 rfl (lv_at hl 3 rfl) ?_
  refine tp_iast hx hb hK hR hS 7 0 (fun _ _ => rfl) rfl no rfl (by omega) (by decide) dX1_addOrder_21 (fun H locs hR hS => ?_)
  refine lv_aload_n hx hb dX1_addOrder_22 rfl (lv_at hl 1 rfl) ?_
  refine tb_get hx hb hts (fun w h => List.mem_cons_of_mem _ (inX1 w h)) hown hK hR 1 rfl rfl 6 (by decide) (hts _ (List.mem_cons_of_mem _ k44)) (fun _ h => h) rfl dX1_addOrder_23 ?_
  refine lv_iload hx hb dX1_addOrder_26 (lv_at hl 0 rfl) ?_
  refine lv_iload_n hx hb dX1_addOrder_28 rfl (lv_at hl 4 rfl) ?_
  refine tp_iast hx hb hK hR hS 8 0 (fun _ _ => rfl) rfl no rfl (by omega) (by decide) dX1_addOrder_29 (fun H locs hR hS => ?_)
  refine lv_aload_n hx hb dX1_addOrder_30 rfl (lv_at hl 1 rfl) ?_
  refine tb_get hx hb hts (fun w h => List.mem_cons_of_mem _ (inX1 w h)) hown hK hR 1 rfl rfl 7 (by decide) (hts _ (List.mem_cons_of_mem _ k45)) (fun _ h => h) rfl dX1_addOrder_31 ?_
  refine lv_iload hx hb dX1_addOrder_34 (lv_at hl 0 rfl) ?_
  refine lv_iload hx hb dX1_addOrder_36 (lv_at hl 5 rfl) ?_
  refine tp_iast hx hb hK hR hS 9 0 (fun _ _ => rfl) rfl no rfl (by omega) (by decide) dX1_addOrder_38 (fun H locs hR hS => ?_)
  refine lv_aload_n hx hb dX1_addOrder_39 rfl (lv_at hl 1 rfl) ?_
  refine lv_dup hx hb dX1_addOrder_40 rfl ?_
  refine tb_get hx hb hts (fun w h => List.mem_cons_of_mem _ (inX1 w h)) hown hK hR 1 rfl rfl 9 (by decide) (hts _ (List.mem_cons_of_mem _ k48)) (fun _ h => h) rfl dX1_addOrder_41 ?_
  rw [show (va_up (va_up (va_up (va_up I 6 (upd (I 6) no p0)) 7 (upd ((va_up I 6 (upd (I 6) no p0)) 7) no p1)) 8 (upd ((va_up (va_up I 6 (upd (I 6) no p0)) 7 (upd ((va_up I 6 (upd (I 6) no p0)) 7) no p1)) 8) no p2)) 9 (upd ((va_up (va_up (va_up I 6 (upd (I 6) no p0)) 7 (upd ((va_up I 6 (upd (I 6) no p0)) 7) no p1)) 8 (upd ((va_up (va_up I 6 (upd (I 6) no p0)) 7 (upd ((va_up I 6 (upd (I 6) no p0)) 7) no p1)) 8) no p2)) 9) no p3)) 1 9 = nI no from hno]
  refine lv_iconst (v := 1) hx hb dX1_addOrder_44 (by decide) ?_
  refine lv_iadd hx hb dX1_addOrder_45 ?_
  rw [nI_1]
  refine tp_put hx hb hts (fun w h => List.mem_cons_of_mem _ (inX1 w h)) tyX1 tyX1_ok nmX1 hown hK hR hS 1 (fun r => [.ref (ad 2), .ref (ad 3), .ref (ad 4), .ref (ad 5), .ref (ad 6), .ref (ad 7), .ref (ad 8), .ref (ad 9), .int (r 8), .int (r 9)]) (fun _ _ => rfl) rfl 9 (by decide) (hts _ (List.mem_cons_of_mem _ k48)) (fun _ h => h) rfl (ty := .int) rfl rfl rfl (by simp) (fun _ => rfl) dX1_addOrder_46 (fun H locs hR hS => ?_)
  refine lv_iload hx hb dX1_addOrder_49 (lv_at hl 0 rfl) ?_
  exact W.iret (v := nI no) hx hb hr (fun t ht hW => ⟨⟨_, (gAO I no p0 p1 p2 p3, L), rfl, ⟨rfl, rfl⟩, by show tR _ _ _ _ _ t.heap; rw [ht]; exact hR⟩, hS.F ht⟩) hS.2.2 dX1_addOrder_51
set_option maxHeartbeats 4000000 in
set_option maxRecDepth 100000 in
theorem lpX1_addDate {p : Program} {e : Env} {R : Room} {s : State} {m : MethodId} {args : Array Value} {below : List Frame} {meth : Method} {c : Code} {cells slots : Nat} {Q : State → Prop} (S0 : CallFix p m c cX1_addDate 5 s args wX1_addDate RX1) (hE : eV D cs base sa s) (hRf : 0 ≤ R.frames) (hRl : 0 ≤ R.locals) (hRc : cells ≤ R.cells) (hRs : slots ≤ R.slots) (I : tI) (L : tL) (nd : Nat) (h8 : nd < 8)
    (kx : ∀ (H : Heap) (locs : List Loc) (ls : Array Slot), tR D vwCl base ad (tC (wP n ad cs) (va_up I (10 + nd) (rOn (I (10 + nd)) 64)) L) H → va_S (fun q => base ≤ q) s.heap H locs → lv_has ls 5 [(4, .int (nI 64)), (3, .int (nI nd)), (0, .ref (ad 1))] → W p l e R s m args below meth c H locs cells slots Q (F0 m 52 ls [])) :
    ∀ (k j : Nat) (H : Heap) (locs : List Loc) (ls : Array Slot), j ≤ 64 → 64 + 1 ≤ j + k → tR D vwCl base ad (tC (wP n ad cs) (va_up I (10 + nd) (rOn (I (10 + nd)) j)) L) H → va_S (fun q => base ≤ q) s.heap H locs → lv_has ls 5 [(4, .int (nI j)), (3, .int (nI nd)), (0, .ref (ad 1))] → W p l e R s m args below meth c H locs cells slots Q (F0 m 29 ls []) := by
  obtain ⟨hx, hb, hml, hown, hts⟩ := S0
  have hK := hE.K
  intro k
  induction k with
  | zero => intro j  H locs ls h1 h2; exact absurd h2 (by omega)
  | succ k ih =>
    intro j  H locs ls hj hk  hR hS hl
    refine lv_iload hx hb dX1_addDate_29 (lv_at hl 0 rfl) ?_
    refine lv_bipush (v := nI 63) hx hb dX1_addDate_31 (by decide) ?_
    refine lv_icmp_gt (tgt := 52) hx hb dX1_addDate_33 (by decide) (fun c1 => ?_) (fun c1 => ?_)
    · have hjN : j = 64 := by have e9 := (nI_ltI (by omega) (by omega)).mp c1; omega
      subst hjN
      exact kx  H locs ls  hR hS (lv_sub hl [0, 1, 2] rfl)
    · have hjN : j < 64 := by
        rcases Nat.lt_or_ge j 64 with q | q
        · exact q
        · exact absurd (nI_lt (by omega) (by omega)) c1
      refine lv_aload_n hx hb dX1_addDate_36 rfl (lv_at hl 2 rfl) ?_
      refine tb_get hx hb hts (fun w h => List.mem_cons_of_mem _ (inX1 w h)) hown hK hR 1 rfl rfl 3 (by decide) (hts _ (List.mem_cons_of_mem _ k41)) (fun _ h => h) rfl dX1_addDate_37 ?_
      refine lv_iload_n hx hb dX1_addDate_40 rfl (lv_at hl 1 rfl) ?_
      refine tb_aald hx hb hK hR 5 2 rfl rfl nd rfl (by omega) (by decide) (if_pos (by omega)) dX1_addDate_41 ?_
      refine lv_iload hx hb dX1_addDate_42 (lv_at hl 0 rfl) ?_
      refine lv_iconst (v := 1) hx hb dX1_addDate_44 (by decide) ?_
      refine tp_iast hx hb hK hR hS (10 + nd) 0 (fun _ _ => wP_w (by omega) _ _) rfl j rfl (by omega) (by decide) dX1_addDate_45 (fun H locs hR hS => ?_)
      rw [bx_uu, va_up_self, rOn_s] at hR
      refine lv_iinc (v := nI (j + 1)) (lv' := [(4, .int (nI (j + 1))), (3, .int (nI nd)), (0, .ref (ad 1))]) hx hb dX1_addDate_46 hl (k := 0) rfl (nI_1 _) (by decide) rfl (fun ls hl => ?_)
      refine lv_goto (tgt := 29) hx hb dX1_addDate_49 (by decide) ?_
      exact ih (j + 1)  H locs ls (by omega) (by omega)  hR hS (lv_sub hl [0, 1, 2] rfl)
set_option maxHeartbeats 4000000 in
set_option maxRecDepth 100000 in
theorem mX1_addDate (I : tI) (L : tL) (nd : Nat) (p0 p1 : Int32) (hnd : I 1 8 = nI nd) (h8 : nd < 8) : Met l yX1_addDate wX1_addDate ({ frames := 0, cells := 0, slots := 0, locals := 0 }) (va_Pc [.ref (ad 1), .int p0, .int p1] (kB D cs base sa n ad I L)) (va_Qi (fun (r : Int32) (u : tI × tL) => r = nI nd ∧ u = (gAD I nd p0 p1, L)) (kA D cs base n ad) (fun q => base ≤ q)) 0 0 (fun q => base ≤ q) := by
  refine Met.ofW (cc := cX1_addDate) (maxL := 5) (ret := (some .int)) (by decide) rfl ?_
  intro p e s m args below meth c s₁ B hml hv
  obtain ⟨rfl, hE, hR⟩ := hv
  have hx := B.exec
  have hb := B.bytes
  have hr := B.returns
  have hts := atoms_spec (ws := wX1_addDate) B.pre
  have hown : s.vm.findClass RX1 = some m.cls := findClass_of_methodNamed B.named
  have hlocks := B.notSynchronized
  have hK := hE.K
  have hS : va_S (fun q => base ≤ q) s.heap s.heap [] := va_S.rf
  have hR : tR D vwCl base ad (tC (wP n ad cs) I L) s.heap := hR
  have hl := lv_entry ([.ref (ad 1), .int p0, .int p1]) (n := 5) (Nat.le_of_ble_eq_true rfl)
  rw [lg_entry_eq]
  generalize (lg_sl ([.ref (ad 1), .int p0, .int p1]) ++ List.replicate (5 - (lg_sl ([.ref (ad 1), .int p0, .int p1])).length) Slot.unset).toArray = ls at hl ⊢
  have hl : lv_has ls 5 [(0, .ref (ad 1)), (1, .int p0), (2, .int p1)] := hl
  refine lv_aload_n hx hb dX1_addDate_0 rfl (lv_at hl 0 rfl) ?_
  refine tb_get hx hb hts (fun w h => List.mem_cons_of_mem _ (inX1 w h)) hown hK hR 1 rfl rfl 8 (by decide) (hts _ (List.mem_cons_of_mem _ k46)) (fun _ h => h) rfl dX1_addDate_1 ?_
  rw [show I 1 8 = nI nd from (by first | exact hnd | (rw [va_up_ne _ _ (show 1 ≠ 10 + nd by omega)]; exact hnd))]
  refine lv_istore_n (lv' := [(3, .int (nI nd)), (0, .ref (ad 1)), (1, .int p0), (2, .int p1)]) hx hb dX1_addDate_4 rfl hl (by decide) rfl (fun ls hl => ?_)
  refine lv_aload_n hx hb dX1_addDate_5 rfl (lv_at hl 1 rfl) ?_
  refine tb_get hx hb hts (fun w h => List.mem_cons_of_mem _ (inX1 w h)) hown hK hR 1 rfl rfl 0 (by decide) (hts _ (List.mem_cons_of_mem _ k35)) (fun _ h => h) rfl dX1_addDate_6 ?_
  refine lv_iload_n hx hb dX1_addDate_9 rfl (lv_at hl 0 rfl) ?_
  refine lv_iload_n hx hb dX1_addDate_10 rfl (lv_at hl 2 rfl) ?_
  refine tp_iast hx hb hK hR hS 2 0 (fun _ _ => rfl) rfl nd rfl (by omega) (by decide) dX1_addDate_11 (fun H locs hR hS => ?_)
  refine lv_aload_n hx hb dX1_addDate_12 rfl (lv_at hl 1 rfl) ?_
  refine tb_get hx hb hts (fun w h => List.mem_cons_of_mem _ (inX1 w h)) hown hK hR 1 rfl rfl 1 (by decide) (hts _ (List.mem_cons_of_mem _ k37)) (fun _ h => h) rfl dX1_addDate_13 ?_
  refine lv_iload_n hx hb dX1_addDate_16 rfl (lv_at hl 0 rfl) ?_
  refine lv_iload_n hx hb dX1_addDate_17 rfl (lv_at hl 3 rfl) ?_
  refine tp_iast hx hb hK hR hS 3 0 (fun _ _ => rfl) rfl nd rfl (by omega) (by decide) dX1_addDate_18 (fun H locs hR hS => ?_)
  refine lv_aload_n hx hb dX1_addDate_19 rfl (lv_at hl 1 rfl) ?_
  refine tb_get hx hb hts (fun w h => List.mem_cons_of_mem _ (inX1 w h)) hown hK hR 1 rfl rfl 2 (by decide) (hts _ (List.mem_cons_of_mem _ k39)) (fun _ h => h) rfl dX1_addDate_20 ?_
  refine lv_iload_n hx hb dX1_addDate_23 rfl (lv_at hl 0 rfl) ?_
  refine lv_iconst (v := -1) hx hb dX1_addDate_24 (by decide) ?_
  refine tp_iast hx hb hK hR hS 4 0 (fun _ _ => rfl) rfl nd rfl (by omega) (by decide) dX1_addDate_25 (fun H locs hR hS => ?_)
  refine lv_iconst (v := 0) hx hb dX1_addDate_26 (by decide) ?_
  rw [show (0 : Int32) = nI 0 from nI_0.symm]
  refine lv_istore (lv' := [(4, .int (nI 0)), (3, .int (nI nd)), (0, .ref (ad 1)), (1, .int p0), (2, .int p1)]) hx hb dX1_addDate_27 hl (by decide) rfl (fun ls hl => ?_)
  have hR : tR D vwCl base ad (tC (wP n ad cs) (va_up (va_up (va_up (va_up I 2 (upd (I 2) nd p0)) 3 (upd (I 3) nd p1)) 4 (upd (I 4) nd (-1))) (10 + nd) (rOn ((va_up (va_up (va_up I 2 (upd (I 2) nd p0)) 3 (upd (I 3) nd p1)) 4 (upd (I 4) nd (-1))) (10 + nd)) 0)) L) H := by rw [rOn_0, va_up_id]; exact hR
  refine lpX1_addDate ⟨hx, hb, hml, hown, hts⟩ hE (Nat.zero_le _) (Nat.zero_le _) (Nat.le_of_ble_eq_true rfl) (Nat.le_of_ble_eq_true rfl) (va_up (va_up (va_up I 2 (upd (I 2) nd p0)) 3 (upd (I 3) nd p1)) 4 (upd (I 4) nd (-1))) L nd h8 (fun H locs ls hR hS hl => ?_) 65 0 _ _ ls (by omega) (by omega) hR hS (lv_sub hl [0, 1, 2] rfl)
  refine lv_aload_n hx hb dX1_addDate_52 rfl (lv_at hl 2 rfl) ?_
  refine lv_dup hx hb dX1_addDate_53 rfl ?_
  refine tb_get hx hb hts (fun w h => List.mem_cons_of_mem _ (inX1 w h)) hown hK hR 1 rfl rfl 8 (by decide) (hts _ (List.mem_cons_of_mem _ k46)) (fun _ h => h) rfl dX1_addDate_54 ?_
  rw [show (va_up (va_up (va_up (va_up I 2 (upd (I 2) nd p0)) 3 (upd (I 3) nd p1)) 4 (upd (I 4) nd (-1))) (10 + nd) (rOn ((va_up (va_up (va_up I 2 (upd (I 2) nd p0)) 3 (upd (I 3) nd p1)) 4 (upd (I 4) nd (-1))) (10 + nd)) 64)) 1 8 = nI nd from (by first | exact hnd | (rw [va_up_ne _ _ (show 1 ≠ 10 + nd by omega)]; exact hnd))]
  refine lv_iconst (v := 1) hx hb dX1_addDate_57 (by decide) ?_
  refine lv_iadd hx hb dX1_addDate_58 ?_
  rw [nI_1]
  refine tp_put hx hb hts (fun w h => List.mem_cons_of_mem _ (inX1 w h)) tyX1 tyX1_ok nmX1 hown hK hR hS 1 (fun r => [.ref (ad 2), .ref (ad 3), .ref (ad 4), .ref (ad 5), .ref (ad 6), .ref (ad 7), .ref (ad 8), .ref (ad 9), .int (r 8), .int (r 9)]) (fun _ _ => rfl) rfl 8 (by decide) (hts _ (List.mem_cons_of_mem _ k46)) (fun _ h => h) rfl (ty := .int) rfl rfl rfl (by simp) (fun _ => rfl) dX1_addDate_59 (fun H locs hR hS => ?_)
  refine lv_iload_n hx hb dX1_addDate_62 rfl (lv_at hl 1 rfl) ?_
  have hR : tR D vwCl base ad (tC (wP n ad cs) (gAD I nd p0 p1) L) H := by
    have e1 : (va_up (va_up (va_up I 2 (upd (I 2) nd p0)) 3 (upd (I 3) nd p1)) 4 (upd (I 4) nd (-1))) (10 + nd) = I (10 + nd) := by rw [va_up_ne _ _ (show 10 + nd ≠ 4 by omega), va_up_ne _ _ (show 10 + nd ≠ 3 by omega), va_up_ne _ _ (show 10 + nd ≠ 2 by omega)]
    have e2 : (va_up (va_up (va_up (va_up I 2 (upd (I 2) nd p0)) 3 (upd (I 3) nd p1)) 4 (upd (I 4) nd (-1))) (10 + nd) (rOn ((va_up (va_up (va_up I 2 (upd (I 2) nd p0)) 3 (upd (I 3) nd p1)) 4 (upd (I 4) nd (-1))) (10 + nd)) 64)) 1 = I 1 := by rw [va_up_ne _ _ (show 1 ≠ 10 + nd by omega)]; rfl
    rw [e2, e1] at hR
    exact hR
  exact W.iret (v := nI nd) hx hb hr (fun t ht hW => ⟨⟨_, (gAD I nd p0 p1, L), rfl, ⟨rfl, rfl⟩, by show tR _ _ _ _ _ t.heap; rw [ht]; exact hR⟩, hS.F ht⟩) hS.2.2 dX1_addDate_63
end C3
