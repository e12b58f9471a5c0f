section C10
variable {l : Launch} {D : va_G} {cs : Nat → ClassId} {base : Nat} {sa : Nat → Nat} {n : Nat} {ad : Nat → Nat}
set_option maxHeartbeats 4000000 in
set_option maxRecDepth 100000 in
theorem lpX2_sumOfYears {p : Program} {e : Env} {R : Room} {s : State} {m : MethodId} {args : Array Value} {below : List Frame} {meth : Method} {c : Code} {cells slots : Nat} {Q : State → Prop} (S0 : CallFix p m c cX2_sumOfYears 5 s args wX2_sumOfYears RX2) (hE : eV D cs base sa s) (hRf : 1 ≤ R.frames) (hRl : 40 ≤ R.locals) (hRc : cells ≤ R.cells) (hRs : slots ≤ R.slots) (I : tI) (L : tL) {nd : Nat} {Y : Nat → Nat → Nat} {st : Nat → Int64} {Rw : Nat → Nat → Nat → Nat} {kp sp : Nat} (ch d : Nat) (hCo : cCo I L n nd 20 Y st Rw kp sp) (hn4 : n ≤ 4) (hch : ch < n) (hd : d < nd) (h8 : nd ≤ 8) (hk60 : kp ≤ 60)
    (kx : ∀ (H : Heap) (locs : List Loc) (ls : Array Slot), tR D vwCl base ad (tC (wP n ad cs) I L) H → va_S (fun q => base ≤ q) s.heap H locs → lv_has ls 5 [(4, .int (nI kp)), (3, .int (nI (sS (fun k => Rw ch k d) kp))), (0, .ref (ad 0)), (1, .int (nI ch)), (2, .int (nI d))] → W p l e R s m args below meth c H locs cells slots Q (F0 m 37 ls [])) :
    ∀ (k j : Nat) (H : Heap) (locs : List Loc) (ls : Array Slot), j ≤ kp → kp + 1 ≤ j + k → tR D vwCl base ad (tC (wP n ad cs) I L) H → va_S (fun q => base ≤ q) s.heap H locs → lv_has ls 5 [(4, .int (nI j)), (3, .int (nI (sS (fun k => Rw ch k d) j))), (0, .ref (ad 0)), (1, .int (nI ch)), (2, .int (nI d))] → W p l e R s m args below meth c H locs cells slots Q (F0 m 5 ls []) := by
  obtain ⟨hx, hb, hml, hown, hts⟩ := S0
  have hK := hE.K
  intro k
  induction k with
  | zero => intro j  H locs ls h1 h2; exact absurd h2 (by omega)
  | succ k ih =>
    intro j  H locs ls hj hk  hR hS hl
    refine lv_iload hx hb dX2_sumOfYears_5 (lv_at hl 0 rfl) ?_
    refine lv_aload_n hx hb dX2_sumOfYears_7 rfl (lv_at hl 2 rfl) ?_
    refine tb_get hx hb hts (fun w h => List.mem_cons_of_mem _ (inX2 w h)) hown hK hR 0 rfl rfl 3 (by decide) (hts _ (List.mem_cons_of_mem _ k104)) (fun _ h => h) rfl dX2_sumOfYears_8 ?_
    refine tb_getN hx hb hts (fun w h => List.mem_cons_of_mem _ (inX0 w h)) hown hK hR 20 rfl rfl 3 (by decide) (va_Nw.use rfl (hE.2.1 (117, "SeedChains$Course", "kept", "I") (by decide))) (fun _ h => h) rfl dX2_sumOfYears_11 ?_
    rw [show I 20 3 = nI kp from hCo.1]
    refine lv_icmp_ge (tgt := 37) hx hb dX2_sumOfYears_14 (by decide) (fun c1 => ?_) (fun c1 => ?_)
    · have hjN : j = kp := by have e9 := (nI_leI (by omega) (by omega)).mp c1; omega
      subst hjN
      exact kx  H locs ls  hR hS (lv_sub hl [0, 1, 2, 3, 4] rfl)
    · have hjN : j < kp := by
        rcases Nat.lt_or_ge j kp with q | q
        · exact q
        · exact absurd (nI_le (by omega) (by omega)) c1
      refine lv_iload_n hx hb dX2_sumOfYears_17 rfl (lv_at hl 1 rfl) ?_
      refine lv_aload_n hx hb dX2_sumOfYears_18 rfl (lv_at hl 2 rfl) ?_
      refine tb_get hx hb hts (fun w h => List.mem_cons_of_mem _ (inX2 w h)) hown hK hR 0 rfl rfl 3 (by decide) (hts _ (List.mem_cons_of_mem _ k104)) (fun _ h => h) rfl dX2_sumOfYears_19 ?_
      refine lv_iload_n hx hb dX2_sumOfYears_22 rfl (lv_at hl 3 rfl) ?_
      refine lv_iload hx hb dX2_sumOfYears_23 (lv_at hl 0 rfl) ?_
      refine lv_iload_n hx hb dX2_sumOfYears_25 rfl (lv_at hl 4 rfl) ?_
      refine kc_i (va_runVN (As := [.int (nI ch), .int (nI j), .int (nI d)]) (rest := [.int (nI (sS (fun k => Rw ch k d) j))]) ⟨hx, hb, hml, hown, hts⟩ (mX0_keptYear I L 20 ch j d (Or.inl rfl) (by omega) (by omega) (by omega)) ⟨va_cnB 3 hts (kw_N k401) rfl rfl rfl (hE.2.2.1 (157, yX0_keptYear) (by decide)) (hts _ (List.mem_cons_of_mem _ k4)) (by decide +kernel) ⟨Nat.le_trans (Nat.le_of_ble_eq_true rfl) hRf, Nat.le_trans (Nat.le_of_ble_eq_true rfl) hRl⟩, hts _ (List.mem_cons_of_mem _ k400), hts _ (List.mem_cons_of_mem _ ks20)⟩ (kB_preV hE hR hS 20 rfl rfl [.int (nI ch), .int (nI j), .int (nI d)]) rfl rfl hl.1 rfl (lv_room (Nat.le_of_ble_eq_true rfl)) dX2_sumOfYears_26 ⟨hRc, hRs⟩) hS (fun r u H locs hw hR hS => ?_)
      obtain ⟨rfl, rfl⟩ := hw
      have hR : tR D vwCl base ad (tC (wP n ad cs) I L) H := hR
      rw [show (I (20 + 8 + ch) (j * 8 + d)) = nI (Rw ch j d) from (hCo.2.2 ch (by omega)).2.2 j (by omega) d (by omega)]
      refine lv_iadd hx hb dX2_sumOfYears_29 ?_
      rw [nI_add]
      rw [show nI (sS (fun k => Rw ch k d) j + Rw ch j d) = nI (sS (fun k => Rw ch k d) (j + 1)) from rfl]
      refine lv_istore_n (lv' := [(3, .int (nI (sS (fun k => Rw ch k d) (j + 1)))), (4, .int (nI j)), (0, .ref (ad 0)), (1, .int (nI ch)), (2, .int (nI d))]) hx hb dX2_sumOfYears_30 rfl hl (by decide) rfl (fun ls hl => ?_)
      refine lv_iinc (v := nI (j + 1)) (lv' := [(4, .int (nI (j + 1))), (3, .int (nI (sS (fun k => Rw ch k d) (j + 1)))), (0, .ref (ad 0)), (1, .int (nI ch)), (2, .int (nI d))]) hx hb dX2_sumOfYears_31 hl (k := 1) rfl (nI_1 _) (by decide) rfl (fun ls hl => ?_)
      refine lv_goto (tgt := 5) hx hb dX2_sumOfYears_34 (by decide) ?_
      exact ih (j + 1)  H locs ls (by omega) (by omega)  hR hS (lv_sub hl [0, 1, 2, 3, 4] rfl)
set_option maxHeartbeats 4000000 in
set_option maxRecDepth 100000 in
theorem mX2_sumOfYears (I : tI) (L : tL) {nd : Nat} {Y : Nat → Nat → Nat} {st : Nat → Int64} {Rw : Nat → Nat → Nat → Nat} {kp sp : Nat} (ch d : Nat) (hCo : cCo I L n nd 20 Y st Rw kp sp) (hn4 : n ≤ 4) (hch : ch < n) (hd : d < nd) (h8 : nd ≤ 8) (hk60 : kp ≤ 60) : Met l yX2_sumOfYears wX2_sumOfYears ({ frames := 1, cells := 0, slots := 0, locals := 40 }) (va_Pc [.ref (ad 0), .int (nI ch), .int (nI d)] (kB D cs base sa n ad I L)) (va_Qi (fun (r : Int32) (u : tI × tL) => r = nI (sS (fun k => Rw ch k d) kp) ∧ u = (I, L)) (kA D cs base n ad) (fun q => base ≤ q)) 0 0 (fun q => base ≤ q) := by
  refine Met.ofW (cc := cX2_sumOfYears) (maxL := 5) (ret := (some .int)) (by decide) rfl ?_
  intro p e s m args below meth c s₁ Bd hml hv
  obtain ⟨rfl, hE, hR⟩ := hv
  have hx := Bd.exec
  have hb := Bd.bytes
  have hr := Bd.returns
  have hts := atoms_spec (ws := wX2_sumOfYears) Bd.pre
  have hown : s.vm.findClass RX2 = some m.cls := findClass_of_methodNamed Bd.named
  have hlocks := Bd.notSynchronized
  have hK := hE.K
  have hS : va_S (fun q => base ≤ q) s.heap s.heap [] := va_S.rf
  have hR : tR D vwCl base ad (tC (wP n ad cs) I L) s.heap := hR
  have hl := lv_entry ([.ref (ad 0), .int (nI ch), .int (nI d)]) (n := 5) (Nat.le_of_ble_eq_true rfl)
  rw [lg_entry_eq]
  generalize (lg_sl ([.ref (ad 0), .int (nI ch), .int (nI d)]) ++ List.replicate (5 - (lg_sl ([.ref (ad 0), .int (nI ch), .int (nI d)])).length) Slot.unset).toArray = ls at hl ⊢
  have hl : lv_has ls 5 [(0, .ref (ad 0)), (1, .int (nI ch)), (2, .int (nI d))] := hl
  refine lv_iconst (v := 0) hx hb dX2_sumOfYears_0 (by decide) ?_
  rw [show (0 : Int32) = nI (sS (fun k => Rw ch k d) 0) from rfl]
  refine lv_istore_n (lv' := [(3, .int (nI (sS (fun k => Rw ch k d) 0))), (0, .ref (ad 0)), (1, .int (nI ch)), (2, .int (nI d))]) hx hb dX2_sumOfYears_1 rfl hl (by decide) rfl (fun ls hl => ?_)
  refine lv_iconst (v := 0) hx hb dX2_sumOfYears_2 (by decide) ?_
  rw [show (0 : Int32) = nI 0 from nI_0.symm]
  refine lv_istore (lv' := [(4, .int (nI 0)), (3, .int (nI (sS (fun k => Rw ch k d) 0))), (0, .ref (ad 0)), (1, .int (nI ch)), (2, .int (nI d))]) hx hb dX2_sumOfYears_3 hl (by decide) rfl (fun ls hl => ?_)
  refine lpX2_sumOfYears ⟨hx, hb, hml, hown, hts⟩ hE (Nat.le_of_ble_eq_true rfl) (Nat.le_of_ble_eq_true rfl) (Nat.le_of_ble_eq_true rfl) (Nat.le_of_ble_eq_true rfl) I L ch d hCo hn4 hch hd h8 hk60 (fun H locs ls hR hS hl => ?_) (kp + 1) 0 _ _ ls (Nat.zero_le _) (by omega) hR hS (lv_sub hl [0, 1, 2, 3, 4] rfl)
  refine lv_iload_n hx hb dX2_sumOfYears_37 rfl (lv_at hl 1 rfl) ?_
  exact W.iret (v := nI (sS (fun k => Rw ch k d) kp)) hx hb hr (fun t ht hW => ⟨⟨_, (I, L), rfl, ⟨rfl, rfl⟩, by show tR _ _ _ _ _ t.heap; rw [ht]; exact hR⟩, hS.F ht⟩) hS.2.2 dX2_sumOfYears_38
set_option maxHeartbeats 4000000 in
set_option maxRecDepth 100000 in
theorem lpX2_spanOf {p : Program} {e : Env} {R : Room} {s : State} {m : MethodId} {args : Array Value} {below : List Frame} {meth : Method} {c : Code} {cells slots : Nat} {Q : State → Prop} (S0 : CallFix p m c cX2_spanOf 8 s args wX2_spanOf RX2) (hE : eV D cs base sa s) (hRf : 1 ≤ R.frames) (hRl : 40 ≤ R.locals) (hRc : cells ≤ R.cells) (hRs : slots ≤ R.slots) (I : tI) (L : tL) {nd no : Nat} {f la : Nat → Nat} {ph : Nat → Int32} {w : Nat → Nat → Nat} {ea lt le mo : Nat → Nat} {Y : Nat → Nat → Nat} {st : Nat → Int64} {Rw : Nat → Nat → Nat → Nat} {kp sp : Nat} (x : Int32) (ch kr : Nat) (hSi : cSi I nd no f la ph w ea lt le mo) (hwf : wfS nd no f la w ea lt le mo) (hCo : cCo I L n nd 20 Y st Rw kp sp) (hn4 : n ≤ 4) (hch : ch < n) (hk : kr < kp) (hk60 : kp ≤ 60) (hRb : ∀ d, d < nd → Rw ch kr d ≤ 255)
    (kx : ∀ (H : Heap) (locs : List Loc) (ls : Array Slot), tR D vwCl base ad (tC (wP n ad cs) I L) H → va_S (fun q => base ≤ q) s.heap H locs → lv_has ls 8 [(6, .int (nI nd)), (5, .int (hI (spH ph x (Rw ch kr) nd))), (4, .int (nI (spL ph x (Rw ch kr) 256 nd))), (0, .ref (ad 0)), (1, .int x), (2, .int (nI ch)), (3, .int (nI kr))] → W p l e R s m args below meth c H locs cells slots Q (F0 m 74 ls [])) :
    ∀ (k j : Nat) (H : Heap) (locs : List Loc) (ls : Array Slot), j ≤ nd → nd + 1 ≤ j + k → tR D vwCl base ad (tC (wP n ad cs) I L) H → va_S (fun q => base ≤ q) s.heap H locs → lv_has ls 8 [(6, .int (nI j)), (5, .int (hI (spH ph x (Rw ch kr) j))), (4, .int (nI (spL ph x (Rw ch kr) 256 j))), (0, .ref (ad 0)), (1, .int x), (2, .int (nI ch)), (3, .int (nI kr))] → W p l e R s m args below meth c H locs cells slots Q (F0 m 11 ls []) := by
  obtain ⟨hx, hb, hml, hown, hts⟩ := S0
  have hK := hE.K
  obtain ⟨h_nd, h_no, h_d, h_o⟩ := id hwf
  intro k
  induction k with
  | zero => intro j  H locs ls h1 h2; exact absurd h2 (by omega)
  | succ k ih =>
    intro j  H locs ls hj hk  hR hS hl
    refine lv_iload hx hb dX2_spanOf_11 (lv_at hl 0 rfl) ?_
    refine lv_aload_n hx hb dX2_spanOf_13 rfl (lv_at hl 3 rfl) ?_
    refine tb_get hx hb hts (fun w h => List.mem_cons_of_mem _ (inX2 w h)) hown hK hR 0 rfl rfl 2 (by decide) (hts _ (List.mem_cons_of_mem _ k103)) (fun _ h => h) rfl dX2_spanOf_14 ?_
    refine tb_getN hx hb hts (fun w h => List.mem_cons_of_mem _ (inX1 w h)) hown hK hR 1 rfl rfl 8 (by decide) (va_Nw.use rfl (hE.2.1 (68, "SeedChains$Site", "dates", "I") (by decide))) (fun _ h => h) rfl dX2_spanOf_17 ?_
    rw [show I 1 8 = nI nd from hSi.1]
    refine lv_icmp_ge (tgt := 74) hx hb dX2_spanOf_20 (by decide) (fun c1 => ?_) (fun c1 => ?_)
    · have hjN : j = nd := by have e9 := (nI_leI (by omega) (by omega)).mp c1; omega
      subst hjN
      exact kx  H locs ls  hR hS (lv_sub hl [0, 1, 2, 3, 4, 5, 6] rfl)
    · have hjN : j < nd := by
        rcases Nat.lt_or_ge j nd with q | q
        · exact q
        · exact absurd (nI_le (by omega) (by omega)) c1
      refine lv_aload_n hx hb dX2_spanOf_23 rfl (lv_at hl 3 rfl) ?_
      refine tb_get hx hb hts (fun w h => List.mem_cons_of_mem _ (inX2 w h)) hown hK hR 0 rfl rfl 2 (by decide) (hts _ (List.mem_cons_of_mem _ k103)) (fun _ h => h) rfl dX2_spanOf_24 ?_
      refine tb_getN hx hb hts (fun w h => List.mem_cons_of_mem _ (inX1 w h)) hown hK hR 1 rfl rfl 2 (by decide) (va_Nw.use rfl (hE.2.1 (109, "SeedChains$Site", "phase", "[I") (by decide))) (fun _ h => h) rfl dX2_spanOf_27 ?_
      refine lv_iload hx hb dX2_spanOf_30 (lv_at hl 0 rfl) ?_
      refine tp_iald hx hb hK hR 4 0 (fun _ _ => rfl) rfl j rfl (by omega) (by decide) dX2_spanOf_32 ?_
      rw [show I 4 j = ph j from (hSi.2.2.1 j (by omega)).2.2.1]
      refine lv_iload_n hx hb dX2_spanOf_33 rfl (lv_at hl 4 rfl) ?_
      refine lv_icmp_ne (tgt := 68) hx hb dX2_spanOf_34 (by decide) (fun c2 => ?_) (fun c2 => ?_)
      · have hq : ¬ ph j = x := c2
        rw [show spH ph x (Rw ch kr) j = spH ph x (Rw ch kr) (j + 1) from (if_neg hq).symm, show spL ph x (Rw ch kr) 256 j = spL ph x (Rw ch kr) 256 (j + 1) from (if_neg hq).symm] at hl
        refine lv_iinc (v := nI (j + 1)) (lv' := [(6, .int (nI (j + 1))), (5, .int (hI (spH ph x (Rw ch kr) (j + 1)))), (4, .int (nI (spL ph x (Rw ch kr) 256 (j + 1)))), (0, .ref (ad 0)), (1, .int x), (2, .int (nI ch)), (3, .int (nI kr))]) hx hb dX2_spanOf_68 hl (k := 0) rfl (nI_1 _) (by decide) rfl (fun ls hl => ?_)
        refine lv_goto (tgt := 11) hx hb dX2_spanOf_71 (by decide) ?_
        exact ih (j + 1)  H locs ls (by omega) (by omega)  hR hS (lv_sub hl [0, 1, 2, 3, 4, 5, 6] rfl)
      · have hq : ph j = x := c2
        refine lv_aload_n hx hb dX2_spanOf_37 rfl (lv_at hl 3 rfl) ?_
        refine tb_get hx hb hts (fun w h => List.mem_cons_of_mem _ (inX2 w h)) hown hK hR 0 rfl rfl 3 (by decide) (hts _ (List.mem_cons_of_mem _ k104)) (fun _ h => h) rfl dX2_spanOf_38 ?_
        refine lv_iload_n hx hb dX2_spanOf_41 rfl (lv_at hl 5 rfl) ?_
        refine lv_iload_n hx hb dX2_spanOf_42 rfl (lv_at hl 6 rfl) ?_
        refine lv_iload hx hb dX2_spanOf_43 (lv_at hl 0 rfl) ?_
        refine kc_i (va_runVN (As := [.int (nI ch), .int (nI kr), .int (nI j)]) (rest := []) ⟨hx, hb, hml, hown, hts⟩ (mX0_keptYear I L 20 ch kr j (Or.inl rfl) (by omega) (by omega) (by omega)) ⟨va_cnB 3 hts (kw_N k401) rfl rfl rfl (hE.2.2.1 (157, yX0_keptYear) (by decide)) (hts _ (List.mem_cons_of_mem _ k4)) (by decide +kernel) ⟨Nat.le_trans (Nat.le_of_ble_eq_true rfl) hRf, Nat.le_trans (Nat.le_of_ble_eq_true rfl) hRl⟩, hts _ (List.mem_cons_of_mem _ k400), hts _ (List.mem_cons_of_mem _ ks20)⟩ (kB_preV hE hR hS 20 rfl rfl [.int (nI ch), .int (nI kr), .int (nI j)]) rfl rfl hl.1 rfl (lv_room (Nat.le_of_ble_eq_true rfl)) dX2_spanOf_45 ⟨hRc, hRs⟩) hS (fun r u H locs hw hR hS => ?_)
        obtain ⟨rfl, rfl⟩ := hw
        have hR : tR D vwCl base ad (tC (wP n ad cs) I L) H := hR
        rw [show (I (20 + 8 + ch) (kr * 8 + j)) = nI (Rw ch kr j) from (hCo.2.2 ch (by omega)).2.2 kr (by omega) j (by omega)]
        refine lv_istore (lv' := [(7, .int (nI (Rw ch kr j))), (6, .int (nI j)), (5, .int (hI (spH ph x (Rw ch kr) j))), (4, .int (nI (spL ph x (Rw ch kr) 256 j))), (0, .ref (ad 0)), (1, .int x), (2, .int (nI ch)), (3, .int (nI kr))]) hx hb dX2_spanOf_48 hl (by decide) rfl (fun ls hl => ?_)
        refine lv_iload hx hb dX2_spanOf_50 (lv_at hl 3 rfl) ?_
        refine lv_iload hx hb dX2_spanOf_52 (lv_at hl 0 rfl) ?_
        refine va_mmin hx hb (hml.trans hl.1.symm) hown (hts _ (List.mem_cons_of_mem _ k21)) (hts _ (List.mem_cons_of_mem _ k22)) (hts _ (List.mem_cons_of_mem _ k2)) (hts _ (List.mem_cons_of_mem _ k23)) (Nat.le_trans (Nat.le_of_ble_eq_true rfl) hRf) (Nat.le_trans (Nat.le_of_ble_eq_true rfl) hRl) hRc hRs dX2_spanOf_54 ?_
        rw [show (if nI (Rw ch kr j) < nI (spL ph x (Rw ch kr) 256 j) then nI (Rw ch kr j) else nI (spL ph x (Rw ch kr) 256 j)) = nI (spL ph x (Rw ch kr) 256 (j + 1)) from (mn_n (by have := spL_le ph x (Rw ch kr) 256 j; omega) (by have := hRb j hjN; omega)).trans (by simp only [spL]; rw [if_pos hq])]
        refine lv_istore (lv' := [(4, .int (nI (spL ph x (Rw ch kr) 256 (j + 1)))), (7, .int (nI (Rw ch kr j))), (6, .int (nI j)), (5, .int (hI (spH ph x (Rw ch kr) j))), (0, .ref (ad 0)), (1, .int x), (2, .int (nI ch)), (3, .int (nI kr))]) hx hb dX2_spanOf_57 hl (by decide) rfl (fun ls hl => ?_)
        refine lv_iload hx hb dX2_spanOf_59 (lv_at hl 3 rfl) ?_
        refine lv_iload hx hb dX2_spanOf_61 (lv_at hl 1 rfl) ?_
        refine va_mmax hx hb (hml.trans hl.1.symm) hown (hts _ (List.mem_cons_of_mem _ k24)) (hts _ (List.mem_cons_of_mem _ k25)) (hts _ (List.mem_cons_of_mem _ k2)) (hts _ (List.mem_cons_of_mem _ k26)) (Nat.le_trans (Nat.le_of_ble_eq_true rfl) hRf) (Nat.le_trans (Nat.le_of_ble_eq_true rfl) hRl) hRc hRs dX2_spanOf_63 ?_
        rw [show (if hI (spH ph x (Rw ch kr) j) < nI (Rw ch kr j) then nI (Rw ch kr j) else hI (spH ph x (Rw ch kr) j)) = hI (spH ph x (Rw ch kr) (j + 1)) from (hI_mx (by have := spH_le (ph := ph) (x := x) (g := (Rw ch kr)) (j := j) (B := 255) (fun i hi => hRb i (by omega)); omega) (by have := hRb j hjN; omega)).trans (by simp only [spH]; rw [if_pos hq])]
        refine lv_istore (lv' := [(5, .int (hI (spH ph x (Rw ch kr) (j + 1)))), (4, .int (nI (spL ph x (Rw ch kr) 256 (j + 1)))), (7, .int (nI (Rw ch kr j))), (6, .int (nI j)), (0, .ref (ad 0)), (1, .int x), (2, .int (nI ch)), (3, .int (nI kr))]) hx hb dX2_spanOf_66 hl (by decide) rfl (fun ls hl => ?_)
        refine lv_iinc (v := nI (j + 1)) (lv' := [(6, .int (nI (j + 1))), (5, .int (hI (spH ph x (Rw ch kr) (j + 1)))), (4, .int (nI (spL ph x (Rw ch kr) 256 (j + 1)))), (7, .int (nI (Rw ch kr j))), (0, .ref (ad 0)), (1, .int x), (2, .int (nI ch)), (3, .int (nI kr))]) hx hb dX2_spanOf_68 hl (k := 3) rfl (nI_1 _) (by decide) rfl (fun ls hl => ?_)
        refine lv_goto (tgt := 11) hx hb dX2_spanOf_71 (by decide) ?_
        exact ih (j + 1)  H locs ls (by omega) (by omega)  hR hS (lv_sub hl [0, 1, 2, 4, 5, 6, 7] rfl)
set_option maxHeartbeats 4000000 in
set_option maxRecDepth 100000 in
theorem mX2_spanOf (I : tI) (L : tL) {nd no : Nat} {f la : Nat → Nat} {ph : Nat → Int32} {w : Nat → Nat → Nat} {ea lt le mo : Nat → Nat} {Y : Nat → Nat → Nat} {st : Nat → Int64} {Rw : Nat → Nat → Nat → Nat} {kp sp : Nat} (x : Int32) (ch kr : Nat) (hSi : cSi I nd no f la ph w ea lt le mo) (hwf : wfS nd no f la w ea lt le mo) (hCo : cCo I L n nd 20 Y st Rw kp sp) (hn4 : n ≤ 4) (hch : ch < n) (hk : kr < kp) (hk60 : kp ≤ 60) (hRb : ∀ d, d < nd → Rw ch kr d ≤ 255) : Met l yX2_spanOf wX2_spanOf ({ frames := 1, cells := 0, slots := 0, locals := 40 }) (va_Pc [.ref (ad 0), .int x, .int (nI ch), .int (nI kr)] (kB D cs base sa n ad I L)) (va_Qi (fun (r : Int32) (u : tI × tL) => r = spV ph x (Rw ch kr) nd ∧ u = (I, L)) (kA D cs base n ad) (fun q => base ≤ q)) 0 0 (fun q => base ≤ q) := by
  refine Met.ofW (cc := cX2_spanOf) (maxL := 8) (ret := (some .int)) (by decide) rfl ?_
  intro p e s m args below meth c s₁ Bd hml hv
  obtain ⟨rfl, hE, hR⟩ := hv
  have hx := Bd.exec
  have hb := Bd.bytes
  have hr := Bd.returns
  have hts := atoms_spec (ws := wX2_spanOf) Bd.pre
  have hown : s.vm.findClass RX2 = some m.cls := findClass_of_methodNamed Bd.named
  have hlocks := Bd.notSynchronized
  have hK := hE.K
  have hS : va_S (fun q => base ≤ q) s.heap s.heap [] := va_S.rf
  have hR : tR D vwCl base ad (tC (wP n ad cs) I L) s.heap := hR
  have hl := lv_entry ([.ref (ad 0), .int x, .int (nI ch), .int (nI kr)]) (n := 8) (Nat.le_of_ble_eq_true rfl)
  rw [lg_entry_eq]
  generalize (lg_sl ([.ref (ad 0), .int x, .int (nI ch), .int (nI kr)]) ++ List.replicate (8 - (lg_sl ([.ref (ad 0), .int x, .int (nI ch), .int (nI kr)])).length) Slot.unset).toArray = ls at hl ⊢
  have hl : lv_has ls 8 [(0, .ref (ad 0)), (1, .int x), (2, .int (nI ch)), (3, .int (nI kr))] := hl
  obtain ⟨h_nd, h_no, h_d, h_o⟩ := id hwf
  have h_sh := spH_le (ph := ph) (x := x) (g := (Rw ch kr)) (j := nd) (B := 255) hRb
  refine lv_sipush (v := 256) hx hb dX2_spanOf_0 (by decide) ?_
  rw [show (256 : Int32) = nI (spL ph x (Rw ch kr) 256 0) from rfl]
  refine lv_istore (lv' := [(4, .int (nI (spL ph x (Rw ch kr) 256 0))), (0, .ref (ad 0)), (1, .int x), (2, .int (nI ch)), (3, .int (nI kr))]) hx hb dX2_spanOf_3 hl (by decide) rfl (fun ls hl => ?_)
  refine lv_iconst (v := -1) hx hb dX2_spanOf_5 (by decide) ?_
  rw [show (-1 : Int32) = hI (spH ph x (Rw ch kr) 0) from rfl]
  refine lv_istore (lv' := [(5, .int (hI (spH ph x (Rw ch kr) 0))), (4, .int (nI (spL ph x (Rw ch kr) 256 0))), (0, .ref (ad 0)), (1, .int x), (2, .int (nI ch)), (3, .int (nI kr))]) hx hb dX2_spanOf_6 hl (by decide) rfl (fun ls hl => ?_)
  refine lv_iconst (v := 0) hx hb dX2_spanOf_8 (by decide) ?_
  rw [show (0 : Int32) = nI 0 from nI_0.symm]
  refine lv_istore (lv' := [(6, .int (nI 0)), (5, .int (hI (spH ph x (Rw ch kr) 0))), (4, .int (nI (spL ph x (Rw ch kr) 256 0))), (0, .ref (ad 0)), (1, .int x), (2, .int (nI ch)), (3, .int (nI kr))]) hx hb dX2_spanOf_9 hl (by decide) rfl (fun ls hl => ?_)
  refine lpX2_spanOf ⟨hx, hb, hml, hown, hts⟩ hE (Nat.le_of_ble_eq_true rfl) (Nat.le_of_ble_eq_true rfl) (Nat.le_of_ble_eq_true rfl) (Nat.le_of_ble_eq_true rfl) I L x ch kr hSi hwf hCo hn4 hch hk hk60 hRb (fun H locs ls hR hS hl => ?_) (nd + 1) 0 _ _ ls (Nat.zero_le _) (by omega) hR hS (lv_sub hl [0, 1, 2, 3, 4, 5, 6] rfl)
  refine lv_iload hx hb dX2_spanOf_74 (lv_at hl 1 rfl) ?_
  refine lv_iconst (v := -1) hx hb dX2_spanOf_76 (by decide) ?_
  refine lv_icmp_ne (tgt := 84) hx hb dX2_spanOf_77 (by decide) (fun c1 => ?_) (fun c1 => ?_)
  · have hq : spH ph x (Rw ch kr) nd ≠ 0 := fun z => c1 ((hI_m1 (by omega)).mpr z)
    have hq2 := sp_lh (b := 256) hq
    rw [hI_s hq] at hl
    refine lv_iload hx hb dX2_spanOf_84 (lv_at hl 1 rfl) ?_
    refine lv_iload hx hb dX2_spanOf_86 (lv_at hl 2 rfl) ?_
    refine lv_isub hx hb dX2_spanOf_88 ?_
    rw [pk_sub (by omega)]
    exact W.iret (v := nI (spH ph x (Rw ch kr) nd - 1 - spL ph x (Rw ch kr) 256 nd)) hx hb hr (fun t ht hW => ⟨⟨_, (I, L), rfl, ⟨by unfold spV; rw [if_neg hq], rfl⟩, by show tR _ _ _ _ _ t.heap; rw [ht]; exact hR⟩, hS.F ht⟩) hS.2.2 dX2_spanOf_89
  · have hq : spH ph x (Rw ch kr) nd = 0 := (hI_m1 (by omega)).mp c1
    refine lv_iconst (v := -1) hx hb dX2_spanOf_80 (by decide) ?_
    refine lv_goto (tgt := 89) hx hb dX2_spanOf_81 (by decide) ?_
    exact W.iret (v := (-1)) hx hb hr (fun t ht hW => ⟨⟨_, (I, L), rfl, ⟨by unfold spV; rw [if_pos hq], rfl⟩, by show tR _ _ _ _ _ t.heap; rw [ht]; exact hR⟩, hS.F ht⟩) hS.2.2 dX2_spanOf_89
set_option maxHeartbeats 4000000 in
set_option maxRecDepth 100000 in
theorem lpX2_start {p : Program} {e : Env} {R : Room} {s : State} {m : MethodId} {args : Array Value} {below : List Frame} {meth : Method} {c : Code} {cells slots : Nat} {Q : State → Prop} (S0 : CallFix p m c cX2_start 2 s args wX2_start RX2) (hE : eV D cs base sa s) (hRf : 3 ≤ R.frames) (hRl : 90 ≤ R.locals) (hRc : cells ≤ R.cells) (hRs : slots ≤ R.slots) (I : tI) (L : tL) {nd no : Nat} {f la : Nat → Nat} {ph : Nat → Int32} {w : Nat → Nat → Nat} {ea lt le mo : Nat → Nat} (se : Int32) (hSi : cSi I nd no f la ph w ea lt le mo) (hwf : wfS nd no f la w ea lt le mo) (bu ev : Nat) (hcf : cCf I n bu ev) (hse : I 0 0 = se)
    (kx : ∀ (J : tI) (K : tL) (H : Heap) (locs : List Loc) (ls : Array Slot), stJ n nd no f la ea lt le mo se I L n J K → tR D vwCl base ad (tC (wP n ad cs) J K) H → va_S (fun q => base ≤ q) s.heap H locs → lv_has ls 2 [(1, .int (nI n)), (0, .ref (ad 0))] → W p l e R s m args below meth c H locs cells slots Q (F0 m 93 ls [])) :
    ∀ (k j : Nat) (J : tI) (K : tL) (H : Heap) (locs : List Loc) (ls : Array Slot), j ≤ n → n + 1 ≤ j + k → stJ n nd no f la ea lt le mo se I L j J K → tR D vwCl base ad (tC (wP n ad cs) J K) H → va_S (fun q => base ≤ q) s.heap H locs → lv_has ls 2 [(1, .int (nI j)), (0, .ref (ad 0))] → W p l e R s m args below meth c H locs cells slots Q (F0 m 23 ls []) := by
  obtain ⟨hx, hb, hml, hown, hts⟩ := S0
  have hK := hE.K
  obtain ⟨h_nd, h_no, h_d, h_o⟩ := id hwf
  obtain ⟨h_c1, h_c2, h_c3, h_n1, h_n4, h_bu, h_e1, h_e2⟩ := id hcf
  intro k
  induction k with
  | zero => intro j J K H locs ls h1 h2; exact absurd h2 (by omega)
  | succ k ih =>
    intro j J K H locs ls hj hk hJ hR hS hl
    refine lv_iload_n hx hb dX2_start_23 rfl (lv_at hl 0 rfl) ?_
    refine lv_aload_n hx hb dX2_start_24 rfl (lv_at hl 1 rfl) ?_
    refine tb_get hx hb hts (fun w h => List.mem_cons_of_mem _ (inX2 w h)) hown hK hR 0 rfl rfl 1 (by decide) (hts _ (List.mem_cons_of_mem _ k102)) (fun _ h => h) rfl dX2_start_25 ?_
    rw [show J 0 1 = nI n from (by rw [hJ.1.2.1 1 (by omega)]; exact hcf.1)]
    refine lv_icmp_ge (tgt := 93) hx hb dX2_start_28 (by decide) (fun c1 => ?_) (fun c1 => ?_)
    · have hjN : j = n := by have e9 := (nI_leI (by omega) (by omega)).mp c1; omega
      subst hjN
      exact kx J K H locs ls hJ hR hS (lv_sub hl [0, 1] rfl)
    · have hjN : j < n := by
        rcases Nat.lt_or_ge j n with q | q
        · exact q
        · exact absurd (nI_le (by omega) (by omega)) c1
      refine lv_aload_n hx hb dX2_start_31 rfl (lv_at hl 1 rfl) ?_
      refine tb_get hx hb hts (fun w h => List.mem_cons_of_mem _ (inX2 w h)) hown hK hR 0 rfl rfl 3 (by decide) (hts _ (List.mem_cons_of_mem _ k104)) (fun _ h => h) rfl dX2_start_32 ?_
      refine tb_getN hx hb hts (fun w h => List.mem_cons_of_mem _ (inX0 w h)) hown hK hR 20 rfl rfl 1 (by decide) (va_Nw.use rfl (hE.2.1 (123, "SeedChains$Course", "states", "[J") (by decide))) (fun _ h => h) rfl dX2_start_35 ?_
      refine lv_iload_n hx hb dX2_start_38 rfl (lv_at hl 0 rfl) ?_
      refine lv_aload_n hx hb dX2_start_39 rfl (lv_at hl 1 rfl) ?_
      refine tb_get hx hb hts (fun w h => List.mem_cons_of_mem _ (inX2 w h)) hown hK hR 0 rfl rfl 0 (by decide) (hts _ (List.mem_cons_of_mem _ k101)) (fun _ h => h) rfl dX2_start_40 ?_
      rw [show J 0 0 = se from (by rw [hJ.1.2.1 0 (by omega)]; exact hse)]
      refine lv_i2l hx hb dX2_start_43 rfl ?_
      refine lv_ldc2 (v := 1000003) hx hb hown (hts _ (List.mem_cons_of_mem _ k133)) dX2_start_44 ?_
      refine lv_iload_n hx hb dX2_start_47 rfl (lv_at hl 0 rfl) ?_
      refine lv_i2l hx hb dX2_start_48 rfl ?_
      refine lv_lmul hx hb dX2_start_49 ?_
      refine lv_ladd hx hb dX2_start_50 ?_
      rw [show se.toInt64 + 1000003 * (nI j).toInt64 = stS se j from rfl]
      refine tp_last hx hb hK hR hS 22 1 (fun _ _ => rfl) rfl j rfl (by omega) (by omega) dX2_start_51 (fun H locs hR hS => ?_)
      refine lv_aload_n hx hb dX2_start_52 rfl (lv_at hl 1 rfl) ?_
      refine lv_aload_n hx hb dX2_start_53 rfl (lv_at hl 1 rfl) ?_
      refine tb_get hx hb hts (fun w h => List.mem_cons_of_mem _ (inX2 w h)) hown hK hR 0 rfl rfl 2 (by decide) (hts _ (List.mem_cons_of_mem _ k103)) (fun _ h => h) rfl dX2_start_54 ?_
      refine lv_aload_n hx hb dX2_start_57 rfl (lv_at hl 1 rfl) ?_
      refine tb_get hx hb hts (fun w h => List.mem_cons_of_mem _ (inX2 w h)) hown hK hR 0 rfl rfl 3 (by decide) (hts _ (List.mem_cons_of_mem _ k104)) (fun _ h => h) rfl dX2_start_58 ?_
      refine tb_getN hx hb hts (fun w h => List.mem_cons_of_mem _ (inX0 w h)) hown hK hR 20 rfl rfl 0 (by decide) (va_Nw.use rfl (hE.2.1 (129, "SeedChains$Course", "years", "[[I") (by decide))) (fun _ h => h) rfl dX2_start_61 ?_
      refine lv_iload_n hx hb dX2_start_64 rfl (lv_at hl 0 rfl) ?_
      refine tb_aald hx hb hK hR 21 2 rfl rfl j rfl (by omega) (by omega) (if_pos (by omega)) dX2_start_65 ?_
      refine kc_i (va_runVN (As := [.ref (ad (20 + 4 + j))]) (rest := [.ref (ad 0)]) ⟨hx, hb, hml, hown, hts⟩ (mX1_findLeastYears J (va_up K 22 (vp_updL (K 22) j (stS se j))) (20 + 4 + j) (hSi.of h_nd (fun k a b => hJ.1.1 k (by omega) (by omega))) hwf (by omega) (fun r q => wP_b4 (Or.inl rfl) h_n4 hjN r q)) ⟨va_cnB 1 hts (kw_N k137) rfl rfl rfl (hE.2.2.1 (133, yX1_findLeastYears) (by decide)) (hts _ (List.mem_cons_of_mem _ k3)) (by decide +kernel) ⟨Nat.le_trans (Nat.le_of_ble_eq_true rfl) hRf, Nat.le_trans (Nat.le_of_ble_eq_true rfl) hRl⟩, hts _ (List.mem_cons_of_mem _ k136), hts _ (List.mem_cons_of_mem _ ks0)⟩ (kB_preV hE hR hS 1 rfl rfl [.ref (ad (20 + 4 + j))]) rfl rfl hl.1 rfl (lv_room (Nat.le_of_ble_eq_true rfl)) dX2_start_66 ⟨hRc, hRs⟩) hS (fun r u H locs hw hR hS => ?_)
      obtain ⟨row, rfl, hrow⟩ := hw
      have hR : tR D vwCl base ad (tC (wP n ad cs) (va_up J (20 + 4 + j) row) (va_up K 22 (vp_updL (K 22) j (stS se j)))) H := hR
      refine lv_if_eq (tgt := 83) hx hb dX2_start_69 (by decide) (fun c2 => ?_) (fun c2 => ?_)
      · have hz : ¬ ∃ z, yS nd no f la ea lt le mo z := by
          rcases hrow with ⟨h1, _⟩ | ⟨_, h2⟩
          · rw [h1] at c2; exact absurd c2 (by decide)
          · exact h2
        refine lv_iconst (v := 0) hx hb dX2_start_83 (by decide) ?_
        refine tp_put hx hb hts (fun w h => List.mem_cons_of_mem _ (inX2 w h)) tyX2 tyX2_ok nmX2 hown hK hR hS 0 (fun r => [.int (r 0), .int (r 1), .ref (ad 1), .ref (ad 20), .ref (ad 18), .int (r 5), .int (r 6), .int (r 7), .int (r 8)]) (fun _ _ => rfl) rfl 6 (by decide) (hts _ (List.mem_cons_of_mem _ k107)) (fun _ h => h) rfl (ty := .boolean) rfl rfl rfl (by simp) (fun _ => rfl) dX2_start_84 (fun H locs hR hS => ?_)
        have hJ2 := stJ_0 (row := row) hJ hjN h_n4 hz
        refine lv_iinc (v := nI (j + 1)) (lv' := [(1, .int (nI (j + 1))), (0, .ref (ad 0))]) hx hb dX2_start_87 hl (k := 0) rfl (nI_1 _) (by decide) rfl (fun ls hl => ?_)
        refine lv_goto (tgt := 23) hx hb dX2_start_90 (by decide) ?_
        exact ih (j + 1) (va_up (va_up J (20 + 4 + j) row) 0 (upd (va_up J (20 + 4 + j) row 0) 6 0)) (va_up K 22 (vp_updL (K 22) j (stS se j))) H locs ls (by omega) (by omega) hJ2 hR hS (lv_sub hl [0, 1] rfl)
      · have hz : ∃ z : Nat → Nat, yM nd no f la ea lt le mo z ∧ rw_Y nd row z := by
          rcases hrow with ⟨_, h1⟩ | ⟨h2, _⟩
          · exact h1
          · exact absurd h2 c2
        refine lv_aload_n hx hb dX2_start_72 rfl (lv_at hl 1 rfl) ?_
        refine tb_get hx hb hts (fun w h => List.mem_cons_of_mem _ (inX2 w h)) hown hK hR 0 rfl rfl 6 (by decide) (hts _ (List.mem_cons_of_mem _ k107)) (fun _ h => h) rfl dX2_start_73 ?_
        refine lv_if_eq (tgt := 83) hx hb dX2_start_76 (by decide) (fun c3 => ?_) (fun c3 => ?_)
        · refine lv_iconst (v := 0) hx hb dX2_start_83 (by decide) ?_
          refine tp_put hx hb hts (fun w h => List.mem_cons_of_mem _ (inX2 w h)) tyX2 tyX2_ok nmX2 hown hK hR hS 0 (fun r => [.int (r 0), .int (r 1), .ref (ad 1), .ref (ad 20), .ref (ad 18), .int (r 5), .int (r 6), .int (r 7), .int (r 8)]) (fun _ _ => rfl) rfl 6 (by decide) (hts _ (List.mem_cons_of_mem _ k107)) (fun _ h => h) rfl (ty := .boolean) rfl rfl rfl (by simp) (fun _ => rfl) dX2_start_84 (fun H locs hR hS => ?_)
          have hJ2 := stJ_0 (row := row) hJ hjN h_n4 (hJ.nn (by rw [va_up_ne _ _ (by omega)] at c3; exact c3))
          refine lv_iinc (v := nI (j + 1)) (lv' := [(1, .int (nI (j + 1))), (0, .ref (ad 0))]) hx hb dX2_start_87 hl (k := 0) rfl (nI_1 _) (by decide) rfl (fun ls hl => ?_)
          refine lv_goto (tgt := 23) hx hb dX2_start_90 (by decide) ?_
          exact ih (j + 1) (va_up (va_up J (20 + 4 + j) row) 0 (upd (va_up J (20 + 4 + j) row 0) 6 0)) (va_up K 22 (vp_updL (K 22) j (stS se j))) H locs ls (by omega) (by omega) hJ2 hR hS (lv_sub hl [0, 1] rfl)
        · refine lv_iconst (v := 1) hx hb dX2_start_79 (by decide) ?_
          refine lv_goto (tgt := 84) hx hb dX2_start_80 (by decide) ?_
          refine tp_put hx hb hts (fun w h => List.mem_cons_of_mem _ (inX2 w h)) tyX2 tyX2_ok nmX2 hown hK hR hS 0 (fun r => [.int (r 0), .int (r 1), .ref (ad 1), .ref (ad 20), .ref (ad 18), .int (r 5), .int (r 6), .int (r 7), .int (r 8)]) (fun _ _ => rfl) rfl 6 (by decide) (hts _ (List.mem_cons_of_mem _ k107)) (fun _ h => h) rfl (ty := .boolean) rfl rfl rfl (by simp) (fun _ => rfl) dX2_start_84 (fun H locs hR hS => ?_)
          have hJ2 := stJ_1 hJ hjN h_n4 c3 hz
          refine lv_iinc (v := nI (j + 1)) (lv' := [(1, .int (nI (j + 1))), (0, .ref (ad 0))]) hx hb dX2_start_87 hl (k := 0) rfl (nI_1 _) (by decide) rfl (fun ls hl => ?_)
          refine lv_goto (tgt := 23) hx hb dX2_start_90 (by decide) ?_
          exact ih (j + 1) (va_up (va_up J (20 + 4 + j) row) 0 (upd (va_up J (20 + 4 + j) row 0) 6 1)) (va_up K 22 (vp_updL (K 22) j (stS se j))) H locs ls (by omega) (by omega) hJ2 hR hS (lv_sub hl [0, 1] rfl)
set_option maxHeartbeats 4000000 in
set_option maxRecDepth 100000 in
theorem mX2_start (I : tI) (L : tL) {nd no : Nat} {f la : Nat → Nat} {ph : Nat → Int32} {w : Nat → Nat → Nat} {ea lt le mo : Nat → Nat} (se : Int32) (hSi : cSi I nd no f la ph w ea lt le mo) (hwf : wfS nd no f la w ea lt le mo) (bu ev : Nat) (hcf : cCf I n bu ev) (hse : I 0 0 = se) : Met l yX2_start wX2_start ({ frames := 3, cells := 0, slots := 0, locals := 90 }) (va_Pc [.ref (ad 0)] (kB D cs base sa n ad I L)) (va_Qi (fun (r : Int32) (u : tI × tL) => ((r = 0 ∧ u.1 0 6 = 1 ∧ ∃ z : Nat → Nat, yM nd no f la ea lt le mo z ∧ cCo u.1 u.2 n nd 20 (fun _ => z) (stS se) (fun _ _ _ => 0) 0 0) ∨ (r = 1 ∧ u.1 0 6 = 0 ∧ ¬ ∃ z, yS nd no f la ea lt le mo z)) ∧ (∀ k, k ≠ 0 → (k < 20 ∨ 40 ≤ k) → u.1 k = I k) ∧ (∀ i, i ≠ 6 → u.1 0 i = I 0 i) ∧ ∀ k, k ≠ 22 → u.2 k = L k) (kA D cs base n ad) (fun q => base ≤ q)) 0 0 (fun q => base ≤ q) := by
  refine Met.ofW (cc := cX2_start) (maxL := 2) (ret := (some .int)) (by decide) rfl ?_
  intro p e s m args below meth c s₁ Bd hml hv
  obtain ⟨rfl, hE, hR⟩ := hv
  have hx := Bd.exec
  have hb := Bd.bytes
  have hr := Bd.returns
  have hts := atoms_spec (ws := wX2_start) Bd.pre
  have hown : s.vm.findClass RX2 = some m.cls := findClass_of_methodNamed Bd.named
  have hlocks := Bd.notSynchronized
  have hK := hE.K
  have hS : va_S (fun q => base ≤ q) s.heap s.heap [] := va_S.rf
  have hR : tR D vwCl base ad (tC (wP n ad cs) I L) s.heap := hR
  have hl := lv_entry ([.ref (ad 0)]) (n := 2) (Nat.le_of_ble_eq_true rfl)
  rw [lg_entry_eq]
  generalize (lg_sl ([.ref (ad 0)]) ++ List.replicate (2 - (lg_sl ([.ref (ad 0)])).length) Slot.unset).toArray = ls at hl ⊢
  have hl : lv_has ls 2 [(0, .ref (ad 0))] := hl
  obtain ⟨h_nd, h_no, h_d, h_o⟩ := id hwf
  obtain ⟨h_c1, h_c2, h_c3, h_n1, h_n4, h_bu, h_e1, h_e2⟩ := id hcf
  refine lv_aload_n hx hb dX2_start_0 rfl (lv_at hl 0 rfl) ?_
  refine tb_get hx hb hts (fun w h => List.mem_cons_of_mem _ (inX2 w h)) hown hK hR 0 rfl rfl 3 (by decide) (hts _ (List.mem_cons_of_mem _ k104)) (fun _ h => h) rfl dX2_start_1 ?_
  refine lv_iconst (v := 0) hx hb dX2_start_4 (by decide) ?_
  refine tp_putN hx hb hts (fun w h => List.mem_cons_of_mem _ (inX0 w h)) tyX0 tyX0_ok nmX0 hown hK hR hS 20 (fun r => [.ref (ad (21)), .ref (ad (22)), .ref (ad (23)), .int (r 3), .int (r 4)]) (fun _ _ => rfl) rfl 3 (by decide) (va_Nw.use rfl (hE.2.1 (117, "SeedChains$Course", "kept", "I") (by decide))) (fun _ h => h) rfl (ty := .int) rfl rfl rfl (by simp) (fun _ => rfl) dX2_start_5 (fun H locs hR hS => ?_)
  refine lv_aload_n hx hb dX2_start_8 rfl (lv_at hl 0 rfl) ?_
  refine tb_get hx hb hts (fun w h => List.mem_cons_of_mem _ (inX2 w h)) hown hK hR 0 rfl rfl 3 (by decide) (hts _ (List.mem_cons_of_mem _ k104)) (fun _ h => h) rfl dX2_start_9 ?_
  refine lv_iconst (v := 0) hx hb dX2_start_12 (by decide) ?_
  refine tp_putN hx hb hts (fun w h => List.mem_cons_of_mem _ (inX0 w h)) tyX0 tyX0_ok nmX0 hown hK hR hS 20 (fun r => [.ref (ad (21)), .ref (ad (22)), .ref (ad (23)), .int (r 3), .int (r 4)]) (fun _ _ => rfl) rfl 4 (by decide) (va_Nw.use rfl (hE.2.1 (120, "SeedChains$Course", "steps", "I") (by decide))) (fun _ h => h) rfl (ty := .int) rfl rfl rfl (by simp) (fun _ => rfl) dX2_start_13 (fun H locs hR hS => ?_)
  refine lv_aload_n hx hb dX2_start_16 rfl (lv_at hl 0 rfl) ?_
  refine lv_iconst (v := 1) hx hb dX2_start_17 (by decide) ?_
  refine tp_put hx hb hts (fun w h => List.mem_cons_of_mem _ (inX2 w h)) tyX2 tyX2_ok nmX2 hown hK hR hS 0 (fun r => [.int (r 0), .int (r 1), .ref (ad 1), .ref (ad 20), .ref (ad 18), .int (r 5), .int (r 6), .int (r 7), .int (r 8)]) (fun _ _ => rfl) rfl 6 (by decide) (hts _ (List.mem_cons_of_mem _ k107)) (fun _ h => h) rfl (ty := .boolean) rfl rfl rfl (by simp) (fun _ => rfl) dX2_start_18 (fun H locs hR hS => ?_)
  refine lv_iconst (v := 0) hx hb dX2_start_21 (by decide) ?_
  rw [show (0 : Int32) = nI 0 from nI_0.symm]
  refine lv_istore_n (lv' := [(1, .int (nI 0)), (0, .ref (ad 0))]) hx hb dX2_start_22 rfl hl (by decide) rfl (fun ls hl => ?_)
  have hJ0 : stJ n nd no f la ea lt le mo se I L 0 (va_up (va_up (va_up I 20 (upd (I 20) 3 0)) 20 (upd ((va_up I 20 (upd (I 20) 3 0)) 20) 4 0)) 0 (upd ((va_up (va_up I 20 (upd (I 20) 3 0)) 20 (upd ((va_up I 20 (upd (I 20) 3 0)) 20) 4 0)) 0) 6 1)) L := stJ_i se h_n4
  refine lpX2_start ⟨hx, hb, hml, hown, hts⟩ hE (Nat.le_of_ble_eq_true rfl) (Nat.le_of_ble_eq_true rfl) (Nat.le_of_ble_eq_true rfl) (Nat.le_of_ble_eq_true rfl) I L se hSi hwf bu ev hcf hse (fun J K H locs ls hJ hR hS hl => ?_) (n + 1) 0 _ L _ _ ls (Nat.zero_le _) (by omega) hJ0 hR hS (lv_sub hl [0, 1] rfl)
  refine lv_aload_n hx hb dX2_start_93 rfl (lv_at hl 1 rfl) ?_
  refine tb_get hx hb hts (fun w h => List.mem_cons_of_mem _ (inX2 w h)) hown hK hR 0 rfl rfl 6 (by decide) (hts _ (List.mem_cons_of_mem _ k107)) (fun _ h => h) rfl dX2_start_94 ?_
  refine lv_if_eq (tgt := 104) hx hb dX2_start_97 (by decide) (fun c1 => ?_) (fun c1 => ?_)
  · refine lv_iconst (v := 1) hx hb dX2_start_104 (by decide) ?_
    exact W.iret (v := 1) hx hb hr (fun t ht hW => ⟨⟨_, (J, K), rfl, ⟨Or.inr ⟨rfl, c1, hJ.nn c1⟩, hJ.1.1, hJ.1.2.1, hJ.1.2.2.2.2⟩, by show tR _ _ _ _ _ t.heap; rw [ht]; exact hR⟩, hS.F ht⟩) hS.2.2 dX2_start_105
  · refine lv_iconst (v := 0) hx hb dX2_start_100 (by decide) ?_
    refine lv_goto (tgt := 105) hx hb dX2_start_101 (by decide) ?_
    exact W.iret (v := 0) hx hb hr (fun t ht hW => ⟨⟨_, (J, K), rfl, ⟨Or.inl ⟨rfl, hJ.f1 c1, hJ.z h_n1 c1⟩, hJ.1.1, hJ.1.2.1, hJ.1.2.2.2.2⟩, by show tR _ _ _ _ _ t.heap; rw [ht]; exact hR⟩, hS.F ht⟩) hS.2.2 dX2_start_105
end C10
