section C2
variable {l : Launch} {D : va_G} {cs : Nat → ClassId} {base : Nat} {sa : Nat → Nat} {n : Nat} {ad : Nat → Nat}
set_option maxHeartbeats 4000000 in
set_option maxRecDepth 100000 in
theorem lp1X1_drawnYear {p : Program} {e : Env} {R : Room} {s : State} {m : MethodId} {args : Array Value} {below : List Frame} {meth : Method} {c : Code} {cells slots : Nat} {Q : State → Prop} (S0 : CallFix p m c cX1_drawnYear 12 s args wX1_drawnYear RX1) (hE : eV D cs base sa s) (hRf : 2 ≤ R.frames) (hRl : 54 ≤ R.locals) (hRc : cells ≤ R.cells) (hRs : slots ≤ R.slots) (I : tI) (L : tL) {nd no : Nat} {f la : Nat → Nat} {ph : Nat → Int32} {w : Nat → Nat → Nat} {ea lt le mo : Nat → Nat} (ky d : Nat) (y : Nat → Nat) (x : Nat) (hSi : cSi I nd no f la ph w ea lt le mo) (hwf : wfS nd no f la w ea lt le mo) (hd : d < nd) (hky : ∀ r q, wP n ad cs ky r q = some (.inl (cs 0, 8, .inl r))) (hy : ∀ i, i < nd → I ky i = nI (y i)) (hyb : ∀ i, i < nd → y i ≤ 255) (lo hi : Nat) (hlo : lo = sLo f ea lt le mo d y no) (hhi : hi = sHi la ea lt le mo d y no) (hlh : lo ≤ hi)
    (kx : ∀ (H : Heap) (locs : List Loc) (ls : Array Slot), lo ≤ hi + 1 → tR D vwCl base ad (tC (wP n ad cs) I L) H → va_S (fun q => base ≤ q) s.heap H locs → lv_has ls 12 [(9, .int (nI (hi + 1))), (7, .long (lN (sSum (fun q => w d (q - f d)) lo ((hi + 1) - lo)))), (6, .int (nI hi)), (5, .int (nI lo)), (0, .ref (ad 1)), (1, .int (nI d)), (2, .ref (ad ky)), (3, .long (lN x))] → W p l e R s m args below meth c H locs cells slots Q (F0 m 49 ls [])) :
    ∀ (k j : Nat) (H : Heap) (locs : List Loc) (ls : Array Slot), j ≤ hi + 1 → hi + 1 + 1 ≤ j + k → lo ≤ j → tR D vwCl base ad (tC (wP n ad cs) I L) H → va_S (fun q => base ≤ q) s.heap H locs → lv_has ls 12 [(9, .int (nI j)), (7, .long (lN (sSum (fun q => w d (q - f d)) lo (j - lo)))), (6, .int (nI hi)), (5, .int (nI lo)), (0, .ref (ad 1)), (1, .int (nI d)), (2, .ref (ad ky)), (3, .long (lN x))] → W p l e R s m args below meth c H locs cells slots Q (F0 m 23 ls []) := by
  obtain ⟨hx, hb, hml, hown, hts⟩ := S0
  have hK := hE.K
  obtain ⟨h_nd, h_no, h_d, h_o⟩ := id hwf
  have h_lo : f d ≤ lo := by rw [hlo]; exact sLo_ge no
  have h_hi : hi ≤ la d := by rw [hhi]; exact sHi_la no
  obtain ⟨h_f, h_la, h_63, h_w⟩ := h_d d hd
  intro k
  induction k with
  | zero => intro j  H locs ls h1 h2; exact absurd h2 (by omega)
  | succ k ih =>
    intro j  H locs ls hj hk hlj hR hS hl
    refine lv_iload hx hb dX1_drawnYear_23 (lv_at hl 0 rfl) ?_
    refine lv_iload hx hb dX1_drawnYear_25 (lv_at hl 2 rfl) ?_
    refine lv_icmp_gt (tgt := 49) hx hb dX1_drawnYear_27 (by decide) (fun c1 => ?_) (fun c1 => ?_)
    · have hjN : j = hi + 1 := by have e9 := (nI_ltI (by omega) (by omega)).mp c1; omega
      subst hjN
      exact kx  H locs ls hlj hR hS (lv_sub hl [0, 1, 2, 3, 4, 5, 6, 7] rfl)
    · have hjN : j < hi + 1 := by
        rcases Nat.lt_or_ge j (hi + 1) with q | q
        · exact q
        · exact absurd (nI_lt (by omega) (by omega)) c1
      refine lv_lload hx hb dX1_drawnYear_30 (lv_at hl 1 rfl) ?_
      refine lv_aload_n hx hb dX1_drawnYear_32 rfl (lv_at hl 4 rfl) ?_
      refine lv_iload_n hx hb dX1_drawnYear_33 rfl (lv_at hl 5 rfl) ?_
      refine lv_iload hx hb dX1_drawnYear_34 (lv_at hl 0 rfl) ?_
      refine kc_i (va_runV (As := [.int (nI d), .int (nI j)]) (rest := [.long (lN (sSum (fun q => w d (q - f d)) lo (j - lo)))]) ⟨hx, hb, hml, hown, hts⟩ (mX1_weightOf I L d (j - f d) (nI j) (by omega) (by rw [show I 2 d = nI (f d) from (hSi.2.2.1 d hd).1, pk_sub (by omega)]) (by omega)) (cwV 2 hts (kw_V k292 k294 ks9 k3 k295) rfl rfl rfl (by decide +kernel) ⟨Nat.le_trans (Nat.le_of_ble_eq_true rfl) hRf, Nat.le_trans (Nat.le_of_ble_eq_true rfl) hRl⟩) (kB_preV hE hR hS 1 rfl rfl [.int (nI d), .int (nI j)]) rfl rfl hl.1 rfl (lv_room (Nat.le_of_ble_eq_true rfl)) dX1_drawnYear_36 ⟨hRc, hRs⟩) hS (fun r u H locs hw hR hS => ?_)
      obtain ⟨rfl, rfl⟩ := hw
      have hR : tR D vwCl base ad (tC (wP n ad cs) I L) H := hR
      rw [show (I (10 + d) (j - f d)) = nI (w d (j - f d)) from (hSi.2.2.1 d hd).2.2.2 _ (by omega)]
      have h_wj := h_w (j - f d) (by omega)
      refine lv_i2l hx hb dX1_drawnYear_39 rfl ?_
      refine lv_ladd hx hb dX1_drawnYear_40 ?_
      rw [show ((lN (sSum (fun q => w d (q - f d)) lo (j - lo))) + ((nI (w d (j - f d))).toInt64)) = lN (sSum (fun q => w d (q - f d)) lo (j + 1 - lo)) from by rw [nI_l (by omega), lN_add, sSum_succ hlj]]
      refine lv_lstore (lv' := [(7, .long (lN (sSum (fun q => w d (q - f d)) lo (j + 1 - lo)))), (9, .int (nI j)), (6, .int (nI hi)), (5, .int (nI lo)), (0, .ref (ad 1)), (1, .int (nI d)), (2, .ref (ad ky)), (3, .long (lN x))]) hx hb dX1_drawnYear_41 hl (by decide) rfl (fun ls hl => ?_)
      refine lv_iinc (v := nI (j + 1)) (lv' := [(9, .int (nI (j + 1))), (7, .long (lN (sSum (fun q => w d (q - f d)) lo (j + 1 - lo)))), (6, .int (nI hi)), (5, .int (nI lo)), (0, .ref (ad 1)), (1, .int (nI d)), (2, .ref (ad ky)), (3, .long (lN x))]) hx hb dX1_drawnYear_43 hl (k := 1) rfl (nI_1 _) (by decide) rfl (fun ls hl => ?_)
      refine lv_goto (tgt := 23) hx hb dX1_drawnYear_46 (by decide) ?_
      exact ih (j + 1)  H locs ls (by omega) (by omega) (by omega) hR hS (lv_sub hl [0, 1, 2, 3, 4, 5, 6, 7] rfl)
set_option maxHeartbeats 4000000 in
set_option maxRecDepth 100000 in
theorem lp2X1_drawnYear {p : Program} {e : Env} {R : Room} {s : State} {m : MethodId} {args : Array Value} {below : List Frame} {meth : Method} {c : Code} {cells slots : Nat} {Q : State → Prop} (S0 : CallFix p m c cX1_drawnYear 12 s args wX1_drawnYear RX1) (hE : eV D cs base sa s) (hRf : 2 ≤ R.frames) (hRl : 54 ≤ R.locals) (hRc : cells ≤ R.cells) (hRs : slots ≤ R.slots) (I : tI) (L : tL) {nd no : Nat} {f la : Nat → Nat} {ph : Nat → Int32} {w : Nat → Nat → Nat} {ea lt le mo : Nat → Nat} (ky d : Nat) (y : Nat → Nat) (A : Nat) (hSi : cSi I nd no f la ph w ea lt le mo) (hwf : wfS nd no f la w ea lt le mo) (hd : d < nd) (hky : ∀ r q, wP n ad cs ky r q = some (.inl (cs 0, 8, .inl r))) (hy : ∀ i, i < nd → I ky i = nI (y i)) (hyb : ∀ i, i < nd → y i ≤ 255) (lo hi : Nat) (hlo : lo = sLo f ea lt le mo d y no) (hhi : hi = sHi la ea lt le mo d y no) (hlh : lo ≤ hi)
    (kr : ∀ (H : Heap) (locs : List Loc) (ls : Array Slot), tR D vwCl base ad (tC (wP n ad cs) I L) H → va_S (fun q => base ≤ q) s.heap H locs → W p l e R s m args below meth c H locs cells slots Q (F0 m 99 ls [.int (nI A)]))
    (kx : ∀ (r : Nat) (H : Heap) (locs : List Loc) (ls : Array Slot), lo ≤ hi → sPick (fun q => w d (q - f d)) (hi - hi) hi r = A → r < 2 ^ 31 → tR D vwCl base ad (tC (wP n ad cs) I L) H → va_S (fun q => base ≤ q) s.heap H locs → lv_has ls 12 [(11, .int (nI hi)), (9, .long (lN r)), (6, .int (nI hi)), (0, .ref (ad 1)), (1, .int (nI d))] → W p l e R s m args below meth c H locs cells slots Q (F0 m 106 ls [])) :
    ∀ (k j : Nat) (r : Nat) (H : Heap) (locs : List Loc) (ls : Array Slot), j ≤ hi → hi + 1 ≤ j + k → lo ≤ j → sPick (fun q => w d (q - f d)) (hi - j) j r = A → r < 2 ^ 31 → tR D vwCl base ad (tC (wP n ad cs) I L) H → va_S (fun q => base ≤ q) s.heap H locs → lv_has ls 12 [(11, .int (nI j)), (9, .long (lN r)), (6, .int (nI hi)), (0, .ref (ad 1)), (1, .int (nI d))] → W p l e R s m args below meth c H locs cells slots Q (F0 m 70 ls []) := by
  obtain ⟨hx, hb, hml, hown, hts⟩ := S0
  have hK := hE.K
  obtain ⟨h_nd, h_no, h_d, h_o⟩ := id hwf
  have h_lo : f d ≤ lo := by rw [hlo]; exact sLo_ge no
  have h_hi : hi ≤ la d := by rw [hhi]; exact sHi_la no
  obtain ⟨h_f, h_la, h_63, h_w⟩ := h_d d hd
  intro k
  induction k with
  | zero => intro j r H locs ls h1 h2; exact absurd h2 (by omega)
  | succ k ih =>
    intro j r H locs ls hj hk hlj hA hrb hR hS hl
    refine lv_iload hx hb dX1_drawnYear_70 (lv_at hl 0 rfl) ?_
    refine lv_iload hx hb dX1_drawnYear_72 (lv_at hl 2 rfl) ?_
    refine lv_icmp_ge (tgt := 106) hx hb dX1_drawnYear_74 (by decide) (fun c1 => ?_) (fun c1 => ?_)
    · have hjN : j = hi := by have e9 := (nI_leI (by omega) (by omega)).mp c1; omega
      subst hjN
      exact kx r H locs ls hlj hA hrb hR hS (lv_sub hl [0, 1, 2, 3, 4] rfl)
    · have hjN : j < hi := by
        rcases Nat.lt_or_ge j hi with q | q
        · exact q
        · exact absurd (nI_le (by omega) (by omega)) c1
      refine lv_lload hx hb dX1_drawnYear_77 (lv_at hl 1 rfl) ?_
      refine lv_aload_n hx hb dX1_drawnYear_79 rfl (lv_at hl 3 rfl) ?_
      refine lv_iload_n hx hb dX1_drawnYear_80 rfl (lv_at hl 4 rfl) ?_
      refine lv_iload hx hb dX1_drawnYear_81 (lv_at hl 0 rfl) ?_
      refine kc_i (va_runV (As := [.int (nI d), .int (nI j)]) (rest := [.long (lN r)]) ⟨hx, hb, hml, hown, hts⟩ (mX1_weightOf I L d (j - f d) (nI j) (by omega) (by rw [show I 2 d = nI (f d) from (hSi.2.2.1 d hd).1, pk_sub (by omega)]) (by omega)) (cwV 2 hts (kw_V k292 k294 ks9 k3 k295) rfl rfl rfl (by decide +kernel) ⟨Nat.le_trans (Nat.le_of_ble_eq_true rfl) hRf, Nat.le_trans (Nat.le_of_ble_eq_true rfl) hRl⟩) (kB_preV hE hR hS 1 rfl rfl [.int (nI d), .int (nI j)]) rfl rfl hl.1 rfl (lv_room (Nat.le_of_ble_eq_true rfl)) dX1_drawnYear_83 ⟨hRc, hRs⟩) hS (fun r u H locs hw hR hS => ?_)
      obtain ⟨rfl, rfl⟩ := hw
      have hR : tR D vwCl base ad (tC (wP n ad cs) I L) H := hR
      rw [show (I (10 + d) (j - f d)) = nI (w d (j - f d)) from (hSi.2.2.1 d hd).2.2.2 _ (by omega)]
      have h_wj := h_w (j - f d) (by omega)
      refine lv_i2l hx hb dX1_drawnYear_86 rfl ?_
      refine lv_lsub hx hb dX1_drawnYear_87 ?_
      rw [show ((lN r) - ((nI (w d (j - f d))).toInt64)) = lN r - lN (w d (j - f d)) from by rw [nI_l (by omega)]]
      refine lv_lstore (lv' := [(9, .long (lN r - lN (w d (j - f d)))), (11, .int (nI j)), (6, .int (nI hi)), (0, .ref (ad 1)), (1, .int (nI d))]) hx hb dX1_drawnYear_88 hl (by decide) rfl (fun ls hl => ?_)
      refine lv_lload hx hb dX1_drawnYear_90 (lv_at hl 0 rfl) ?_
      refine lv_lconst (v := 0) hx hb dX1_drawnYear_92 (by decide) ?_
      refine W.lcmp hx hb dX1_drawnYear_93 ?_
      refine lv_if_ge (tgt := 100) hx hb dX1_drawnYear_94 (by decide) (fun c2 => ?_) (fun c2 => ?_)
      · have hq : w d (j - f d) ≤ r := (lN_lt0 (by omega) hrb).mp c2
        rw [lN_sub hq] at hl
        have hA2 : sPick (fun q => w d (q - f d)) (hi - (j + 1)) (j + 1) (r - w d (j - f d)) = A := by rw [← hA, show hi - j = (hi - (j + 1)) + 1 by omega]; simp only [sPick]; rw [if_neg (by omega)]
        refine lv_iinc (v := nI (j + 1)) (lv' := [(11, .int (nI (j + 1))), (9, .long (lN (r - w d (j - f d)))), (6, .int (nI hi)), (0, .ref (ad 1)), (1, .int (nI d))]) hx hb dX1_drawnYear_100 hl (k := 1) rfl (nI_1 _) (by decide) rfl (fun ls hl => ?_)
        refine lv_goto (tgt := 70) hx hb dX1_drawnYear_103 (by decide) ?_
        exact ih (j + 1) (r - w d (j - f d)) H locs ls (by omega) (by omega) (by omega) hA2 (by omega) hR hS (lv_sub hl [0, 1, 2, 3, 4] rfl)
      · have hq : r < w d (j - f d) := Nat.lt_of_not_le (fun z => c2 ((lN_lt0 (by omega) hrb).mpr z))
        have hAj : A = j := by rw [← hA, show hi - j = (hi - j - 1) + 1 by omega]; simp only [sPick]; rw [if_pos hq]
        refine lv_iload hx hb dX1_drawnYear_97 (lv_at hl 1 rfl) ?_
        rw [← hAj]
        exact kr H locs ls hR hS
set_option maxHeartbeats 4000000 in
set_option maxRecDepth 100000 in
theorem mX1_drawnYear (I : tI) (L : tL) {nd no : Nat} {f la : Nat → Nat} {ph : Nat → Int32} {w : Nat → Nat → Nat} {ea lt le mo : Nat → Nat} (ky d : Nat) (y : Nat → Nat) (x : Nat) (hSi : cSi I nd no f la ph w ea lt le mo) (hwf : wfS nd no f la w ea lt le mo) (hd : d < nd) (hky : ∀ r q, wP n ad cs ky r q = some (.inl (cs 0, 8, .inl r))) (hy : ∀ i, i < nd → I ky i = nI (y i)) (hyb : ∀ i, i < nd → y i ≤ 255) (hO : ∀ j, j < no → y (ea j) + le j ≤ y (lt j)) (lo hi : Nat) (hlo : lo = sLo f ea lt le mo d y no) (hhi : hi = sHi la ea lt le mo d y no) (hlh : lo ≤ hi) (hx31 : x < 2 ^ 31) : Met l yX1_drawnYear wX1_drawnYear ({ frames := 2, cells := 0, slots := 0, locals := 54 }) (va_Pc [.ref (ad 1), .int (nI d), .ref (ad ky), .long (lN x)] (kB D cs base sa n ad I L)) (va_Qi (fun (r : Int32) (u : tI × tL) => r = nI (sPick (fun q => w d (q - f d)) (hi - lo) lo (x % sSum (fun q => w d (q - f d)) lo (hi + 1 - lo))) ∧ u = (I, L)) (kA D cs base n ad) (fun q => base ≤ q)) 0 0 (fun q => base ≤ q) := by
  refine Met.ofW (cc := cX1_drawnYear) (maxL := 12) (ret := (some .int)) (by decide) rfl ?_
  intro p e s m args below meth c s₁ B hml hv
  obtain ⟨rfl, hE, hR⟩ := hv
  have hx := B.exec
  have hb := B.bytes
  have hr := B.returns
  have hts := atoms_spec (ws := wX1_drawnYear) B.pre
  have hown : s.vm.findClass RX1 = some m.cls := findClass_of_methodNamed B.named
  have hlocks := B.notSynchronized
  have hK := hE.K
  have hS : va_S (fun q => base ≤ q) s.heap s.heap [] := va_S.rf
  have hR : tR D vwCl base ad (tC (wP n ad cs) I L) s.heap := hR
  have hl := lv_entry ([.ref (ad 1), .int (nI d), .ref (ad ky), .long (lN x)]) (n := 12) (Nat.le_of_ble_eq_true rfl)
  rw [lg_entry_eq]
  generalize (lg_sl ([.ref (ad 1), .int (nI d), .ref (ad ky), .long (lN x)]) ++ List.replicate (12 - (lg_sl ([.ref (ad 1), .int (nI d), .ref (ad ky), .long (lN x)])).length) Slot.unset).toArray = ls at hl ⊢
  have hl : lv_has ls 12 [(0, .ref (ad 1)), (1, .int (nI d)), (2, .ref (ad ky)), (3, .long (lN x))] := hl
  obtain ⟨h_nd, h_no, h_d, h_o⟩ := id hwf
  have h_lo : f d ≤ lo := by rw [hlo]; exact sLo_ge no
  have h_hi : hi ≤ la d := by rw [hhi]; exact sHi_la no
  obtain ⟨h_f, h_la, h_63, h_w⟩ := h_d d hd
  have h_S1 : sSum (fun q => w d (q - f d)) lo (hi + 1 - lo) ≤ (hi + 1 - lo) * 1000 := sSum_le (fun i hi9 => (h_w _ (by omega)).2)
  have h_S2 : (hi + 1 - lo) * 1000 ≤ 64000 := by omega
  have h_S0 : 0 < sSum (fun q => w d (q - f d)) lo (hi + 1 - lo) := sSum_pos (by omega) (fun i hi9 => (h_w _ (by omega)).1)
  refine lv_aload_n hx hb dX1_drawnYear_0 rfl (lv_at hl 0 rfl) ?_
  refine lv_iload_n hx hb dX1_drawnYear_1 rfl (lv_at hl 1 rfl) ?_
  refine lv_aload_n hx hb dX1_drawnYear_2 rfl (lv_at hl 2 rfl) ?_
  refine kc_i (va_runV (As := [.int (nI d), .ref (ad ky)]) (rest := []) ⟨hx, hb, hml, hown, hts⟩ (mX1_lowYear I L ky d y hSi hwf hd hky hy hyb) (cwV 2 hts (kw_V k372 k374 ks17 k3 k375) rfl rfl rfl (by decide +kernel) ⟨Nat.le_of_ble_eq_true rfl, Nat.le_of_ble_eq_true rfl⟩) (kB_preV hE hR hS 1 rfl rfl [.int (nI d), .ref (ad ky)]) rfl rfl hl.1 rfl (lv_room (Nat.le_of_ble_eq_true rfl)) dX1_drawnYear_3 ⟨Nat.le_of_ble_eq_true rfl, Nat.le_of_ble_eq_true rfl⟩) hS (fun r u H locs hw hR hS => ?_)
  obtain ⟨rfl, rfl⟩ := hw
  have hR : tR D vwCl base ad (tC (wP n ad cs) I L) H := hR
  rw [show (nI (sLo f ea lt le mo d y no)) = nI lo from by rw [hlo]]
  refine lv_istore (lv' := [(5, .int (nI lo)), (0, .ref (ad 1)), (1, .int (nI d)), (2, .ref (ad ky)), (3, .long (lN x))]) hx hb dX1_drawnYear_6 hl (by decide) rfl (fun ls hl => ?_)
  refine lv_aload_n hx hb dX1_drawnYear_8 rfl (lv_at hl 1 rfl) ?_
  refine lv_iload_n hx hb dX1_drawnYear_9 rfl (lv_at hl 2 rfl) ?_
  refine lv_aload_n hx hb dX1_drawnYear_10 rfl (lv_at hl 3 rfl) ?_
  refine kc_i (va_runV (As := [.int (nI d), .ref (ad ky)]) (rest := []) ⟨hx, hb, hml, hown, hts⟩ (mX1_highYear I L ky d y hSi hwf hd hky hy hyb hO) (cwV 2 hts (kw_V k377 k379 ks18 k3 k380) rfl rfl rfl (by decide +kernel) ⟨Nat.le_of_ble_eq_true rfl, Nat.le_of_ble_eq_true rfl⟩) (kB_preV hE hR hS 1 rfl rfl [.int (nI d), .ref (ad ky)]) rfl rfl hl.1 rfl (lv_room (Nat.le_of_ble_eq_true rfl)) dX1_drawnYear_11 ⟨Nat.le_of_ble_eq_true rfl, Nat.le_of_ble_eq_true rfl⟩) hS (fun r u H locs hw hR hS => ?_)
  obtain ⟨rfl, rfl⟩ := hw
  have hR : tR D vwCl base ad (tC (wP n ad cs) I L) H := hR
  rw [show (nI (sHi la ea lt le mo d y no)) = nI hi from by rw [hhi]]
  refine lv_istore (lv' := [(6, .int (nI hi)), (5, .int (nI lo)), (0, .ref (ad 1)), (1, .int (nI d)), (2, .ref (ad ky)), (3, .long (lN x))]) hx hb dX1_drawnYear_14 hl (by decide) rfl (fun ls hl => ?_)
  refine lv_lconst (v := 0) hx hb dX1_drawnYear_16 (by decide) ?_
  rw [show (0 : Int64) = lN (sSum (fun q => w d (q - f d)) lo (lo - lo)) from by rw [Nat.sub_self]; rfl]
  refine lv_lstore (lv' := [(7, .long (lN (sSum (fun q => w d (q - f d)) lo (lo - lo)))), (6, .int (nI hi)), (5, .int (nI lo)), (0, .ref (ad 1)), (1, .int (nI d)), (2, .ref (ad ky)), (3, .long (lN x))]) hx hb dX1_drawnYear_17 hl (by decide) rfl (fun ls hl => ?_)
  refine lv_iload hx hb dX1_drawnYear_19 (lv_at hl 2 rfl) ?_
  refine lv_istore (lv' := [(9, .int (nI lo)), (7, .long (lN (sSum (fun q => w d (q - f d)) lo (lo - lo)))), (6, .int (nI hi)), (5, .int (nI lo)), (0, .ref (ad 1)), (1, .int (nI d)), (2, .ref (ad ky)), (3, .long (lN x))]) hx hb dX1_drawnYear_21 hl (by decide) rfl (fun ls hl => ?_)
  refine lp1X1_drawnYear ⟨hx, hb, hml, hown, hts⟩ hE (Nat.le_of_ble_eq_true rfl) (Nat.le_of_ble_eq_true rfl) (Nat.le_of_ble_eq_true rfl) (Nat.le_of_ble_eq_true rfl) I L ky d y x hSi hwf hd hky hy hyb lo hi hlo hhi hlh (fun H locs ls _ hR hS hl => ?_) (hi + 2 - lo) lo _ _ ls (by omega) (by omega) (Nat.le_refl _) hR hS (lv_sub hl [0, 1, 2, 3, 4, 5, 6, 7] rfl)
  refine lv_lload hx hb dX1_drawnYear_49 (lv_at hl 1 rfl) ?_
  refine lv_lconst (v := 0) hx hb dX1_drawnYear_51 (by decide) ?_
  refine W.lcmp hx hb dX1_drawnYear_52 ?_
  refine lv_if_gt (tgt := 60) hx hb dX1_drawnYear_53 (by decide) (fun c1 => ?_) (fun c1 => ?_)
  · refine lv_lload_n hx hb dX1_drawnYear_60 rfl (lv_at hl 7 rfl) ?_
    refine lv_lload hx hb dX1_drawnYear_61 (lv_at hl 1 rfl) ?_
    refine lv_lrem hx hb dX1_drawnYear_63 (lN_ne0 h_S0 (by omega)) ?_
    rw [show lN x - lN x / lN (sSum (fun q => w d (q - f d)) lo (hi + 1 - lo)) * lN (sSum (fun q => w d (q - f d)) lo (hi + 1 - lo)) = lN (x % sSum (fun q => w d (q - f d)) lo (hi + 1 - lo)) from pk_lRem (by omega) h_S0 (by omega)]
    refine lv_lstore (lv' := [(9, .long (lN (x % sSum (fun q => w d (q - f d)) lo (hi + 1 - lo)))), (7, .long (lN (sSum (fun q => w d (q - f d)) lo ((hi + 1) - lo)))), (6, .int (nI hi)), (5, .int (nI lo)), (0, .ref (ad 1)), (1, .int (nI d)), (2, .ref (ad ky)), (3, .long (lN x))]) hx hb dX1_drawnYear_64 hl (by decide) rfl (fun ls hl => ?_)
    refine lv_iload hx hb dX1_drawnYear_66 (lv_at hl 3 rfl) ?_
    refine lv_istore (lv' := [(11, .int (nI lo)), (9, .long (lN (x % sSum (fun q => w d (q - f d)) lo (hi + 1 - lo)))), (7, .long (lN (sSum (fun q => w d (q - f d)) lo ((hi + 1) - lo)))), (6, .int (nI hi)), (5, .int (nI lo)), (0, .ref (ad 1)), (1, .int (nI d)), (2, .ref (ad ky)), (3, .long (lN x))]) hx hb dX1_drawnYear_68 hl (by decide) rfl (fun ls hl => ?_)
    refine lp2X1_drawnYear ⟨hx, hb, hml, hown, hts⟩ hE (Nat.le_of_ble_eq_true rfl) (Nat.le_of_ble_eq_true rfl) (Nat.le_of_ble_eq_true rfl) (Nat.le_of_ble_eq_true rfl) I L ky d y (sPick (fun q => w d (q - f d)) (hi - lo) lo (x % sSum (fun q => w d (q - f d)) lo (hi + 1 - lo))) hSi hwf hd hky hy hyb lo hi hlo hhi hlh (fun H locs ls hR hS => ?_) (fun r9 H locs ls _ hA9 _ hR hS hl => ?_) (hi + 1 - lo) lo _ _ _ ls hlh (by omega) (Nat.le_refl _) rfl (by have h9 := Nat.mod_lt x h_S0; omega) hR hS (lv_sub hl [0, 1, 3, 5, 6] rfl)
    · exact W.iret (v := nI (sPick (fun q => w d (q - f d)) (hi - lo) lo (x % sSum (fun q => w d (q - f d)) lo (hi + 1 - lo)))) hx hb hr (fun t ht hW => ⟨⟨_, (I, L), rfl, ⟨rfl, rfl⟩, by show tR _ _ _ _ _ t.heap; rw [ht]; exact hR⟩, hS.F ht⟩) hS.2.2 dX1_drawnYear_99
    · rw [Nat.sub_self] at hA9
      refine lv_iload hx hb dX1_drawnYear_106 (lv_at hl 2 rfl) ?_
      exact W.iret (v := nI hi) hx hb hr (fun t ht hW => ⟨⟨_, (I, L), rfl, ⟨by rw [← hA9]; rfl, rfl⟩, by show tR _ _ _ _ _ t.heap; rw [ht]; exact hR⟩, hS.F ht⟩) hS.2.2 dX1_drawnYear_108
  · exact absurd (lN_gt0 h_S0 (by omega)) c1
end C2
