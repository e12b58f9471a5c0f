section M3
variable {l : Launch} {D : va_G} {cs : Nat → ClassId} {base : Nat} {sa : Nat → Nat} {n : Nat} {ad : Nat → Nat}
set_option maxHeartbeats 4000000 in
set_option maxRecDepth 100000 in
theorem lpX3_fits {p : Program} {e : Env} {R : Room} {s : State} {m : MethodId} {args : Array Value} {below : List Frame} {meth : Method} {c : Code} {cells slots : Nat} {Q : State → Prop} (S0 : CallFix p m c cX3_fits 4 s args wX3_fits RX3) (hE : eV D cs base sa s) (hRf : 0 ≤ R.frames) (hRl : 0 ≤ R.locals) (hRc : cells ≤ R.cells) (hRs : slots ≤ R.slots) (I : tI) (L : tL) {nd no : Nat} {f la : Nat → Nat} {ph : Nat → Int32} {w : Nat → Nat → Nat} {ea lt le mo : Nat → Nat} (ch : Nat) (y : Nat → Nat) (hMs : cMs I nd no f la ph w ea lt le mo) (hwf : wfS nd no f la w ea lt le mo) (hch : ch < 4) (hy : rwM nd ch (I 209) y) (hyb : ∀ i, i < nd → y i < 2 ^ 29)
    (kx : ∀ (z : Int32) (H : Heap) (locs : List Loc) (ls : Array Slot), bZ (∀ i, i < nd → y i ≤ la i) z → tR D vwCl base ad (tC (wP n ad cs) I L) H → va_S (fun q => base ≤ q) s.heap H locs → lv_has ls 4 [(3, .int (nI nd)), (2, .int z), (0, .ref (ad 200)), (1, .int (nI ch))] → W p l e R s m args below meth c H locs cells slots Q (F0 m 48 ls [])) :
    ∀ (k j : Nat) (z : Int32) (H : Heap) (locs : List Loc) (ls : Array Slot), j ≤ nd → nd + 1 ≤ j + k → bZ (∀ i, i < j → y i ≤ la i) z → tR D vwCl base ad (tC (wP n ad cs) I L) H → va_S (fun q => base ≤ q) s.heap H locs → lv_has ls 4 [(3, .int (nI j)), (2, .int z), (0, .ref (ad 200)), (1, .int (nI ch))] → W p l e R s m args below meth c H locs cells slots Q (F0 m 4 ls []) := by
  obtain ⟨hx, hb, hml, hown, hts⟩ := S0
  have hK := hE.K
  obtain ⟨h_nd, h_no, h_d, h_o⟩ := id hwf
  intro k
  induction k with
  | zero => intro j z H locs ls h1 h2; exact absurd h2 (by omega)
  | succ k ih =>
    intro j z H locs ls hj hk hz hR hS hl
    refine lv_iload_n hx hb dX3_fits_4 rfl (lv_at hl 0 rfl) ?_
    refine lv_aload_n hx hb dX3_fits_5 rfl (lv_at hl 2 rfl) ?_
    refine tb_get hx hb hts (fun w h => List.mem_cons_of_mem _ (inX3 w h)) hown hK hR 200 rfl rfl 3 (by decide) (hts _ (List.mem_cons_of_mem _ k481)) (fun _ h => h) rfl dX3_fits_6 ?_
    rw [show I 200 3 = nI nd from hMs.1]
    refine lv_icmp_ge (tgt := 48) hx hb dX3_fits_9 (by decide) (fun c1 => ?_) (fun c1 => ?_)
    · have hjN : j = nd := by have e9 := (nI_leI (by omega) (by omega)).mp c1; omega
      subst hjN
      exact kx z H locs ls hz hR hS (lv_sub hl [0, 1, 2, 3] rfl)
    · have hjN : j < nd := by
        rcases Nat.lt_or_ge j nd with q | q
        · exact q
        · exact absurd (nI_le (by omega) (by omega)) c1
      obtain ⟨h_f, h_la, h_63, h_w⟩ := h_d j hjN
      have h_yj := hyb j hjN
      refine lv_iload_n hx hb dX3_fits_12 rfl (lv_at hl 1 rfl) ?_
      refine lv_if_eq (tgt := 40) hx hb dX3_fits_13 (by decide) (fun c2 => ?_) (fun c2 => ?_)
      · refine lv_iconst (v := 0) hx hb dX3_fits_40 (by decide) ?_
        refine lv_istore_n (lv' := [(2, .int 0), (3, .int (nI j)), (0, .ref (ad 200)), (1, .int (nI ch))]) hx hb dX3_fits_41 rfl hl (by decide) rfl (fun ls hl => ?_)
        refine lv_iinc (v := nI (j + 1)) (lv' := [(3, .int (nI (j + 1))), (2, .int 0), (0, .ref (ad 200)), (1, .int (nI ch))]) hx hb dX3_fits_42 hl (k := 1) rfl (nI_1 _) (by decide) rfl (fun ls hl => ?_)
        refine lv_goto (tgt := 4) hx hb dX3_fits_45 (by decide) ?_
        exact ih (j + 1) 0 H locs ls (by omega) (by omega) (bZ0 (fun q => hz.f c2 (fun i hi => q i (by omega)))) hR hS (lv_sub hl [0, 1, 2, 3] rfl)
      · have hp := hz.t c2
        refine lv_aload_n hx hb dX3_fits_16 rfl (lv_at hl 2 rfl) ?_
        refine tb_get hx hb hts (fun w h => List.mem_cons_of_mem _ (inX3 w h)) hown hK hR 200 rfl rfl 18 (by decide) (hts _ (List.mem_cons_of_mem _ k496)) (fun _ h => h) rfl dX3_fits_17 ?_
        refine lv_bipush (v := nI 8) hx hb dX3_fits_20 (by decide) ?_
        refine lv_iload_n hx hb dX3_fits_22 rfl (lv_at hl 3 rfl) ?_
        refine lv_imul hx hb dX3_fits_23 ?_
        rw [pk_mul]
        refine lv_iload_n hx hb dX3_fits_24 rfl (lv_at hl 0 rfl) ?_
        refine lv_iadd hx hb dX3_fits_25 ?_
        rw [nI_add]
        refine tp_iald hx hb hK hR 209 0 (fun _ _ => rfl) rfl (8 * ch + j) rfl (by omega) (by decide) dX3_fits_26 ?_
        rw [show I 209 (8 * ch + j) = nI (y j) from hy j (by omega)]
        refine lv_aload_n hx hb dX3_fits_27 rfl (lv_at hl 2 rfl) ?_
        refine tb_get hx hb hts (fun w h => List.mem_cons_of_mem _ (inX3 w h)) hown hK hR 200 rfl rfl 5 (by decide) (hts _ (List.mem_cons_of_mem _ k483)) (fun _ h => h) rfl dX3_fits_28 ?_
        refine lv_iload_n hx hb dX3_fits_31 rfl (lv_at hl 0 rfl) ?_
        refine tp_iald hx hb hK hR 202 0 (fun _ _ => rfl) rfl j rfl (by omega) (by decide) dX3_fits_32 ?_
        rw [show I 202 j = nI (la j) from (hMs.2.2.1 j (by omega)).2.1]
        refine lv_icmp_gt (tgt := 40) hx hb dX3_fits_33 (by decide) (fun c3 => ?_) (fun c3 => ?_)
        · have hq : la j < y j := (nI_ltI (by omega) (by omega)).mp c3
          refine lv_iconst (v := 0) hx hb dX3_fits_40 (by decide) ?_
          refine lv_istore_n (lv' := [(2, .int 0), (3, .int (nI j)), (0, .ref (ad 200)), (1, .int (nI ch))]) hx hb dX3_fits_41 rfl hl (by decide) rfl (fun ls hl => ?_)
          refine lv_iinc (v := nI (j + 1)) (lv' := [(3, .int (nI (j + 1))), (2, .int 0), (0, .ref (ad 200)), (1, .int (nI ch))]) hx hb dX3_fits_42 hl (k := 1) rfl (nI_1 _) (by decide) rfl (fun ls hl => ?_)
          refine lv_goto (tgt := 4) hx hb dX3_fits_45 (by decide) ?_
          exact ih (j + 1) 0 H locs ls (by omega) (by omega) (bZ0 (fun q => absurd (q j (by omega)) (by omega))) hR hS (lv_sub hl [0, 1, 2, 3] rfl)
        · have hq : y j ≤ la j := Nat.le_of_not_lt (fun q => c3 (nI_lt q (by omega)))
          refine lv_iconst (v := 1) hx hb dX3_fits_36 (by decide) ?_
          refine lv_goto (tgt := 41) hx hb dX3_fits_37 (by decide) ?_
          refine lv_istore_n (lv' := [(2, .int 1), (3, .int (nI j)), (0, .ref (ad 200)), (1, .int (nI ch))]) hx hb dX3_fits_41 rfl hl (by decide) rfl (fun ls hl => ?_)
          refine lv_iinc (v := nI (j + 1)) (lv' := [(3, .int (nI (j + 1))), (2, .int 1), (0, .ref (ad 200)), (1, .int (nI ch))]) hx hb dX3_fits_42 hl (k := 1) rfl (nI_1 _) (by decide) rfl (fun ls hl => ?_)
          refine lv_goto (tgt := 4) hx hb dX3_fits_45 (by decide) ?_
          exact ih (j + 1) 1 H locs ls (by omega) (by omega) (bZ1 (fun i hi => (Nat.lt_or_ge i j).elim (fun q => hp i q) (fun q => (show j = i by omega) ▸ hq))) hR hS (lv_sub hl [0, 1, 2, 3] rfl)
set_option maxHeartbeats 4000000 in
set_option maxRecDepth 100000 in
theorem mX3_fits (I : tI) (L : tL) {nd no : Nat} {f la : Nat → Nat} {ph : Nat → Int32} {w : Nat → Nat → Nat} {ea lt le mo : Nat → Nat} (ch : Nat) (y : Nat → Nat) (hMs : cMs I nd no f la ph w ea lt le mo) (hwf : wfS nd no f la w ea lt le mo) (hch : ch < 4) (hy : rwM nd ch (I 209) y) (hyb : ∀ i, i < nd → y i < 2 ^ 29) : Met l yX3_fits wX3_fits ({ frames := 0, cells := 0, slots := 0, locals := 0 }) (va_Pc [.ref (ad 200), .int (nI ch)] (kB D cs base sa n ad I L)) (va_Qi (fun (r : Int32) (u : tI × tL) => bZ (∀ i, i < nd → y i ≤ la i) r ∧ u = (I, L)) (kA D cs base n ad) (fun q => base ≤ q)) 0 0 (fun q => base ≤ q) := by
  refine Met.ofW (cc := cX3_fits) (maxL := 4) (ret := (some .boolean)) (by decide) rfl ?_
  intro p e s m args below meth c s₁ Bd hml hv
  obtain ⟨rfl, hE, hR⟩ := hv
  have hx := Bd.exec
  have hb := Bd.bytes
  have hr := Bd.returns
  have hts := atoms_spec (ws := wX3_fits) Bd.pre
  have hown : s.vm.findClass RX3 = some m.cls := findClass_of_methodNamed Bd.named
  have hlocks := Bd.notSynchronized
  have hK := hE.K
  have hS : va_S (fun q => base ≤ q) s.heap s.heap [] := va_S.rf
  have hR : tR D vwCl base ad (tC (wP n ad cs) I L) s.heap := hR
  have hl := lv_entry ([.ref (ad 200), .int (nI ch)]) (n := 4) (Nat.le_of_ble_eq_true rfl)
  rw [lg_entry_eq]
  generalize (lg_sl ([.ref (ad 200), .int (nI ch)]) ++ List.replicate (4 - (lg_sl ([.ref (ad 200), .int (nI ch)])).length) Slot.unset).toArray = ls at hl ⊢
  have hl : lv_has ls 4 [(0, .ref (ad 200)), (1, .int (nI ch))] := hl
  refine lv_iconst (v := 1) hx hb dX3_fits_0 (by decide) ?_
  refine lv_istore_n (lv' := [(2, .int 1), (0, .ref (ad 200)), (1, .int (nI ch))]) hx hb dX3_fits_1 rfl hl (by decide) rfl (fun ls hl => ?_)
  refine lv_iconst (v := 0) hx hb dX3_fits_2 (by decide) ?_
  rw [show (0 : Int32) = nI 0 from nI_0.symm]
  refine lv_istore_n (lv' := [(3, .int (nI 0)), (2, .int 1), (0, .ref (ad 200)), (1, .int (nI ch))]) hx hb dX3_fits_3 rfl hl (by decide) rfl (fun ls hl => ?_)
  refine lpX3_fits ⟨hx, hb, hml, hown, hts⟩ hE (Nat.zero_le _) (Nat.zero_le _) (Nat.le_of_ble_eq_true rfl) (Nat.le_of_ble_eq_true rfl) I L ch y hMs hwf hch hy hyb (fun z H locs ls hz hR hS hl => ?_) (nd + 1) 0 1 _ _ ls (Nat.zero_le _) (by omega) (bZ1 (fun i hi => absurd hi (Nat.not_lt_zero _))) hR hS (lv_sub hl [0, 1, 2, 3] rfl)
  refine lv_iload_n hx hb dX3_fits_48 rfl (lv_at hl 1 rfl) ?_
  exact W.zret (v := z) hx hb hr (by rcases hz.nar with q | q <;> subst q <;> rfl) (fun t ht hW => ⟨⟨_, (I, L), rfl, ⟨hz, rfl⟩, by show tR _ _ _ _ _ t.heap; rw [ht]; exact hR⟩, hS.F ht⟩) hS.2.2 dX3_fits_49
set_option maxHeartbeats 4000000 in
set_option maxRecDepth 100000 in
theorem lpX3_lifts {p : Program} {e : Env} {R : Room} {s : State} {m : MethodId} {args : Array Value} {below : List Frame} {meth : Method} {c : Code} {cells slots : Nat} {Q : State → Prop} (S0 : CallFix p m c cX3_lifts 6 s args wX3_lifts RX3) (hE : eV D cs base sa s) (hRf : 0 ≤ R.frames) (hRl : 0 ≤ R.locals) (hRc : cells ≤ R.cells) (hRs : slots ≤ R.slots) (I : tI) (L : tL) {nd no : Nat} {f la : Nat → Nat} {ph : Nat → Int32} {w : Nat → Nat → Nat} {ea lt le mo : Nat → Nat} (ch B : Nat) (y0 : Nat → Nat) (hMs : cMs I nd no f la ph w ea lt le mo) (hwf : wfS nd no f la w ea lt le mo) (hch : ch < 4) (hB : ∀ d, d < nd → y0 d ≤ B) (hB2 : B + 10000 < 2 ^ 28)
    (kx : ∀ (y : Nat → Nat) (row : Nat → Int32) (z : Int32) (H : Heap) (locs : List Loc) (ls : Array Slot), rwM nd ch row y → y = qR ea lt le mo no y0 → rZ nd y0 y z → tR D vwCl base ad (tC (wP n ad cs) (va_up I 209 row) L) H → va_S (fun q => base ≤ q) s.heap H locs → lv_has ls 6 [(3, .int (nI no)), (2, .int z), (0, .ref (ad 200)), (1, .int (nI ch))] → W p l e R s m args below meth c H locs cells slots Q (F0 m 141 ls [])) :
    ∀ (k j : Nat) (y : Nat → Nat) (row : Nat → Int32) (z : Int32) (H : Heap) (locs : List Loc) (ls : Array Slot), j ≤ no → no + 1 ≤ j + k → rwM nd ch row y → y = qR ea lt le mo j y0 → rZ nd y0 y z → tR D vwCl base ad (tC (wP n ad cs) (va_up I 209 row) L) H → va_S (fun q => base ≤ q) s.heap H locs → lv_has ls 6 [(3, .int (nI j)), (2, .int z), (0, .ref (ad 200)), (1, .int (nI ch))] → W p l e R s m args below meth c H locs cells slots Q (F0 m 4 ls []) := by
  obtain ⟨hx, hb, hml, hown, hts⟩ := S0
  have hK := hE.K
  obtain ⟨h_nd, h_no, h_d, h_o⟩ := id hwf
  intro k
  induction k with
  | zero => intro j y row z H locs ls h1 h2; exact absurd h2 (by omega)
  | succ k ih =>
    intro j y row z H locs ls hj hk hrow hyR hZ hR hS hl
    refine lv_iload_n hx hb dX3_lifts_4 rfl (lv_at hl 0 rfl) ?_
    refine lv_aload_n hx hb dX3_lifts_5 rfl (lv_at hl 2 rfl) ?_
    refine tb_get hx hb hts (fun w h => List.mem_cons_of_mem _ (inX3 w h)) hown hK hR 200 rfl rfl 8 (by decide) (hts _ (List.mem_cons_of_mem _ k486)) (fun _ h => h) rfl dX3_lifts_6 ?_
    rw [show (va_up I 209 row) 200 8 = nI no from (by rw [va_up_ne _ _ (by omega)]; exact hMs.2.1)]
    refine lv_icmp_ge (tgt := 141) hx hb dX3_lifts_9 (by decide) (fun c1 => ?_) (fun c1 => ?_)
    · have hjN : j = no := by have e9 := (nI_leI (by omega) (by omega)).mp c1; omega
      subst hjN
      exact kx y row z H locs ls hrow hyR hZ hR hS (lv_sub hl [0, 1, 2, 3] rfl)
    · have hjN : j < no := by
        rcases Nat.lt_or_ge j no with q | q
        · exact q
        · exact absurd (nI_le (by omega) (by omega)) c1
      obtain ⟨h_ea, h_lt, h_ne, h_lm, h_mo⟩ := hwf.2.2.2 j hjN
      have h_y1 : y (ea j) ≤ B + 255 * j := by rw [hyR]; exact qR_le hwf hB (by omega) _ h_ea
      have h_y2 : y (lt j) ≤ B + 255 * j := by rw [hyR]; exact qR_le hwf hB (by omega) _ h_lt
      refine lv_bipush (v := nI 8) hx hb dX3_lifts_12 (by decide) ?_
      refine lv_iload_n hx hb dX3_lifts_14 rfl (lv_at hl 3 rfl) ?_
      refine lv_imul hx hb dX3_lifts_15 ?_
      rw [pk_mul]
      refine lv_aload_n hx hb dX3_lifts_16 rfl (lv_at hl 2 rfl) ?_
      refine tb_get hx hb hts (fun w h => List.mem_cons_of_mem _ (inX3 w h)) hown hK hR 200 rfl rfl 9 (by decide) (hts _ (List.mem_cons_of_mem _ k487)) (fun _ h => h) rfl dX3_lifts_17 ?_
      refine lv_iload_n hx hb dX3_lifts_20 rfl (lv_at hl 0 rfl) ?_
      refine tp_iald hx hb hK hR 205 0 (fun _ _ => rfl) rfl j rfl (by omega) (by decide) dX3_lifts_21 ?_
      rw [show (va_up I 209 row) 205 j = nI (ea j) from (by rw [va_up_ne _ _ (by omega)]; exact (hMs.2.2.2 j (by omega)).1)]
      refine lv_iadd hx hb dX3_lifts_22 ?_
      rw [nI_add]
      refine lv_istore (lv' := [(4, .int (nI (8 * ch + ea j))), (3, .int (nI j)), (2, .int z), (0, .ref (ad 200)), (1, .int (nI ch))]) hx hb dX3_lifts_23 hl (by decide) rfl (fun ls hl => ?_)
      refine lv_bipush (v := nI 8) hx hb dX3_lifts_25 (by decide) ?_
      refine lv_iload_n hx hb dX3_lifts_27 rfl (lv_at hl 4 rfl) ?_
      refine lv_imul hx hb dX3_lifts_28 ?_
      rw [pk_mul]
      refine lv_aload_n hx hb dX3_lifts_29 rfl (lv_at hl 3 rfl) ?_
      refine tb_get hx hb hts (fun w h => List.mem_cons_of_mem _ (inX3 w h)) hown hK hR 200 rfl rfl 10 (by decide) (hts _ (List.mem_cons_of_mem _ k488)) (fun _ h => h) rfl dX3_lifts_30 ?_
      refine lv_iload_n hx hb dX3_lifts_33 rfl (lv_at hl 1 rfl) ?_
      refine tp_iald hx hb hK hR 206 0 (fun _ _ => rfl) rfl j rfl (by omega) (by decide) dX3_lifts_34 ?_
      rw [show (va_up I 209 row) 206 j = nI (lt j) from (by rw [va_up_ne _ _ (by omega)]; exact (hMs.2.2.2 j (by omega)).2.1)]
      refine lv_iadd hx hb dX3_lifts_35 ?_
      rw [nI_add]
      refine lv_istore (lv' := [(5, .int (nI (8 * ch + lt j))), (4, .int (nI (8 * ch + ea j))), (3, .int (nI j)), (2, .int z), (0, .ref (ad 200)), (1, .int (nI ch))]) hx hb dX3_lifts_36 hl (by decide) rfl (fun ls hl => ?_)
      refine lv_aload_n hx hb dX3_lifts_38 rfl (lv_at hl 4 rfl) ?_
      refine tb_get hx hb hts (fun w h => List.mem_cons_of_mem _ (inX3 w h)) hown hK hR 200 rfl rfl 18 (by decide) (hts _ (List.mem_cons_of_mem _ k496)) (fun _ h => h) rfl dX3_lifts_39 ?_
      refine lv_iload hx hb dX3_lifts_42 (lv_at hl 0 rfl) ?_
      refine tp_iald hx hb hK hR 209 0 (fun _ _ => rfl) rfl (8 * ch + lt j) rfl (by omega) (by decide) dX3_lifts_44 ?_
      rw [show (va_up I 209 row) 209 (8 * ch + lt j) = nI (y (lt j)) from (by rw [va_up_self]; exact hrow _ (by omega))]
      refine lv_aload_n hx hb dX3_lifts_45 rfl (lv_at hl 4 rfl) ?_
      refine tb_get hx hb hts (fun w h => List.mem_cons_of_mem _ (inX3 w h)) hown hK hR 200 rfl rfl 18 (by decide) (hts _ (List.mem_cons_of_mem _ k496)) (fun _ h => h) rfl dX3_lifts_46 ?_
      refine lv_iload hx hb dX3_lifts_49 (lv_at hl 1 rfl) ?_
      refine tp_iald hx hb hK hR 209 0 (fun _ _ => rfl) rfl (8 * ch + ea j) rfl (by omega) (by decide) dX3_lifts_51 ?_
      rw [show (va_up I 209 row) 209 (8 * ch + ea j) = nI (y (ea j)) from (by rw [va_up_self]; exact hrow _ (by omega))]
      refine lv_aload_n hx hb dX3_lifts_52 rfl (lv_at hl 4 rfl) ?_
      refine tb_get hx hb hts (fun w h => List.mem_cons_of_mem _ (inX3 w h)) hown hK hR 200 rfl rfl 11 (by decide) (hts _ (List.mem_cons_of_mem _ k489)) (fun _ h => h) rfl dX3_lifts_53 ?_
      refine lv_iload_n hx hb dX3_lifts_56 rfl (lv_at hl 2 rfl) ?_
      refine tp_iald hx hb hK hR 207 0 (fun _ _ => rfl) rfl j rfl (by omega) (by decide) dX3_lifts_57 ?_
      rw [show (va_up I 209 row) 207 j = nI (le j) from (by rw [va_up_ne _ _ (by omega)]; exact (hMs.2.2.2 j (by omega)).2.2.1)]
      refine lv_iadd hx hb dX3_lifts_58 ?_
      refine lv_icmp_ge (tgt := 88) hx hb dX3_lifts_59 (by decide) (fun c2 => ?_) (fun c2 => ?_)
      · have hq1 : ¬ y (lt j) < y (ea j) + le j := Nat.not_lt.mpr ((add_le (by omega) (by omega) (by omega)).mp c2)
        refine lv_aload_n hx hb dX3_lifts_88 rfl (lv_at hl 4 rfl) ?_
        refine tb_get hx hb hts (fun w h => List.mem_cons_of_mem _ (inX3 w h)) hown hK hR 200 rfl rfl 18 (by decide) (hts _ (List.mem_cons_of_mem _ k496)) (fun _ h => h) rfl dX3_lifts_89 ?_
        refine lv_iload hx hb dX3_lifts_92 (lv_at hl 1 rfl) ?_
        refine tp_iald hx hb hK hR 209 0 (fun _ _ => rfl) rfl (8 * ch + ea j) rfl (by omega) (by decide) dX3_lifts_94 ?_
        rw [show (va_up I 209 row) 209 (8 * ch + ea j) = nI (y (ea j)) from (by rw [va_up_self]; exact hrow _ (by omega))]
        refine lv_aload_n hx hb dX3_lifts_95 rfl (lv_at hl 4 rfl) ?_
        refine tb_get hx hb hts (fun w h => List.mem_cons_of_mem _ (inX3 w h)) hown hK hR 200 rfl rfl 18 (by decide) (hts _ (List.mem_cons_of_mem _ k496)) (fun _ h => h) rfl dX3_lifts_96 ?_
        refine lv_iload hx hb dX3_lifts_99 (lv_at hl 0 rfl) ?_
        refine tp_iald hx hb hK hR 209 0 (fun _ _ => rfl) rfl (8 * ch + lt j) rfl (by omega) (by decide) dX3_lifts_101 ?_
        rw [show (va_up I 209 row) 209 (8 * ch + lt j) = nI (y (lt j)) from (by rw [va_up_self]; exact hrow _ (by omega))]
        refine lv_aload_n hx hb dX3_lifts_102 rfl (lv_at hl 4 rfl) ?_
        refine tb_get hx hb hts (fun w h => List.mem_cons_of_mem _ (inX3 w h)) hown hK hR 200 rfl rfl 12 (by decide) (hts _ (List.mem_cons_of_mem _ k490)) (fun _ h => h) rfl dX3_lifts_103 ?_
        refine lv_iload_n hx hb dX3_lifts_106 rfl (lv_at hl 2 rfl) ?_
        refine tp_iald hx hb hK hR 208 0 (fun _ _ => rfl) rfl j rfl (by omega) (by decide) dX3_lifts_107 ?_
        rw [show (va_up I 209 row) 208 j = nI (mo j) from (by rw [va_up_ne _ _ (by omega)]; exact (hMs.2.2.2 j (by omega)).2.2.2)]
        refine lv_isub hx hb dX3_lifts_108 ?_
        refine lv_icmp_ge (tgt := 135) hx hb dX3_lifts_109 (by decide) (fun c3 => ?_) (fun c3 => ?_)
        · have hq2 : ¬ y (ea j) + mo j < y (lt j) := Nat.not_lt.mpr ((sub_le (by omega) (by omega) (by omega)).mp c3)
          have e1 : qO ea lt le mo j y = y := by unfold qO; rw [if_neg hq1, if_neg hq2]
          have g0 := qR_ge (ea := ea) (lt := lt) (le := le) (mo := mo) j y0
          rw [← hyR] at g0
          have hyS : qO ea lt le mo j y = qR ea lt le mo (j + 1) y0 := by rw [hyR]; rfl
          have hrow2 : rwM nd ch row (qO ea lt le mo j y) := by rw [e1]; exact hrow
          have hZ2 : rZ nd y0 (qO ea lt le mo j y) z := by rw [e1]; exact hZ
          refine lv_iinc (v := nI (j + 1)) (lv' := [(3, .int (nI (j + 1))), (5, .int (nI (8 * ch + lt j))), (4, .int (nI (8 * ch + ea j))), (2, .int z), (0, .ref (ad 200)), (1, .int (nI ch))]) hx hb dX3_lifts_135 hl (k := 2) rfl (nI_1 _) (by decide) rfl (fun ls hl => ?_)
          refine lv_goto (tgt := 4) hx hb dX3_lifts_138 (by decide) ?_
          exact ih (j + 1) (qO ea lt le mo j y) row z H locs ls (by omega) (by omega) hrow2 hyS hZ2 hR hS (lv_sub hl [0, 3, 4, 5] rfl)
        · have hq2 : y (ea j) + mo j < y (lt j) := Nat.lt_of_not_le (fun q => c3 ((sub_le (by omega) (by omega) (by omega)).mpr q))
          have e1 : qO ea lt le mo j y = va_up y (ea j) (y (lt j) - mo j) := by unfold qO; rw [if_neg hq1, if_pos hq2]
          refine lv_aload_n hx hb dX3_lifts_112 rfl (lv_at hl 4 rfl) ?_
          refine tb_get hx hb hts (fun w h => List.mem_cons_of_mem _ (inX3 w h)) hown hK hR 200 rfl rfl 18 (by decide) (hts _ (List.mem_cons_of_mem _ k496)) (fun _ h => h) rfl dX3_lifts_113 ?_
          refine lv_iload hx hb dX3_lifts_116 (lv_at hl 1 rfl) ?_
          refine lv_aload_n hx hb dX3_lifts_118 rfl (lv_at hl 4 rfl) ?_
          refine tb_get hx hb hts (fun w h => List.mem_cons_of_mem _ (inX3 w h)) hown hK hR 200 rfl rfl 18 (by decide) (hts _ (List.mem_cons_of_mem _ k496)) (fun _ h => h) rfl dX3_lifts_119 ?_
          refine lv_iload hx hb dX3_lifts_122 (lv_at hl 0 rfl) ?_
          refine tp_iald hx hb hK hR 209 0 (fun _ _ => rfl) rfl (8 * ch + lt j) rfl (by omega) (by decide) dX3_lifts_124 ?_
          rw [show (va_up I 209 row) 209 (8 * ch + lt j) = nI (y (lt j)) from (by rw [va_up_self]; exact hrow _ (by omega))]
          refine lv_aload_n hx hb dX3_lifts_125 rfl (lv_at hl 4 rfl) ?_
          refine tb_get hx hb hts (fun w h => List.mem_cons_of_mem _ (inX3 w h)) hown hK hR 200 rfl rfl 12 (by decide) (hts _ (List.mem_cons_of_mem _ k490)) (fun _ h => h) rfl dX3_lifts_126 ?_
          refine lv_iload_n hx hb dX3_lifts_129 rfl (lv_at hl 2 rfl) ?_
          refine tp_iald hx hb hK hR 208 0 (fun _ _ => rfl) rfl j rfl (by omega) (by decide) dX3_lifts_130 ?_
          rw [show (va_up I 209 row) 208 j = nI (mo j) from (by rw [va_up_ne _ _ (by omega)]; exact (hMs.2.2.2 j (by omega)).2.2.2)]
          refine lv_isub hx hb dX3_lifts_131 ?_
          refine tp_iast hx hb hK hR hS 209 0 (fun _ _ => rfl) rfl (8 * ch + ea j) rfl (by omega) (by decide) dX3_lifts_132 (fun H locs hR hS => ?_)
          refine lv_iconst (v := 1) hx hb dX3_lifts_133 (by decide) ?_
          refine lv_istore_n (lv' := [(2, .int 1), (5, .int (nI (8 * ch + lt j))), (4, .int (nI (8 * ch + ea j))), (3, .int (nI j)), (0, .ref (ad 200)), (1, .int (nI ch))]) hx hb dX3_lifts_134 rfl hl (by decide) rfl (fun ls hl => ?_)
          have g0 := qR_ge (ea := ea) (lt := lt) (le := le) (mo := mo) j y0
          rw [← hyR] at g0
          have hyS : qO ea lt le mo j y = qR ea lt le mo (j + 1) y0 := by rw [hyR]; rfl
          rw [bx_uu, va_up_self] at hR
          have hrow2 : rwM nd ch (upd row (8 * ch + ea j) (nI (y (lt j)) - nI (mo j))) (qO ea lt le mo j y) := by rw [e1]; exact hrow.put _ _ (pk_sub (by omega))
          have q3 : qO ea lt le mo j y (ea j) = y (lt j) - mo j := by rw [e1, va_up_self]
          have hZ2 : rZ nd y0 (qO ea lt le mo j y) 1 := Or.inr ⟨rfl, ea j, h_ea, by have q1 := g0 (ea j); omega⟩
          refine lv_iinc (v := nI (j + 1)) (lv' := [(3, .int (nI (j + 1))), (2, .int 1), (5, .int (nI (8 * ch + lt j))), (4, .int (nI (8 * ch + ea j))), (0, .ref (ad 200)), (1, .int (nI ch))]) hx hb dX3_lifts_135 hl (k := 3) rfl (nI_1 _) (by decide) rfl (fun ls hl => ?_)
          refine lv_goto (tgt := 4) hx hb dX3_lifts_138 (by decide) ?_
          exact ih (j + 1) (qO ea lt le mo j y) (upd row (8 * ch + ea j) (nI (y (lt j)) - nI (mo j))) 1 H locs ls (by omega) (by omega) hrow2 hyS hZ2 hR hS (lv_sub hl [0, 1, 4, 5] rfl)
      · have hq1 : y (lt j) < y (ea j) + le j := Nat.lt_of_not_le (fun q => c2 ((add_le (by omega) (by omega) (by omega)).mpr q))
        have e1 : qO ea lt le mo j y = va_up y (lt j) (y (ea j) + le j) := by unfold qO; rw [if_pos hq1]
        refine lv_aload_n hx hb dX3_lifts_62 rfl (lv_at hl 4 rfl) ?_
        refine tb_get hx hb hts (fun w h => List.mem_cons_of_mem _ (inX3 w h)) hown hK hR 200 rfl rfl 18 (by decide) (hts _ (List.mem_cons_of_mem _ k496)) (fun _ h => h) rfl dX3_lifts_63 ?_
        refine lv_iload hx hb dX3_lifts_66 (lv_at hl 0 rfl) ?_
        refine lv_aload_n hx hb dX3_lifts_68 rfl (lv_at hl 4 rfl) ?_
        refine tb_get hx hb hts (fun w h => List.mem_cons_of_mem _ (inX3 w h)) hown hK hR 200 rfl rfl 18 (by decide) (hts _ (List.mem_cons_of_mem _ k496)) (fun _ h => h) rfl dX3_lifts_69 ?_
        refine lv_iload hx hb dX3_lifts_72 (lv_at hl 1 rfl) ?_
        refine tp_iald hx hb hK hR 209 0 (fun _ _ => rfl) rfl (8 * ch + ea j) rfl (by omega) (by decide) dX3_lifts_74 ?_
        rw [show (va_up I 209 row) 209 (8 * ch + ea j) = nI (y (ea j)) from (by rw [va_up_self]; exact hrow _ (by omega))]
        refine lv_aload_n hx hb dX3_lifts_75 rfl (lv_at hl 4 rfl) ?_
        refine tb_get hx hb hts (fun w h => List.mem_cons_of_mem _ (inX3 w h)) hown hK hR 200 rfl rfl 11 (by decide) (hts _ (List.mem_cons_of_mem _ k489)) (fun _ h => h) rfl dX3_lifts_76 ?_
        refine lv_iload_n hx hb dX3_lifts_79 rfl (lv_at hl 2 rfl) ?_
        refine tp_iald hx hb hK hR 207 0 (fun _ _ => rfl) rfl j rfl (by omega) (by decide) dX3_lifts_80 ?_
        rw [show (va_up I 209 row) 207 j = nI (le j) from (by rw [va_up_ne _ _ (by omega)]; exact (hMs.2.2.2 j (by omega)).2.2.1)]
        refine lv_iadd hx hb dX3_lifts_81 ?_
        refine tp_iast hx hb hK hR hS 209 0 (fun _ _ => rfl) rfl (8 * ch + lt j) rfl (by omega) (by decide) dX3_lifts_82 (fun H locs hR hS => ?_)
        refine lv_iconst (v := 1) hx hb dX3_lifts_83 (by decide) ?_
        refine lv_istore_n (lv' := [(2, .int 1), (5, .int (nI (8 * ch + lt j))), (4, .int (nI (8 * ch + ea j))), (3, .int (nI j)), (0, .ref (ad 200)), (1, .int (nI ch))]) hx hb dX3_lifts_84 rfl hl (by decide) rfl (fun ls hl => ?_)
        refine lv_goto (tgt := 135) hx hb dX3_lifts_85 (by decide) ?_
        have g0 := qR_ge (ea := ea) (lt := lt) (le := le) (mo := mo) j y0
        rw [← hyR] at g0
        have hyS : qO ea lt le mo j y = qR ea lt le mo (j + 1) y0 := by rw [hyR]; rfl
        rw [bx_uu, va_up_self] at hR
        have hrow2 : rwM nd ch (upd row (8 * ch + lt j) (nI (y (ea j)) + nI (le j))) (qO ea lt le mo j y) := by rw [e1]; exact hrow.put _ _ (nI_add _ _)
        have q3 : qO ea lt le mo j y (lt j) = y (ea j) + le j := by rw [e1, va_up_self]
        have hZ2 : rZ nd y0 (qO ea lt le mo j y) 1 := Or.inr ⟨rfl, lt j, h_lt, by have q1 := g0 (lt j); omega⟩
        refine lv_iinc (v := nI (j + 1)) (lv' := [(3, .int (nI (j + 1))), (2, .int 1), (5, .int (nI (8 * ch + lt j))), (4, .int (nI (8 * ch + ea j))), (0, .ref (ad 200)), (1, .int (nI ch))]) hx hb dX3_lifts_135 hl (k := 3) rfl (nI_1 _) (by decide) rfl (fun ls hl => ?_)
        refine lv_goto (tgt := 4) hx hb dX3_lifts_138 (by decide) ?_
        exact ih (j + 1) (qO ea lt le mo j y) (upd row (8 * ch + lt j) (nI (y (ea j)) + nI (le j))) 1 H locs ls (by omega) (by omega) hrow2 hyS hZ2 hR hS (lv_sub hl [0, 1, 4, 5] rfl)
set_option maxHeartbeats 4000000 in
set_option maxRecDepth 100000 in
theorem mX3_lifts (I : tI) (L : tL) {nd no : Nat} {f la : Nat → Nat} {ph : Nat → Int32} {w : Nat → Nat → Nat} {ea lt le mo : Nat → Nat} (ch B : Nat) (y0 : Nat → Nat) (row0 : Nat → Int32) (hMs : cMs I nd no f la ph w ea lt le mo) (hwf : wfS nd no f la w ea lt le mo) (hch : ch < 4) (hB : ∀ d, d < nd → y0 d ≤ B) (hB2 : B + 10000 < 2 ^ 28) (hrow0 : rwM nd ch row0 y0) : Met l yX3_lifts wX3_lifts ({ frames := 0, cells := 0, slots := 0, locals := 0 }) (va_Pc [.ref (ad 200), .int (nI ch)] (kB D cs base sa n ad (va_up I 209 row0) L)) (va_Qi (fun (r : Int32) (u : tI × tL) => ∃ row : Nat → Int32, u = (va_up I 209 row, L) ∧ rwM nd ch row (qR ea lt le mo no y0) ∧ rZ nd y0 (qR ea lt le mo no y0) r) (kA D cs base n ad) (fun q => base ≤ q)) 0 0 (fun q => base ≤ q) := by
  refine Met.ofW (cc := cX3_lifts) (maxL := 6) (ret := (some .boolean)) (by decide) rfl ?_
  intro p e s m args below meth c s₁ Bd hml hv
  obtain ⟨rfl, hE, hR⟩ := hv
  have hx := Bd.exec
  have hb := Bd.bytes
  have hr := Bd.returns
  have hts := atoms_spec (ws := wX3_lifts) Bd.pre
  have hown : s.vm.findClass RX3 = some m.cls := findClass_of_methodNamed Bd.named
  have hlocks := Bd.notSynchronized
  have hK := hE.K
  have hS : va_S (fun q => base ≤ q) s.heap s.heap [] := va_S.rf
  have hR : tR D vwCl base ad (tC (wP n ad cs) (va_up I 209 row0) L) s.heap := hR
  have hl := lv_entry ([.ref (ad 200), .int (nI ch)]) (n := 6) (Nat.le_of_ble_eq_true rfl)
  rw [lg_entry_eq]
  generalize (lg_sl ([.ref (ad 200), .int (nI ch)]) ++ List.replicate (6 - (lg_sl ([.ref (ad 200), .int (nI ch)])).length) Slot.unset).toArray = ls at hl ⊢
  have hl : lv_has ls 6 [(0, .ref (ad 200)), (1, .int (nI ch))] := hl
  refine lv_iconst (v := 0) hx hb dX3_lifts_0 (by decide) ?_
  refine lv_istore_n (lv' := [(2, .int 0), (0, .ref (ad 200)), (1, .int (nI ch))]) hx hb dX3_lifts_1 rfl hl (by decide) rfl (fun ls hl => ?_)
  refine lv_iconst (v := 0) hx hb dX3_lifts_2 (by decide) ?_
  rw [show (0 : Int32) = nI 0 from nI_0.symm]
  refine lv_istore_n (lv' := [(3, .int (nI 0)), (2, .int 0), (0, .ref (ad 200)), (1, .int (nI ch))]) hx hb dX3_lifts_3 rfl hl (by decide) rfl (fun ls hl => ?_)
  refine lpX3_lifts ⟨hx, hb, hml, hown, hts⟩ hE (Nat.zero_le _) (Nat.zero_le _) (Nat.le_of_ble_eq_true rfl) (Nat.le_of_ble_eq_true rfl) I L ch B y0 hMs hwf hch hB hB2 (fun y row z H locs ls hrow hyR hZ hR hS hl => ?_) (no + 1) 0 y0 row0 0 _ _ ls (Nat.zero_le _) (by omega) hrow0 rfl (Or.inl ⟨rfl, fun _ _ => rfl⟩) hR hS (lv_sub hl [0, 1, 2, 3] rfl)
  subst hyR
  refine lv_iload_n hx hb dX3_lifts_141 rfl (lv_at hl 1 rfl) ?_
  exact W.zret (v := z) hx hb hr (by rcases hZ with ⟨q, -⟩ | ⟨q, -⟩ <;> subst q <;> rfl) (fun t ht hW => ⟨⟨_, (va_up I 209 row, L), rfl, ⟨row, rfl, hrow, hZ⟩, by show tR _ _ _ _ _ t.heap; rw [ht]; exact hR⟩, hS.F ht⟩) hS.2.2 dX3_lifts_142
set_option maxHeartbeats 4000000 in
set_option maxRecDepth 100000 in
theorem lpX3_start {p : Program} {e : Env} {R : Room} {s : State} {m : MethodId} {args : Array Value} {below : List Frame} {meth : Method} {c : Code} {cells slots : Nat} {Q : State → Prop} (S0 : CallFix p m c cX3_start 4 s args wX3_start RX3) (hE : eV D cs base sa s) (hRf : 0 ≤ R.frames) (hRl : 0 ≤ R.locals) (hRc : cells ≤ R.cells) (hRs : slots ≤ R.slots) (I : tI) (L : tL) {nd no : Nat} {f la : Nat → Nat} {ph : Nat → Int32} {w : Nat → Nat → Nat} {ea lt le mo : Nat → Nat} (hMs : cMs I nd no f la ph w ea lt le mo) (hwf : wfS nd no f la w ea lt le mo)
    (kx : ∀ (row : Nat → Int32) (H : Heap) (locs : List Loc) (ls : Array Slot), (∀ i, i < nd → row i = nI (f i)) → tR D vwCl base ad (tC (wP n ad cs) (va_up I 209 row) L) H → va_S (fun q => base ≤ q) s.heap H locs → lv_has ls 4 [(1, .int (nI nd)), (0, .ref (ad 200))] → W p l e R s m args below meth c H locs cells slots Q (F0 m 38 ls [])) :
    ∀ (k j : Nat) (row : Nat → Int32) (H : Heap) (locs : List Loc) (ls : Array Slot), j ≤ nd → nd + 1 ≤ j + k → (∀ i, i < j → row i = nI (f i)) → tR D vwCl base ad (tC (wP n ad cs) (va_up I 209 row) L) H → va_S (fun q => base ≤ q) s.heap H locs → lv_has ls 4 [(1, .int (nI j)), (0, .ref (ad 200))] → W p l e R s m args below meth c H locs cells slots Q (F0 m 12 ls []) := by
  obtain ⟨hx, hb, hml, hown, hts⟩ := S0
  have hK := hE.K
  obtain ⟨h_nd, h_no, h_d, h_o⟩ := id hwf
  intro k
  induction k with
  | zero => intro j row H locs ls h1 h2; exact absurd h2 (by omega)
  | succ k ih =>
    intro j row H locs ls hj hk hrow hR hS hl
    refine lv_iload_n hx hb dX3_start_12 rfl (lv_at hl 0 rfl) ?_
    refine lv_aload_n hx hb dX3_start_13 rfl (lv_at hl 1 rfl) ?_
    refine tb_get hx hb hts (fun w h => List.mem_cons_of_mem _ (inX3 w h)) hown hK hR 200 rfl rfl 3 (by decide) (hts _ (List.mem_cons_of_mem _ k481)) (fun _ h => h) rfl dX3_start_14 ?_
    rw [show (va_up I 209 row) 200 3 = nI nd from (by rw [va_up_ne _ _ (by omega)]; exact hMs.1)]
    refine lv_icmp_ge (tgt := 38) hx hb dX3_start_17 (by decide) (fun c1 => ?_) (fun c1 => ?_)
    · have hjN : j = nd := by have e9 := (nI_leI (by omega) (by omega)).mp c1; omega
      subst hjN
      exact kx row H locs ls hrow hR hS (lv_sub hl [0, 1] rfl)
    · have hjN : j < nd := by
        rcases Nat.lt_or_ge j nd with q | q
        · exact q
        · exact absurd (nI_le (by omega) (by omega)) c1
      refine lv_aload_n hx hb dX3_start_20 rfl (lv_at hl 1 rfl) ?_
      refine tb_get hx hb hts (fun w h => List.mem_cons_of_mem _ (inX3 w h)) hown hK hR 200 rfl rfl 18 (by decide) (hts _ (List.mem_cons_of_mem _ k496)) (fun _ h => h) rfl dX3_start_21 ?_
      refine lv_iload_n hx hb dX3_start_24 rfl (lv_at hl 0 rfl) ?_
      refine lv_aload_n hx hb dX3_start_25 rfl (lv_at hl 1 rfl) ?_
      refine tb_get hx hb hts (fun w h => List.mem_cons_of_mem _ (inX3 w h)) hown hK hR 200 rfl rfl 4 (by decide) (hts _ (List.mem_cons_of_mem _ k482)) (fun _ h => h) rfl dX3_start_26 ?_
      refine lv_iload_n hx hb dX3_start_29 rfl (lv_at hl 0 rfl) ?_
      refine tp_iald hx hb hK hR 201 0 (fun _ _ => rfl) rfl j rfl (by omega) (by decide) dX3_start_30 ?_
      rw [show (va_up I 209 row) 201 j = nI (f j) from (by rw [va_up_ne _ _ (by omega)]; exact (hMs.2.2.1 j (by omega)).1)]
      refine tp_iast hx hb hK hR hS 209 0 (fun _ _ => rfl) rfl j rfl (by omega) (by decide) dX3_start_31 (fun H locs hR hS => ?_)
      rw [bx_uu, va_up_self] at hR
      have hrow1 : ∀ i, i < j + 1 → upd row j (nI (f j)) i = nI (f i) := fun i hi => by
        by_cases e : i = j
        · rw [e, pk_us]
        · rw [pk_un e]; exact hrow i (by omega)
      refine lv_iinc (v := nI (j + 1)) (lv' := [(1, .int (nI (j + 1))), (0, .ref (ad 200))]) hx hb dX3_start_32 hl (k := 0) rfl (nI_1 _) (by decide) rfl (fun ls hl => ?_)
      refine lv_goto (tgt := 12) hx hb dX3_start_35 (by decide) ?_
      exact ih (j + 1) (upd row j (nI (f j))) H locs ls (by omega) (by omega) hrow1 hR hS (lv_sub hl [0, 1] rfl)
set_option maxHeartbeats 4000000 in
set_option maxRecDepth 100000 in
theorem lqX3_start {p : Program} {e : Env} {R : Room} {s : State} {m : MethodId} {args : Array Value} {below : List Frame} {meth : Method} {c : Code} {cells slots : Nat} {Q : State → Prop} (S0 : CallFix p m c cX3_start 4 s args wX3_start RX3) (hE : eV D cs base sa s) (hRf : 1 ≤ R.frames) (hRl : 40 ≤ R.locals) (hRc : cells ≤ R.cells) (hRs : slots ≤ R.slots) (I : tI) (L : tL) {nd no : Nat} {f la : Nat → Nat} {ph : Nat → Int32} {w : Nat → Nat → Nat} {ea lt le mo : Nat → Nat} (hMs : cMs I nd no f la ph w ea lt le mo) (hwf : wfS nd no f la w ea lt le mo)
    (kx : ∀ (y : Nat → Nat) (row : Nat → Int32) (mr : Int32) (H : Heap) (locs : List Loc) (ls : Array Slot), rwM nd 0 row y → lfI nd no f la ea lt le mo y → ((mr = 0 ∧ ∀ q, q < no → y (ea q) + le q ≤ y (lt q) ∧ y (lt q) ≤ y (ea q) + mo q) ∨ ¬ ∀ i, i < nd → y i ≤ la i) → tR D vwCl base ad (tC (wP n ad cs) (va_up I 209 row) L) H → va_S (fun q => base ≤ q) s.heap H locs → lv_has ls 4 [(1, .int mr), (0, .ref (ad 200))] → W p l e R s m args below meth c H locs cells slots Q (F0 m 61 ls [])) :
    ∀ (k j : Nat) (y : Nat → Nat) (row : Nat → Int32) (mr : Int32) (H : Heap) (locs : List Loc) (ls : Array Slot), j ≤ 51001 → 51001 + 1 ≤ j + k → rwM nd 0 row y → lfI nd no f la ea lt le mo y → ((mr = 1 ∧ j ≤ sS y nd) ∨ (mr = 0 ∧ j ≤ sS y nd + 1 ∧ ∀ q, q < no → y (ea q) + le q ≤ y (lt q) ∧ y (lt q) ≤ y (ea q) + mo q)) → tR D vwCl base ad (tC (wP n ad cs) (va_up I 209 row) L) H → va_S (fun q => base ≤ q) s.heap H locs → lv_has ls 4 [(1, .int mr), (0, .ref (ad 200))] → W p l e R s m args below meth c H locs cells slots Q (F0 m 40 ls []) := by
  obtain ⟨hx, hb, hml, hown, hts⟩ := S0
  have hK := hE.K
  obtain ⟨h_nd, h_no, h_d, h_o⟩ := id hwf
  intro k
  induction k with
  | zero => intro j y row mr H locs ls h1 h2; exact absurd h2 (by omega)
  | succ k ih =>
    intro j y row mr H locs ls hj hk hrow hlf hmr hR hS hl
    have hMs1 : cMs (va_up I 209 row) nd no f la ph w ea lt le mo := hMs.of (by rw [va_up_ne _ _ (by omega)]) (by rw [va_up_ne _ _ (by omega)]) (fun k _ _ => va_up_ne _ _ (by omega))
    refine lv_iload_n hx hb dX3_start_40 rfl (lv_at hl 0 rfl) ?_
    refine lv_if_eq (tgt := 61) hx hb dX3_start_41 (by decide) (fun c1 => ?_) (fun c1 => ?_)
    · have hex : ((mr = 0 ∧ ∀ q, q < no → y (ea q) + le q ≤ y (lt q) ∧ y (lt q) ≤ y (ea q) + mo q) ∨ ¬ ∀ i, i < nd → y i ≤ la i) := by rcases hmr with ⟨q, _⟩ | ⟨q, _, q2⟩; exact absurd c1 (by rw [q]; decide); exact Or.inl ⟨q, q2⟩
      exact kx y row mr H locs ls hrow hlf hex hR hS (lv_sub hl [0, 1] rfl)
    · have hm1 : j ≤ sS y nd := by rcases hmr with ⟨_, q⟩ | ⟨q, _⟩; exact q; exact absurd q c1
      refine lv_aload_n hx hb dX3_start_44 rfl (lv_at hl 1 rfl) ?_
      refine lv_iconst (v := nI 0) hx hb dX3_start_45 (by decide) ?_
      refine kc_i (va_runV (As := [.int (nI 0)]) (rest := []) ⟨hx, hb, hml, hown, hts⟩ (mX3_fits (va_up I 209 row) L 0 y hMs1 hwf (by omega) (fun i hi => by rw [va_up_self]; exact hrow i hi) (fun i hi => by have := (hlf.1 i hi).2; omega)) (cwV 1 hts (kw_V k615 k617 ks30 k5 k618) rfl rfl rfl (by decide +kernel) ⟨Nat.le_trans (Nat.le_of_ble_eq_true rfl) hRf, Nat.le_trans (Nat.le_of_ble_eq_true rfl) hRl⟩) (kB_preV hE hR hS 200 rfl rfl [.int (nI 0)]) rfl rfl hl.1 rfl (lv_room (Nat.le_of_ble_eq_true rfl)) dX3_start_46 ⟨hRc, hRs⟩) hS (fun r u H locs hw hR hS => ?_)
      obtain ⟨hfi, rfl⟩ := hw
      have hR : tR D vwCl base ad (tC (wP n ad cs) (va_up I 209 row) L) H := hR
      refine lv_if_eq (tgt := 61) hx hb dX3_start_49 (by decide) (fun c2 => ?_) (fun c2 => ?_)
      · have hex : ((mr = 0 ∧ ∀ q, q < no → y (ea q) + le q ≤ y (lt q) ∧ y (lt q) ≤ y (ea q) + mo q) ∨ ¬ ∀ i, i < nd → y i ≤ la i) := Or.inr (hfi.f c2)
        exact kx y row mr H locs ls hrow hlf hex hR hS (lv_sub hl [0, 1] rfl)
      · have hfit := hfi.t c2
        refine lv_aload_n hx hb dX3_start_52 rfl (lv_at hl 1 rfl) ?_
        refine lv_iconst (v := nI 0) hx hb dX3_start_53 (by decide) ?_
        refine kc_i (va_runV (As := [.int (nI 0)]) (rest := []) ⟨hx, hb, hml, hown, hts⟩ (mX3_lifts I L 0 255 y row hMs hwf (by omega) (fun d hd => by have := hfit d hd; have := (h_d d hd).2.1; omega) (by decide) hrow) (cwV 1 hts (kw_V k619 k621 ks31 k5 k622) rfl rfl rfl (by decide +kernel) ⟨Nat.le_trans (Nat.le_of_ble_eq_true rfl) hRf, Nat.le_trans (Nat.le_of_ble_eq_true rfl) hRl⟩) (kB_preV hE hR hS 200 rfl rfl [.int (nI 0)]) rfl rfl hl.1 rfl (lv_room (Nat.le_of_ble_eq_true rfl)) dX3_start_54 ⟨hRc, hRs⟩) hS (fun r u H locs hw hR hS => ?_)
        obtain ⟨row1, rfl, hrow1, hZ⟩ := hw
        have hR : tR D vwCl base ad (tC (wP n ad cs) (va_up I 209 row1) L) H := hR
        have hlf1 := lfI_s hwf hlf hfit
        have hmr1 : ((r = 1 ∧ j + 1 ≤ sS (qR ea lt le mo no y) nd) ∨ (r = 0 ∧ j + 1 ≤ sS (qR ea lt le mo no y) nd + 1 ∧ ∀ q, q < no → qR ea lt le mo no y (ea q) + le q ≤ qR ea lt le mo no y (lt q) ∧ qR ea lt le mo no y (lt q) ≤ qR ea lt le mo no y (ea q) + mo q)) := by
          rcases hZ with ⟨q, q2⟩ | ⟨q, q2⟩
          · have q3 := q_fix hwf q2
            refine Or.inr ⟨q, by rw [sS_congr q2]; omega, fun k hk => ?_⟩
            obtain ⟨a1, a2, _⟩ := hwf.2.2.2 k hk
            rw [q2 _ a1, q2 _ a2]; exact q3 k hk
          · have q3 := sS_lt (m := nd) (fun d _ => qR_ge (ea := ea) (lt := lt) (le := le) (mo := mo) no y d) q2
            exact Or.inl ⟨q, by omega⟩
        have hs1 : sS (qR ea lt le mo no y) nd ≤ nd * 6375 := sS_le (fun i hi => (hlf1.1 i hi).2)
        have hs2 : nd * 6375 ≤ 51000 := Nat.mul_le_mul h_nd (Nat.le_refl 6375)
        have hj2 : j + 1 ≤ 51001 := by rcases hmr1 with ⟨_, q⟩ | ⟨_, q, _⟩ <;> omega
        refine lv_istore_n (lv' := [(1, .int r), (0, .ref (ad 200))]) hx hb dX3_start_57 rfl hl (by decide) rfl (fun ls hl => ?_)
        refine lv_goto (tgt := 40) hx hb dX3_start_58 (by decide) ?_
        exact ih (j + 1) (qR ea lt le mo no y) row1 r H locs ls (by omega) (by omega) hrow1 hlf1 hmr1 hR hS (lv_sub hl [0, 1] rfl)
set_option maxHeartbeats 4000000 in
set_option maxRecDepth 100000 in
theorem lrX3_start {p : Program} {e : Env} {R : Room} {s : State} {m : MethodId} {args : Array Value} {below : List Frame} {meth : Method} {c : Code} {cells slots : Nat} {Q : State → Prop} (S0 : CallFix p m c cX3_start 4 s args wX3_start RX3) (hE : eV D cs base sa s) (hRf : 0 ≤ R.frames) (hRl : 0 ≤ R.locals) (hRc : cells ≤ R.cells) (hRs : slots ≤ R.slots) (I : tI) (L : tL) {nd no : Nat} {f la : Nat → Nat} {ph : Nat → Int32} {w : Nat → Nat → Nat} {ea lt le mo : Nat → Nat} (y : Nat → Nat) (c9 : Nat) (hMs : cMs I nd no f la ph w ea lt le mo) (hwf : wfS nd no f la w ea lt le mo) (hc9 : c9 < 4)
    (kx : ∀ (row : Nat → Int32) (H : Heap) (locs : List Loc) (ls : Array Slot), cpC nd y row c9 nd → tR D vwCl base ad (tC (wP n ad cs) (va_up I 209 row) L) H → va_S (fun q => base ≤ q) s.heap H locs → lv_has ls 4 [(3, .int (nI nd)), (2, .int (nI c9)), (0, .ref (ad 200))] → W p l e R s m args below meth c H locs cells slots Q (F0 m 129 ls [])) :
    ∀ (k j : Nat) (row : Nat → Int32) (H : Heap) (locs : List Loc) (ls : Array Slot), j ≤ nd → nd + 1 ≤ j + k → cpC nd y row c9 j → tR D vwCl base ad (tC (wP n ad cs) (va_up I 209 row) L) H → va_S (fun q => base ≤ q) s.heap H locs → lv_has ls 4 [(3, .int (nI j)), (2, .int (nI c9)), (0, .ref (ad 200))] → W p l e R s m args below meth c H locs cells slots Q (F0 m 98 ls []) := by
  obtain ⟨hx, hb, hml, hown, hts⟩ := S0
  have hK := hE.K
  obtain ⟨h_nd, h_no, h_d, h_o⟩ := id hwf
  intro k
  induction k with
  | zero => intro j row H locs ls h1 h2; exact absurd h2 (by omega)
  | succ k ih =>
    intro j row H locs ls hj hk hcp hR hS hl
    refine lv_iload_n hx hb dX3_start_98 rfl (lv_at hl 0 rfl) ?_
    refine lv_aload_n hx hb dX3_start_99 rfl (lv_at hl 2 rfl) ?_
    refine tb_get hx hb hts (fun w h => List.mem_cons_of_mem _ (inX3 w h)) hown hK hR 200 rfl rfl 3 (by decide) (hts _ (List.mem_cons_of_mem _ k481)) (fun _ h => h) rfl dX3_start_100 ?_
    rw [show (va_up I 209 row) 200 3 = nI nd from (by rw [va_up_ne _ _ (by omega)]; exact hMs.1)]
    refine lv_icmp_ge (tgt := 129) hx hb dX3_start_103 (by decide) (fun c1 => ?_) (fun c1 => ?_)
    · have hjN : j = nd := by have e9 := (nI_leI (by omega) (by omega)).mp c1; omega
      subst hjN
      exact kx row H locs ls hcp hR hS (lv_sub hl [0, 1, 2] rfl)
    · have hjN : j < nd := by
        rcases Nat.lt_or_ge j nd with q | q
        · exact q
        · exact absurd (nI_le (by omega) (by omega)) c1
      refine lv_aload_n hx hb dX3_start_106 rfl (lv_at hl 2 rfl) ?_
      refine tb_get hx hb hts (fun w h => List.mem_cons_of_mem _ (inX3 w h)) hown hK hR 200 rfl rfl 18 (by decide) (hts _ (List.mem_cons_of_mem _ k496)) (fun _ h => h) rfl dX3_start_107 ?_
      refine lv_bipush (v := nI 8) hx hb dX3_start_110 (by decide) ?_
      refine lv_iload_n hx hb dX3_start_112 rfl (lv_at hl 1 rfl) ?_
      refine lv_imul hx hb dX3_start_113 ?_
      rw [pk_mul]
      refine lv_iload_n hx hb dX3_start_114 rfl (lv_at hl 0 rfl) ?_
      refine lv_iadd hx hb dX3_start_115 ?_
      rw [nI_add]
      refine lv_aload_n hx hb dX3_start_116 rfl (lv_at hl 2 rfl) ?_
      refine tb_get hx hb hts (fun w h => List.mem_cons_of_mem _ (inX3 w h)) hown hK hR 200 rfl rfl 18 (by decide) (hts _ (List.mem_cons_of_mem _ k496)) (fun _ h => h) rfl dX3_start_117 ?_
      refine lv_iload_n hx hb dX3_start_120 rfl (lv_at hl 0 rfl) ?_
      refine tp_iald hx hb hK hR 209 0 (fun _ _ => rfl) rfl j rfl (by omega) (by decide) dX3_start_121 ?_
      rw [show (va_up I 209 row) 209 j = nI (y j) from (by rw [va_up_self]; exact hcp.1 j hjN)]
      refine tp_iast hx hb hK hR hS 209 0 (fun _ _ => rfl) rfl (8 * c9 + j) rfl (by omega) (by decide) dX3_start_122 (fun H locs hR hS => ?_)
      rw [bx_uu, va_up_self] at hR
      have hcp1 := cpC_s h_nd hcp hjN
      refine lv_iinc (v := nI (j + 1)) (lv' := [(3, .int (nI (j + 1))), (2, .int (nI c9)), (0, .ref (ad 200))]) hx hb dX3_start_123 hl (k := 0) rfl (nI_1 _) (by decide) rfl (fun ls hl => ?_)
      refine lv_goto (tgt := 98) hx hb dX3_start_126 (by decide) ?_
      exact ih (j + 1) (upd row (8 * c9 + j) (nI (y j))) H locs ls (by omega) (by omega) hcp1 hR hS (lv_sub hl [0, 1, 2] rfl)
set_option maxHeartbeats 4000000 in
set_option maxRecDepth 100000 in
theorem ltX3_start {p : Program} {e : Env} {R : Room} {s : State} {m : MethodId} {args : Array Value} {below : List Frame} {meth : Method} {c : Code} {cells slots : Nat} {Q : State → Prop} (S0 : CallFix p m c cX3_start 4 s args wX3_start RX3) (hE : eV D cs base sa s) (hRf : 0 ≤ R.frames) (hRl : 0 ≤ R.locals) (hRc : cells ≤ R.cells) (hRs : slots ≤ R.slots) (I : tI) (L : tL) {nd no : Nat} {f la : Nat → Nat} {ph : Nat → Int32} {w : Nat → Nat → Nat} {ea lt le mo : Nat → Nat} {bu ev sd sv : Nat} {se : Int32} (y : Nat → Nat) (hMs : cMs I nd no f la ph w ea lt le mo) (hwf : wfS nd no f la w ea lt le mo) (hMf : cMf I n bu ev sd sv se)
    (kx : ∀ (row : Nat → Int32) (q9 : Nat → Int64) (H : Heap) (locs : List Loc) (ls : Array Slot), cpC nd y row n 0 → (∀ c, c < n → q9 c = stS se c) → tR D vwCl base ad (tC (wP n ad cs) (va_up I 209 row) (va_up L 210 q9)) H → va_S (fun q => base ≤ q) s.heap H locs → lv_has ls 4 [(2, .int (nI n)), (0, .ref (ad 200))] → W p l e R s m args below meth c H locs cells slots Q (F0 m 153 ls [])) :
    ∀ (k j : Nat) (row : Nat → Int32) (q9 : Nat → Int64) (H : Heap) (locs : List Loc) (ls : Array Slot), j ≤ n → n + 1 ≤ j + k → cpC nd y row j 0 → (∀ c, c < j → q9 c = stS se c) → tR D vwCl base ad (tC (wP n ad cs) (va_up I 209 row) (va_up L 210 q9)) H → va_S (fun q => base ≤ q) s.heap H locs → lv_has ls 4 [(2, .int (nI j)), (0, .ref (ad 200))] → W p l e R s m args below meth c H locs cells slots Q (F0 m 88 ls []) := by
  obtain ⟨hx, hb, hml, hown, hts⟩ := S0
  have hK := hE.K
  obtain ⟨h_nd, h_no, h_d, h_o⟩ := id hwf
  obtain ⟨h_f1, h_f2, h_f3, h_f4, h_f5, h_f6, h_n1, h_n4, h_bu, h_e1, h_e2, h_s1, h_v4⟩ := id hMf
  intro k
  induction k with
  | zero => intro j row q9 H locs ls h1 h2; exact absurd h2 (by omega)
  | succ k ih =>
    intro j row q9 H locs ls hj hk hcp hst hR hS hl
    refine lv_iload_n hx hb dX3_start_88 rfl (lv_at hl 0 rfl) ?_
    refine lv_aload_n hx hb dX3_start_89 rfl (lv_at hl 1 rfl) ?_
    refine tb_get hx hb hts (fun w h => List.mem_cons_of_mem _ (inX3 w h)) hown hK hR 200 rfl rfl 2 (by decide) (hts _ (List.mem_cons_of_mem _ k480)) (fun _ h => h) rfl dX3_start_90 ?_
    rw [show (va_up I 209 row) 200 2 = nI n from (by rw [va_up_ne _ _ (by omega)]; exact hMf.2.1)]
    refine lv_icmp_ge (tgt := 153) hx hb dX3_start_93 (by decide) (fun c1 => ?_) (fun c1 => ?_)
    · have hjN : j = n := by have e9 := (nI_leI (by omega) (by omega)).mp c1; omega
      subst hjN
      exact kx row q9 H locs ls hcp hst hR hS (lv_sub hl [0, 1] rfl)
    · have hjN : j < n := by
        rcases Nat.lt_or_ge j n with q | q
        · exact q
        · exact absurd (nI_le (by omega) (by omega)) c1
      refine lv_iconst (v := 0) hx hb dX3_start_96 (by decide) ?_
      rw [show (0 : Int32) = nI 0 from nI_0.symm]
      refine lv_istore_n (lv' := [(3, .int (nI 0)), (2, .int (nI j)), (0, .ref (ad 200))]) hx hb dX3_start_97 rfl hl (by decide) rfl (fun ls hl => ?_)
      refine lrX3_start ⟨hx, hb, hml, hown, hts⟩ hE hRf hRl hRc hRs I (va_up L 210 q9) y j hMs hwf (by omega) (fun row H locs ls hcp hR hS hl => ?_) (nd + 1) 0 row _ _ ls (Nat.zero_le _) (by omega) hcp hR hS (lv_sub hl [0, 1, 2] rfl)
      refine lv_aload_n hx hb dX3_start_129 rfl (lv_at hl 2 rfl) ?_
      refine tb_get hx hb hts (fun w h => List.mem_cons_of_mem _ (inX3 w h)) hown hK hR 200 rfl rfl 19 (by decide) (hts _ (List.mem_cons_of_mem _ k497)) (fun _ h => h) rfl dX3_start_130 ?_
      refine lv_iload_n hx hb dX3_start_133 rfl (lv_at hl 1 rfl) ?_
      refine lv_aload_n hx hb dX3_start_134 rfl (lv_at hl 2 rfl) ?_
      refine tb_get hx hb hts (fun w h => List.mem_cons_of_mem _ (inX3 w h)) hown hK hR 200 rfl rfl 1 (by decide) (hts _ (List.mem_cons_of_mem _ k479)) (fun _ h => h) rfl dX3_start_135 ?_
      rw [show (va_up I 209 row) 200 1 = se from (by rw [va_up_ne _ _ (by omega)]; exact hMf.1)]
      refine lv_i2l hx hb dX3_start_138 rfl ?_
      refine lv_ldc2 (v := 1000003) hx hb hown (hts _ (List.mem_cons_of_mem _ k623)) dX3_start_139 ?_
      refine lv_iload_n hx hb dX3_start_142 rfl (lv_at hl 1 rfl) ?_
      refine lv_i2l hx hb dX3_start_143 rfl ?_
      refine lv_lmul hx hb dX3_start_144 ?_
      refine lv_ladd hx hb dX3_start_145 ?_
      rw [show se.toInt64 + 1000003 * (nI j).toInt64 = stS se j from rfl]
      refine tp_last hx hb hK hR hS 210 1 (fun _ _ => rfl) rfl j rfl (by omega) (by decide) dX3_start_146 (fun H locs hR hS => ?_)
      rw [bx_uu, va_up_self] at hR
      have hst1 : ∀ c, c < j + 1 → vp_updL q9 j (stS se j) c = stS se c := fun c hc => by
        by_cases e : c = j
        · rw [e, vp_updL_self]
        · rw [pk_uLn e]; exact hst c (by omega)
      refine lv_iinc (v := nI (j + 1)) (lv' := [(2, .int (nI (j + 1))), (3, .int (nI nd)), (0, .ref (ad 200))]) hx hb dX3_start_147 hl (k := 1) rfl (nI_1 _) (by decide) rfl (fun ls hl => ?_)
      refine lv_goto (tgt := 88) hx hb dX3_start_150 (by decide) ?_
      exact ih (j + 1) row (vp_updL q9 j (stS se j)) H locs ls (by omega) (by omega) (cpC_n hcp) hst1 hR hS (lv_sub hl [0, 2] rfl)
set_option maxHeartbeats 4000000 in
set_option maxRecDepth 100000 in
theorem mX3_start (I : tI) (L : tL) {nd no : Nat} {f la : Nat → Nat} {ph : Nat → Int32} {w : Nat → Nat → Nat} {ea lt le mo : Nat → Nat} {bu ev sd sv : Nat} {se : Int32} (hMs : cMs I nd no f la ph w ea lt le mo) (hwf : wfS nd no f la w ea lt le mo) (hMf : cMf I n bu ev sd sv se) : Met l yX3_start wX3_start ({ frames := 2, cells := 0, slots := 0, locals := 60 }) (va_Pc [.ref (ad 200)] (kB D cs base sa n ad I L)) (va_Qi (fun (r : Int32) (u : tI × tL) => ((r = 0 ∧ u.1 200 15 = 1 ∧ ∃ z : Nat → Nat, yM nd no f la ea lt le mo z ∧ cMo u.1 u.2 n nd (fun _ => z) (stS se) (fun _ _ _ => 0) 0 0) ∨ (r = 1 ∧ u.1 200 15 = 0 ∧ (∀ i, i ≠ 0 → i ≠ 15 → u.1 200 i = I 200 i) ∧ ¬ ∃ z, yS nd no f la ea lt le mo z)) ∧ u.1 200 0 = 0 ∧ (∀ k, k ≠ 200 → k ≠ 209 → u.1 k = I k) ∧ (∀ i, i ≠ 0 → i ≠ 15 → i ≠ 16 → i ≠ 17 → u.1 200 i = I 200 i) ∧ ∀ k, k ≠ 210 → u.2 k = L k) (kA D cs base n ad) (fun q => base ≤ q)) 0 0 (fun q => base ≤ q) := by
  refine Met.ofW (cc := cX3_start) (maxL := 4) (ret := (some .int)) (by decide) rfl ?_
  intro p e s m args below meth c s₁ Bd hml hv
  obtain ⟨rfl, hE, hR⟩ := hv
  have hx := Bd.exec
  have hb := Bd.bytes
  have hr := Bd.returns
  have hts := atoms_spec (ws := wX3_start) Bd.pre
  have hown : s.vm.findClass RX3 = some m.cls := findClass_of_methodNamed Bd.named
  have hlocks := Bd.notSynchronized
  have hK := hE.K
  have hS : va_S (fun q => base ≤ q) s.heap s.heap [] := va_S.rf
  have hR : tR D vwCl base ad (tC (wP n ad cs) I L) s.heap := hR
  have hl := lv_entry ([.ref (ad 200)]) (n := 4) (Nat.le_of_ble_eq_true rfl)
  rw [lg_entry_eq]
  generalize (lg_sl ([.ref (ad 200)]) ++ List.replicate (4 - (lg_sl ([.ref (ad 200)])).length) Slot.unset).toArray = ls at hl ⊢
  have hl : lv_has ls 4 [(0, .ref (ad 200))] := hl
  obtain ⟨h_nd, h_no, h_d, h_o⟩ := id hwf
  obtain ⟨h_f1, h_f2, h_f3, h_f4, h_f5, h_f6, h_n1, h_n4, h_bu, h_e1, h_e2, h_s1, h_v4⟩ := id hMf
  refine lv_aload_n hx hb dX3_start_0 rfl (lv_at hl 0 rfl) ?_
  refine lv_iconst (v := 0) hx hb dX3_start_1 (by decide) ?_
  refine tp_put hx hb hts (fun w h => List.mem_cons_of_mem _ (inX3 w h)) tyX3 tyX3_ok nmX3 hown hK hR hS 200 (fun r => [.int (r 0), .int (r 1), .int (r 2), .int (r 3), .ref (ad 201), .ref (ad 202), .ref (ad 203), .ref (ad 204), .int (r 8), .ref (ad 205), .ref (ad 206), .ref (ad 207), .ref (ad 208), .int (r 13), .int (r 14), .int (r 15), .int (r 16), .int (r 17), .ref (ad 209), .ref (ad 210), .ref (ad 211), .int (r 21), .ref (ad 212), .ref (ad 213), .ref (ad 214), .ref (ad 215), .ref (ad 216)]) (fun _ _ => rfl) rfl 0 (by decide) (hts _ (List.mem_cons_of_mem _ k478)) (fun _ h => h) rfl (ty := .int) rfl rfl rfl (by simp) (fun _ => rfl) dX3_start_2 (fun H locs hR hS => ?_)
  refine lv_aload_n hx hb dX3_start_5 rfl (lv_at hl 0 rfl) ?_
  refine lv_iconst (v := 0) hx hb dX3_start_6 (by decide) ?_
  refine tp_put hx hb hts (fun w h => List.mem_cons_of_mem _ (inX3 w h)) tyX3 tyX3_ok nmX3 hown hK hR hS 200 (fun r => [.int (r 0), .int (r 1), .int (r 2), .int (r 3), .ref (ad 201), .ref (ad 202), .ref (ad 203), .ref (ad 204), .int (r 8), .ref (ad 205), .ref (ad 206), .ref (ad 207), .ref (ad 208), .int (r 13), .int (r 14), .int (r 15), .int (r 16), .int (r 17), .ref (ad 209), .ref (ad 210), .ref (ad 211), .int (r 21), .ref (ad 212), .ref (ad 213), .ref (ad 214), .ref (ad 215), .ref (ad 216)]) (fun _ _ => rfl) rfl 15 (by decide) (hts _ (List.mem_cons_of_mem _ k493)) (fun _ h => h) rfl (ty := .boolean) rfl rfl rfl (by simp) (fun _ => rfl) dX3_start_7 (fun H locs hR hS => ?_)
  refine lv_iconst (v := 0) hx hb dX3_start_10 (by decide) ?_
  rw [show (0 : Int32) = nI 0 from nI_0.symm]
  refine lv_istore_n (lv' := [(1, .int (nI 0)), (0, .ref (ad 200))]) hx hb dX3_start_11 rfl hl (by decide) rfl (fun ls hl => ?_)
  rw [bx_uu, va_up_self] at hR
  have hMs0 : cMs (va_up I 200 (upd (upd (I 200) 0 0) 15 0)) nd no f la ph w ea lt le mo := hMs.of (by rw [va_up_self, pk_un (by omega), pk_un (by omega)]) (by rw [va_up_self, pk_un (by omega), pk_un (by omega)]) (fun k _ _ => va_up_ne _ _ (by omega))
  have hR : tR D vwCl base ad (tC (wP n ad cs) (va_up (va_up I 200 (upd (upd (I 200) 0 0) 15 0)) 209 ((va_up I 200 (upd (upd (I 200) 0 0) 15 0)) 209)) L) H := by rw [va_up_id]; exact hR
  refine lpX3_start ⟨hx, hb, hml, hown, hts⟩ hE (Nat.le_of_ble_eq_true rfl) (Nat.le_of_ble_eq_true rfl) (Nat.le_of_ble_eq_true rfl) (Nat.le_of_ble_eq_true rfl) (va_up I 200 (upd (upd (I 200) 0 0) 15 0)) L hMs0 hwf (fun row H locs ls hrow hR hS hl => ?_) (nd + 1) 0 _ _ _ ls (Nat.zero_le _) (by omega) (fun i hi => absurd hi (Nat.not_lt_zero _)) hR hS (lv_sub hl [0, 1] rfl)
  refine lv_iconst (v := 1) hx hb dX3_start_38 (by decide) ?_
  refine lv_istore_n (lv' := [(1, .int 1), (0, .ref (ad 200))]) hx hb dX3_start_39 rfl hl (by decide) rfl (fun ls hl => ?_)
  refine lqX3_start ⟨hx, hb, hml, hown, hts⟩ hE (Nat.le_of_ble_eq_true rfl) (Nat.le_of_ble_eq_true rfl) (Nat.le_of_ble_eq_true rfl) (Nat.le_of_ble_eq_true rfl) (va_up I 200 (upd (upd (I 200) 0 0) 15 0)) L hMs0 hwf (fun y row mr H locs ls hrow hlf hex hR hS hl => ?_) 51002 0 f row 1 _ _ ls (Nat.zero_le _) (by omega) (fun i hi => by rw [show 8 * 0 + i = i by omega]; exact hrow i hi) (lfI_0 hwf) (Or.inl ⟨rfl, Nat.zero_le _⟩) hR hS (lv_sub hl [0, 1] rfl)
  have hMs1 : cMs (va_up (va_up I 200 (upd (upd (I 200) 0 0) 15 0)) 209 row) nd no f la ph w ea lt le mo := hMs0.of (by rw [va_up_ne _ _ (by omega)]) (by rw [va_up_ne _ _ (by omega)]) (fun k _ _ => va_up_ne _ _ (by omega))
  refine lv_aload_n hx hb dX3_start_61 rfl (lv_at hl 1 rfl) ?_
  refine lv_iconst (v := nI 0) hx hb dX3_start_62 (by decide) ?_
  refine kc_i (va_runV (As := [.int (nI 0)]) (rest := []) ⟨hx, hb, hml, hown, hts⟩ (mX3_fits (va_up (va_up I 200 (upd (upd (I 200) 0 0) 15 0)) 209 row) L 0 y hMs1 hwf (by omega) (fun i hi => by rw [va_up_self]; exact hrow i hi) (fun i hi => by have := (hlf.1 i hi).2; omega)) (cwV 1 hts (kw_V k615 k617 ks30 k5 k618) rfl rfl rfl (by decide +kernel) ⟨Nat.le_of_ble_eq_true rfl, Nat.le_of_ble_eq_true rfl⟩) (kB_preV hE hR hS 200 rfl rfl [.int (nI 0)]) rfl rfl hl.1 rfl (lv_room (Nat.le_of_ble_eq_true rfl)) dX3_start_63 ⟨Nat.le_of_ble_eq_true rfl, Nat.le_of_ble_eq_true rfl⟩) hS (fun r u H locs hw hR hS => ?_)
  obtain ⟨hfi, rfl⟩ := hw
  have hR : tR D vwCl base ad (tC (wP n ad cs) (va_up (va_up I 200 (upd (upd (I 200) 0 0) 15 0)) 209 row) L) H := hR
  refine lv_if_ne (tgt := 71) hx hb dX3_start_66 (by decide) (fun c1 => ?_) (fun c1 => ?_)
  · have hfit := hfi.t c1
    have hyM := m_yes hwf (fun d hd => (hlf.1 d hd).1) hfit (hex.elim (fun q => q.2) (fun q => absurd hfit q)) hlf.2
    refine lv_aload_n hx hb dX3_start_71 rfl (lv_at hl 1 rfl) ?_
    refine lv_iconst (v := 1) hx hb dX3_start_72 (by decide) ?_
    refine tp_put hx hb hts (fun w h => List.mem_cons_of_mem _ (inX3 w h)) tyX3 tyX3_ok nmX3 hown hK hR hS 200 (fun r => [.int (r 0), .int (r 1), .int (r 2), .int (r 3), .ref (ad 201), .ref (ad 202), .ref (ad 203), .ref (ad 204), .int (r 8), .ref (ad 205), .ref (ad 206), .ref (ad 207), .ref (ad 208), .int (r 13), .int (r 14), .int (r 15), .int (r 16), .int (r 17), .ref (ad 209), .ref (ad 210), .ref (ad 211), .int (r 21), .ref (ad 212), .ref (ad 213), .ref (ad 214), .ref (ad 215), .ref (ad 216)]) (fun _ _ => rfl) rfl 15 (by decide) (hts _ (List.mem_cons_of_mem _ k493)) (fun _ h => h) rfl (ty := .boolean) rfl rfl rfl (by simp) (fun _ => rfl) dX3_start_73 (fun H locs hR hS => ?_)
    refine lv_aload_n hx hb dX3_start_76 rfl (lv_at hl 1 rfl) ?_
    refine lv_iconst (v := 0) hx hb dX3_start_77 (by decide) ?_
    refine tp_put hx hb hts (fun w h => List.mem_cons_of_mem _ (inX3 w h)) tyX3 tyX3_ok nmX3 hown hK hR hS 200 (fun r => [.int (r 0), .int (r 1), .int (r 2), .int (r 3), .ref (ad 201), .ref (ad 202), .ref (ad 203), .ref (ad 204), .int (r 8), .ref (ad 205), .ref (ad 206), .ref (ad 207), .ref (ad 208), .int (r 13), .int (r 14), .int (r 15), .int (r 16), .int (r 17), .ref (ad 209), .ref (ad 210), .ref (ad 211), .int (r 21), .ref (ad 212), .ref (ad 213), .ref (ad 214), .ref (ad 215), .ref (ad 216)]) (fun _ _ => rfl) rfl 16 (by decide) (hts _ (List.mem_cons_of_mem _ k494)) (fun _ h => h) rfl (ty := .int) rfl rfl rfl (by simp) (fun _ => rfl) dX3_start_78 (fun H locs hR hS => ?_)
    refine lv_aload_n hx hb dX3_start_81 rfl (lv_at hl 1 rfl) ?_
    refine lv_iconst (v := 0) hx hb dX3_start_82 (by decide) ?_
    refine tp_put hx hb hts (fun w h => List.mem_cons_of_mem _ (inX3 w h)) tyX3 tyX3_ok nmX3 hown hK hR hS 200 (fun r => [.int (r 0), .int (r 1), .int (r 2), .int (r 3), .ref (ad 201), .ref (ad 202), .ref (ad 203), .ref (ad 204), .int (r 8), .ref (ad 205), .ref (ad 206), .ref (ad 207), .ref (ad 208), .int (r 13), .int (r 14), .int (r 15), .int (r 16), .int (r 17), .ref (ad 209), .ref (ad 210), .ref (ad 211), .int (r 21), .ref (ad 212), .ref (ad 213), .ref (ad 214), .ref (ad 215), .ref (ad 216)]) (fun _ _ => rfl) rfl 17 (by decide) (hts _ (List.mem_cons_of_mem _ k495)) (fun _ h => h) rfl (ty := .int) rfl rfl rfl (by simp) (fun _ => rfl) dX3_start_83 (fun H locs hR hS => ?_)
    refine lv_iconst (v := 0) hx hb dX3_start_86 (by decide) ?_
    rw [show (0 : Int32) = nI 0 from nI_0.symm]
    refine lv_istore_n (lv' := [(2, .int (nI 0)), (1, .int mr), (0, .ref (ad 200))]) hx hb dX3_start_87 rfl hl (by decide) rfl (fun ls hl => ?_)
    have hG : ∀ a b c, va_up (va_up (va_up (va_up (va_up I 200 (upd (upd (I 200) 0 0) 15 0)) 209 row) 200 a) 200 b) 200 c = va_up (va_up (va_up I 200 (upd (upd (I 200) 0 0) 15 0)) 209 row) 200 c := fun a b c => by rw [bx_uu, bx_uu]
    rw [hG, va_up_self, va_up_self, va_up_ne _ _ (show (200 : Nat) ≠ 209 by omega), up_cm _ (show (209 : Nat) ≠ 200 by omega)] at hR
    have hMs2 : cMs (va_up (va_up I 200 (upd (upd (I 200) 0 0) 15 0)) 200 (upd (upd (upd ((va_up I 200 (upd (upd (I 200) 0 0) 15 0)) 200) 15 1) 16 0) 17 0)) nd no f la ph w ea lt le mo := hMs0.of (by rw [va_up_self, pk_un (by omega), pk_un (by omega), pk_un (by omega)]) (by rw [va_up_self, pk_un (by omega), pk_un (by omega), pk_un (by omega)]) (fun k _ _ => va_up_ne _ _ (by omega))
    have hMf2 : cMf (va_up (va_up I 200 (upd (upd (I 200) 0 0) 15 0)) 200 (upd (upd (upd ((va_up I 200 (upd (upd (I 200) 0 0) 15 0)) 200) 15 1) 16 0) 17 0)) n bu ev 1 sv se := ⟨by rw [va_up_self, pk_un (by omega), pk_un (by omega), pk_un (by omega), va_up_self, pk_un (by omega), pk_un (by omega)]; exact h_f1, by rw [va_up_self, pk_un (by omega), pk_un (by omega), pk_un (by omega), va_up_self, pk_un (by omega), pk_un (by omega)]; exact h_f2, by rw [va_up_self, pk_un (by omega), pk_un (by omega), pk_un (by omega), va_up_self, pk_un (by omega), pk_un (by omega)]; exact h_f3, by rw [va_up_self, pk_un (by omega), pk_un (by omega), pk_un (by omega), va_up_self, pk_un (by omega), pk_un (by omega)]; exact h_f4, by rw [va_up_self, pk_un (by omega), pk_un (by omega), pk_us]; rfl, by rw [va_up_self, pk_un (by omega), pk_un (by omega), pk_un (by omega), va_up_self, pk_un (by omega), pk_un (by omega)]; exact h_f6, h_n1, h_n4, h_bu, h_e1, h_e2, Nat.le_refl _, h_v4⟩
    have hR : tR D vwCl base ad (tC (wP n ad cs) (va_up (va_up (va_up I 200 (upd (upd (I 200) 0 0) 15 0)) 200 (upd (upd (upd ((va_up I 200 (upd (upd (I 200) 0 0) 15 0)) 200) 15 1) 16 0) 17 0)) 209 row) (va_up L 210 (L 210))) H := by rw [va_up_id]; exact hR
    refine ltX3_start ⟨hx, hb, hml, hown, hts⟩ hE (Nat.le_of_ble_eq_true rfl) (Nat.le_of_ble_eq_true rfl) (Nat.le_of_ble_eq_true rfl) (Nat.le_of_ble_eq_true rfl) (va_up (va_up I 200 (upd (upd (I 200) 0 0) 15 0)) 200 (upd (upd (upd ((va_up I 200 (upd (upd (I 200) 0 0) 15 0)) 200) 15 1) 16 0) 17 0)) L y hMs2 hwf hMf2 (fun row q9 H locs ls hcp hst hR hS hl => ?_) (n + 1) 0 row _ _ _ ls (Nat.zero_le _) (by omega) ⟨fun i hi => by have := hrow i hi; rw [show 8 * 0 + i = i by omega] at this; exact this, fun c hc => absurd hc (Nat.not_lt_zero _), fun i hi => absurd hi (Nat.not_lt_zero _)⟩ (fun c hc => absurd hc (Nat.not_lt_zero _)) hR hS (lv_sub hl [0, 2] rfl)
    refine lv_iconst (v := 0) hx hb dX3_start_153 (by decide) ?_
    exact W.iret (v := 0) hx hb hr (fun t ht hW => ⟨⟨_, (va_up (va_up (va_up I 200 (upd (upd (I 200) 0 0) 15 0)) 200 (upd (upd (upd ((va_up I 200 (upd (upd (I 200) 0 0) 15 0)) 200) 15 1) 16 0) 17 0)) 209 row, va_up L 210 q9), rfl, ⟨Or.inl ⟨rfl, by show va_up (va_up (va_up I 200 (upd (upd (I 200) 0 0) 15 0)) 200 (upd (upd (upd ((va_up I 200 (upd (upd (I 200) 0 0) 15 0)) 200) 15 1) 16 0) 17 0)) 209 row 200 15 = 1; rw [va_up_ne _ _ (by omega), va_up_self, pk_un (by omega), pk_un (by omega), pk_us], y, hyM, by show va_up (va_up (va_up I 200 (upd (upd (I 200) 0 0) 15 0)) 200 (upd (upd (upd ((va_up I 200 (upd (upd (I 200) 0 0) 15 0)) 200) 15 1) 16 0) 17 0)) 209 row 200 17 = _; rw [va_up_ne _ _ (by omega), va_up_self, pk_us]; rfl, by show va_up (va_up (va_up I 200 (upd (upd (I 200) 0 0) 15 0)) 200 (upd (upd (upd ((va_up I 200 (upd (upd (I 200) 0 0) 15 0)) 200) 15 1) 16 0) 17 0)) 209 row 200 16 = _; rw [va_up_ne _ _ (by omega), va_up_self, pk_un (by omega), pk_us]; rfl, fun c hc => ⟨by show va_up L 210 q9 210 c = _; rw [va_up_self]; exact hst c hc, fun d hd => by show va_up (va_up (va_up I 200 (upd (upd (I 200) 0 0) 15 0)) 200 (upd (upd (upd ((va_up I 200 (upd (upd (I 200) 0 0) 15 0)) 200) 15 1) 16 0) 17 0)) 209 row 209 _ = _; rw [va_up_self]; exact hcp.2.1 c hc d hd, fun k hk => absurd hk (Nat.not_lt_zero _)⟩⟩, by show va_up (va_up (va_up I 200 (upd (upd (I 200) 0 0) 15 0)) 200 (upd (upd (upd ((va_up I 200 (upd (upd (I 200) 0 0) 15 0)) 200) 15 1) 16 0) 17 0)) 209 row 200 0 = 0; rw [va_up_ne _ _ (by omega), va_up_self, pk_un (by omega), pk_un (by omega), pk_un (by omega), va_up_self, pk_un (by omega), pk_us], fun k h1 h2 => by show va_up (va_up (va_up I 200 (upd (upd (I 200) 0 0) 15 0)) 200 (upd (upd (upd ((va_up I 200 (upd (upd (I 200) 0 0) 15 0)) 200) 15 1) 16 0) 17 0)) 209 row k = _; rw [va_up_ne _ _ h2, va_up_ne _ _ h1, va_up_ne _ _ h1], fun i h1 h2 h3 h4 => by show va_up (va_up (va_up I 200 (upd (upd (I 200) 0 0) 15 0)) 200 (upd (upd (upd ((va_up I 200 (upd (upd (I 200) 0 0) 15 0)) 200) 15 1) 16 0) 17 0)) 209 row 200 i = _; rw [va_up_ne _ _ (by omega), va_up_self, pk_un h4, pk_un h3, pk_un h2, va_up_self, pk_un h2, pk_un h1], fun k hk => va_up_ne _ _ hk⟩, by show tR _ _ _ _ _ t.heap; rw [ht]; exact hR⟩, hS.F ht⟩) hS.2.2 dX3_start_154
  · have hno := m_no (hfi.f c1) hlf.2
    refine lv_iconst (v := 1) hx hb dX3_start_69 (by decide) ?_
    exact W.iret (v := 1) hx hb hr (fun t ht hW => ⟨⟨_, (va_up (va_up I 200 (upd (upd (I 200) 0 0) 15 0)) 209 row, L), rfl, ⟨Or.inr ⟨rfl, by show va_up (va_up I 200 (upd (upd (I 200) 0 0) 15 0)) 209 row 200 15 = 0; rw [va_up_ne _ _ (by omega), va_up_self, pk_us], fun i h1 h2 => by show va_up (va_up I 200 (upd (upd (I 200) 0 0) 15 0)) 209 row 200 i = _; rw [va_up_ne _ _ (by omega), va_up_self, pk_un h2, pk_un h1], hno⟩, by show va_up (va_up I 200 (upd (upd (I 200) 0 0) 15 0)) 209 row 200 0 = 0; rw [va_up_ne _ _ (by omega), va_up_self, pk_un (by omega), pk_us], fun k h1 h2 => by show va_up (va_up I 200 (upd (upd (I 200) 0 0) 15 0)) 209 row k = _; rw [va_up_ne _ _ h2, va_up_ne _ _ h1], fun i h1 h2 h3 h4 => by show va_up (va_up I 200 (upd (upd (I 200) 0 0) 15 0)) 209 row 200 i = _; rw [va_up_ne _ _ (by omega), va_up_self, pk_un h2, pk_un h1], fun _ _ => rfl⟩, by show tR _ _ _ _ _ t.heap; rw [ht]; exact hR⟩, hS.F ht⟩) hS.2.2 dX3_start_70
end M3
