section C4
variable {l : Launch} {D : va_G} {cs : Nat → ClassId} {base : Nat} {sa : Nat → Nat} {n : Nat} {ad : Nat → Nat}
set_option maxHeartbeats 4000000 in
set_option maxRecDepth 100000 in
theorem lpX1_noneIsPastLast {p : Program} {e : Env} {R : Room} {s : State} {m : MethodId} {args : Array Value} {below : List Frame} {meth : Method} {c : Code} {cells slots : Nat} {Q : State → Prop} (S0 : CallFix p m c cX1_noneIsPastLast 3 s args wX1_noneIsPastLast RX1) (hE : eV D cs base sa s) (hRf : 0 ≤ R.frames) (hRl : 0 ≤ R.locals) (hRc : cells ≤ R.cells) (hRs : slots ≤ R.slots) (I : tI) (L : tL) {nd no : Nat} {f la : Nat → Nat} {ph : Nat → Int32} {w : Nat → Nat → Nat} {ea lt le mo : Nat → Nat} (ky : Nat) (y : Nat → Nat) (hSi : cSi I nd no f la ph w ea lt le mo) (hwf : wfS nd no f la w ea lt le mo) (hky : ∀ r q, wP n ad cs ky r q = some (.inl (cs 0, 8, .inl r))) (hy : ∀ i, i < nd → I ky i = nI (y i)) (hyb : ∀ i, i < nd → y i < 2 ^ 29)
    (kr : ∀ (H : Heap) (locs : List Loc) (ls : Array Slot), (∃ i, i < nd ∧ la i < y i) → tR D vwCl base ad (tC (wP n ad cs) I L) H → va_S (fun q => base ≤ q) s.heap H locs → W p l e R s m args below meth c H locs cells slots Q (F0 m 22 ls []))
    (kx : ∀ (H : Heap) (locs : List Loc) (ls : Array Slot), (∀ i, i < nd → y i ≤ la i) → tR D vwCl base ad (tC (wP n ad cs) I L) H → va_S (fun q => base ≤ q) s.heap H locs → lv_has ls 3 [(2, .int (nI nd)), (0, .ref (ad 1)), (1, .ref (ad ky))] → W p l e R s m args below meth c H locs cells slots Q (F0 m 30 ls [])) :
    ∀ (k j : Nat) (H : Heap) (locs : List Loc) (ls : Array Slot), j ≤ nd → nd + 1 ≤ j + k → (∀ i, i < j → y i ≤ la i) → tR D vwCl base ad (tC (wP n ad cs) I L) H → va_S (fun q => base ≤ q) s.heap H locs → lv_has ls 3 [(2, .int (nI j)), (0, .ref (ad 1)), (1, .ref (ad ky))] → W p l e R s m args below meth c H locs cells slots Q (F0 m 2 ls []) := by
  obtain ⟨hx, hb, hml, hown, hts⟩ := S0
  have hK := hE.K
  obtain ⟨h_nd, h_no, h_d, h_o⟩ := id hwf
  intro k
  induction k with
  | zero => intro j  H locs ls h1 h2; exact absurd h2 (by omega)
  | succ k ih =>
    intro j  H locs ls hj hk hin hR hS hl
    refine lv_iload_n hx hb dX1_noneIsPastLast_2 rfl (lv_at hl 0 rfl) ?_
    refine lv_aload_n hx hb dX1_noneIsPastLast_3 rfl (lv_at hl 1 rfl) ?_
    refine tb_get hx hb hts (fun w h => List.mem_cons_of_mem _ (inX1 w h)) hown hK hR 1 rfl rfl 8 (by decide) (hts _ (List.mem_cons_of_mem _ k46)) (fun _ h => h) rfl dX1_noneIsPastLast_4 ?_
    rw [show I 1 8 = nI nd from hSi.1]
    refine lv_icmp_ge (tgt := 30) hx hb dX1_noneIsPastLast_7 (by decide) (fun c1 => ?_) (fun c1 => ?_)
    · have hjN : j = nd := by have e9 := (nI_leI (by omega) (by omega)).mp c1; omega
      subst hjN
      exact kx  H locs ls hin hR hS (lv_sub hl [0, 1, 2] rfl)
    · have hjN : j < nd := by
        rcases Nat.lt_or_ge j nd with q | q
        · exact q
        · exact absurd (nI_le (by omega) (by omega)) c1
      obtain ⟨h_f, h_la, h_63, h_w⟩ := h_d j hjN
      have h_yj := hyb j hjN
      refine lv_aload_n hx hb dX1_noneIsPastLast_10 rfl (lv_at hl 2 rfl) ?_
      refine lv_iload_n hx hb dX1_noneIsPastLast_11 rfl (lv_at hl 0 rfl) ?_
      refine tp_iald hx hb hK hR ky 0 hky rfl j rfl (by omega) (by decide) dX1_noneIsPastLast_12 ?_
      rw [show I ky j = nI (y j) from hy j (by omega)]
      refine lv_aload_n hx hb dX1_noneIsPastLast_13 rfl (lv_at hl 1 rfl) ?_
      refine tb_get hx hb hts (fun w h => List.mem_cons_of_mem _ (inX1 w h)) hown hK hR 1 rfl rfl 1 (by decide) (hts _ (List.mem_cons_of_mem _ k37)) (fun _ h => h) rfl dX1_noneIsPastLast_14 ?_
      refine lv_iload_n hx hb dX1_noneIsPastLast_17 rfl (lv_at hl 0 rfl) ?_
      refine tp_iald hx hb hK hR 3 0 (fun _ _ => rfl) rfl j rfl (by omega) (by decide) dX1_noneIsPastLast_18 ?_
      rw [show I 3 j = nI (la j) from (hSi.2.2.1 j (by omega)).2.1]
      refine lv_icmp_le (tgt := 24) hx hb dX1_noneIsPastLast_19 (by decide) (fun c2 => ?_) (fun c2 => ?_)
      · have hq : y j ≤ la j := (nI_leI (by omega) (by omega)).mp c2
        refine lv_iinc (v := nI (j + 1)) (lv' := [(2, .int (nI (j + 1))), (0, .ref (ad 1)), (1, .ref (ad ky))]) hx hb dX1_noneIsPastLast_24 hl (k := 0) rfl (nI_1 _) (by decide) rfl (fun ls hl => ?_)
        refine lv_goto (tgt := 2) hx hb dX1_noneIsPastLast_27 (by decide) ?_
        exact ih (j + 1)  H locs ls (by omega) (by omega) (fun i hi => (Nat.lt_or_ge i j).elim (fun q => hin i q) (fun q => (show j = i by omega) ▸ hq)) hR hS (lv_sub hl [0, 1, 2] rfl)
      · exact kr H locs ls ⟨j, hjN, Nat.lt_of_not_le (fun z => c2 (nI_le z (by omega)))⟩ hR hS
set_option maxHeartbeats 4000000 in
set_option maxRecDepth 100000 in
theorem mX1_noneIsPastLast (I : tI) (L : tL) {nd no : Nat} {f la : Nat → Nat} {ph : Nat → Int32} {w : Nat → Nat → Nat} {ea lt le mo : Nat → Nat} (ky : Nat) (y : Nat → Nat) (hSi : cSi I nd no f la ph w ea lt le mo) (hwf : wfS nd no f la w ea lt le mo) (hky : ∀ r q, wP n ad cs ky r q = some (.inl (cs 0, 8, .inl r))) (hy : ∀ i, i < nd → I ky i = nI (y i)) (hyb : ∀ i, i < nd → y i < 2 ^ 29) : Met l yX1_noneIsPastLast wX1_noneIsPastLast ({ frames := 0, cells := 0, slots := 0, locals := 0 }) (va_Pc [.ref (ad 1), .ref (ad ky)] (kB D cs base sa n ad I L)) (va_Qi (fun (r : Int32) (u : tI × tL) => ((r = 1 ∧ ∀ i, i < nd → y i ≤ la i) ∨ (r = 0 ∧ ∃ i, i < nd ∧ la i < y i)) ∧ u = (I, L)) (kA D cs base n ad) (fun q => base ≤ q)) 0 0 (fun q => base ≤ q) := by
  refine Met.ofW (cc := cX1_noneIsPastLast) (maxL := 3) (ret := (some .boolean)) (by decide) rfl ?_
  intro p e s m args below meth c s₁ Bd hml hv
  obtain ⟨rfl, hE, hR⟩ := hv
  have hx := Bd.exec
  have hb := Bd.bytes
  have hr := Bd.returns
  have hts := atoms_spec (ws := wX1_noneIsPastLast) Bd.pre
  have hown : s.vm.findClass RX1 = some m.cls := findClass_of_methodNamed Bd.named
  have hlocks := Bd.notSynchronized
  have hK := hE.K
  have hS : va_S (fun q => base ≤ q) s.heap s.heap [] := va_S.rf
  have hR : tR D vwCl base ad (tC (wP n ad cs) I L) s.heap := hR
  have hl := lv_entry ([.ref (ad 1), .ref (ad ky)]) (n := 3) (Nat.le_of_ble_eq_true rfl)
  rw [lg_entry_eq]
  generalize (lg_sl ([.ref (ad 1), .ref (ad ky)]) ++ List.replicate (3 - (lg_sl ([.ref (ad 1), .ref (ad ky)])).length) Slot.unset).toArray = ls at hl ⊢
  have hl : lv_has ls 3 [(0, .ref (ad 1)), (1, .ref (ad ky))] := hl
  obtain ⟨h_nd, h_no, h_d, h_o⟩ := id hwf
  refine lv_iconst (v := 0) hx hb dX1_noneIsPastLast_0 (by decide) ?_
  rw [show (0 : Int32) = nI 0 from nI_0.symm]
  refine lv_istore_n (lv' := [(2, .int (nI 0)), (0, .ref (ad 1)), (1, .ref (ad ky))]) hx hb dX1_noneIsPastLast_1 rfl hl (by decide) rfl (fun ls hl => ?_)
  refine lpX1_noneIsPastLast ⟨hx, hb, hml, hown, hts⟩ hE (Nat.zero_le _) (Nat.zero_le _) (Nat.le_of_ble_eq_true rfl) (Nat.le_of_ble_eq_true rfl) I L ky y hSi hwf hky hy hyb (fun H locs ls hbad hR hS => ?_) (fun H locs ls hgood hR hS hl => ?_) (nd + 1) 0 _ _ ls (Nat.zero_le _) (by omega) (fun i hi => absurd hi (Nat.not_lt_zero _)) hR hS (lv_sub hl [0, 1, 2] rfl)
  · refine lv_iconst (v := 0) hx hb dX1_noneIsPastLast_22 (by decide) ?_
    exact W.zret (v := 0) hx hb hr rfl (fun t ht hW => ⟨⟨_, (I, L), rfl, ⟨Or.inr ⟨rfl, hbad⟩, rfl⟩, by show tR _ _ _ _ _ t.heap; rw [ht]; exact hR⟩, hS.F ht⟩) hS.2.2 dX1_noneIsPastLast_23
  · refine lv_iconst (v := 1) hx hb dX1_noneIsPastLast_30 (by decide) ?_
    exact W.zret (v := 1) hx hb hr rfl (fun t ht hW => ⟨⟨_, (I, L), rfl, ⟨Or.inl ⟨rfl, hgood⟩, rfl⟩, by show tR _ _ _ _ _ t.heap; rw [ht]; exact hR⟩, hS.F ht⟩) hS.2.2 dX1_noneIsPastLast_31
set_option maxHeartbeats 4000000 in
set_option maxRecDepth 100000 in
theorem lpX1_raiseByOrders {p : Program} {e : Env} {R : Room} {s : State} {m : MethodId} {args : Array Value} {below : List Frame} {meth : Method} {c : Code} {cells slots : Nat} {Q : State → Prop} (S0 : CallFix p m c cX1_raiseByOrders 6 s args wX1_raiseByOrders RX1) (hE : eV D cs base sa s) (hRf : 0 ≤ R.frames) (hRl : 0 ≤ R.locals) (hRc : cells ≤ R.cells) (hRs : slots ≤ R.slots) (I : tI) (L : tL) {nd no : Nat} {f la : Nat → Nat} {ph : Nat → Int32} {w : Nat → Nat → Nat} {ea lt le mo : Nat → Nat} (ky B : Nat) (y0 : Nat → Nat) (hSi : cSi I nd no f la ph w ea lt le mo) (hwf : wfS nd no f la w ea lt le mo) (hk18 : 18 ≤ ky) (hky : ∀ r q, wP n ad cs ky r q = some (.inl (cs 0, 8, .inl r))) (hB : ∀ d, d < nd → y0 d ≤ B) (hB2 : B + 10000 < 2 ^ 28)
    (kx : ∀ (y : Nat → Nat) (row : Nat → Int32) (z : Int32) (H : Heap) (locs : List Loc) (ls : Array Slot), rw_Y nd row y → y = rR ea lt le mo no y0 → rZ nd y0 y z → tR D vwCl base ad (tC (wP n ad cs) (va_up I ky row) L) H → va_S (fun q => base ≤ q) s.heap H locs → lv_has ls 6 [(3, .int (nI no)), (2, .int z), (0, .ref (ad 1)), (1, .ref (ad ky))] → W p l e R s m args below meth c H locs cells slots Q (F0 m 104 ls [])) :
    ∀ (k j : Nat) (y : Nat → Nat) (row : Nat → Int32) (z : Int32) (H : Heap) (locs : List Loc) (ls : Array Slot), j ≤ no → no + 1 ≤ j + k → rw_Y nd row y → y = rR ea lt le mo j y0 → rZ nd y0 y z → tR D vwCl base ad (tC (wP n ad cs) (va_up I ky row) L) H → va_S (fun q => base ≤ q) s.heap H locs → lv_has ls 6 [(3, .int (nI j)), (2, .int z), (0, .ref (ad 1)), (1, .ref (ad ky))] → W p l e R s m args below meth c H locs cells slots Q (F0 m 4 ls []) := by
  obtain ⟨hx, hb, hml, hown, hts⟩ := S0
  have hK := hE.K
  obtain ⟨h_nd, h_no, h_d, h_o⟩ := id hwf
  intro k
  induction k with
  | zero => intro j y row z H locs ls h1 h2; exact absurd h2 (by omega)
  | succ k ih =>
    intro j y row z H locs ls hj hk hrow hyR hZ hR hS hl
    refine lv_iload_n hx hb dX1_raiseByOrders_4 rfl (lv_at hl 0 rfl) ?_
    refine lv_aload_n hx hb dX1_raiseByOrders_5 rfl (lv_at hl 2 rfl) ?_
    refine tb_get hx hb hts (fun w h => List.mem_cons_of_mem _ (inX1 w h)) hown hK hR 1 rfl rfl 9 (by decide) (hts _ (List.mem_cons_of_mem _ k48)) (fun _ h => h) rfl dX1_raiseByOrders_6 ?_
    rw [show (va_up I ky row) 1 9 = nI no from (by rw [va_up_ne _ _ (by omega)]; exact hSi.2.1)]
    refine lv_icmp_ge (tgt := 104) hx hb dX1_raiseByOrders_9 (by decide) (fun c1 => ?_) (fun c1 => ?_)
    · have hjN : j = no := by have e9 := (nI_leI (by omega) (by omega)).mp c1; omega
      subst hjN
      exact kx y row z H locs ls hrow hyR hZ hR hS (lv_sub hl [0, 1, 2, 3] rfl)
    · have hjN : j < no := by
        rcases Nat.lt_or_ge j no with q | q
        · exact q
        · exact absurd (nI_le (by omega) (by omega)) c1
      obtain ⟨h_ea, h_lt, h_ne, h_lm, h_mo⟩ := hwf.2.2.2 j hjN
      have h_y1 : y (ea j) ≤ B + 255 * j := by rw [hyR]; exact rR_le hwf hB (by omega) _ h_ea
      have h_y2 : y (lt j) ≤ B + 255 * j := by rw [hyR]; exact rR_le hwf hB (by omega) _ h_lt
      refine lv_aload_n hx hb dX1_raiseByOrders_12 rfl (lv_at hl 2 rfl) ?_
      refine tb_get hx hb hts (fun w h => List.mem_cons_of_mem _ (inX1 w h)) hown hK hR 1 rfl rfl 4 (by decide) (hts _ (List.mem_cons_of_mem _ k42)) (fun _ h => h) rfl dX1_raiseByOrders_13 ?_
      refine lv_iload_n hx hb dX1_raiseByOrders_16 rfl (lv_at hl 0 rfl) ?_
      refine tp_iald hx hb hK hR 6 0 (fun _ _ => rfl) rfl j rfl (by omega) (by decide) dX1_raiseByOrders_17 ?_
      rw [show (va_up I ky row) 6 j = nI (ea j) from (by rw [va_up_ne _ _ (by omega)]; exact (hSi.2.2.2 j (by omega)).1)]
      refine lv_istore (lv' := [(4, .int (nI (ea j))), (3, .int (nI j)), (2, .int z), (0, .ref (ad 1)), (1, .ref (ad ky))]) hx hb dX1_raiseByOrders_18 hl (by decide) rfl (fun ls hl => ?_)
      refine lv_aload_n hx hb dX1_raiseByOrders_20 rfl (lv_at hl 3 rfl) ?_
      refine tb_get hx hb hts (fun w h => List.mem_cons_of_mem _ (inX1 w h)) hown hK hR 1 rfl rfl 5 (by decide) (hts _ (List.mem_cons_of_mem _ k43)) (fun _ h => h) rfl dX1_raiseByOrders_21 ?_
      refine lv_iload_n hx hb dX1_raiseByOrders_24 rfl (lv_at hl 1 rfl) ?_
      refine tp_iald hx hb hK hR 7 0 (fun _ _ => rfl) rfl j rfl (by omega) (by decide) dX1_raiseByOrders_25 ?_
      rw [show (va_up I ky row) 7 j = nI (lt j) from (by rw [va_up_ne _ _ (by omega)]; exact (hSi.2.2.2 j (by omega)).2.1)]
      refine lv_istore (lv' := [(5, .int (nI (lt j))), (4, .int (nI (ea j))), (3, .int (nI j)), (2, .int z), (0, .ref (ad 1)), (1, .ref (ad ky))]) hx hb dX1_raiseByOrders_26 hl (by decide) rfl (fun ls hl => ?_)
      refine lv_aload_n hx hb dX1_raiseByOrders_28 rfl (lv_at hl 5 rfl) ?_
      refine lv_iload hx hb dX1_raiseByOrders_29 (lv_at hl 0 rfl) ?_
      refine tp_iald hx hb hK hR ky 0 hky rfl (lt j) rfl (by omega) (by decide) dX1_raiseByOrders_31 ?_
      rw [show (va_up I ky row) ky (lt j) = nI (y (lt j)) from (by rw [va_up_self]; exact hrow _ (by omega))]
      refine lv_aload_n hx hb dX1_raiseByOrders_32 rfl (lv_at hl 5 rfl) ?_
      refine lv_iload hx hb dX1_raiseByOrders_33 (lv_at hl 1 rfl) ?_
      refine tp_iald hx hb hK hR ky 0 hky rfl (ea j) rfl (by omega) (by decide) dX1_raiseByOrders_35 ?_
      rw [show (va_up I ky row) ky (ea j) = nI (y (ea j)) from (by rw [va_up_self]; exact hrow _ (by omega))]
      refine lv_aload_n hx hb dX1_raiseByOrders_36 rfl (lv_at hl 4 rfl) ?_
      refine tb_get hx hb hts (fun w h => List.mem_cons_of_mem _ (inX1 w h)) hown hK hR 1 rfl rfl 6 (by decide) (hts _ (List.mem_cons_of_mem _ k44)) (fun _ h => h) rfl dX1_raiseByOrders_37 ?_
      refine lv_iload_n hx hb dX1_raiseByOrders_40 rfl (lv_at hl 2 rfl) ?_
      refine tp_iald hx hb hK hR 8 0 (fun _ _ => rfl) rfl j rfl (by omega) (by decide) dX1_raiseByOrders_41 ?_
      rw [show (va_up I ky row) 8 j = nI (le j) from (by rw [va_up_ne _ _ (by omega)]; exact (hSi.2.2.2 j (by omega)).2.2.1)]
      refine lv_iadd hx hb dX1_raiseByOrders_42 ?_
      refine lv_icmp_ge (tgt := 63) hx hb dX1_raiseByOrders_43 (by decide) (fun c2 => ?_) (fun c2 => ?_)
      · have hq1 : ¬ y (lt j) < y (ea j) + le j := Nat.not_lt.mpr ((add_le (by omega) (by omega) (by omega)).mp c2)
        have e1 : rB ea lt le j y = y := by unfold rB; rw [if_neg hq1]
        have hrow1 : rw_Y nd row (rB ea lt le j y) := by rw [e1]; exact hrow
        have h_b1 : rB ea lt le j y (lt j) ≤ B + 255 * (j + 1) := by
          unfold rB; split
          · rw [va_up_self]; omega
          · omega
        have h_b2 : rB ea lt le j y (ea j) ≤ B + 255 * (j + 1) := by
          unfold rB; split
          · rw [va_up_ne _ _ h_ne]; omega
          · omega
        refine lv_aload_n hx hb dX1_raiseByOrders_63 rfl (lv_at hl 5 rfl) ?_
        refine lv_iload hx hb dX1_raiseByOrders_64 (lv_at hl 1 rfl) ?_
        refine tp_iald hx hb hK hR ky 0 hky rfl (ea j) rfl (by omega) (by decide) dX1_raiseByOrders_66 ?_
        rw [show (va_up I ky row) ky (ea j) = nI (rB ea lt le j y (ea j)) from (by rw [va_up_self]; exact hrow1 _ (by omega))]
        refine lv_aload_n hx hb dX1_raiseByOrders_67 rfl (lv_at hl 5 rfl) ?_
        refine lv_iload hx hb dX1_raiseByOrders_68 (lv_at hl 0 rfl) ?_
        refine tp_iald hx hb hK hR ky 0 hky rfl (lt j) rfl (by omega) (by decide) dX1_raiseByOrders_70 ?_
        rw [show (va_up I ky row) ky (lt j) = nI (rB ea lt le j y (lt j)) from (by rw [va_up_self]; exact hrow1 _ (by omega))]
        refine lv_aload_n hx hb dX1_raiseByOrders_71 rfl (lv_at hl 4 rfl) ?_
        refine tb_get hx hb hts (fun w h => List.mem_cons_of_mem _ (inX1 w h)) hown hK hR 1 rfl rfl 7 (by decide) (hts _ (List.mem_cons_of_mem _ k45)) (fun _ h => h) rfl dX1_raiseByOrders_72 ?_
        refine lv_iload_n hx hb dX1_raiseByOrders_75 rfl (lv_at hl 2 rfl) ?_
        refine tp_iald hx hb hK hR 9 0 (fun _ _ => rfl) rfl j rfl (by omega) (by decide) dX1_raiseByOrders_76 ?_
        rw [show (va_up I ky row) 9 j = nI (mo j) from (by rw [va_up_ne _ _ (by omega)]; exact (hSi.2.2.2 j (by omega)).2.2.2)]
        refine lv_isub hx hb dX1_raiseByOrders_77 ?_
        refine lv_icmp_ge (tgt := 98) hx hb dX1_raiseByOrders_78 (by decide) (fun c3 => ?_) (fun c3 => ?_)
        · have hq2 : ¬ rB ea lt le j y (ea j) + mo j < rB ea lt le j y (lt j) := Nat.not_lt.mpr ((sub_le (by omega) (by omega) (by omega)).mp c3)
          have e2 : rA ea lt mo j (rB ea lt le j y) = rB ea lt le j y := by unfold rA; rw [if_neg hq2]
          have hrow2 : rw_Y nd row (rA ea lt mo j (rB ea lt le j y)) := by rw [e2]; exact hrow1
          have g1 := rB_ge ea lt le j y
          have g2 := rA_ge ea lt mo j (rB ea lt le j y)
          have g0 := rR_ge ea lt le mo j y0
          have hyS : rA ea lt mo j (rB ea lt le j y) = rR ea lt le mo (j + 1) y0 := by rw [hyR]; rfl
          have hZ2 : rZ nd y0 (rA ea lt mo j (rB ea lt le j y)) z := by rw [e2, e1]; exact hZ
          refine lv_iinc (v := nI (j + 1)) (lv' := [(3, .int (nI (j + 1))), (5, .int (nI (lt j))), (4, .int (nI (ea j))), (2, .int z), (0, .ref (ad 1)), (1, .ref (ad ky))]) hx hb dX1_raiseByOrders_98 hl (k := 2) rfl (nI_1 _) (by decide) rfl (fun ls hl => ?_)
          refine lv_goto (tgt := 4) hx hb dX1_raiseByOrders_101 (by decide) ?_
          exact ih (j + 1) (rA ea lt mo j (rB ea lt le j y)) row z H locs ls (by omega) (by omega) hrow2 hyS hZ2 hR hS (lv_sub hl [0, 3, 4, 5] rfl)
        · have hq2 : rB ea lt le j y (ea j) + mo j < rB ea lt le j y (lt j) := Nat.lt_of_not_le (fun q => c3 ((sub_le (by omega) (by omega) (by omega)).mpr q))
          have e2 : rA ea lt mo j (rB ea lt le j y) = va_up (rB ea lt le j y) (ea j) (rB ea lt le j y (lt j) - mo j) := by unfold rA; rw [if_pos hq2]
          refine lv_aload_n hx hb dX1_raiseByOrders_81 rfl (lv_at hl 5 rfl) ?_
          refine lv_iload hx hb dX1_raiseByOrders_82 (lv_at hl 1 rfl) ?_
          refine lv_aload_n hx hb dX1_raiseByOrders_84 rfl (lv_at hl 5 rfl) ?_
          refine lv_iload hx hb dX1_raiseByOrders_85 (lv_at hl 0 rfl) ?_
          refine tp_iald hx hb hK hR ky 0 hky rfl (lt j) rfl (by omega) (by decide) dX1_raiseByOrders_87 ?_
          rw [show (va_up I ky row) ky (lt j) = nI (rB ea lt le j y (lt j)) from (by rw [va_up_self]; exact hrow1 _ (by omega))]
          refine lv_aload_n hx hb dX1_raiseByOrders_88 rfl (lv_at hl 4 rfl) ?_
          refine tb_get hx hb hts (fun w h => List.mem_cons_of_mem _ (inX1 w h)) hown hK hR 1 rfl rfl 7 (by decide) (hts _ (List.mem_cons_of_mem _ k45)) (fun _ h => h) rfl dX1_raiseByOrders_89 ?_
          refine lv_iload_n hx hb dX1_raiseByOrders_92 rfl (lv_at hl 2 rfl) ?_
          refine tp_iald hx hb hK hR 9 0 (fun _ _ => rfl) rfl j rfl (by omega) (by decide) dX1_raiseByOrders_93 ?_
          rw [show (va_up I ky row) 9 j = nI (mo j) from (by rw [va_up_ne _ _ (by omega)]; exact (hSi.2.2.2 j (by omega)).2.2.2)]
          refine lv_isub hx hb dX1_raiseByOrders_94 ?_
          refine tp_iast hx hb hK hR hS ky 0 hky rfl (ea j) rfl (by omega) (by decide) dX1_raiseByOrders_95 (fun H locs hR hS => ?_)
          rw [bx_uu, va_up_self] at hR
          have hrow2 : rw_Y nd (upd row (ea j) (nI (rB ea lt le j y (lt j)) - nI (mo j))) (rA ea lt mo j (rB ea lt le j y)) := by rw [e2]; exact hrow1.put _ _ (pk_sub (by omega))
          generalize upd row (ea j) (nI (rB ea lt le j y (lt j)) - nI (mo j)) = row2 at hR hrow2
          refine lv_iconst (v := 1) hx hb dX1_raiseByOrders_96 (by decide) ?_
          refine lv_istore_n (lv' := [(2, .int 1), (5, .int (nI (lt j))), (4, .int (nI (ea j))), (3, .int (nI j)), (0, .ref (ad 1)), (1, .ref (ad ky))]) hx hb dX1_raiseByOrders_97 rfl hl (by decide) rfl (fun ls hl => ?_)
          have g1 := rB_ge ea lt le j y
          have g2 := rA_ge ea lt mo j (rB ea lt le j y)
          have g0 := rR_ge ea lt le mo j y0
          have hyS : rA ea lt mo j (rB ea lt le j y) = rR ea lt le mo (j + 1) y0 := by rw [hyR]; rfl
          rw [← hyR] at g0
          have q3 : rA ea lt mo j (rB ea lt le j y) (ea j) = rB ea lt le j y (lt j) - mo j := by rw [e2, va_up_self]
          have hZ2 : rZ nd y0 (rA ea lt mo j (rB ea lt le j y)) 1 := Or.inr ⟨rfl, ea j, h_ea, by have q1 := g0 (ea j); have q2 := g1 (ea j); omega⟩
          refine lv_iinc (v := nI (j + 1)) (lv' := [(3, .int (nI (j + 1))), (2, .int 1), (5, .int (nI (lt j))), (4, .int (nI (ea j))), (0, .ref (ad 1)), (1, .ref (ad ky))]) hx hb dX1_raiseByOrders_98 hl (k := 3) rfl (nI_1 _) (by decide) rfl (fun ls hl => ?_)
          refine lv_goto (tgt := 4) hx hb dX1_raiseByOrders_101 (by decide) ?_
          exact ih (j + 1) (rA ea lt mo j (rB ea lt le j y)) row2 1 H locs ls (by omega) (by omega) hrow2 hyS hZ2 hR hS (lv_sub hl [0, 1, 4, 5] rfl)
      · have hq1 : y (lt j) < y (ea j) + le j := Nat.lt_of_not_le (fun q => c2 ((add_le (by omega) (by omega) (by omega)).mpr q))
        have e1 : rB ea lt le j y = va_up y (lt j) (y (ea j) + le j) := by unfold rB; rw [if_pos hq1]
        refine lv_aload_n hx hb dX1_raiseByOrders_46 rfl (lv_at hl 5 rfl) ?_
        refine lv_iload hx hb dX1_raiseByOrders_47 (lv_at hl 0 rfl) ?_
        refine lv_aload_n hx hb dX1_raiseByOrders_49 rfl (lv_at hl 5 rfl) ?_
        refine lv_iload hx hb dX1_raiseByOrders_50 (lv_at hl 1 rfl) ?_
        refine tp_iald hx hb hK hR ky 0 hky rfl (ea j) rfl (by omega) (by decide) dX1_raiseByOrders_52 ?_
        rw [show (va_up I ky row) ky (ea j) = nI (y (ea j)) from (by rw [va_up_self]; exact hrow _ (by omega))]
        refine lv_aload_n hx hb dX1_raiseByOrders_53 rfl (lv_at hl 4 rfl) ?_
        refine tb_get hx hb hts (fun w h => List.mem_cons_of_mem _ (inX1 w h)) hown hK hR 1 rfl rfl 6 (by decide) (hts _ (List.mem_cons_of_mem _ k44)) (fun _ h => h) rfl dX1_raiseByOrders_54 ?_
        refine lv_iload_n hx hb dX1_raiseByOrders_57 rfl (lv_at hl 2 rfl) ?_
        refine tp_iald hx hb hK hR 8 0 (fun _ _ => rfl) rfl j rfl (by omega) (by decide) dX1_raiseByOrders_58 ?_
        rw [show (va_up I ky row) 8 j = nI (le j) from (by rw [va_up_ne _ _ (by omega)]; exact (hSi.2.2.2 j (by omega)).2.2.1)]
        refine lv_iadd hx hb dX1_raiseByOrders_59 ?_
        refine tp_iast hx hb hK hR hS ky 0 hky rfl (lt j) rfl (by omega) (by decide) dX1_raiseByOrders_60 (fun H locs hR hS => ?_)
        rw [bx_uu, va_up_self] at hR
        have hrow1 : rw_Y nd (upd row (lt j) (nI (y (ea j)) + nI (le j))) (rB ea lt le j y) := by rw [e1]; exact hrow.put _ _ (nI_add _ _)
        generalize upd row (lt j) (nI (y (ea j)) + nI (le j)) = row1 at hR hrow1
        have h_b1 : rB ea lt le j y (lt j) ≤ B + 255 * (j + 1) := by
          unfold rB; split
          · rw [va_up_self]; omega
          · omega
        have h_b2 : rB ea lt le j y (ea j) ≤ B + 255 * (j + 1) := by
          unfold rB; split
          · rw [va_up_ne _ _ h_ne]; omega
          · omega
        refine lv_iconst (v := 1) hx hb dX1_raiseByOrders_61 (by decide) ?_
        refine lv_istore_n (lv' := [(2, .int 1), (5, .int (nI (lt j))), (4, .int (nI (ea j))), (3, .int (nI j)), (0, .ref (ad 1)), (1, .ref (ad ky))]) hx hb dX1_raiseByOrders_62 rfl hl (by decide) rfl (fun ls hl => ?_)
        refine lv_aload_n hx hb dX1_raiseByOrders_63 rfl (lv_at hl 5 rfl) ?_
        refine lv_iload hx hb dX1_raiseByOrders_64 (lv_at hl 2 rfl) ?_
        refine tp_iald hx hb hK hR ky 0 hky rfl (ea j) rfl (by omega) (by decide) dX1_raiseByOrders_66 ?_
        rw [show (va_up I ky row1) ky (ea j) = nI (rB ea lt le j y (ea j)) from (by rw [va_up_self]; exact hrow1 _ (by omega))]
        refine lv_aload_n hx hb dX1_raiseByOrders_67 rfl (lv_at hl 5 rfl) ?_
        refine lv_iload hx hb dX1_raiseByOrders_68 (lv_at hl 1 rfl) ?_
        refine tp_iald hx hb hK hR ky 0 hky rfl (lt j) rfl (by omega) (by decide) dX1_raiseByOrders_70 ?_
        rw [show (va_up I ky row1) ky (lt j) = nI (rB ea lt le j y (lt j)) from (by rw [va_up_self]; exact hrow1 _ (by omega))]
        refine lv_aload_n hx hb dX1_raiseByOrders_71 rfl (lv_at hl 4 rfl) ?_
        refine tb_get hx hb hts (fun w h => List.mem_cons_of_mem _ (inX1 w h)) hown hK hR 1 rfl rfl 7 (by decide) (hts _ (List.mem_cons_of_mem _ k45)) (fun _ h => h) rfl dX1_raiseByOrders_72 ?_
        refine lv_iload_n hx hb dX1_raiseByOrders_75 rfl (lv_at hl 3 rfl) ?_
        refine tp_iald hx hb hK hR 9 0 (fun _ _ => rfl) rfl j rfl (by omega) (by decide) dX1_raiseByOrders_76 ?_
        rw [show (va_up I ky row1) 9 j = nI (mo j) from (by rw [va_up_ne _ _ (by omega)]; exact (hSi.2.2.2 j (by omega)).2.2.2)]
        refine lv_isub hx hb dX1_raiseByOrders_77 ?_
        refine lv_icmp_ge (tgt := 98) hx hb dX1_raiseByOrders_78 (by decide) (fun c4 => ?_) (fun c4 => ?_)
        · have hq2 : ¬ rB ea lt le j y (ea j) + mo j < rB ea lt le j y (lt j) := Nat.not_lt.mpr ((sub_le (by omega) (by omega) (by omega)).mp c4)
          have e2 : rA ea lt mo j (rB ea lt le j y) = rB ea lt le j y := by unfold rA; rw [if_neg hq2]
          have hrow2 : rw_Y nd row1 (rA ea lt mo j (rB ea lt le j y)) := by rw [e2]; exact hrow1
          have g1 := rB_ge ea lt le j y
          have g2 := rA_ge ea lt mo j (rB ea lt le j y)
          have g0 := rR_ge ea lt le mo j y0
          have hyS : rA ea lt mo j (rB ea lt le j y) = rR ea lt le mo (j + 1) y0 := by rw [hyR]; rfl
          rw [← hyR] at g0
          have q3 : rB ea lt le j y (lt j) = y (ea j) + le j := by rw [e1, va_up_self]
          have hZ2 : rZ nd y0 (rA ea lt mo j (rB ea lt le j y)) 1 := Or.inr ⟨rfl, lt j, h_lt, by have q1 := g0 (lt j); have q2 := g2 (lt j); omega⟩
          refine lv_iinc (v := nI (j + 1)) (lv' := [(3, .int (nI (j + 1))), (2, .int 1), (5, .int (nI (lt j))), (4, .int (nI (ea j))), (0, .ref (ad 1)), (1, .ref (ad ky))]) hx hb dX1_raiseByOrders_98 hl (k := 3) rfl (nI_1 _) (by decide) rfl (fun ls hl => ?_)
          refine lv_goto (tgt := 4) hx hb dX1_raiseByOrders_101 (by decide) ?_
          exact ih (j + 1) (rA ea lt mo j (rB ea lt le j y)) row1 1 H locs ls (by omega) (by omega) hrow2 hyS hZ2 hR hS (lv_sub hl [0, 1, 4, 5] rfl)
        · have hq2 : rB ea lt le j y (ea j) + mo j < rB ea lt le j y (lt j) := Nat.lt_of_not_le (fun q => c4 ((sub_le (by omega) (by omega) (by omega)).mpr q))
          have e2 : rA ea lt mo j (rB ea lt le j y) = va_up (rB ea lt le j y) (ea j) (rB ea lt le j y (lt j) - mo j) := by unfold rA; rw [if_pos hq2]
          refine lv_aload_n hx hb dX1_raiseByOrders_81 rfl (lv_at hl 5 rfl) ?_
          refine lv_iload hx hb dX1_raiseByOrders_82 (lv_at hl 2 rfl) ?_
          refine lv_aload_n hx hb dX1_raiseByOrders_84 rfl (lv_at hl 5 rfl) ?_
          refine lv_iload hx hb dX1_raiseByOrders_85 (lv_at hl 1 rfl) ?_
          refine tp_iald hx hb hK hR ky 0 hky rfl (lt j) rfl (by omega) (by decide) dX1_raiseByOrders_87 ?_
          rw [show (va_up I ky row1) ky (lt j) = nI (rB ea lt le j y (lt j)) from (by rw [va_up_self]; exact hrow1 _ (by omega))]
          refine lv_aload_n hx hb dX1_raiseByOrders_88 rfl (lv_at hl 4 rfl) ?_
          refine tb_get hx hb hts (fun w h => List.mem_cons_of_mem _ (inX1 w h)) hown hK hR 1 rfl rfl 7 (by decide) (hts _ (List.mem_cons_of_mem _ k45)) (fun _ h => h) rfl dX1_raiseByOrders_89 ?_
          refine lv_iload_n hx hb dX1_raiseByOrders_92 rfl (lv_at hl 3 rfl) ?_
          refine tp_iald hx hb hK hR 9 0 (fun _ _ => rfl) rfl j rfl (by omega) (by decide) dX1_raiseByOrders_93 ?_
          rw [show (va_up I ky row1) 9 j = nI (mo j) from (by rw [va_up_ne _ _ (by omega)]; exact (hSi.2.2.2 j (by omega)).2.2.2)]
          refine lv_isub hx hb dX1_raiseByOrders_94 ?_
          refine tp_iast hx hb hK hR hS ky 0 hky rfl (ea j) rfl (by omega) (by decide) dX1_raiseByOrders_95 (fun H locs hR hS => ?_)
          rw [bx_uu, va_up_self] at hR
          have hrow2 : rw_Y nd (upd row1 (ea j) (nI (rB ea lt le j y (lt j)) - nI (mo j))) (rA ea lt mo j (rB ea lt le j y)) := by rw [e2]; exact hrow1.put _ _ (pk_sub (by omega))
          generalize upd row1 (ea j) (nI (rB ea lt le j y (lt j)) - nI (mo j)) = row2 at hR hrow2
          refine lv_iconst (v := 1) hx hb dX1_raiseByOrders_96 (by decide) ?_
          refine lv_istore_n (lv' := [(2, .int 1), (5, .int (nI (lt j))), (4, .int (nI (ea j))), (3, .int (nI j)), (0, .ref (ad 1)), (1, .ref (ad ky))]) hx hb dX1_raiseByOrders_97 rfl hl (by decide) rfl (fun ls hl => ?_)
          have g1 := rB_ge ea lt le j y
          have g2 := rA_ge ea lt mo j (rB ea lt le j y)
          have g0 := rR_ge ea lt le mo j y0
          have hyS : rA ea lt mo j (rB ea lt le j y) = rR ea lt le mo (j + 1) y0 := by rw [hyR]; rfl
          rw [← hyR] at g0
          have q3 : rB ea lt le j y (lt j) = y (ea j) + le j := by rw [e1, va_up_self]
          have hZ2 : rZ nd y0 (rA ea lt mo j (rB ea lt le j y)) 1 := Or.inr ⟨rfl, lt j, h_lt, by have q1 := g0 (lt j); have q2 := g2 (lt j); omega⟩
          refine lv_iinc (v := nI (j + 1)) (lv' := [(3, .int (nI (j + 1))), (2, .int 1), (5, .int (nI (lt j))), (4, .int (nI (ea j))), (0, .ref (ad 1)), (1, .ref (ad ky))]) hx hb dX1_raiseByOrders_98 hl (k := 3) rfl (nI_1 _) (by decide) rfl (fun ls hl => ?_)
          refine lv_goto (tgt := 4) hx hb dX1_raiseByOrders_101 (by decide) ?_
          exact ih (j + 1) (rA ea lt mo j (rB ea lt le j y)) row2 1 H locs ls (by omega) (by omega) hrow2 hyS hZ2 hR hS (lv_sub hl [0, 1, 4, 5] rfl)
set_option maxHeartbeats 4000000 in
set_option maxRecDepth 100000 in
theorem mX1_raiseByOrders (I : tI) (L : tL) {nd no : Nat} {f la : Nat → Nat} {ph : Nat → Int32} {w : Nat → Nat → Nat} {ea lt le mo : Nat → Nat} (ky B : Nat) (y0 : Nat → Nat) (row0 : Nat → Int32) (hSi : cSi I nd no f la ph w ea lt le mo) (hwf : wfS nd no f la w ea lt le mo) (hk18 : 18 ≤ ky) (hky : ∀ r q, wP n ad cs ky r q = some (.inl (cs 0, 8, .inl r))) (hB : ∀ d, d < nd → y0 d ≤ B) (hB2 : B + 10000 < 2 ^ 28) (hrow0 : rw_Y nd row0 y0) : Met l yX1_raiseByOrders wX1_raiseByOrders ({ frames := 0, cells := 0, slots := 0, locals := 0 }) (va_Pc [.ref (ad 1), .ref (ad ky)] (kB D cs base sa n ad (va_up I ky row0) L)) (va_Qi (fun (r : Int32) (u : tI × tL) => ∃ row : Nat → Int32, u = (va_up I ky row, L) ∧ rw_Y nd row (rR ea lt le mo no y0) ∧ rZ nd y0 (rR ea lt le mo no y0) r) (kA D cs base n ad) (fun q => base ≤ q)) 0 0 (fun q => base ≤ q) := by
  refine Met.ofW (cc := cX1_raiseByOrders) (maxL := 6) (ret := (some .boolean)) (by decide) rfl ?_
  intro p e s m args below meth c s₁ Bd hml hv
  obtain ⟨rfl, hE, hR⟩ := hv
  have hx := Bd.exec
  have hb := Bd.bytes
  have hr := Bd.returns
  have hts := atoms_spec (ws := wX1_raiseByOrders) Bd.pre
  have hown : s.vm.findClass RX1 = some m.cls := findClass_of_methodNamed Bd.named
  have hlocks := Bd.notSynchronized
  have hK := hE.K
  have hS : va_S (fun q => base ≤ q) s.heap s.heap [] := va_S.rf
  have hR : tR D vwCl base ad (tC (wP n ad cs) (va_up I ky row0) L) s.heap := hR
  have hl := lv_entry ([.ref (ad 1), .ref (ad ky)]) (n := 6) (Nat.le_of_ble_eq_true rfl)
  rw [lg_entry_eq]
  generalize (lg_sl ([.ref (ad 1), .ref (ad ky)]) ++ List.replicate (6 - (lg_sl ([.ref (ad 1), .ref (ad ky)])).length) Slot.unset).toArray = ls at hl ⊢
  have hl : lv_has ls 6 [(0, .ref (ad 1)), (1, .ref (ad ky))] := hl
  refine lv_iconst (v := 0) hx hb dX1_raiseByOrders_0 (by decide) ?_
  refine lv_istore_n (lv' := [(2, .int 0), (0, .ref (ad 1)), (1, .ref (ad ky))]) hx hb dX1_raiseByOrders_1 rfl hl (by decide) rfl (fun ls hl => ?_)
  refine lv_iconst (v := 0) hx hb dX1_raiseByOrders_2 (by decide) ?_
  rw [show (0 : Int32) = nI 0 from nI_0.symm]
  refine lv_istore_n (lv' := [(3, .int (nI 0)), (2, .int 0), (0, .ref (ad 1)), (1, .ref (ad ky))]) hx hb dX1_raiseByOrders_3 rfl hl (by decide) rfl (fun ls hl => ?_)
  refine lpX1_raiseByOrders ⟨hx, hb, hml, hown, hts⟩ hE (Nat.zero_le _) (Nat.zero_le _) (Nat.le_of_ble_eq_true rfl) (Nat.le_of_ble_eq_true rfl) I L ky B y0 hSi hwf hk18 hky hB hB2 (fun y row z H locs ls hrow hyR hZ hR hS hl => ?_) (no + 1) 0 y0 row0 0 _ _ ls (Nat.zero_le _) (by omega) hrow0 rfl (Or.inl ⟨rfl, fun _ _ => rfl⟩) hR hS (lv_sub hl [0, 1, 2, 3] rfl)
  subst hyR
  refine lv_iload_n hx hb dX1_raiseByOrders_104 rfl (lv_at hl 1 rfl) ?_
  exact W.zret (v := z) hx hb hr (by rcases hZ with ⟨q, -⟩ | ⟨q, -⟩ <;> subst q <;> rfl) (fun t ht hW => ⟨⟨_, (va_up I ky row, L), rfl, ⟨row, rfl, hrow, hZ⟩, by show tR _ _ _ _ _ t.heap; rw [ht]; exact hR⟩, hS.F ht⟩) hS.2.2 dX1_raiseByOrders_105
end C4
