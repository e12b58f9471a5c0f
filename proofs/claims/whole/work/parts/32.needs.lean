section C9
variable {l : Launch} {D : va_G} {cs : Nat → ClassId} {base : Nat} {sa : Nat → Nat} {n : Nat} {ad : Nat → Nat}
set_option maxHeartbeats 4000000 in
set_option maxRecDepth 100000 in
theorem mX2_needYears (hl0 : l.stackTraces = false) (I : tI) (L : tL) (x : Int32)  : vx_Met l yX2_needYears wX2_needYears ({ frames := 6, cells := 1, slots := 6, locals := 82 }) (va_Pc [.int x] (kB D cs base sa n ad I L)) (va_Qv (fun (u : tI × tL) => inN 256 x ∧ u = (I, L)) (kA D cs base n ad) (fun q => base ≤ q)) (kX D cs base n ad I L (fun E => E = eI ∧ ¬ inN 256 x)) 1 6 (fun q => base ≤ q) := by
  refine vx_ofW (cc := cX2_needYears) (maxL := 1) (ret := none) (by decide) rfl ?_
  intro p e s m args below meth c s₁ Bd hml htab hv
  obtain ⟨rfl, hE, hR⟩ := hv
  have hx := Bd.exec
  have hb := Bd.bytes
  have hr := Bd.returns
  have hts := atoms_spec (ws := wX2_needYears) Bd.pre
  have hown : s.vm.findClass RX2 = some m.cls := findClass_of_methodNamed Bd.named
  have hlocks := Bd.notSynchronized
  have hK := hE.K
  have hS : va_S (fun q => base ≤ q) s.heap s.heap [] := va_S.rf
  have hR : tR D vwCl base ad (tC (wP n ad cs) I L) s.heap := hR
  have hl := lv_entry ([.int x]) (n := 1) (Nat.le_of_ble_eq_true rfl)
  rw [lg_entry_eq]
  generalize (lg_sl ([.int x]) ++ List.replicate (1 - (lg_sl ([.int x])).length) Slot.unset).toArray = ls at hl ⊢
  have hl : lv_has ls 1 [(0, .int x)] := hl
  refine lv_iload_n hx hb dX2_needYears_0 rfl (lv_at hl 0 rfl) ?_
  refine lv_if_lt (tgt := 11) hx hb dX2_needYears_1 (by decide) (fun c1 => ?_) (fun c1 => ?_)
  · exact th_I hx hb hl0 hown hts hE hR hS (hl.1.trans hml.symm) 195 "years" (by decide) dX2_needYears_15 dX2_needYears_14 dX2_needYears_20 htab hlocks (Nat.le_of_ble_eq_true rfl) (Nat.le_of_ble_eq_true rfl) (Nat.le_of_ble_eq_true rfl) (Nat.le_of_ble_eq_true rfl) (Nat.le_of_ble_eq_true rfl) (Nat.le_of_ble_eq_true rfl) (⟨rfl, inN_neg (by decide) c1⟩) dX2_needYears_11 dX2_needYears_17
  · refine lv_iload_n hx hb dX2_needYears_4 rfl (lv_at hl 0 rfl) ?_
    refine lv_sipush (v := 255) hx hb dX2_needYears_5 (by decide) ?_
    refine lv_icmp_le (tgt := 21) hx hb dX2_needYears_8 (by decide) (fun c2 => ?_) (fun c2 => ?_)
    · refine W.widen (k := 1) (n := 6) (Nat.le_of_ble_eq_true rfl) (Nat.le_of_ble_eq_true rfl) ?_
      refine vx_ret ?_
      exact W.vret hx hb hr (fun t ht hW => ⟨⟨(I, L), rfl, ⟨inN_of (by decide) c1 (fun q => by have q2 := c2; exact absurd (show (256 : Int32) ≤ x from q) (i_lt_n (i_le_lt1 q2))), rfl⟩, by show tR _ _ _ _ _ t.heap; rw [ht]; exact hR⟩, hS.F ht⟩) hS.2.2 dX2_needYears_21
    · exact th_I hx hb hl0 hown hts hE hR hS (hl.1.trans hml.symm) 195 "years" (by decide) dX2_needYears_15 dX2_needYears_14 dX2_needYears_20 htab hlocks (Nat.le_of_ble_eq_true rfl) (Nat.le_of_ble_eq_true rfl) (Nat.le_of_ble_eq_true rfl) (Nat.le_of_ble_eq_true rfl) (Nat.le_of_ble_eq_true rfl) (Nat.le_of_ble_eq_true rfl) (⟨rfl, inN_ge (by decide) (Nat.le_refl _) (by decide) (show nI 256 ≤ x from i_gt255 c2)⟩) dX2_needYears_11 dX2_needYears_17
set_option maxHeartbeats 4000000 in
set_option maxRecDepth 100000 in
theorem mX2_needPhase (hl0 : l.stackTraces = false) (I : tI) (L : tL) (x : Int32)  : vx_Met l yX2_needPhase wX2_needPhase ({ frames := 6, cells := 1, slots := 6, locals := 82 }) (va_Pc [.int x] (kB D cs base sa n ad I L)) (va_Qv (fun (u : tI × tL) => inN 4 x ∧ u = (I, L)) (kA D cs base n ad) (fun q => base ≤ q)) (kX D cs base n ad I L (fun E => E = eN ∧ ¬ inN 4 x)) 1 6 (fun q => base ≤ q) := by
  refine vx_ofW (cc := cX2_needPhase) (maxL := 1) (ret := none) (by decide) rfl ?_
  intro p e s m args below meth c s₁ Bd hml htab hv
  obtain ⟨rfl, hE, hR⟩ := hv
  have hx := Bd.exec
  have hb := Bd.bytes
  have hr := Bd.returns
  have hts := atoms_spec (ws := wX2_needPhase) Bd.pre
  have hown : s.vm.findClass RX2 = some m.cls := findClass_of_methodNamed Bd.named
  have hlocks := Bd.notSynchronized
  have hK := hE.K
  have hS : va_S (fun q => base ≤ q) s.heap s.heap [] := va_S.rf
  have hR : tR D vwCl base ad (tC (wP n ad cs) I L) s.heap := hR
  have hl := lv_entry ([.int x]) (n := 1) (Nat.le_of_ble_eq_true rfl)
  rw [lg_entry_eq]
  generalize (lg_sl ([.int x]) ++ List.replicate (1 - (lg_sl ([.int x])).length) Slot.unset).toArray = ls at hl ⊢
  have hl : lv_has ls 1 [(0, .int x)] := hl
  refine lv_iload_n hx hb dX2_needPhase_0 rfl (lv_at hl 0 rfl) ?_
  refine lv_if_lt (tgt := 9) hx hb dX2_needPhase_1 (by decide) (fun c1 => ?_) (fun c1 => ?_)
  · exact th_N hx hb hl0 hown hts hE hR hS (hl.1.trans hml.symm) 194 "phase" (by decide) dX2_needPhase_13 dX2_needPhase_12 dX2_needPhase_18 htab hlocks (Nat.le_of_ble_eq_true rfl) (Nat.le_of_ble_eq_true rfl) (Nat.le_of_ble_eq_true rfl) (Nat.le_of_ble_eq_true rfl) (Nat.le_of_ble_eq_true rfl) (Nat.le_of_ble_eq_true rfl) (⟨rfl, inN_neg (by decide) c1⟩) dX2_needPhase_9 dX2_needPhase_15
  · refine lv_iload_n hx hb dX2_needPhase_4 rfl (lv_at hl 0 rfl) ?_
    refine lv_iconst (v := 4) hx hb dX2_needPhase_5 (by decide) ?_
    refine lv_icmp_lt (tgt := 19) hx hb dX2_needPhase_6 (by decide) (fun c2 => ?_) (fun c2 => ?_)
    · refine W.widen (k := 1) (n := 6) (Nat.le_of_ble_eq_true rfl) (Nat.le_of_ble_eq_true rfl) ?_
      refine vx_ret ?_
      exact W.vret hx hb hr (fun t ht hW => ⟨⟨(I, L), rfl, ⟨inN_of (by decide) c1 (i_lt_n (show x < nI 4 from c2)), rfl⟩, by show tR _ _ _ _ _ t.heap; rw [ht]; exact hR⟩, hS.F ht⟩) hS.2.2 dX2_needPhase_19
    · exact th_N hx hb hl0 hown hts hE hR hS (hl.1.trans hml.symm) 194 "phase" (by decide) dX2_needPhase_13 dX2_needPhase_12 dX2_needPhase_18 htab hlocks (Nat.le_of_ble_eq_true rfl) (Nat.le_of_ble_eq_true rfl) (Nat.le_of_ble_eq_true rfl) (Nat.le_of_ble_eq_true rfl) (Nat.le_of_ble_eq_true rfl) (Nat.le_of_ble_eq_true rfl) (⟨rfl, inN_ge (by decide) (Nat.le_refl _) (by decide) (show nI 4 ≤ x from i_nlt c2)⟩) dX2_needPhase_9 dX2_needPhase_15
set_option maxHeartbeats 4000000 in
set_option maxRecDepth 100000 in
theorem mX2_needDate (hl0 : l.stackTraces = false) (I : tI) (L : tL) (nd : Nat) (x : Int32) (hnd : I 1 8 = nI nd) (h8 : nd ≤ 8) : vx_Met l yX2_needDate wX2_needDate ({ frames := 6, cells := 1, slots := 6, locals := 82 }) (va_Pc [.ref (ad 0), .int x] (kB D cs base sa n ad I L)) (va_Qv (fun (u : tI × tL) => inN nd x ∧ u = (I, L)) (kA D cs base n ad) (fun q => base ≤ q)) (kX D cs base n ad I L (fun E => E = eN ∧ ¬ inN nd x)) 1 6 (fun q => base ≤ q) := by
  refine vx_ofW (cc := cX2_needDate) (maxL := 2) (ret := none) (by decide) rfl ?_
  intro p e s m args below meth c s₁ Bd hml htab hv
  obtain ⟨rfl, hE, hR⟩ := hv
  have hx := Bd.exec
  have hb := Bd.bytes
  have hr := Bd.returns
  have hts := atoms_spec (ws := wX2_needDate) Bd.pre
  have hown : s.vm.findClass RX2 = some m.cls := findClass_of_methodNamed Bd.named
  have hlocks := Bd.notSynchronized
  have hK := hE.K
  have hS : va_S (fun q => base ≤ q) s.heap s.heap [] := va_S.rf
  have hR : tR D vwCl base ad (tC (wP n ad cs) I L) s.heap := hR
  have hl := lv_entry ([.ref (ad 0), .int x]) (n := 2) (Nat.le_of_ble_eq_true rfl)
  rw [lg_entry_eq]
  generalize (lg_sl ([.ref (ad 0), .int x]) ++ List.replicate (2 - (lg_sl ([.ref (ad 0), .int x])).length) Slot.unset).toArray = ls at hl ⊢
  have hl : lv_has ls 2 [(0, .ref (ad 0)), (1, .int x)] := hl
  refine lv_iload_n hx hb dX2_needDate_0 rfl (lv_at hl 1 rfl) ?_
  refine lv_if_lt (tgt := 15) hx hb dX2_needDate_1 (by decide) (fun c1 => ?_) (fun c1 => ?_)
  · exact th_N hx hb hl0 hown hts hE hR hS (hl.1.trans hml.symm) 184 "date" (by decide) dX2_needDate_19 dX2_needDate_18 dX2_needDate_24 htab hlocks (Nat.le_of_ble_eq_true rfl) (Nat.le_of_ble_eq_true rfl) (Nat.le_of_ble_eq_true rfl) (Nat.le_of_ble_eq_true rfl) (Nat.le_of_ble_eq_true rfl) (Nat.le_of_ble_eq_true rfl) (⟨rfl, inN_neg (by omega) c1⟩) dX2_needDate_15 dX2_needDate_21
  · refine lv_iload_n hx hb dX2_needDate_4 rfl (lv_at hl 1 rfl) ?_
    refine lv_aload_n hx hb dX2_needDate_5 rfl (lv_at hl 0 rfl) ?_
    refine tb_get hx hb hts (fun w h => List.mem_cons_of_mem _ (inX2 w h)) hown hK hR 0 rfl rfl 2 (by decide) (hts _ (List.mem_cons_of_mem _ k103)) (fun _ h => h) rfl dX2_needDate_6 ?_
    refine tb_getN hx hb hts (fun w h => List.mem_cons_of_mem _ (inX1 w h)) hown hK hR 1 rfl rfl 8 (by decide) (va_Nw.use rfl (hE.2.1 (68, "SeedChains$Site", "dates", "I") (by decide))) (fun _ h => h) rfl dX2_needDate_9 ?_
    rw [show I 1 8 = nI nd from hnd]
    refine lv_icmp_lt (tgt := 25) hx hb dX2_needDate_12 (by decide) (fun c2 => ?_) (fun c2 => ?_)
    · refine W.widen (k := 1) (n := 6) (Nat.le_of_ble_eq_true rfl) (Nat.le_of_ble_eq_true rfl) ?_
      refine vx_ret ?_
      exact W.vret hx hb hr (fun t ht hW => ⟨⟨(I, L), rfl, ⟨inN_of (by omega) c1 (i_lt_n c2), rfl⟩, by show tR _ _ _ _ _ t.heap; rw [ht]; exact hR⟩, hS.F ht⟩) hS.2.2 dX2_needDate_25
    · exact th_N hx hb hl0 hown hts hE hR hS (hl.1.trans hml.symm) 184 "date" (by decide) dX2_needDate_19 dX2_needDate_18 dX2_needDate_24 htab hlocks (Nat.le_of_ble_eq_true rfl) (Nat.le_of_ble_eq_true rfl) (Nat.le_of_ble_eq_true rfl) (Nat.le_of_ble_eq_true rfl) (Nat.le_of_ble_eq_true rfl) (Nat.le_of_ble_eq_true rfl) (⟨rfl, inN_ge (by omega) (Nat.le_refl _) (by omega) (i_nlt c2)⟩) dX2_needDate_15 dX2_needDate_21
set_option maxHeartbeats 4000000 in
set_option maxRecDepth 100000 in
theorem mX2_needYearOf (hl0 : l.stackTraces = false) (I : tI) (L : tL) {nd no : Nat} {f la : Nat → Nat} {ph : Nat → Int32} {w : Nat → Nat → Nat} {ea lt le mo : Nat → Nat} (x y : Int32) (hSi : cSi I nd no f la ph w ea lt le mo) (hwf : wfS nd no f la w ea lt le mo) : vx_Met l yX2_needYearOf wX2_needYearOf ({ frames := 7, cells := 2, slots := 12, locals := 120 }) (va_Pc [.ref (ad 0), .int x, .int y] (kB D cs base sa n ad I L)) (va_Qv (fun (u : tI × tL) => yOk nd f la x y ∧ u = (I, L)) (kA D cs base n ad) (fun q => base ≤ q)) (kX D cs base n ad I L (fun E => E = eN ∧ ¬ yOk nd f la x y)) 2 12 (fun q => base ≤ q) := by
  refine vx_ofW (cc := cX2_needYearOf) (maxL := 3) (ret := none) (by decide) rfl ?_
  intro p e s m args below meth c s₁ Bd hml htab hv
  obtain ⟨rfl, hE, hR⟩ := hv
  have hx := Bd.exec
  have hb := Bd.bytes
  have hr := Bd.returns
  have hts := atoms_spec (ws := wX2_needYearOf) Bd.pre
  have hown : s.vm.findClass RX2 = some m.cls := findClass_of_methodNamed Bd.named
  have hlocks := Bd.notSynchronized
  have hK := hE.K
  have hS : va_S (fun q => base ≤ q) s.heap s.heap [] := va_S.rf
  have hR : tR D vwCl base ad (tC (wP n ad cs) I L) s.heap := hR
  have hl := lv_entry ([.ref (ad 0), .int x, .int y]) (n := 3) (Nat.le_of_ble_eq_true rfl)
  rw [lg_entry_eq]
  generalize (lg_sl ([.ref (ad 0), .int x, .int y]) ++ List.replicate (3 - (lg_sl ([.ref (ad 0), .int x, .int y])).length) Slot.unset).toArray = ls at hl ⊢
  have hl : lv_has ls 3 [(0, .ref (ad 0)), (1, .int x), (2, .int y)] := hl
  obtain ⟨h_nd, h_no, h_d, h_o⟩ := id hwf
  refine lv_aload_n hx hb dX2_needYearOf_0 rfl (lv_at hl 0 rfl) ?_
  refine lv_iload_n hx hb dX2_needYearOf_1 rfl (lv_at hl 1 rfl) ?_
  refine kt_v (vx_runV (As := [.int x]) (rest := []) ⟨hx, hb, hml, hown, hts⟩ (mX2_needDate hl0 I L nd x hSi.1 h_nd) (cwV 1 hts (kw_V k266 k268 ks7 k1 k269) rfl rfl rfl (by decide +kernel) ⟨Nat.le_of_ble_eq_true rfl, Nat.le_of_ble_eq_true rfl⟩) (kB_preV hE hR hS 0 rfl rfl [.int x]) rfl rfl hl.1 rfl (lv_room (Nat.le_of_ble_eq_true rfl)) dX2_needYearOf_2 ⟨Nat.le_of_ble_eq_true rfl, Nat.le_of_ble_eq_true rfl⟩) hS htab hlocks (fun E h => ⟨h.1, fun z => h.2 z.1⟩) (Nat.le_of_ble_eq_true rfl) (Nat.le_of_ble_eq_true rfl) (fun u H locs hw hR hS => ?_)
  obtain ⟨hd0, rfl⟩ := hw
  have hR : tR D vwCl base ad (tC (wP n ad cs) I L) H := hR
  obtain ⟨d, hd, rfl⟩ := hd0
  obtain ⟨g1, g2, g3, g4⟩ := h_d d hd
  refine lv_iload_n hx hb dX2_needYearOf_5 rfl (lv_at hl 2 rfl) ?_
  refine lv_aload_n hx hb dX2_needYearOf_6 rfl (lv_at hl 0 rfl) ?_
  refine tb_get hx hb hts (fun w h => List.mem_cons_of_mem _ (inX2 w h)) hown hK hR 0 rfl rfl 2 (by decide) (hts _ (List.mem_cons_of_mem _ k103)) (fun _ h => h) rfl dX2_needYearOf_7 ?_
  refine tb_getN hx hb hts (fun w h => List.mem_cons_of_mem _ (inX1 w h)) hown hK hR 1 rfl rfl 0 (by decide) (va_Nw.use rfl (hE.2.1 (186, "SeedChains$Site", "first", "[I") (by decide))) (fun _ h => h) rfl dX2_needYearOf_10 ?_
  refine lv_iload_n hx hb dX2_needYearOf_13 rfl (lv_at hl 1 rfl) ?_
  refine tp_iald hx hb hK hR 2 0 (fun _ _ => rfl) rfl d rfl (by omega) (by decide) dX2_needYearOf_14 ?_
  rw [show I 2 d = nI (f d) from (hSi.2.2.1 d (by omega)).1]
  refine lv_icmp_lt (tgt := 31) hx hb dX2_needYearOf_15 (by decide) (fun c1 => ?_) (fun c1 => ?_)
  · exact th_N hx hb hl0 hown hts hE hR hS (hl.1.trans hml.symm) 192 "year" (by decide) dX2_needYearOf_35 dX2_needYearOf_34 dX2_needYearOf_40 htab hlocks (Nat.le_of_ble_eq_true rfl) (Nat.le_of_ble_eq_true rfl) (Nat.le_of_ble_eq_true rfl) (Nat.le_of_ble_eq_true rfl) (Nat.le_of_ble_eq_true rfl) (Nat.le_of_ble_eq_true rfl) (⟨rfl, yOk_lo (by omega) c1⟩) dX2_needYearOf_31 dX2_needYearOf_37
  · refine lv_iload_n hx hb dX2_needYearOf_18 rfl (lv_at hl 2 rfl) ?_
    refine lv_aload_n hx hb dX2_needYearOf_19 rfl (lv_at hl 0 rfl) ?_
    refine tb_get hx hb hts (fun w h => List.mem_cons_of_mem _ (inX2 w h)) hown hK hR 0 rfl rfl 2 (by decide) (hts _ (List.mem_cons_of_mem _ k103)) (fun _ h => h) rfl dX2_needYearOf_20 ?_
    refine tb_getN hx hb hts (fun w h => List.mem_cons_of_mem _ (inX1 w h)) hown hK hR 1 rfl rfl 1 (by decide) (va_Nw.use rfl (hE.2.1 (189, "SeedChains$Site", "last", "[I") (by decide))) (fun _ h => h) rfl dX2_needYearOf_23 ?_
    refine lv_iload_n hx hb dX2_needYearOf_26 rfl (lv_at hl 1 rfl) ?_
    refine tp_iald hx hb hK hR 3 0 (fun _ _ => rfl) rfl d rfl (by omega) (by decide) dX2_needYearOf_27 ?_
    rw [show I 3 d = nI (la d) from (hSi.2.2.1 d (by omega)).2.1]
    refine lv_icmp_le (tgt := 41) hx hb dX2_needYearOf_28 (by decide) (fun c2 => ?_) (fun c2 => ?_)
    · refine W.widen (k := 2) (n := 12) (Nat.le_of_ble_eq_true rfl) (Nat.le_of_ble_eq_true rfl) ?_
      refine vx_ret ?_
      exact W.vret hx hb hr (fun t ht hW => ⟨⟨(I, L), rfl, ⟨yOk_of (by omega) c1 c2, rfl⟩, by show tR _ _ _ _ _ t.heap; rw [ht]; exact hR⟩, hS.F ht⟩) hS.2.2 dX2_needYearOf_41
    · exact th_N hx hb hl0 hown hts hE hR hS (hl.1.trans hml.symm) 192 "year" (by decide) dX2_needYearOf_35 dX2_needYearOf_34 dX2_needYearOf_40 htab hlocks (Nat.le_of_ble_eq_true rfl) (Nat.le_of_ble_eq_true rfl) (Nat.le_of_ble_eq_true rfl) (Nat.le_of_ble_eq_true rfl) (Nat.le_of_ble_eq_true rfl) (Nat.le_of_ble_eq_true rfl) (⟨rfl, yOk_hi (by omega) c2⟩) dX2_needYearOf_31 dX2_needYearOf_37
set_option maxHeartbeats 4000000 in
set_option maxRecDepth 100000 in
theorem mX2_needStarted (hl0 : l.stackTraces = false) (I : tI) (L : tL) (sd : Nat) (hsd : I 0 6 = nI sd) (hs1 : sd ≤ 1) : vx_Met l yX2_needStarted wX2_needStarted ({ frames := 6, cells := 1, slots := 6, locals := 82 }) (va_Pc [.ref (ad 0)] (kB D cs base sa n ad I L)) (va_Qv (fun (u : tI × tL) => sd = 1 ∧ u = (I, L)) (kA D cs base n ad) (fun q => base ≤ q)) (kX D cs base n ad I L (fun E => E = eS ∧ ¬ sd = 1)) 1 6 (fun q => base ≤ q) := by
  refine vx_ofW (cc := cX2_needStarted) (maxL := 1) (ret := none) (by decide) rfl ?_
  intro p e s m args below meth c s₁ Bd hml htab hv
  obtain ⟨rfl, hE, hR⟩ := hv
  have hx := Bd.exec
  have hb := Bd.bytes
  have hr := Bd.returns
  have hts := atoms_spec (ws := wX2_needStarted) Bd.pre
  have hown : s.vm.findClass RX2 = some m.cls := findClass_of_methodNamed Bd.named
  have hlocks := Bd.notSynchronized
  have hK := hE.K
  have hS : va_S (fun q => base ≤ q) s.heap s.heap [] := va_S.rf
  have hR : tR D vwCl base ad (tC (wP n ad cs) I L) s.heap := hR
  have hl := lv_entry ([.ref (ad 0)]) (n := 1) (Nat.le_of_ble_eq_true rfl)
  rw [lg_entry_eq]
  generalize (lg_sl ([.ref (ad 0)]) ++ List.replicate (1 - (lg_sl ([.ref (ad 0)])).length) Slot.unset).toArray = ls at hl ⊢
  have hl : lv_has ls 1 [(0, .ref (ad 0))] := hl
  refine lv_aload_n hx hb dX2_needStarted_0 rfl (lv_at hl 0 rfl) ?_
  refine tb_get hx hb hts (fun w h => List.mem_cons_of_mem _ (inX2 w h)) hown hK hR 0 rfl rfl 6 (by decide) (hts _ (List.mem_cons_of_mem _ k107)) (fun _ h => h) rfl dX2_needStarted_1 ?_
  rw [show I 0 6 = nI sd from hsd]
  refine lv_if_ne (tgt := 17) hx hb dX2_needStarted_4 (by decide) (fun c1 => ?_) (fun c1 => ?_)
  · refine W.widen (k := 1) (n := 6) (Nat.le_of_ble_eq_true rfl) (Nat.le_of_ble_eq_true rfl) ?_
    refine vx_ret ?_
    exact W.vret hx hb hr (fun t ht hW => ⟨⟨(I, L), rfl, ⟨(by have q : ¬ sd = 0 := fun z => c1 (by rw [z]; rfl); omega), rfl⟩, by show tR _ _ _ _ _ t.heap; rw [ht]; exact hR⟩, hS.F ht⟩) hS.2.2 dX2_needStarted_17
  · exact th_S hx hb hl0 hown hts hE hR hS (hl.1.trans hml.symm) 196 "nothing is started" (by decide) dX2_needStarted_11 dX2_needStarted_10 dX2_needStarted_16 htab hlocks (Nat.le_of_ble_eq_true rfl) (Nat.le_of_ble_eq_true rfl) (Nat.le_of_ble_eq_true rfl) (Nat.le_of_ble_eq_true rfl) (Nat.le_of_ble_eq_true rfl) (Nat.le_of_ble_eq_true rfl) (⟨rfl, fun z => absurd c1 (by rw [z]; decide)⟩) dX2_needStarted_7 dX2_needStarted_13
end C9
