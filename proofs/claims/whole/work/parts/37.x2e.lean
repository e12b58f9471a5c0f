section C11
variable {l : Launch} {D : va_G} {cs : Nat → ClassId} {base : Nat} {sa : Nat → Nat} {n : Nat} {ad : Nat → Nat}
set_option maxHeartbeats 4000000 in
set_option maxRecDepth 100000 in
theorem mX2_date (hl0 : l.stackTraces = false) (I : tI) (L : tL) (nd : Nat) (p0 p1 : Int32) (hnd : I 1 8 = nI nd) (h8 : nd ≤ 8) : vx_Met l yX2_date wX2_date ({ frames := 8, cells := 3, slots := 18, locals := 140 }) (va_Pc [.ref (ad 0), .int p0, .int p1] (kB D cs base sa n ad I L)) (va_Qi (fun (r : Int32) (u : tI × tL) => dOk p0 p1 ∧ nd < 8 ∧ r = nI nd ∧ u = (gAD (gF I) nd p0 p1, L)) (kA D cs base n ad) (fun q => base ≤ q)) (kX D cs base n ad I L (fun E => (E = eI ∧ ¬ dOk p0 p1) ∨ (E = eS ∧ dOk p0 p1 ∧ ¬ nd < 8))) 3 18 (fun q => base ≤ q) := by
  refine vx_ofW (cc := cX2_date) (maxL := 3) (ret := (some .int)) (by decide) rfl ?_
  intro p e s m args below meth c s₁ Bd hml htab hv
  obtain ⟨rfl, hE, hR⟩ := hv
  have hx := Bd.exec
  have hb := Bd.bytes
  have hr := Bd.returns
  have hts := atoms_spec (ws := wX2_date) Bd.pre
  have hown : s.vm.findClass RX2 = some m.cls := findClass_of_methodNamed Bd.named
  have hlocks := Bd.notSynchronized
  have hK := hE.K
  have hS : va_S (fun q => base ≤ q) s.heap s.heap [] := va_S.rf
  have hR : tR D vwCl base ad (tC (wP n ad cs) I L) s.heap := hR
  have hl := lv_entry ([.ref (ad 0), .int p0, .int p1]) (n := 3) (Nat.le_of_ble_eq_true rfl)
  rw [lg_entry_eq]
  generalize (lg_sl ([.ref (ad 0), .int p0, .int p1]) ++ List.replicate (3 - (lg_sl ([.ref (ad 0), .int p0, .int p1])).length) Slot.unset).toArray = ls at hl ⊢
  have hl : lv_has ls 3 [(0, .ref (ad 0)), (1, .int p0), (2, .int p1)] := hl
  refine lv_iload_n hx hb dX2_date_0 rfl (lv_at hl 1 rfl) ?_
  refine kt_v (vx_runS (As := [.int p0]) (rest := []) ⟨hx, hb, hml, hown, hts⟩ (mX2_needYears hl0 I L p0) (va_cwS 1 hts (kw_S k158 k159 k1 k160) rfl rfl rfl (by decide +kernel) ⟨Nat.le_of_ble_eq_true rfl, Nat.le_of_ble_eq_true rfl⟩) (kB_pre hE hR hS [.int p0]) rfl rfl hl.1 rfl (lv_room (Nat.le_of_ble_eq_true rfl)) dX2_date_1 ⟨Nat.le_of_ble_eq_true rfl, Nat.le_of_ble_eq_true rfl⟩) hS htab hlocks (fun E h => Or.inl ⟨h.1, fun z => h.2 z.1⟩) (Nat.le_of_ble_eq_true rfl) (Nat.le_of_ble_eq_true rfl) (fun u H locs hw hR hS => ?_)
  obtain ⟨hp0, rfl⟩ := hw
  have hR : tR D vwCl base ad (tC (wP n ad cs) I L) H := hR
  refine lv_iload_n hx hb dX2_date_4 rfl (lv_at hl 2 rfl) ?_
  refine kt_v (vx_runS (As := [.int p1]) (rest := []) ⟨hx, hb, hml, hown, hts⟩ (mX2_needYears hl0 I L p1) (va_cwS 1 hts (kw_S k158 k159 k1 k160) rfl rfl rfl (by decide +kernel) ⟨Nat.le_of_ble_eq_true rfl, Nat.le_of_ble_eq_true rfl⟩) (kB_pre hE hR hS [.int p1]) rfl rfl hl.1 rfl (lv_room (Nat.le_of_ble_eq_true rfl)) dX2_date_5 ⟨Nat.le_of_ble_eq_true rfl, Nat.le_of_ble_eq_true rfl⟩) hS htab hlocks (fun E h => Or.inl ⟨h.1, fun z => h.2 z.2.1⟩) (Nat.le_of_ble_eq_true rfl) (Nat.le_of_ble_eq_true rfl) (fun u H locs hw hR hS => ?_)
  obtain ⟨hp1, rfl⟩ := hw
  have hR : tR D vwCl base ad (tC (wP n ad cs) I L) H := hR
  refine lv_iload_n hx hb dX2_date_8 rfl (lv_at hl 1 rfl) ?_
  refine lv_iload_n hx hb dX2_date_9 rfl (lv_at hl 2 rfl) ?_
  refine lv_icmp_gt (tgt := 21) hx hb dX2_date_10 (by decide) (fun c1 => ?_) (fun c1 => ?_)
  · exact th_I hx hb hl0 hown hts hE hR hS (hl.1.trans hml.symm) 63 "first and last year" (by decide) dX2_date_25 dX2_date_24 dX2_date_30 htab hlocks (Nat.le_of_ble_eq_true rfl) (Nat.le_of_ble_eq_true rfl) (Nat.le_of_ble_eq_true rfl) (Nat.le_of_ble_eq_true rfl) (Nat.le_of_ble_eq_true rfl) (Nat.le_of_ble_eq_true rfl) (Or.inl ⟨rfl, fun z => i_lt_n c1 z.2.2.1⟩) dX2_date_21 dX2_date_27
  · refine lv_iload_n hx hb dX2_date_13 rfl (lv_at hl 2 rfl) ?_
    refine lv_iload_n hx hb dX2_date_14 rfl (lv_at hl 1 rfl) ?_
    refine lv_isub hx hb dX2_date_15 ?_
    refine lv_bipush (v := 63) hx hb dX2_date_16 (by decide) ?_
    refine lv_icmp_le (tgt := 31) hx hb dX2_date_18 (by decide) (fun c2 => ?_) (fun c2 => ?_)
    · have hok : dOk p0 p1 := ⟨hp0, hp1, i_nlt c1, c2⟩
      refine lv_aload_n hx hb dX2_date_31 rfl (lv_at hl 0 rfl) ?_
      refine tb_get hx hb hts (fun w h => List.mem_cons_of_mem _ (inX2 w h)) hown hK hR 0 rfl rfl 2 (by decide) (hts _ (List.mem_cons_of_mem _ k103)) (fun _ h => h) rfl dX2_date_32 ?_
      refine tb_getN hx hb hts (fun w h => List.mem_cons_of_mem _ (inX1 w h)) hown hK hR 1 rfl rfl 8 (by decide) (va_Nw.use rfl (hE.2.1 (68, "SeedChains$Site", "dates", "I") (by decide))) (fun _ h => h) rfl dX2_date_35 ?_
      rw [show I 1 8 = nI nd from hnd]
      refine lv_bipush (v := 8) hx hb dX2_date_38 (by decide) ?_
      refine lv_icmp_lt (tgt := 53) hx hb dX2_date_40 (by decide) (fun c3 => ?_) (fun c3 => ?_)
      · have hlt : nd < 8 := (nI_ltI (by omega) (by decide)).mp (show nI nd < nI 8 from c3)
        refine lv_aload_n hx hb dX2_date_53 rfl (lv_at hl 0 rfl) ?_
        refine kc_v (va_runV (As := []) (rest := []) ⟨hx, hb, hml, hown, hts⟩ (mX2_forget I L) (cwV 0 hts (kw_V k246 k248 ks4 k1 k249) rfl rfl rfl (by decide +kernel) ⟨Nat.le_of_ble_eq_true rfl, Nat.le_of_ble_eq_true rfl⟩) (kB_preV hE hR hS 0 rfl rfl []) rfl rfl hl.1 rfl (lv_room (Nat.le_of_ble_eq_true rfl)) dX2_date_54 ⟨Nat.le_of_ble_eq_true rfl, Nat.le_of_ble_eq_true rfl⟩) hS (fun u H locs hw hR hS => ?_)
        subst hw
        have hR : tR D vwCl base ad (tC (wP n ad cs) (gF I) L) H := hR
        refine lv_aload_n hx hb dX2_date_57 rfl (lv_at hl 0 rfl) ?_
        refine tb_get hx hb hts (fun w h => List.mem_cons_of_mem _ (inX2 w h)) hown hK hR 0 rfl rfl 2 (by decide) (hts _ (List.mem_cons_of_mem _ k103)) (fun _ h => h) rfl dX2_date_58 ?_
        refine lv_iload_n hx hb dX2_date_61 rfl (lv_at hl 1 rfl) ?_
        refine lv_iload_n hx hb dX2_date_62 rfl (lv_at hl 2 rfl) ?_
        refine kc_i (va_runVN (As := [.int p0, .int p1]) (rest := []) ⟨hx, hb, hml, hown, hts⟩ (mX1_addDate (gF I) L nd p0 p1 (by rw [gF_ne _ (by omega)]; exact hnd) hlt) ⟨va_cnB 2 hts (kw_N k253) rfl rfl rfl (hE.2.2.1 (79, yX1_addDate) (by decide)) (hts _ (List.mem_cons_of_mem _ k3)) (by decide +kernel) ⟨Nat.le_of_ble_eq_true rfl, Nat.le_of_ble_eq_true rfl⟩, hts _ (List.mem_cons_of_mem _ k252), hts _ (List.mem_cons_of_mem _ ks5)⟩ (kB_preV hE hR hS 1 rfl rfl [.int p0, .int p1]) rfl rfl hl.1 rfl (lv_room (Nat.le_of_ble_eq_true rfl)) dX2_date_63 ⟨Nat.le_of_ble_eq_true rfl, Nat.le_of_ble_eq_true rfl⟩) hS (fun r u H locs hw hR hS => ?_)
        obtain ⟨rfl, rfl⟩ := hw
        have hR : tR D vwCl base ad (tC (wP n ad cs) (gAD (gF I) nd p0 p1) L) H := hR
        refine W.widen (k := 3) (n := 18) (Nat.le_of_ble_eq_true rfl) (Nat.le_of_ble_eq_true rfl) ?_
        refine vx_ret ?_
        exact W.iret (v := nI nd) hx hb hr (fun t ht hW => ⟨⟨_, (gAD (gF I) nd p0 p1, L), rfl, ⟨hok, hlt, rfl, rfl⟩, by show tR _ _ _ _ _ t.heap; rw [ht]; exact hR⟩, hS.F ht⟩) hS.2.2 dX2_date_66
      · exact th_S hx hb hl0 hown hts hE hR hS (hl.1.trans hml.symm) 73 "there are eight dates" (by decide) dX2_date_47 dX2_date_46 dX2_date_52 htab hlocks (Nat.le_of_ble_eq_true rfl) (Nat.le_of_ble_eq_true rfl) (Nat.le_of_ble_eq_true rfl) (Nat.le_of_ble_eq_true rfl) (Nat.le_of_ble_eq_true rfl) (Nat.le_of_ble_eq_true rfl) (Or.inr ⟨rfl, hok, fun z => c3 (show nI nd < nI 8 from nI_lt z (by decide))⟩) dX2_date_43 dX2_date_49
    · exact th_I hx hb hl0 hown hts hE hR hS (hl.1.trans hml.symm) 63 "first and last year" (by decide) dX2_date_25 dX2_date_24 dX2_date_30 htab hlocks (Nat.le_of_ble_eq_true rfl) (Nat.le_of_ble_eq_true rfl) (Nat.le_of_ble_eq_true rfl) (Nat.le_of_ble_eq_true rfl) (Nat.le_of_ble_eq_true rfl) (Nat.le_of_ble_eq_true rfl) (Or.inl ⟨rfl, fun z => c2 z.2.2.2⟩) dX2_date_21 dX2_date_27
set_option maxHeartbeats 4000000 in
set_option maxRecDepth 100000 in
theorem mX2_weight (hl0 : l.stackTraces = false) (I : tI) (L : tL) {nd no : Nat} {f la : Nat → Nat} {ph : Nat → Int32} {w : Nat → Nat → Nat} {ea lt le mo : Nat → Nat} (p0 p1 p2 : Int32) (hSi : cSi I nd no f la ph w ea lt le mo) (hwf : wfS nd no f la w ea lt le mo) : vx_Met l yX2_weight wX2_weight ({ frames := 9, cells := 3, slots := 18, locals := 180 }) (va_Pc [.ref (ad 0), .int p0, .int p1, .int p2] (kB D cs base sa n ad I L)) (va_Qi (fun (r : Int32) (u : tI × tL) => inR 1 1000 p2 ∧ ∃ d j, d < nd ∧ p0 = nI d ∧ p1 = nI (f d + j) ∧ f d + j ≤ la d ∧ r = nI (w d j) ∧ u = (va_up (gF I) (10 + d) (upd (gF I (10 + d)) j p2), L)) (kA D cs base n ad) (fun q => base ≤ q)) (kX D cs base n ad I L (fun E => (E = eN ∧ ¬ yOk nd f la p0 p1) ∨ (E = eI ∧ yOk nd f la p0 p1 ∧ ¬ inR 1 1000 p2))) 3 18 (fun q => base ≤ q) := by
  refine vx_ofW (cc := cX2_weight) (maxL := 4) (ret := (some .int)) (by decide) rfl ?_
  intro p e s m args below meth c s₁ Bd hml htab hv
  obtain ⟨rfl, hE, hR⟩ := hv
  have hx := Bd.exec
  have hb := Bd.bytes
  have hr := Bd.returns
  have hts := atoms_spec (ws := wX2_weight) Bd.pre
  have hown : s.vm.findClass RX2 = some m.cls := findClass_of_methodNamed Bd.named
  have hlocks := Bd.notSynchronized
  have hK := hE.K
  have hS : va_S (fun q => base ≤ q) s.heap s.heap [] := va_S.rf
  have hR : tR D vwCl base ad (tC (wP n ad cs) I L) s.heap := hR
  have hl := lv_entry ([.ref (ad 0), .int p0, .int p1, .int p2]) (n := 4) (Nat.le_of_ble_eq_true rfl)
  rw [lg_entry_eq]
  generalize (lg_sl ([.ref (ad 0), .int p0, .int p1, .int p2]) ++ List.replicate (4 - (lg_sl ([.ref (ad 0), .int p0, .int p1, .int p2])).length) Slot.unset).toArray = ls at hl ⊢
  have hl : lv_has ls 4 [(0, .ref (ad 0)), (1, .int p0), (2, .int p1), (3, .int p2)] := hl
  obtain ⟨h_nd, h_no, h_d, h_o⟩ := id hwf
  refine lv_aload_n hx hb dX2_weight_0 rfl (lv_at hl 0 rfl) ?_
  refine lv_iload_n hx hb dX2_weight_1 rfl (lv_at hl 1 rfl) ?_
  refine lv_iload_n hx hb dX2_weight_2 rfl (lv_at hl 2 rfl) ?_
  refine kt_v (vx_runV (As := [.int p0, .int p1]) (rest := []) ⟨hx, hb, hml, hown, hts⟩ (mX2_needYearOf hl0 I L p0 p1 hSi hwf) (cwV 2 hts (kw_V k262 k264 ks6 k1 k265) rfl rfl rfl (by decide +kernel) ⟨Nat.le_of_ble_eq_true rfl, Nat.le_of_ble_eq_true rfl⟩) (kB_preV hE hR hS 0 rfl rfl [.int p0, .int p1]) rfl rfl hl.1 rfl (lv_room (Nat.le_of_ble_eq_true rfl)) dX2_weight_3 ⟨Nat.le_of_ble_eq_true rfl, Nat.le_of_ble_eq_true rfl⟩) hS htab hlocks (fun E h => Or.inl h) (Nat.le_of_ble_eq_true rfl) (Nat.le_of_ble_eq_true rfl) (fun u H locs hw hR hS => ?_)
  obtain ⟨hy, rfl⟩ := hw
  have hR : tR D vwCl base ad (tC (wP n ad cs) I L) H := hR
  obtain ⟨_, d, j, hd, rfl, rfl, hj⟩ := id hy
  obtain ⟨g1, g2, g3, g4⟩ := h_d d hd
  refine lv_iload_n hx hb dX2_weight_6 rfl (lv_at hl 3 rfl) ?_
  refine lv_iconst (v := 1) hx hb dX2_weight_7 (by decide) ?_
  refine lv_icmp_lt (tgt := 18) hx hb dX2_weight_8 (by decide) (fun c1 => ?_) (fun c1 => ?_)
  · exact th_I hx hb hl0 hown hts hE hR hS (hl.1.trans hml.symm) 86 "weight" (by decide) dX2_weight_22 dX2_weight_21 dX2_weight_27 htab hlocks (Nat.le_of_ble_eq_true rfl) (Nat.le_of_ble_eq_true rfl) (Nat.le_of_ble_eq_true rfl) (Nat.le_of_ble_eq_true rfl) (Nat.le_of_ble_eq_true rfl) (Nat.le_of_ble_eq_true rfl) (Or.inr ⟨rfl, hy, inR_lo (by decide) (by decide) (show p2 < nI 1 from c1)⟩) dX2_weight_18 dX2_weight_24
  · refine lv_iload_n hx hb dX2_weight_11 rfl (lv_at hl 3 rfl) ?_
    refine lv_sipush (v := 1000) hx hb dX2_weight_12 (by decide) ?_
    refine lv_icmp_le (tgt := 28) hx hb dX2_weight_15 (by decide) (fun c2 => ?_) (fun c2 => ?_)
    · have hw2 : inR 1 1000 p2 := inR_of (by decide) (by decide) (show ¬ p2 < nI 1 from c1) (show p2 ≤ nI 1000 from c2)
      refine lv_aload_n hx hb dX2_weight_28 rfl (lv_at hl 0 rfl) ?_
      refine kc_v (va_runV (As := []) (rest := []) ⟨hx, hb, hml, hown, hts⟩ (mX2_forget I L) (cwV 0 hts (kw_V k246 k248 ks4 k1 k249) rfl rfl rfl (by decide +kernel) ⟨Nat.le_of_ble_eq_true rfl, Nat.le_of_ble_eq_true rfl⟩) (kB_preV hE hR hS 0 rfl rfl []) rfl rfl hl.1 rfl (lv_room (Nat.le_of_ble_eq_true rfl)) dX2_weight_29 ⟨Nat.le_of_ble_eq_true rfl, Nat.le_of_ble_eq_true rfl⟩) hS (fun u H locs hw hR hS => ?_)
      subst hw
      have hR : tR D vwCl base ad (tC (wP n ad cs) (gF I) L) H := hR
      refine lv_aload_n hx hb dX2_weight_32 rfl (lv_at hl 0 rfl) ?_
      refine tb_get hx hb hts (fun w h => List.mem_cons_of_mem _ (inX2 w h)) hown hK hR 0 rfl rfl 2 (by decide) (hts _ (List.mem_cons_of_mem _ k103)) (fun _ h => h) rfl dX2_weight_33 ?_
      refine lv_iload_n hx hb dX2_weight_36 rfl (lv_at hl 1 rfl) ?_
      refine lv_iload_n hx hb dX2_weight_37 rfl (lv_at hl 2 rfl) ?_
      refine lv_iload_n hx hb dX2_weight_38 rfl (lv_at hl 3 rfl) ?_
      refine kc_i (va_runVN (As := [.int (nI d), .int (nI (f d + j)), .int p2]) (rest := []) ⟨hx, hb, hml, hown, hts⟩ (mX1_changeWeight (gF I) L d j (nI (f d + j)) p2 (by omega) (by rw [gF_ne _ (by omega), (hSi.2.2.1 d hd).1, pk_sub (by omega), show f d + j - f d = j by omega]) (by omega)) ⟨va_cnB 3 hts (kw_N k291) rfl rfl rfl (hE.2.2.1 (88, yX1_changeWeight) (by decide)) (hts _ (List.mem_cons_of_mem _ k3)) (by decide +kernel) ⟨Nat.le_of_ble_eq_true rfl, Nat.le_of_ble_eq_true rfl⟩, hts _ (List.mem_cons_of_mem _ k290), hts _ (List.mem_cons_of_mem _ ks8)⟩ (kB_preV hE hR hS 1 rfl rfl [.int (nI d), .int (nI (f d + j)), .int p2]) rfl rfl hl.1 rfl (lv_room (Nat.le_of_ble_eq_true rfl)) dX2_weight_39 ⟨Nat.le_of_ble_eq_true rfl, Nat.le_of_ble_eq_true rfl⟩) hS (fun r u H locs hw hR hS => ?_)
      obtain ⟨rfl, rfl⟩ := hw
      have hR : tR D vwCl base ad (tC (wP n ad cs) (va_up (gF I) (10 + d) (upd (gF I (10 + d)) j p2)) L) H := hR
      refine W.widen (k := 3) (n := 18) (Nat.le_of_ble_eq_true rfl) (Nat.le_of_ble_eq_true rfl) ?_
      refine vx_ret ?_
      exact W.iret (v := gF I (10 + d) j) hx hb hr (fun t ht hW => ⟨⟨_, (va_up (gF I) (10 + d) (upd (gF I (10 + d)) j p2), L), rfl, ⟨hw2, d, j, hd, rfl, rfl, hj, by rw [gF_ne _ (by omega)]; exact (hSi.2.2.1 d hd).2.2.2 j (by omega), rfl⟩, by show tR _ _ _ _ _ t.heap; rw [ht]; exact hR⟩, hS.F ht⟩) hS.2.2 dX2_weight_42
    · exact th_I hx hb hl0 hown hts hE hR hS (hl.1.trans hml.symm) 86 "weight" (by decide) dX2_weight_22 dX2_weight_21 dX2_weight_27 htab hlocks (Nat.le_of_ble_eq_true rfl) (Nat.le_of_ble_eq_true rfl) (Nat.le_of_ble_eq_true rfl) (Nat.le_of_ble_eq_true rfl) (Nat.le_of_ble_eq_true rfl) (Nat.le_of_ble_eq_true rfl) (Or.inr ⟨rfl, hy, inR_hi (by decide) (show ¬ p2 ≤ nI 1000 from c2)⟩) dX2_weight_18 dX2_weight_24
set_option maxHeartbeats 4000000 in
set_option maxRecDepth 100000 in
theorem mX2_before (hl0 : l.stackTraces = false) (I : tI) (L : tL) (nd no : Nat) (p0 p1 p2 p3 : Int32) (hnd : I 1 8 = nI nd) (h8 : nd ≤ 8) (hno : I 1 9 = nI no) (h24 : no ≤ 24) : vx_Met l yX2_before wX2_before ({ frames := 8, cells := 5, slots := 30, locals := 140 }) (va_Pc [.ref (ad 0), .int p0, .int p1, .int p2, .int p3] (kB D cs base sa n ad I L)) (va_Qi (fun (r : Int32) (u : tI × tL) => bOk nd p0 p1 ∧ bOk2 p0 p1 p2 p3 ∧ no < 24 ∧ r = nI no ∧ u = (gAO (gF I) no p0 p1 p2 p3, L)) (kA D cs base n ad) (fun q => base ≤ q)) (kX D cs base n ad I L (fun E => (E = eN ∧ ¬ bOk nd p0 p1) ∨ (E = eI ∧ bOk nd p0 p1 ∧ ¬ bOk2 p0 p1 p2 p3) ∨ (E = eS ∧ bOk nd p0 p1 ∧ bOk2 p0 p1 p2 p3 ∧ ¬ no < 24))) 5 30 (fun q => base ≤ q) := by
  refine vx_ofW (cc := cX2_before) (maxL := 5) (ret := (some .int)) (by decide) rfl ?_
  intro p e s m args below meth c s₁ Bd hml htab hv
  obtain ⟨rfl, hE, hR⟩ := hv
  have hx := Bd.exec
  have hb := Bd.bytes
  have hr := Bd.returns
  have hts := atoms_spec (ws := wX2_before) Bd.pre
  have hown : s.vm.findClass RX2 = some m.cls := findClass_of_methodNamed Bd.named
  have hlocks := Bd.notSynchronized
  have hK := hE.K
  have hS : va_S (fun q => base ≤ q) s.heap s.heap [] := va_S.rf
  have hR : tR D vwCl base ad (tC (wP n ad cs) I L) s.heap := hR
  have hl := lv_entry ([.ref (ad 0), .int p0, .int p1, .int p2, .int p3]) (n := 5) (Nat.le_of_ble_eq_true rfl)
  rw [lg_entry_eq]
  generalize (lg_sl ([.ref (ad 0), .int p0, .int p1, .int p2, .int p3]) ++ List.replicate (5 - (lg_sl ([.ref (ad 0), .int p0, .int p1, .int p2, .int p3])).length) Slot.unset).toArray = ls at hl ⊢
  have hl : lv_has ls 5 [(0, .ref (ad 0)), (1, .int p0), (2, .int p1), (3, .int p2), (4, .int p3)] := hl
  refine lv_aload_n hx hb dX2_before_0 rfl (lv_at hl 0 rfl) ?_
  refine lv_iload_n hx hb dX2_before_1 rfl (lv_at hl 1 rfl) ?_
  refine kt_v (vx_runV (As := [.int p0]) (rest := []) ⟨hx, hb, hml, hown, hts⟩ (mX2_needDate hl0 I L nd p0 hnd h8) (cwV 1 hts (kw_V k266 k268 ks7 k1 k269) rfl rfl rfl (by decide +kernel) ⟨Nat.le_of_ble_eq_true rfl, Nat.le_of_ble_eq_true rfl⟩) (kB_preV hE hR hS 0 rfl rfl [.int p0]) rfl rfl hl.1 rfl (lv_room (Nat.le_of_ble_eq_true rfl)) dX2_before_2 ⟨Nat.le_of_ble_eq_true rfl, Nat.le_of_ble_eq_true rfl⟩) hS htab hlocks (fun E h => Or.inl ⟨h.1, fun z => h.2 z.1⟩) (Nat.le_of_ble_eq_true rfl) (Nat.le_of_ble_eq_true rfl) (fun u H locs hw hR hS => ?_)
  obtain ⟨hp0, rfl⟩ := hw
  have hR : tR D vwCl base ad (tC (wP n ad cs) I L) H := hR
  refine lv_aload_n hx hb dX2_before_5 rfl (lv_at hl 0 rfl) ?_
  refine lv_iload_n hx hb dX2_before_6 rfl (lv_at hl 2 rfl) ?_
  refine kt_v (vx_runV (As := [.int p1]) (rest := []) ⟨hx, hb, hml, hown, hts⟩ (mX2_needDate hl0 I L nd p1 hnd h8) (cwV 1 hts (kw_V k266 k268 ks7 k1 k269) rfl rfl rfl (by decide +kernel) ⟨Nat.le_of_ble_eq_true rfl, Nat.le_of_ble_eq_true rfl⟩) (kB_preV hE hR hS 0 rfl rfl [.int p1]) rfl rfl hl.1 rfl (lv_room (Nat.le_of_ble_eq_true rfl)) dX2_before_7 ⟨Nat.le_of_ble_eq_true rfl, Nat.le_of_ble_eq_true rfl⟩) hS htab hlocks (fun E h => Or.inl ⟨h.1, fun z => h.2 z.2⟩) (Nat.le_of_ble_eq_true rfl) (Nat.le_of_ble_eq_true rfl) (fun u H locs hw hR hS => ?_)
  obtain ⟨hp1, rfl⟩ := hw
  have hR : tR D vwCl base ad (tC (wP n ad cs) I L) H := hR
  have hok : bOk nd p0 p1 := ⟨hp0, hp1⟩
  refine lv_iload_n hx hb dX2_before_10 rfl (lv_at hl 3 rfl) ?_
  refine kt_v (vx_runS (As := [.int p2]) (rest := []) ⟨hx, hb, hml, hown, hts⟩ (mX2_needYears hl0 I L p2) (va_cwS 1 hts (kw_S k158 k159 k1 k160) rfl rfl rfl (by decide +kernel) ⟨Nat.le_of_ble_eq_true rfl, Nat.le_of_ble_eq_true rfl⟩) (kB_pre hE hR hS [.int p2]) rfl rfl hl.1 rfl (lv_room (Nat.le_of_ble_eq_true rfl)) dX2_before_11 ⟨Nat.le_of_ble_eq_true rfl, Nat.le_of_ble_eq_true rfl⟩) hS htab hlocks (fun E h => Or.inr (Or.inl ⟨h.1, hok, fun z => h.2 z.1⟩)) (Nat.le_of_ble_eq_true rfl) (Nat.le_of_ble_eq_true rfl) (fun u H locs hw hR hS => ?_)
  obtain ⟨hp2, rfl⟩ := hw
  have hR : tR D vwCl base ad (tC (wP n ad cs) I L) H := hR
  refine lv_iload hx hb dX2_before_14 (lv_at hl 4 rfl) ?_
  refine kt_v (vx_runS (As := [.int p3]) (rest := []) ⟨hx, hb, hml, hown, hts⟩ (mX2_needYears hl0 I L p3) (va_cwS 1 hts (kw_S k158 k159 k1 k160) rfl rfl rfl (by decide +kernel) ⟨Nat.le_of_ble_eq_true rfl, Nat.le_of_ble_eq_true rfl⟩) (kB_pre hE hR hS [.int p3]) rfl rfl hl.1 rfl (lv_room (Nat.le_of_ble_eq_true rfl)) dX2_before_16 ⟨Nat.le_of_ble_eq_true rfl, Nat.le_of_ble_eq_true rfl⟩) hS htab hlocks (fun E h => Or.inr (Or.inl ⟨h.1, hok, fun z => h.2 z.2.1⟩)) (Nat.le_of_ble_eq_true rfl) (Nat.le_of_ble_eq_true rfl) (fun u H locs hw hR hS => ?_)
  obtain ⟨hp3, rfl⟩ := hw
  have hR : tR D vwCl base ad (tC (wP n ad cs) I L) H := hR
  refine lv_iload_n hx hb dX2_before_19 rfl (lv_at hl 1 rfl) ?_
  refine lv_iload_n hx hb dX2_before_20 rfl (lv_at hl 2 rfl) ?_
  refine lv_icmp_eq (tgt := 30) hx hb dX2_before_21 (by decide) (fun c1 => ?_) (fun c1 => ?_)
  · exact th_I hx hb hl0 hown hts hE hR hS (hl.1.trans hml.symm) 95 "order" (by decide) dX2_before_34 dX2_before_33 dX2_before_39 htab hlocks (Nat.le_of_ble_eq_true rfl) (Nat.le_of_ble_eq_true rfl) (Nat.le_of_ble_eq_true rfl) (Nat.le_of_ble_eq_true rfl) (Nat.le_of_ble_eq_true rfl) (Nat.le_of_ble_eq_true rfl) (Or.inr (Or.inl ⟨rfl, hok, fun z => z.2.2.1 c1⟩)) dX2_before_30 dX2_before_36
  · refine lv_iload_n hx hb dX2_before_24 rfl (lv_at hl 3 rfl) ?_
    refine lv_iload hx hb dX2_before_25 (lv_at hl 4 rfl) ?_
    refine lv_icmp_le (tgt := 40) hx hb dX2_before_27 (by decide) (fun c2 => ?_) (fun c2 => ?_)
    · have hok2 : bOk2 p0 p1 p2 p3 := ⟨hp2, hp3, c1, c2⟩
      refine lv_aload_n hx hb dX2_before_40 rfl (lv_at hl 0 rfl) ?_
      refine tb_get hx hb hts (fun w h => List.mem_cons_of_mem _ (inX2 w h)) hown hK hR 0 rfl rfl 2 (by decide) (hts _ (List.mem_cons_of_mem _ k103)) (fun _ h => h) rfl dX2_before_41 ?_
      refine tb_getN hx hb hts (fun w h => List.mem_cons_of_mem _ (inX1 w h)) hown hK hR 1 rfl rfl 9 (by decide) (va_Nw.use rfl (hE.2.1 (97, "SeedChains$Site", "orders", "I") (by decide))) (fun _ h => h) rfl dX2_before_44 ?_
      rw [show I 1 9 = nI no from hno]
      refine lv_bipush (v := 24) hx hb dX2_before_47 (by decide) ?_
      refine lv_icmp_lt (tgt := 62) hx hb dX2_before_49 (by decide) (fun c3 => ?_) (fun c3 => ?_)
      · have hlt : no < 24 := (nI_ltI (by omega) (by decide)).mp (show nI no < nI 24 from c3)
        refine lv_aload_n hx hb dX2_before_62 rfl (lv_at hl 0 rfl) ?_
        refine kc_v (va_runV (As := []) (rest := []) ⟨hx, hb, hml, hown, hts⟩ (mX2_forget I L) (cwV 0 hts (kw_V k246 k248 ks4 k1 k249) rfl rfl rfl (by decide +kernel) ⟨Nat.le_of_ble_eq_true rfl, Nat.le_of_ble_eq_true rfl⟩) (kB_preV hE hR hS 0 rfl rfl []) rfl rfl hl.1 rfl (lv_room (Nat.le_of_ble_eq_true rfl)) dX2_before_63 ⟨Nat.le_of_ble_eq_true rfl, Nat.le_of_ble_eq_true rfl⟩) hS (fun u H locs hw hR hS => ?_)
        subst hw
        have hR : tR D vwCl base ad (tC (wP n ad cs) (gF I) L) H := hR
        refine lv_aload_n hx hb dX2_before_66 rfl (lv_at hl 0 rfl) ?_
        refine tb_get hx hb hts (fun w h => List.mem_cons_of_mem _ (inX2 w h)) hown hK hR 0 rfl rfl 2 (by decide) (hts _ (List.mem_cons_of_mem _ k103)) (fun _ h => h) rfl dX2_before_67 ?_
        refine lv_iload_n hx hb dX2_before_70 rfl (lv_at hl 1 rfl) ?_
        refine lv_iload_n hx hb dX2_before_71 rfl (lv_at hl 2 rfl) ?_
        refine lv_iload_n hx hb dX2_before_72 rfl (lv_at hl 3 rfl) ?_
        refine lv_iload hx hb dX2_before_73 (lv_at hl 4 rfl) ?_
        refine kc_i (va_runVN (As := [.int p0, .int p1, .int p2, .int p3]) (rest := []) ⟨hx, hb, hml, hown, hts⟩ (mX1_addOrder (gF I) L no p0 p1 p2 p3 (by rw [gF_ne _ (by omega)]; exact hno) hlt) ⟨va_cnB 4 hts (kw_N k308) rfl rfl rfl (hE.2.2.1 (102, yX1_addOrder) (by decide)) (hts _ (List.mem_cons_of_mem _ k3)) (by decide +kernel) ⟨Nat.le_of_ble_eq_true rfl, Nat.le_of_ble_eq_true rfl⟩, hts _ (List.mem_cons_of_mem _ k307), hts _ (List.mem_cons_of_mem _ ks10)⟩ (kB_preV hE hR hS 1 rfl rfl [.int p0, .int p1, .int p2, .int p3]) rfl rfl hl.1 rfl (lv_room (Nat.le_of_ble_eq_true rfl)) dX2_before_75 ⟨Nat.le_of_ble_eq_true rfl, Nat.le_of_ble_eq_true rfl⟩) hS (fun r u H locs hw hR hS => ?_)
        obtain ⟨rfl, rfl⟩ := hw
        have hR : tR D vwCl base ad (tC (wP n ad cs) (gAO (gF I) no p0 p1 p2 p3) L) H := hR
        refine W.widen (k := 5) (n := 30) (Nat.le_of_ble_eq_true rfl) (Nat.le_of_ble_eq_true rfl) ?_
        refine vx_ret ?_
        exact W.iret (v := nI no) hx hb hr (fun t ht hW => ⟨⟨_, (gAO (gF I) no p0 p1 p2 p3, L), rfl, ⟨hok, hok2, hlt, rfl, rfl⟩, by show tR _ _ _ _ _ t.heap; rw [ht]; exact hR⟩, hS.F ht⟩) hS.2.2 dX2_before_78
      · exact th_S hx hb hl0 hown hts hE hR hS (hl.1.trans hml.symm) 100 "there are 24 orders" (by decide) dX2_before_56 dX2_before_55 dX2_before_61 htab hlocks (Nat.le_of_ble_eq_true rfl) (Nat.le_of_ble_eq_true rfl) (Nat.le_of_ble_eq_true rfl) (Nat.le_of_ble_eq_true rfl) (Nat.le_of_ble_eq_true rfl) (Nat.le_of_ble_eq_true rfl) (Or.inr (Or.inr ⟨rfl, hok, hok2, fun z => c3 (show nI no < nI 24 from nI_lt z (by decide))⟩)) dX2_before_52 dX2_before_58
    · exact th_I hx hb hl0 hown hts hE hR hS (hl.1.trans hml.symm) 95 "order" (by decide) dX2_before_34 dX2_before_33 dX2_before_39 htab hlocks (Nat.le_of_ble_eq_true rfl) (Nat.le_of_ble_eq_true rfl) (Nat.le_of_ble_eq_true rfl) (Nat.le_of_ble_eq_true rfl) (Nat.le_of_ble_eq_true rfl) (Nat.le_of_ble_eq_true rfl) (Or.inr (Or.inl ⟨rfl, hok, fun z => c2 z.2.2.2⟩)) dX2_before_30 dX2_before_36
set_option maxHeartbeats 4000000 in
set_option maxRecDepth 100000 in
theorem mX2_member (hl0 : l.stackTraces = false) (I : tI) (L : tL) {nd no : Nat} {f la : Nat → Nat} {ph : Nat → Int32} {w : Nat → Nat → Nat} {ea lt le mo : Nat → Nat} (p0 p1 : Int32) (hSi : cSi I nd no f la ph w ea lt le mo) (hwf : wfS nd no f la w ea lt le mo) : vx_Met l yX2_member wX2_member ({ frames := 8, cells := 2, slots := 12, locals := 140 }) (va_Pc [.ref (ad 0), .int p0, .int p1] (kB D cs base sa n ad I L)) (va_Qi (fun (r : Int32) (u : tI × tL) => mOk nd p0 p1 ∧ ∃ d, d < nd ∧ p0 = nI d ∧ r = ph d ∧ u = (va_up I 4 (upd (I 4) d p1), L)) (kA D cs base n ad) (fun q => base ≤ q)) (kX D cs base n ad I L (fun E => E = eN ∧ ¬ mOk nd p0 p1)) 2 12 (fun q => base ≤ q) := by
  refine vx_ofW (cc := cX2_member) (maxL := 4) (ret := (some .int)) (by decide) rfl ?_
  intro p e s m args below meth c s₁ Bd hml htab hv
  obtain ⟨rfl, hE, hR⟩ := hv
  have hx := Bd.exec
  have hb := Bd.bytes
  have hr := Bd.returns
  have hts := atoms_spec (ws := wX2_member) Bd.pre
  have hown : s.vm.findClass RX2 = some m.cls := findClass_of_methodNamed Bd.named
  have hlocks := Bd.notSynchronized
  have hK := hE.K
  have hS : va_S (fun q => base ≤ q) s.heap s.heap [] := va_S.rf
  have hR : tR D vwCl base ad (tC (wP n ad cs) I L) s.heap := hR
  have hl := lv_entry ([.ref (ad 0), .int p0, .int p1]) (n := 4) (Nat.le_of_ble_eq_true rfl)
  rw [lg_entry_eq]
  generalize (lg_sl ([.ref (ad 0), .int p0, .int p1]) ++ List.replicate (4 - (lg_sl ([.ref (ad 0), .int p0, .int p1])).length) Slot.unset).toArray = ls at hl ⊢
  have hl : lv_has ls 4 [(0, .ref (ad 0)), (1, .int p0), (2, .int p1)] := hl
  obtain ⟨h_nd, h_no, h_d, h_o⟩ := id hwf
  refine lv_aload_n hx hb dX2_member_0 rfl (lv_at hl 0 rfl) ?_
  refine lv_iload_n hx hb dX2_member_1 rfl (lv_at hl 1 rfl) ?_
  refine kt_v (vx_runV (As := [.int p0]) (rest := []) ⟨hx, hb, hml, hown, hts⟩ (mX2_needDate hl0 I L nd p0 hSi.1 h_nd) (cwV 1 hts (kw_V k266 k268 ks7 k1 k269) rfl rfl rfl (by decide +kernel) ⟨Nat.le_of_ble_eq_true rfl, Nat.le_of_ble_eq_true rfl⟩) (kB_preV hE hR hS 0 rfl rfl [.int p0]) rfl rfl hl.1 rfl (lv_room (Nat.le_of_ble_eq_true rfl)) dX2_member_2 ⟨Nat.le_of_ble_eq_true rfl, Nat.le_of_ble_eq_true rfl⟩) hS htab hlocks (fun E h => ⟨h.1, fun z => h.2 z.1⟩) (Nat.le_of_ble_eq_true rfl) (Nat.le_of_ble_eq_true rfl) (fun u H locs hw hR hS => ?_)
  obtain ⟨hp0, rfl⟩ := hw
  have hR : tR D vwCl base ad (tC (wP n ad cs) I L) H := hR
  obtain ⟨d, hd, rfl⟩ := id hp0
  refine lv_iload_n hx hb dX2_member_5 rfl (lv_at hl 2 rfl) ?_
  refine lv_iconst (v := -1) hx hb dX2_member_6 (by decide) ?_
  refine lv_icmp_eq (tgt := 14) hx hb dX2_member_7 (by decide) (fun c1 => ?_) (fun c1 => ?_)
  · have hok : mOk nd (nI d) p1 := ⟨hp0, Or.inl c1⟩
    refine lv_aload_n hx hb dX2_member_14 rfl (lv_at hl 0 rfl) ?_
    refine tb_get hx hb hts (fun w h => List.mem_cons_of_mem _ (inX2 w h)) hown hK hR 0 rfl rfl 2 (by decide) (hts _ (List.mem_cons_of_mem _ k103)) (fun _ h => h) rfl dX2_member_15 ?_
    refine tb_getN hx hb hts (fun w h => List.mem_cons_of_mem _ (inX1 w h)) hown hK hR 1 rfl rfl 2 (by decide) (va_Nw.use rfl (hE.2.1 (109, "SeedChains$Site", "phase", "[I") (by decide))) (fun _ h => h) rfl dX2_member_18 ?_
    refine lv_iload_n hx hb dX2_member_21 rfl (lv_at hl 1 rfl) ?_
    refine tp_iald hx hb hK hR 4 0 (fun _ _ => rfl) rfl d rfl (by omega) (by decide) dX2_member_22 ?_
    rw [show I 4 d = ph d from (hSi.2.2.1 d (by omega)).2.2.1]
    refine lv_istore_n (lv' := [(3, .int (ph d)), (0, .ref (ad 0)), (1, .int (nI d)), (2, .int p1)]) hx hb dX2_member_23 rfl hl (by decide) rfl (fun ls hl => ?_)
    refine lv_aload_n hx hb dX2_member_24 rfl (lv_at hl 1 rfl) ?_
    refine tb_get hx hb hts (fun w h => List.mem_cons_of_mem _ (inX2 w h)) hown hK hR 0 rfl rfl 2 (by decide) (hts _ (List.mem_cons_of_mem _ k103)) (fun _ h => h) rfl dX2_member_25 ?_
    refine tb_getN hx hb hts (fun w h => List.mem_cons_of_mem _ (inX1 w h)) hown hK hR 1 rfl rfl 2 (by decide) (va_Nw.use rfl (hE.2.1 (109, "SeedChains$Site", "phase", "[I") (by decide))) (fun _ h => h) rfl dX2_member_28 ?_
    refine lv_iload_n hx hb dX2_member_31 rfl (lv_at hl 2 rfl) ?_
    refine lv_iload_n hx hb dX2_member_32 rfl (lv_at hl 3 rfl) ?_
    refine tp_iast hx hb hK hR hS 4 0 (fun _ _ => rfl) rfl d rfl (by omega) (by decide) dX2_member_33 (fun H locs hR hS => ?_)
    refine lv_iload_n hx hb dX2_member_34 rfl (lv_at hl 0 rfl) ?_
    refine W.widen (k := 2) (n := 12) (Nat.le_of_ble_eq_true rfl) (Nat.le_of_ble_eq_true rfl) ?_
    refine vx_ret ?_
    exact W.iret (v := ph d) hx hb hr (fun t ht hW => ⟨⟨_, (va_up I 4 (upd (I 4) d p1), L), rfl, ⟨hok, d, hd, rfl, rfl, rfl⟩, by show tR _ _ _ _ _ t.heap; rw [ht]; exact hR⟩, hS.F ht⟩) hS.2.2 dX2_member_35
  · refine lv_iload_n hx hb dX2_member_10 rfl (lv_at hl 2 rfl) ?_
    refine kt_v (vx_runS (As := [.int p1]) (rest := []) ⟨hx, hb, hml, hown, hts⟩ (mX2_needPhase hl0 I L p1) (va_cwS 1 hts (kw_S k316 k317 k1 k318) rfl rfl rfl (by decide +kernel) ⟨Nat.le_of_ble_eq_true rfl, Nat.le_of_ble_eq_true rfl⟩) (kB_pre hE hR hS [.int p1]) rfl rfl hl.1 rfl (lv_room (Nat.le_of_ble_eq_true rfl)) dX2_member_11 ⟨Nat.le_of_ble_eq_true rfl, Nat.le_of_ble_eq_true rfl⟩) hS htab hlocks (fun E h => ⟨h.1, fun z => z.2.elim c1 h.2⟩) (Nat.le_of_ble_eq_true rfl) (Nat.le_of_ble_eq_true rfl) (fun u H locs hw hR hS => ?_)
    obtain ⟨hp1, rfl⟩ := hw
    have hR : tR D vwCl base ad (tC (wP n ad cs) I L) H := hR
    have hok : mOk nd (nI d) p1 := ⟨hp0, Or.inr hp1⟩
    refine lv_aload_n hx hb dX2_member_14 rfl (lv_at hl 0 rfl) ?_
    refine tb_get hx hb hts (fun w h => List.mem_cons_of_mem _ (inX2 w h)) hown hK hR 0 rfl rfl 2 (by decide) (hts _ (List.mem_cons_of_mem _ k103)) (fun _ h => h) rfl dX2_member_15 ?_
    refine tb_getN hx hb hts (fun w h => List.mem_cons_of_mem _ (inX1 w h)) hown hK hR 1 rfl rfl 2 (by decide) (va_Nw.use rfl (hE.2.1 (109, "SeedChains$Site", "phase", "[I") (by decide))) (fun _ h => h) rfl dX2_member_18 ?_
    refine lv_iload_n hx hb dX2_member_21 rfl (lv_at hl 1 rfl) ?_
    refine tp_iald hx hb hK hR 4 0 (fun _ _ => rfl) rfl d rfl (by omega) (by decide) dX2_member_22 ?_
    rw [show I 4 d = ph d from (hSi.2.2.1 d (by omega)).2.2.1]
    refine lv_istore_n (lv' := [(3, .int (ph d)), (0, .ref (ad 0)), (1, .int (nI d)), (2, .int p1)]) hx hb dX2_member_23 rfl hl (by decide) rfl (fun ls hl => ?_)
    refine lv_aload_n hx hb dX2_member_24 rfl (lv_at hl 1 rfl) ?_
    refine tb_get hx hb hts (fun w h => List.mem_cons_of_mem _ (inX2 w h)) hown hK hR 0 rfl rfl 2 (by decide) (hts _ (List.mem_cons_of_mem _ k103)) (fun _ h => h) rfl dX2_member_25 ?_
    refine tb_getN hx hb hts (fun w h => List.mem_cons_of_mem _ (inX1 w h)) hown hK hR 1 rfl rfl 2 (by decide) (va_Nw.use rfl (hE.2.1 (109, "SeedChains$Site", "phase", "[I") (by decide))) (fun _ h => h) rfl dX2_member_28 ?_
    refine lv_iload_n hx hb dX2_member_31 rfl (lv_at hl 2 rfl) ?_
    refine lv_iload_n hx hb dX2_member_32 rfl (lv_at hl 3 rfl) ?_
    refine tp_iast hx hb hK hR hS 4 0 (fun _ _ => rfl) rfl d rfl (by omega) (by decide) dX2_member_33 (fun H locs hR hS => ?_)
    refine lv_iload_n hx hb dX2_member_34 rfl (lv_at hl 0 rfl) ?_
    refine W.widen (k := 2) (n := 12) (Nat.le_of_ble_eq_true rfl) (Nat.le_of_ble_eq_true rfl) ?_
    refine vx_ret ?_
    exact W.iret (v := ph d) hx hb hr (fun t ht hW => ⟨⟨_, (va_up I 4 (upd (I 4) d p1), L), rfl, ⟨hok, d, hd, rfl, rfl, rfl⟩, by show tR _ _ _ _ _ t.heap; rw [ht]; exact hR⟩, hS.F ht⟩) hS.2.2 dX2_member_35
set_option maxHeartbeats 4000000 in
set_option maxRecDepth 100000 in
theorem mX2_burn (hl0 : l.stackTraces = false) (I : tI) (L : tL) (p0 : Int32)  : vx_Met l yX2_burn wX2_burn ({ frames := 8, cells := 1, slots := 6, locals := 140 }) (va_Pc [.ref (ad 0), .int p0] (kB D cs base sa n ad I L)) (va_Qi (fun (r : Int32) (u : tI × tL) => inR 0 100 p0 ∧ r = I 0 7 ∧ u = (va_up I 0 (upd (I 0) 7 p0), L)) (kA D cs base n ad) (fun q => base ≤ q)) (kX D cs base n ad I L (fun E => E = eI ∧ ¬ inR 0 100 p0)) 1 6 (fun q => base ≤ q) := by
  refine vx_ofW (cc := cX2_burn) (maxL := 3) (ret := (some .int)) (by decide) rfl ?_
  intro p e s m args below meth c s₁ Bd hml htab hv
  obtain ⟨rfl, hE, hR⟩ := hv
  have hx := Bd.exec
  have hb := Bd.bytes
  have hr := Bd.returns
  have hts := atoms_spec (ws := wX2_burn) Bd.pre
  have hown : s.vm.findClass RX2 = some m.cls := findClass_of_methodNamed Bd.named
  have hlocks := Bd.notSynchronized
  have hK := hE.K
  have hS : va_S (fun q => base ≤ q) s.heap s.heap [] := va_S.rf
  have hR : tR D vwCl base ad (tC (wP n ad cs) I L) s.heap := hR
  have hl := lv_entry ([.ref (ad 0), .int p0]) (n := 3) (Nat.le_of_ble_eq_true rfl)
  rw [lg_entry_eq]
  generalize (lg_sl ([.ref (ad 0), .int p0]) ++ List.replicate (3 - (lg_sl ([.ref (ad 0), .int p0])).length) Slot.unset).toArray = ls at hl ⊢
  have hl : lv_has ls 3 [(0, .ref (ad 0)), (1, .int p0)] := hl
  refine lv_iload_n hx hb dX2_burn_0 rfl (lv_at hl 1 rfl) ?_
  refine lv_if_lt (tgt := 10) hx hb dX2_burn_1 (by decide) (fun c1 => ?_) (fun c1 => ?_)
  · exact th_I hx hb hl0 hown hts hE hR hS (hl.1.trans hml.symm) 113 "burn-in" (by decide) dX2_burn_14 dX2_burn_13 dX2_burn_19 htab hlocks (Nat.le_of_ble_eq_true rfl) (Nat.le_of_ble_eq_true rfl) (Nat.le_of_ble_eq_true rfl) (Nat.le_of_ble_eq_true rfl) (Nat.le_of_ble_eq_true rfl) (Nat.le_of_ble_eq_true rfl) (⟨rfl, inR_lo (by decide) (by decide) (show p0 < nI 0 from c1)⟩) dX2_burn_10 dX2_burn_16
  · refine lv_iload_n hx hb dX2_burn_4 rfl (lv_at hl 1 rfl) ?_
    refine lv_bipush (v := 100) hx hb dX2_burn_5 (by decide) ?_
    refine lv_icmp_le (tgt := 20) hx hb dX2_burn_7 (by decide) (fun c2 => ?_) (fun c2 => ?_)
    · have hok : inR 0 100 p0 := inR_of (by decide) (by decide) (show ¬ p0 < nI 0 from c1) (show p0 ≤ nI 100 from c2)
      refine lv_aload_n hx hb dX2_burn_20 rfl (lv_at hl 0 rfl) ?_
      refine tb_get hx hb hts (fun w h => List.mem_cons_of_mem _ (inX2 w h)) hown hK hR 0 rfl rfl 7 (by decide) (hts _ (List.mem_cons_of_mem _ k108)) (fun _ h => h) rfl dX2_burn_21 ?_
      refine lv_istore_n (lv' := [(2, .int (I 0 7)), (0, .ref (ad 0)), (1, .int p0)]) hx hb dX2_burn_24 rfl hl (by decide) rfl (fun ls hl => ?_)
      refine lv_aload_n hx hb dX2_burn_25 rfl (lv_at hl 1 rfl) ?_
      refine lv_iload_n hx hb dX2_burn_26 rfl (lv_at hl 2 rfl) ?_
      refine tp_put hx hb hts (fun w h => List.mem_cons_of_mem _ (inX2 w h)) tyX2 tyX2_ok nmX2 hown hK hR hS 0 (fun r => [.int (r 0), .int (r 1), .ref (ad 1), .ref (ad 20), .ref (ad 18), .int (r 5), .int (r 6), .int (r 7), .int (r 8)]) (fun _ _ => rfl) rfl 7 (by decide) (hts _ (List.mem_cons_of_mem _ k108)) (fun _ h => h) rfl (ty := .int) rfl rfl rfl (by simp) (fun _ => rfl) dX2_burn_27 (fun H locs hR hS => ?_)
      refine lv_iload_n hx hb dX2_burn_30 rfl (lv_at hl 0 rfl) ?_
      refine W.widen (k := 1) (n := 6) (Nat.le_of_ble_eq_true rfl) (Nat.le_of_ble_eq_true rfl) ?_
      refine vx_ret ?_
      exact W.iret (v := I 0 7) hx hb hr (fun t ht hW => ⟨⟨_, (va_up I 0 (upd (I 0) 7 p0), L), rfl, ⟨hok, rfl, rfl⟩, by show tR _ _ _ _ _ t.heap; rw [ht]; exact hR⟩, hS.F ht⟩) hS.2.2 dX2_burn_31
    · exact th_I hx hb hl0 hown hts hE hR hS (hl.1.trans hml.symm) 113 "burn-in" (by decide) dX2_burn_14 dX2_burn_13 dX2_burn_19 htab hlocks (Nat.le_of_ble_eq_true rfl) (Nat.le_of_ble_eq_true rfl) (Nat.le_of_ble_eq_true rfl) (Nat.le_of_ble_eq_true rfl) (Nat.le_of_ble_eq_true rfl) (Nat.le_of_ble_eq_true rfl) (⟨rfl, inR_hi (by decide) (show ¬ p0 ≤ nI 100 from c2)⟩) dX2_burn_10 dX2_burn_16
set_option maxHeartbeats 4000000 in
set_option maxRecDepth 100000 in
theorem mX2_thin (hl0 : l.stackTraces = false) (I : tI) (L : tL) (p0 : Int32)  : vx_Met l yX2_thin wX2_thin ({ frames := 8, cells := 1, slots := 6, locals := 140 }) (va_Pc [.ref (ad 0), .int p0] (kB D cs base sa n ad I L)) (va_Qi (fun (r : Int32) (u : tI × tL) => inR 1 20 p0 ∧ r = I 0 8 ∧ u = (va_up I 0 (upd (I 0) 8 p0), L)) (kA D cs base n ad) (fun q => base ≤ q)) (kX D cs base n ad I L (fun E => E = eI ∧ ¬ inR 1 20 p0)) 1 6 (fun q => base ≤ q) := by
  refine vx_ofW (cc := cX2_thin) (maxL := 3) (ret := (some .int)) (by decide) rfl ?_
  intro p e s m args below meth c s₁ Bd hml htab hv
  obtain ⟨rfl, hE, hR⟩ := hv
  have hx := Bd.exec
  have hb := Bd.bytes
  have hr := Bd.returns
  have hts := atoms_spec (ws := wX2_thin) Bd.pre
  have hown : s.vm.findClass RX2 = some m.cls := findClass_of_methodNamed Bd.named
  have hlocks := Bd.notSynchronized
  have hK := hE.K
  have hS : va_S (fun q => base ≤ q) s.heap s.heap [] := va_S.rf
  have hR : tR D vwCl base ad (tC (wP n ad cs) I L) s.heap := hR
  have hl := lv_entry ([.ref (ad 0), .int p0]) (n := 3) (Nat.le_of_ble_eq_true rfl)
  rw [lg_entry_eq]
  generalize (lg_sl ([.ref (ad 0), .int p0]) ++ List.replicate (3 - (lg_sl ([.ref (ad 0), .int p0])).length) Slot.unset).toArray = ls at hl ⊢
  have hl : lv_has ls 3 [(0, .ref (ad 0)), (1, .int p0)] := hl
  refine lv_iload_n hx hb dX2_thin_0 rfl (lv_at hl 1 rfl) ?_
  refine lv_iconst (v := 1) hx hb dX2_thin_1 (by decide) ?_
  refine lv_icmp_lt (tgt := 11) hx hb dX2_thin_2 (by decide) (fun c1 => ?_) (fun c1 => ?_)
  · exact th_I hx hb hl0 hown hts hE hR hS (hl.1.trans hml.symm) 115 "thin" (by decide) dX2_thin_15 dX2_thin_14 dX2_thin_20 htab hlocks (Nat.le_of_ble_eq_true rfl) (Nat.le_of_ble_eq_true rfl) (Nat.le_of_ble_eq_true rfl) (Nat.le_of_ble_eq_true rfl) (Nat.le_of_ble_eq_true rfl) (Nat.le_of_ble_eq_true rfl) (⟨rfl, inR_lo (by decide) (by decide) (show p0 < nI 1 from c1)⟩) dX2_thin_11 dX2_thin_17
  · refine lv_iload_n hx hb dX2_thin_5 rfl (lv_at hl 1 rfl) ?_
    refine lv_bipush (v := 20) hx hb dX2_thin_6 (by decide) ?_
    refine lv_icmp_le (tgt := 21) hx hb dX2_thin_8 (by decide) (fun c2 => ?_) (fun c2 => ?_)
    · have hok : inR 1 20 p0 := inR_of (by decide) (by decide) (show ¬ p0 < nI 1 from c1) (show p0 ≤ nI 20 from c2)
      refine lv_aload_n hx hb dX2_thin_21 rfl (lv_at hl 0 rfl) ?_
      refine tb_get hx hb hts (fun w h => List.mem_cons_of_mem _ (inX2 w h)) hown hK hR 0 rfl rfl 8 (by decide) (hts _ (List.mem_cons_of_mem _ k109)) (fun _ h => h) rfl dX2_thin_22 ?_
      refine lv_istore_n (lv' := [(2, .int (I 0 8)), (0, .ref (ad 0)), (1, .int p0)]) hx hb dX2_thin_25 rfl hl (by decide) rfl (fun ls hl => ?_)
      refine lv_aload_n hx hb dX2_thin_26 rfl (lv_at hl 1 rfl) ?_
      refine lv_iload_n hx hb dX2_thin_27 rfl (lv_at hl 2 rfl) ?_
      refine tp_put hx hb hts (fun w h => List.mem_cons_of_mem _ (inX2 w h)) tyX2 tyX2_ok nmX2 hown hK hR hS 0 (fun r => [.int (r 0), .int (r 1), .ref (ad 1), .ref (ad 20), .ref (ad 18), .int (r 5), .int (r 6), .int (r 7), .int (r 8)]) (fun _ _ => rfl) rfl 8 (by decide) (hts _ (List.mem_cons_of_mem _ k109)) (fun _ h => h) rfl (ty := .int) rfl rfl rfl (by simp) (fun _ => rfl) dX2_thin_28 (fun H locs hR hS => ?_)
      refine lv_iload_n hx hb dX2_thin_31 rfl (lv_at hl 0 rfl) ?_
      refine W.widen (k := 1) (n := 6) (Nat.le_of_ble_eq_true rfl) (Nat.le_of_ble_eq_true rfl) ?_
      refine vx_ret ?_
      exact W.iret (v := I 0 8) hx hb hr (fun t ht hW => ⟨⟨_, (va_up I 0 (upd (I 0) 8 p0), L), rfl, ⟨hok, rfl, rfl⟩, by show tR _ _ _ _ _ t.heap; rw [ht]; exact hR⟩, hS.F ht⟩) hS.2.2 dX2_thin_32
    · exact th_I hx hb hl0 hown hts hE hR hS (hl.1.trans hml.symm) 115 "thin" (by decide) dX2_thin_15 dX2_thin_14 dX2_thin_20 htab hlocks (Nat.le_of_ble_eq_true rfl) (Nat.le_of_ble_eq_true rfl) (Nat.le_of_ble_eq_true rfl) (Nat.le_of_ble_eq_true rfl) (Nat.le_of_ble_eq_true rfl) (Nat.le_of_ble_eq_true rfl) (⟨rfl, inR_hi (by decide) (show ¬ p0 ≤ nI 20 from c2)⟩) dX2_thin_11 dX2_thin_17
end C11
