section W1
variable {l : Launch} {D : va_G} {cs : Nat → ClassId} {base : Nat} {sa : Nat → Nat} {n : Nat} {ad : Nat → Nat}
set_option maxHeartbeats 4000000 in
set_option maxRecDepth 100000 in
theorem mL_date (I : tI) (L : tL) (p0 p1 : Int32) {post : Int32 → tI × tL → Prop} {TH : String → Prop} (hM : vx_Met l yX2_date wX2_date ({ frames := 8, cells := 3, slots := 18, locals := 140 }) (va_Pc [.ref (ad 0), .int p0, .int p1] (kB D cs base sa n ad I L)) (va_Qi post (kA D cs base n ad) (fun q => base ≤ q)) (kX D cs base n ad I L TH) 3 18 (fun q => base ≤ q)) (hTH : ∀ E, TH E → E = eI ∨ E = eS) : Met l yL_date wL_date ({ frames := 9, cells := 3, slots := 18, locals := 180 }) (va_Pc [.ref (ad 0), .int p0, .int p1, .ref (ad 220)] (kB D cs base sa n ad I L)) (va_Qi (fun (r : Int32) (u : tI × tL) => (r = 0 ∧ ∃ (r9 : Int32) (v : tI × tL), post r9 v ∧ u = (v.1, va_up v.2 220 (vp_updL (v.2 220) 0 r9.toInt64))) ∨ (r = 1 ∧ TH eI ∧ u = (I, L)) ∨ (r = 2 ∧ TH eS ∧ u = (I, L))) (kA D cs base n ad) (fun q => base ≤ q)) 3 18 (fun q => base ≤ q) := by
  refine va_MetW (cc := cL_date) (maxL := 5) (ret := (some .int)) (hh := [(0, 10, 13, 13), (0, 10, 17, 15)]) (by decide) rfl ?_
  intro p e s m args below meth c s₁ Bd hml hv
  obtain ⟨rfl, hE, hR⟩ := hv
  have hx := Bd.exec
  have hb := Bd.bytes
  have hr := Bd.returns
  have hts := atoms_spec (ws := wL_date) Bd.pre
  have hown : s.vm.findClass RL = some m.cls := findClass_of_methodNamed Bd.named
  have hlocks := Bd.notSynchronized
  have hK := hE.K
  have hS : va_S (fun q => base ≤ q) s.heap s.heap [] := va_S.rf
  have hR : tR D vwCl base ad (tC (wP n ad cs) I L) s.heap := hR
  have hl := lv_entry ([.ref (ad 0), .int p0, .int p1, .ref (ad 220)]) (n := 5) (Nat.le_of_ble_eq_true rfl)
  rw [lg_entry_eq]
  generalize (lg_sl ([.ref (ad 0), .int p0, .int p1, .ref (ad 220)]) ++ List.replicate (5 - (lg_sl ([.ref (ad 0), .int p0, .int p1, .ref (ad 220)])).length) Slot.unset).toArray = ls at hl ⊢
  have hl : lv_has ls 5 [(0, .ref (ad 0)), (1, .int p0), (2, .int p1), (3, .ref (ad 220))] := hl
  have htb : c.exceptionTable.toList = tableOf [(0, 10, 13, 13), (0, 10, 17, 15)] := vx_table (x := yL_date) Bd (hts _ List.mem_cons_self)
  refine lv_aload_n hx hb dL_date_0 rfl (lv_at hl 3 rfl) ?_
  refine lv_iconst (v := nI 0) hx hb dL_date_1 (by decide) ?_
  refine lv_aload_n hx hb dL_date_2 rfl (lv_at hl 0 rfl) ?_
  refine lv_iload_n hx hb dL_date_3 rfl (lv_at hl 1 rfl) ?_
  refine lv_iload_n hx hb dL_date_4 rfl (lv_at hl 2 rfl) ?_
  refine vx_calli (vx_runV (As := [.int p0, .int p1]) (rest := [.int (nI 0), .ref (ad 220)]) ⟨hx, hb, hml, hown, hts⟩ hM (cwV 2 hts (kw_V k154 k155 k156 k1 k157) rfl rfl rfl (by decide +kernel) ⟨Nat.le_of_ble_eq_true rfl, Nat.le_of_ble_eq_true rfl⟩) (kB_preV hE hR hS 0 rfl rfl [.int p0, .int p1]) rfl rfl hl.1 rfl (lv_room (Nat.le_of_ble_eq_true rfl)) dL_date_5 ⟨Nat.le_of_ble_eq_true rfl, Nat.le_of_ble_eq_true rfl⟩) hS (fun _ _ h => h) (fun _ h => h) (fun _ _ h => h) (fun E ce q9 u t H locs ht hv hu hB _ _ hS hce hcv hcl => ?_) (fun r u t H locs ht _ hw hB _ _ hS => ?_)
  · subst hu
    have hR : tR D vwCl base ad (tC (wP n ad cs) I L) H := by rw [← ht]; exact hB.2
    rcases hTH E hB.1 with rfl | rfl
    · refine vx_catch (name := "java/lang/IllegalArgumentException") hown [] ⟨0, 10, 13, 13⟩ [⟨0, 10, 17, 15⟩] htb (fun z hz => nomatch hz) (by decide) (by decide) (hts _ (List.mem_cons_of_mem _ k152)) (xW_use hE.2.2.2.2.2.2.2.2.1 _ (by simp [xW, eI])) hce hcv hcl ?_
      refine lv_astore (lv' := [(4, .ref q9), (0, .ref (ad 0)), (1, .int p0), (2, .int p1), (3, .ref (ad 220))]) hx hb dL_date_13 hl (by decide) rfl (fun ls hl => ?_)
      refine lv_iconst (v := 1) hx hb dL_date_15 (by decide) ?_
      refine W.widen (k := 3) (n := 18) (Nat.le_of_ble_eq_true rfl) (Nat.le_of_ble_eq_true rfl) ?_
      exact W.iret (v := 1) hx hb hr (fun t ht hW => ⟨⟨_, (I, L), rfl, Or.inr (Or.inl ⟨rfl, hB.1, rfl⟩), by show tR _ _ _ _ _ t.heap; rw [ht]; exact hR⟩, hS.F ht⟩) hS.2.2 dL_date_16
    · refine vx_catch (name := "java/lang/IllegalStateException") hown [⟨0, 10, 13, 13⟩] ⟨0, 10, 17, 15⟩ [] htb (fun z hz => by simp only [List.mem_cons, List.not_mem_nil, or_false] at hz; subst hz; exact Or.inr ⟨by decide, eI, hts _ (List.mem_cons_of_mem _ k152), hE.2.2.2.2.2.2.2.2.2 (eS, eI) (by decide)⟩) (by decide) (by decide) (hts _ (List.mem_cons_of_mem _ k153)) (xW_use hE.2.2.2.2.2.2.2.2.1 _ (by simp [xW, eS])) hce hcv hcl ?_
      refine lv_astore (lv' := [(4, .ref q9), (0, .ref (ad 0)), (1, .int p0), (2, .int p1), (3, .ref (ad 220))]) hx hb dL_date_17 hl (by decide) rfl (fun ls hl => ?_)
      refine lv_iconst (v := 2) hx hb dL_date_19 (by decide) ?_
      refine W.widen (k := 3) (n := 18) (Nat.le_of_ble_eq_true rfl) (Nat.le_of_ble_eq_true rfl) ?_
      exact W.iret (v := 2) hx hb hr (fun t ht hW => ⟨⟨_, (I, L), rfl, Or.inr (Or.inr (⟨rfl, hB.1, rfl⟩)), by show tR _ _ _ _ _ t.heap; rw [ht]; exact hR⟩, hS.F ht⟩) hS.2.2 dL_date_20
  · have hR : tR D vwCl base ad (tC (wP n ad cs) u.1 u.2) H := by rw [← ht]; exact hB
    refine lv_i2l hx hb dL_date_8 rfl ?_
    refine tp_last hx hb hK hR hS 220 1 (fun _ _ => rfl) rfl 0 rfl (by omega) (by decide) dL_date_9 (fun H locs hR hS => ?_)
    refine lv_goto (tgt := 21) hx hb dL_date_10 (by decide) ?_
    refine lv_iconst (v := 0) hx hb dL_date_21 (by decide) ?_
    refine W.widen (k := 3) (n := 18) (Nat.le_of_ble_eq_true rfl) (Nat.le_of_ble_eq_true rfl) ?_
    exact W.iret (v := 0) hx hb hr (fun t ht hW => ⟨⟨_, (u.1, va_up u.2 220 (vp_updL (u.2 220) 0 r.toInt64)), rfl, Or.inl ⟨rfl, r, u, hw, rfl⟩, by show tR _ _ _ _ _ t.heap; rw [ht]; exact hR⟩, hS.F ht⟩) hS.2.2 dL_date_22
set_option maxHeartbeats 4000000 in
set_option maxRecDepth 100000 in
theorem mL_weight (I : tI) (L : tL) (p0 p1 p2 : Int32) {post : Int32 → tI × tL → Prop} {TH : String → Prop} (hM : vx_Met l yX2_weight wX2_weight ({ frames := 9, cells := 3, slots := 18, locals := 180 }) (va_Pc [.ref (ad 0), .int p0, .int p1, .int p2] (kB D cs base sa n ad I L)) (va_Qi post (kA D cs base n ad) (fun q => base ≤ q)) (kX D cs base n ad I L TH) 3 18 (fun q => base ≤ q)) (hTH : ∀ E, TH E → E = eN ∨ E = eI) : Met l yL_weight wL_weight ({ frames := 10, cells := 3, slots := 18, locals := 220 }) (va_Pc [.ref (ad 0), .int p0, .int p1, .int p2, .ref (ad 220)] (kB D cs base sa n ad I L)) (va_Qi (fun (r : Int32) (u : tI × tL) => (r = 0 ∧ ∃ (r9 : Int32) (v : tI × tL), post r9 v ∧ u = (v.1, va_up v.2 220 (vp_updL (v.2 220) 0 r9.toInt64))) ∨ (r = 1 ∧ TH eN ∧ u = (I, L)) ∨ (r = 2 ∧ TH eI ∧ u = (I, L))) (kA D cs base n ad) (fun q => base ≤ q)) 3 18 (fun q => base ≤ q) := by
  refine va_MetW (cc := cL_weight) (maxL := 6) (ret := (some .int)) (hh := [(0, 12, 15, 21), (0, 12, 19, 13)]) (by decide) rfl ?_
  intro p e s m args below meth c s₁ Bd hml hv
  obtain ⟨rfl, hE, hR⟩ := hv
  have hx := Bd.exec
  have hb := Bd.bytes
  have hr := Bd.returns
  have hts := atoms_spec (ws := wL_weight) Bd.pre
  have hown : s.vm.findClass RL = some m.cls := findClass_of_methodNamed Bd.named
  have hlocks := Bd.notSynchronized
  have hK := hE.K
  have hS : va_S (fun q => base ≤ q) s.heap s.heap [] := va_S.rf
  have hR : tR D vwCl base ad (tC (wP n ad cs) I L) s.heap := hR
  have hl := lv_entry ([.ref (ad 0), .int p0, .int p1, .int p2, .ref (ad 220)]) (n := 6) (Nat.le_of_ble_eq_true rfl)
  rw [lg_entry_eq]
  generalize (lg_sl ([.ref (ad 0), .int p0, .int p1, .int p2, .ref (ad 220)]) ++ List.replicate (6 - (lg_sl ([.ref (ad 0), .int p0, .int p1, .int p2, .ref (ad 220)])).length) Slot.unset).toArray = ls at hl ⊢
  have hl : lv_has ls 6 [(0, .ref (ad 0)), (1, .int p0), (2, .int p1), (3, .int p2), (4, .ref (ad 220))] := hl
  have htb : c.exceptionTable.toList = tableOf [(0, 12, 15, 21), (0, 12, 19, 13)] := vx_table (x := yL_weight) Bd (hts _ List.mem_cons_self)
  refine lv_aload hx hb dL_weight_0 (lv_at hl 4 rfl) ?_
  refine lv_iconst (v := nI 0) hx hb dL_weight_2 (by decide) ?_
  refine lv_aload_n hx hb dL_weight_3 rfl (lv_at hl 0 rfl) ?_
  refine lv_iload_n hx hb dL_weight_4 rfl (lv_at hl 1 rfl) ?_
  refine lv_iload_n hx hb dL_weight_5 rfl (lv_at hl 2 rfl) ?_
  refine lv_iload_n hx hb dL_weight_6 rfl (lv_at hl 3 rfl) ?_
  refine vx_calli (vx_runV (As := [.int p0, .int p1, .int p2]) (rest := [.int (nI 0), .ref (ad 220)]) ⟨hx, hb, hml, hown, hts⟩ hM (cwV 3 hts (kw_V k258 k259 k260 k1 k261) rfl rfl rfl (by decide +kernel) ⟨Nat.le_of_ble_eq_true rfl, Nat.le_of_ble_eq_true rfl⟩) (kB_preV hE hR hS 0 rfl rfl [.int p0, .int p1, .int p2]) rfl rfl hl.1 rfl (lv_room (Nat.le_of_ble_eq_true rfl)) dL_weight_7 ⟨Nat.le_of_ble_eq_true rfl, Nat.le_of_ble_eq_true rfl⟩) hS (fun _ _ h => h) (fun _ h => h) (fun _ _ h => h) (fun E ce q9 u t H locs ht hv hu hB _ _ hS hce hcv hcl => ?_) (fun r u t H locs ht _ hw hB _ _ hS => ?_)
  · subst hu
    have hR : tR D vwCl base ad (tC (wP n ad cs) I L) H := by rw [← ht]; exact hB.2
    rcases hTH E hB.1 with rfl | rfl
    · refine vx_catch (name := "java/util/NoSuchElementException") hown [] ⟨0, 12, 15, 21⟩ [⟨0, 12, 19, 13⟩] htb (fun z hz => nomatch hz) (by decide) (by decide) (hts _ (List.mem_cons_of_mem _ k257)) (xW_use hE.2.2.2.2.2.2.2.2.1 _ (by simp [xW, eN])) hce hcv hcl ?_
      refine lv_astore (lv' := [(5, .ref q9), (0, .ref (ad 0)), (1, .int p0), (2, .int p1), (3, .int p2), (4, .ref (ad 220))]) hx hb dL_weight_15 hl (by decide) rfl (fun ls hl => ?_)
      refine lv_iconst (v := 1) hx hb dL_weight_17 (by decide) ?_
      refine W.widen (k := 3) (n := 18) (Nat.le_of_ble_eq_true rfl) (Nat.le_of_ble_eq_true rfl) ?_
      exact W.iret (v := 1) hx hb hr (fun t ht hW => ⟨⟨_, (I, L), rfl, Or.inr (Or.inl ⟨rfl, hB.1, rfl⟩), by show tR _ _ _ _ _ t.heap; rw [ht]; exact hR⟩, hS.F ht⟩) hS.2.2 dL_weight_18
    · refine vx_catch (name := "java/lang/IllegalArgumentException") hown [⟨0, 12, 15, 21⟩] ⟨0, 12, 19, 13⟩ [] htb (fun z hz => by simp only [List.mem_cons, List.not_mem_nil, or_false] at hz; subst hz; exact Or.inr ⟨by decide, eN, hts _ (List.mem_cons_of_mem _ k257), hE.2.2.2.2.2.2.2.2.2 (eI, eN) (by decide)⟩) (by decide) (by decide) (hts _ (List.mem_cons_of_mem _ k152)) (xW_use hE.2.2.2.2.2.2.2.2.1 _ (by simp [xW, eI])) hce hcv hcl ?_
      refine lv_astore (lv' := [(5, .ref q9), (0, .ref (ad 0)), (1, .int p0), (2, .int p1), (3, .int p2), (4, .ref (ad 220))]) hx hb dL_weight_19 hl (by decide) rfl (fun ls hl => ?_)
      refine lv_iconst (v := 2) hx hb dL_weight_21 (by decide) ?_
      refine W.widen (k := 3) (n := 18) (Nat.le_of_ble_eq_true rfl) (Nat.le_of_ble_eq_true rfl) ?_
      exact W.iret (v := 2) hx hb hr (fun t ht hW => ⟨⟨_, (I, L), rfl, Or.inr (Or.inr (⟨rfl, hB.1, rfl⟩)), by show tR _ _ _ _ _ t.heap; rw [ht]; exact hR⟩, hS.F ht⟩) hS.2.2 dL_weight_22
  · have hR : tR D vwCl base ad (tC (wP n ad cs) u.1 u.2) H := by rw [← ht]; exact hB
    refine lv_i2l hx hb dL_weight_10 rfl ?_
    refine tp_last hx hb hK hR hS 220 1 (fun _ _ => rfl) rfl 0 rfl (by omega) (by decide) dL_weight_11 (fun H locs hR hS => ?_)
    refine lv_goto (tgt := 23) hx hb dL_weight_12 (by decide) ?_
    refine lv_iconst (v := 0) hx hb dL_weight_23 (by decide) ?_
    refine W.widen (k := 3) (n := 18) (Nat.le_of_ble_eq_true rfl) (Nat.le_of_ble_eq_true rfl) ?_
    exact W.iret (v := 0) hx hb hr (fun t ht hW => ⟨⟨_, (u.1, va_up u.2 220 (vp_updL (u.2 220) 0 r.toInt64)), rfl, Or.inl ⟨rfl, r, u, hw, rfl⟩, by show tR _ _ _ _ _ t.heap; rw [ht]; exact hR⟩, hS.F ht⟩) hS.2.2 dL_weight_24
set_option maxHeartbeats 4000000 in
set_option maxRecDepth 100000 in
theorem mL_before (I : tI) (L : tL) (p0 p1 p2 p3 : Int32) {post : Int32 → tI × tL → Prop} {TH : String → Prop} (hM : vx_Met l yX2_before wX2_before ({ frames := 8, cells := 5, slots := 30, locals := 140 }) (va_Pc [.ref (ad 0), .int p0, .int p1, .int p2, .int p3] (kB D cs base sa n ad I L)) (va_Qi post (kA D cs base n ad) (fun q => base ≤ q)) (kX D cs base n ad I L TH) 5 30 (fun q => base ≤ q)) (hTH : ∀ E, TH E → E = eN ∨ E = eI ∨ E = eS) : Met l yL_before wL_before ({ frames := 9, cells := 5, slots := 30, locals := 180 }) (va_Pc [.ref (ad 0), .int p0, .int p1, .int p2, .int p3, .ref (ad 220)] (kB D cs base sa n ad I L)) (va_Qi (fun (r : Int32) (u : tI × tL) => (r = 0 ∧ ∃ (r9 : Int32) (v : tI × tL), post r9 v ∧ u = (v.1, va_up v.2 220 (vp_updL (v.2 220) 0 r9.toInt64))) ∨ (r = 1 ∧ TH eN ∧ u = (I, L)) ∨ (r = 2 ∧ TH eI ∧ u = (I, L)) ∨ (r = 3 ∧ TH eS ∧ u = (I, L))) (kA D cs base n ad) (fun q => base ≤ q)) 5 30 (fun q => base ≤ q) := by
  refine va_MetW (cc := cL_before) (maxL := 7) (ret := (some .int)) (hh := [(0, 14, 17, 21), (0, 14, 21, 13), (0, 14, 25, 15)]) (by decide) rfl ?_
  intro p e s m args below meth c s₁ Bd hml hv
  obtain ⟨rfl, hE, hR⟩ := hv
  have hx := Bd.exec
  have hb := Bd.bytes
  have hr := Bd.returns
  have hts := atoms_spec (ws := wL_before) Bd.pre
  have hown : s.vm.findClass RL = some m.cls := findClass_of_methodNamed Bd.named
  have hlocks := Bd.notSynchronized
  have hK := hE.K
  have hS : va_S (fun q => base ≤ q) s.heap s.heap [] := va_S.rf
  have hR : tR D vwCl base ad (tC (wP n ad cs) I L) s.heap := hR
  have hl := lv_entry ([.ref (ad 0), .int p0, .int p1, .int p2, .int p3, .ref (ad 220)]) (n := 7) (Nat.le_of_ble_eq_true rfl)
  rw [lg_entry_eq]
  generalize (lg_sl ([.ref (ad 0), .int p0, .int p1, .int p2, .int p3, .ref (ad 220)]) ++ List.replicate (7 - (lg_sl ([.ref (ad 0), .int p0, .int p1, .int p2, .int p3, .ref (ad 220)])).length) Slot.unset).toArray = ls at hl ⊢
  have hl : lv_has ls 7 [(0, .ref (ad 0)), (1, .int p0), (2, .int p1), (3, .int p2), (4, .int p3), (5, .ref (ad 220))] := hl
  have htb : c.exceptionTable.toList = tableOf [(0, 14, 17, 21), (0, 14, 21, 13), (0, 14, 25, 15)] := vx_table (x := yL_before) Bd (hts _ List.mem_cons_self)
  refine lv_aload hx hb dL_before_0 (lv_at hl 5 rfl) ?_
  refine lv_iconst (v := nI 0) hx hb dL_before_2 (by decide) ?_
  refine lv_aload_n hx hb dL_before_3 rfl (lv_at hl 0 rfl) ?_
  refine lv_iload_n hx hb dL_before_4 rfl (lv_at hl 1 rfl) ?_
  refine lv_iload_n hx hb dL_before_5 rfl (lv_at hl 2 rfl) ?_
  refine lv_iload_n hx hb dL_before_6 rfl (lv_at hl 3 rfl) ?_
  refine lv_iload hx hb dL_before_7 (lv_at hl 4 rfl) ?_
  refine vx_calli (vx_runV (As := [.int p0, .int p1, .int p2, .int p3]) (rest := [.int (nI 0), .ref (ad 220)]) ⟨hx, hb, hml, hown, hts⟩ hM (cwV 4 hts (kw_V k299 k300 k301 k1 k302) rfl rfl rfl (by decide +kernel) ⟨Nat.le_of_ble_eq_true rfl, Nat.le_of_ble_eq_true rfl⟩) (kB_preV hE hR hS 0 rfl rfl [.int p0, .int p1, .int p2, .int p3]) rfl rfl hl.1 rfl (lv_room (Nat.le_of_ble_eq_true rfl)) dL_before_9 ⟨Nat.le_of_ble_eq_true rfl, Nat.le_of_ble_eq_true rfl⟩) hS (fun _ _ h => h) (fun _ h => h) (fun _ _ h => h) (fun E ce q9 u t H locs ht hv hu hB _ _ hS hce hcv hcl => ?_) (fun r u t H locs ht _ hw hB _ _ hS => ?_)
  · subst hu
    have hR : tR D vwCl base ad (tC (wP n ad cs) I L) H := by rw [← ht]; exact hB.2
    rcases hTH E hB.1 with rfl | rfl | rfl
    · refine vx_catch (name := "java/util/NoSuchElementException") hown [] ⟨0, 14, 17, 21⟩ [⟨0, 14, 21, 13⟩, ⟨0, 14, 25, 15⟩] htb (fun z hz => nomatch hz) (by decide) (by decide) (hts _ (List.mem_cons_of_mem _ k257)) (xW_use hE.2.2.2.2.2.2.2.2.1 _ (by simp [xW, eN])) hce hcv hcl ?_
      refine lv_astore (lv' := [(6, .ref q9), (0, .ref (ad 0)), (1, .int p0), (2, .int p1), (3, .int p2), (4, .int p3), (5, .ref (ad 220))]) hx hb dL_before_17 hl (by decide) rfl (fun ls hl => ?_)
      refine lv_iconst (v := 1) hx hb dL_before_19 (by decide) ?_
      refine W.widen (k := 5) (n := 30) (Nat.le_of_ble_eq_true rfl) (Nat.le_of_ble_eq_true rfl) ?_
      exact W.iret (v := 1) hx hb hr (fun t ht hW => ⟨⟨_, (I, L), rfl, Or.inr (Or.inl ⟨rfl, hB.1, rfl⟩), by show tR _ _ _ _ _ t.heap; rw [ht]; exact hR⟩, hS.F ht⟩) hS.2.2 dL_before_20
    · refine vx_catch (name := "java/lang/IllegalArgumentException") hown [⟨0, 14, 17, 21⟩] ⟨0, 14, 21, 13⟩ [⟨0, 14, 25, 15⟩] htb (fun z hz => by simp only [List.mem_cons, List.not_mem_nil, or_false] at hz; subst hz; exact Or.inr ⟨by decide, eN, hts _ (List.mem_cons_of_mem _ k257), hE.2.2.2.2.2.2.2.2.2 (eI, eN) (by decide)⟩) (by decide) (by decide) (hts _ (List.mem_cons_of_mem _ k152)) (xW_use hE.2.2.2.2.2.2.2.2.1 _ (by simp [xW, eI])) hce hcv hcl ?_
      refine lv_astore (lv' := [(6, .ref q9), (0, .ref (ad 0)), (1, .int p0), (2, .int p1), (3, .int p2), (4, .int p3), (5, .ref (ad 220))]) hx hb dL_before_21 hl (by decide) rfl (fun ls hl => ?_)
      refine lv_iconst (v := 2) hx hb dL_before_23 (by decide) ?_
      refine W.widen (k := 5) (n := 30) (Nat.le_of_ble_eq_true rfl) (Nat.le_of_ble_eq_true rfl) ?_
      exact W.iret (v := 2) hx hb hr (fun t ht hW => ⟨⟨_, (I, L), rfl, Or.inr (Or.inr (Or.inl ⟨rfl, hB.1, rfl⟩)), by show tR _ _ _ _ _ t.heap; rw [ht]; exact hR⟩, hS.F ht⟩) hS.2.2 dL_before_24
    · refine vx_catch (name := "java/lang/IllegalStateException") hown [⟨0, 14, 17, 21⟩, ⟨0, 14, 21, 13⟩] ⟨0, 14, 25, 15⟩ [] htb (fun z hz => by simp only [List.mem_cons, List.not_mem_nil, or_false] at hz; rcases hz with rfl | rfl; exact Or.inr ⟨by decide, eN, hts _ (List.mem_cons_of_mem _ k257), hE.2.2.2.2.2.2.2.2.2 (eS, eN) (by decide)⟩; exact Or.inr ⟨by decide, eI, hts _ (List.mem_cons_of_mem _ k152), hE.2.2.2.2.2.2.2.2.2 (eS, eI) (by decide)⟩) (by decide) (by decide) (hts _ (List.mem_cons_of_mem _ k153)) (xW_use hE.2.2.2.2.2.2.2.2.1 _ (by simp [xW, eS])) hce hcv hcl ?_
      refine lv_astore (lv' := [(6, .ref q9), (0, .ref (ad 0)), (1, .int p0), (2, .int p1), (3, .int p2), (4, .int p3), (5, .ref (ad 220))]) hx hb dL_before_25 hl (by decide) rfl (fun ls hl => ?_)
      refine lv_iconst (v := 3) hx hb dL_before_27 (by decide) ?_
      refine W.widen (k := 5) (n := 30) (Nat.le_of_ble_eq_true rfl) (Nat.le_of_ble_eq_true rfl) ?_
      exact W.iret (v := 3) hx hb hr (fun t ht hW => ⟨⟨_, (I, L), rfl, Or.inr (Or.inr (Or.inr (⟨rfl, hB.1, rfl⟩))), by show tR _ _ _ _ _ t.heap; rw [ht]; exact hR⟩, hS.F ht⟩) hS.2.2 dL_before_28
  · have hR : tR D vwCl base ad (tC (wP n ad cs) u.1 u.2) H := by rw [← ht]; exact hB
    refine lv_i2l hx hb dL_before_12 rfl ?_
    refine tp_last hx hb hK hR hS 220 1 (fun _ _ => rfl) rfl 0 rfl (by omega) (by decide) dL_before_13 (fun H locs hR hS => ?_)
    refine lv_goto (tgt := 29) hx hb dL_before_14 (by decide) ?_
    refine lv_iconst (v := 0) hx hb dL_before_29 (by decide) ?_
    refine W.widen (k := 5) (n := 30) (Nat.le_of_ble_eq_true rfl) (Nat.le_of_ble_eq_true rfl) ?_
    exact W.iret (v := 0) hx hb hr (fun t ht hW => ⟨⟨_, (u.1, va_up u.2 220 (vp_updL (u.2 220) 0 r.toInt64)), rfl, Or.inl ⟨rfl, r, u, hw, rfl⟩, by show tR _ _ _ _ _ t.heap; rw [ht]; exact hR⟩, hS.F ht⟩) hS.2.2 dL_before_30
set_option maxHeartbeats 4000000 in
set_option maxRecDepth 100000 in
theorem mL_member (I : tI) (L : tL) (p0 p1 : Int32) {post : Int32 → tI × tL → Prop} {TH : String → Prop} (hM : vx_Met l yX2_member wX2_member ({ frames := 8, cells := 2, slots := 12, locals := 140 }) (va_Pc [.ref (ad 0), .int p0, .int p1] (kB D cs base sa n ad I L)) (va_Qi post (kA D cs base n ad) (fun q => base ≤ q)) (kX D cs base n ad I L TH) 2 12 (fun q => base ≤ q)) (hTH : ∀ E, TH E → E = eN) : Met l yL_member wL_member ({ frames := 9, cells := 2, slots := 12, locals := 180 }) (va_Pc [.ref (ad 0), .int p0, .int p1, .ref (ad 220)] (kB D cs base sa n ad I L)) (va_Qi (fun (r : Int32) (u : tI × tL) => (r = 0 ∧ ∃ (r9 : Int32) (v : tI × tL), post r9 v ∧ u = (v.1, va_up v.2 220 (vp_updL (v.2 220) 0 r9.toInt64))) ∨ (r = 1 ∧ TH eN ∧ u = (I, L))) (kA D cs base n ad) (fun q => base ≤ q)) 2 12 (fun q => base ≤ q) := by
  refine va_MetW (cc := cL_member) (maxL := 5) (ret := (some .int)) (hh := [(0, 10, 13, 21)]) (by decide) rfl ?_
  intro p e s m args below meth c s₁ Bd hml hv
  obtain ⟨rfl, hE, hR⟩ := hv
  have hx := Bd.exec
  have hb := Bd.bytes
  have hr := Bd.returns
  have hts := atoms_spec (ws := wL_member) Bd.pre
  have hown : s.vm.findClass RL = some m.cls := findClass_of_methodNamed Bd.named
  have hlocks := Bd.notSynchronized
  have hK := hE.K
  have hS : va_S (fun q => base ≤ q) s.heap s.heap [] := va_S.rf
  have hR : tR D vwCl base ad (tC (wP n ad cs) I L) s.heap := hR
  have hl := lv_entry ([.ref (ad 0), .int p0, .int p1, .ref (ad 220)]) (n := 5) (Nat.le_of_ble_eq_true rfl)
  rw [lg_entry_eq]
  generalize (lg_sl ([.ref (ad 0), .int p0, .int p1, .ref (ad 220)]) ++ List.replicate (5 - (lg_sl ([.ref (ad 0), .int p0, .int p1, .ref (ad 220)])).length) Slot.unset).toArray = ls at hl ⊢
  have hl : lv_has ls 5 [(0, .ref (ad 0)), (1, .int p0), (2, .int p1), (3, .ref (ad 220))] := hl
  have htb : c.exceptionTable.toList = tableOf [(0, 10, 13, 21)] := vx_table (x := yL_member) Bd (hts _ List.mem_cons_self)
  refine lv_aload_n hx hb dL_member_0 rfl (lv_at hl 3 rfl) ?_
  refine lv_iconst (v := nI 0) hx hb dL_member_1 (by decide) ?_
  refine lv_aload_n hx hb dL_member_2 rfl (lv_at hl 0 rfl) ?_
  refine lv_iload_n hx hb dL_member_3 rfl (lv_at hl 1 rfl) ?_
  refine lv_iload_n hx hb dL_member_4 rfl (lv_at hl 2 rfl) ?_
  refine vx_calli (vx_runV (As := [.int p0, .int p1]) (rest := [.int (nI 0), .ref (ad 220)]) ⟨hx, hb, hml, hown, hts⟩ hM (cwV 2 hts (kw_V k312 k313 k314 k1 k315) rfl rfl rfl (by decide +kernel) ⟨Nat.le_of_ble_eq_true rfl, Nat.le_of_ble_eq_true rfl⟩) (kB_preV hE hR hS 0 rfl rfl [.int p0, .int p1]) rfl rfl hl.1 rfl (lv_room (Nat.le_of_ble_eq_true rfl)) dL_member_5 ⟨Nat.le_of_ble_eq_true rfl, Nat.le_of_ble_eq_true rfl⟩) hS (fun _ _ h => h) (fun _ h => h) (fun _ _ h => h) (fun E ce q9 u t H locs ht hv hu hB _ _ hS hce hcv hcl => ?_) (fun r u t H locs ht _ hw hB _ _ hS => ?_)
  · subst hu
    have hR : tR D vwCl base ad (tC (wP n ad cs) I L) H := by rw [← ht]; exact hB.2
    obtain rfl := hTH E hB.1
    refine vx_catch (name := "java/util/NoSuchElementException") hown [] ⟨0, 10, 13, 21⟩ [] htb (fun z hz => nomatch hz) (by decide) (by decide) (hts _ (List.mem_cons_of_mem _ k257)) (xW_use hE.2.2.2.2.2.2.2.2.1 _ (by simp [xW, eN])) hce hcv hcl ?_
    refine lv_astore (lv' := [(4, .ref q9), (0, .ref (ad 0)), (1, .int p0), (2, .int p1), (3, .ref (ad 220))]) hx hb dL_member_13 hl (by decide) rfl (fun ls hl => ?_)
    refine lv_iconst (v := 1) hx hb dL_member_15 (by decide) ?_
    refine W.widen (k := 2) (n := 12) (Nat.le_of_ble_eq_true rfl) (Nat.le_of_ble_eq_true rfl) ?_
    exact W.iret (v := 1) hx hb hr (fun t ht hW => ⟨⟨_, (I, L), rfl, Or.inr (⟨rfl, hB.1, rfl⟩), by show tR _ _ _ _ _ t.heap; rw [ht]; exact hR⟩, hS.F ht⟩) hS.2.2 dL_member_16
  · have hR : tR D vwCl base ad (tC (wP n ad cs) u.1 u.2) H := by rw [← ht]; exact hB
    refine lv_i2l hx hb dL_member_8 rfl ?_
    refine tp_last hx hb hK hR hS 220 1 (fun _ _ => rfl) rfl 0 rfl (by omega) (by decide) dL_member_9 (fun H locs hR hS => ?_)
    refine lv_goto (tgt := 17) hx hb dL_member_10 (by decide) ?_
    refine lv_iconst (v := 0) hx hb dL_member_17 (by decide) ?_
    refine W.widen (k := 2) (n := 12) (Nat.le_of_ble_eq_true rfl) (Nat.le_of_ble_eq_true rfl) ?_
    exact W.iret (v := 0) hx hb hr (fun t ht hW => ⟨⟨_, (u.1, va_up u.2 220 (vp_updL (u.2 220) 0 r.toInt64)), rfl, Or.inl ⟨rfl, r, u, hw, rfl⟩, by show tR _ _ _ _ _ t.heap; rw [ht]; exact hR⟩, hS.F ht⟩) hS.2.2 dL_member_18
set_option maxHeartbeats 4000000 in
set_option maxRecDepth 100000 in
theorem mL_burn (I : tI) (L : tL) (p0 : Int32) {post : Int32 → tI × tL → Prop} {TH : String → Prop} (hM : vx_Met l yX2_burn wX2_burn ({ frames := 8, cells := 1, slots := 6, locals := 140 }) (va_Pc [.ref (ad 0), .int p0] (kB D cs base sa n ad I L)) (va_Qi post (kA D cs base n ad) (fun q => base ≤ q)) (kX D cs base n ad I L TH) 1 6 (fun q => base ≤ q)) (hTH : ∀ E, TH E → E = eI) : Met l yL_burn wL_burn ({ frames := 9, cells := 1, slots := 6, locals := 180 }) (va_Pc [.ref (ad 0), .int p0, .ref (ad 220)] (kB D cs base sa n ad I L)) (va_Qi (fun (r : Int32) (u : tI × tL) => (r = 0 ∧ ∃ (r9 : Int32) (v : tI × tL), post r9 v ∧ u = (v.1, va_up v.2 220 (vp_updL (v.2 220) 0 r9.toInt64))) ∨ (r = 1 ∧ TH eI ∧ u = (I, L))) (kA D cs base n ad) (fun q => base ≤ q)) 1 6 (fun q => base ≤ q) := by
  refine va_MetW (cc := cL_burn) (maxL := 4) (ret := (some .int)) (hh := [(0, 9, 12, 13)]) (by decide) rfl ?_
  intro p e s m args below meth c s₁ Bd hml hv
  obtain ⟨rfl, hE, hR⟩ := hv
  have hx := Bd.exec
  have hb := Bd.bytes
  have hr := Bd.returns
  have hts := atoms_spec (ws := wL_burn) Bd.pre
  have hown : s.vm.findClass RL = some m.cls := findClass_of_methodNamed Bd.named
  have hlocks := Bd.notSynchronized
  have hK := hE.K
  have hS : va_S (fun q => base ≤ q) s.heap s.heap [] := va_S.rf
  have hR : tR D vwCl base ad (tC (wP n ad cs) I L) s.heap := hR
  have hl := lv_entry ([.ref (ad 0), .int p0, .ref (ad 220)]) (n := 4) (Nat.le_of_ble_eq_true rfl)
  rw [lg_entry_eq]
  generalize (lg_sl ([.ref (ad 0), .int p0, .ref (ad 220)]) ++ List.replicate (4 - (lg_sl ([.ref (ad 0), .int p0, .ref (ad 220)])).length) Slot.unset).toArray = ls at hl ⊢
  have hl : lv_has ls 4 [(0, .ref (ad 0)), (1, .int p0), (2, .ref (ad 220))] := hl
  have htb : c.exceptionTable.toList = tableOf [(0, 9, 12, 13)] := vx_table (x := yL_burn) Bd (hts _ List.mem_cons_self)
  refine lv_aload_n hx hb dL_burn_0 rfl (lv_at hl 2 rfl) ?_
  refine lv_iconst (v := nI 0) hx hb dL_burn_1 (by decide) ?_
  refine lv_aload_n hx hb dL_burn_2 rfl (lv_at hl 0 rfl) ?_
  refine lv_iload_n hx hb dL_burn_3 rfl (lv_at hl 1 rfl) ?_
  refine vx_calli (vx_runV (As := [.int p0]) (rest := [.int (nI 0), .ref (ad 220)]) ⟨hx, hb, hml, hown, hts⟩ hM (cwV 1 hts (kw_V k323 k324 k325 k1 k326) rfl rfl rfl (by decide +kernel) ⟨Nat.le_of_ble_eq_true rfl, Nat.le_of_ble_eq_true rfl⟩) (kB_preV hE hR hS 0 rfl rfl [.int p0]) rfl rfl hl.1 rfl (lv_room (Nat.le_of_ble_eq_true rfl)) dL_burn_4 ⟨Nat.le_of_ble_eq_true rfl, Nat.le_of_ble_eq_true rfl⟩) hS (fun _ _ h => h) (fun _ h => h) (fun _ _ h => h) (fun E ce q9 u t H locs ht hv hu hB _ _ hS hce hcv hcl => ?_) (fun r u t H locs ht _ hw hB _ _ hS => ?_)
  · subst hu
    have hR : tR D vwCl base ad (tC (wP n ad cs) I L) H := by rw [← ht]; exact hB.2
    obtain rfl := hTH E hB.1
    refine vx_catch (name := "java/lang/IllegalArgumentException") hown [] ⟨0, 9, 12, 13⟩ [] htb (fun z hz => nomatch hz) (by decide) (by decide) (hts _ (List.mem_cons_of_mem _ k152)) (xW_use hE.2.2.2.2.2.2.2.2.1 _ (by simp [xW, eI])) hce hcv hcl ?_
    refine lv_astore_n (lv' := [(3, .ref q9), (0, .ref (ad 0)), (1, .int p0), (2, .ref (ad 220))]) hx hb dL_burn_12 rfl hl (by decide) rfl (fun ls hl => ?_)
    refine lv_iconst (v := 1) hx hb dL_burn_13 (by decide) ?_
    refine W.widen (k := 1) (n := 6) (Nat.le_of_ble_eq_true rfl) (Nat.le_of_ble_eq_true rfl) ?_
    exact W.iret (v := 1) hx hb hr (fun t ht hW => ⟨⟨_, (I, L), rfl, Or.inr (⟨rfl, hB.1, rfl⟩), by show tR _ _ _ _ _ t.heap; rw [ht]; exact hR⟩, hS.F ht⟩) hS.2.2 dL_burn_14
  · have hR : tR D vwCl base ad (tC (wP n ad cs) u.1 u.2) H := by rw [← ht]; exact hB
    refine lv_i2l hx hb dL_burn_7 rfl ?_
    refine tp_last hx hb hK hR hS 220 1 (fun _ _ => rfl) rfl 0 rfl (by omega) (by decide) dL_burn_8 (fun H locs hR hS => ?_)
    refine lv_goto (tgt := 15) hx hb dL_burn_9 (by decide) ?_
    refine lv_iconst (v := 0) hx hb dL_burn_15 (by decide) ?_
    refine W.widen (k := 1) (n := 6) (Nat.le_of_ble_eq_true rfl) (Nat.le_of_ble_eq_true rfl) ?_
    exact W.iret (v := 0) hx hb hr (fun t ht hW => ⟨⟨_, (u.1, va_up u.2 220 (vp_updL (u.2 220) 0 r.toInt64)), rfl, Or.inl ⟨rfl, r, u, hw, rfl⟩, by show tR _ _ _ _ _ t.heap; rw [ht]; exact hR⟩, hS.F ht⟩) hS.2.2 dL_burn_16
set_option maxHeartbeats 4000000 in
set_option maxRecDepth 100000 in
theorem mL_thin (I : tI) (L : tL) (p0 : Int32) {post : Int32 → tI × tL → Prop} {TH : String → Prop} (hM : vx_Met l yX2_thin wX2_thin ({ frames := 8, cells := 1, slots := 6, locals := 140 }) (va_Pc [.ref (ad 0), .int p0] (kB D cs base sa n ad I L)) (va_Qi post (kA D cs base n ad) (fun q => base ≤ q)) (kX D cs base n ad I L TH) 1 6 (fun q => base ≤ q)) (hTH : ∀ E, TH E → E = eI) : Met l yL_thin wL_thin ({ frames := 9, cells := 1, slots := 6, locals := 180 }) (va_Pc [.ref (ad 0), .int p0, .ref (ad 220)] (kB D cs base sa n ad I L)) (va_Qi (fun (r : Int32) (u : tI × tL) => (r = 0 ∧ ∃ (r9 : Int32) (v : tI × tL), post r9 v ∧ u = (v.1, va_up v.2 220 (vp_updL (v.2 220) 0 r9.toInt64))) ∨ (r = 1 ∧ TH eI ∧ u = (I, L))) (kA D cs base n ad) (fun q => base ≤ q)) 1 6 (fun q => base ≤ q) := by
  refine va_MetW (cc := cL_thin) (maxL := 4) (ret := (some .int)) (hh := [(0, 9, 12, 13)]) (by decide) rfl ?_
  intro p e s m args below meth c s₁ Bd hml hv
  obtain ⟨rfl, hE, hR⟩ := hv
  have hx := Bd.exec
  have hb := Bd.bytes
  have hr := Bd.returns
  have hts := atoms_spec (ws := wL_thin) Bd.pre
  have hown : s.vm.findClass RL = some m.cls := findClass_of_methodNamed Bd.named
  have hlocks := Bd.notSynchronized
  have hK := hE.K
  have hS : va_S (fun q => base ≤ q) s.heap s.heap [] := va_S.rf
  have hR : tR D vwCl base ad (tC (wP n ad cs) I L) s.heap := hR
  have hl := lv_entry ([.ref (ad 0), .int p0, .ref (ad 220)]) (n := 4) (Nat.le_of_ble_eq_true rfl)
  rw [lg_entry_eq]
  generalize (lg_sl ([.ref (ad 0), .int p0, .ref (ad 220)]) ++ List.replicate (4 - (lg_sl ([.ref (ad 0), .int p0, .ref (ad 220)])).length) Slot.unset).toArray = ls at hl ⊢
  have hl : lv_has ls 4 [(0, .ref (ad 0)), (1, .int p0), (2, .ref (ad 220))] := hl
  have htb : c.exceptionTable.toList = tableOf [(0, 9, 12, 13)] := vx_table (x := yL_thin) Bd (hts _ List.mem_cons_self)
  refine lv_aload_n hx hb dL_thin_0 rfl (lv_at hl 2 rfl) ?_
  refine lv_iconst (v := nI 0) hx hb dL_thin_1 (by decide) ?_
  refine lv_aload_n hx hb dL_thin_2 rfl (lv_at hl 0 rfl) ?_
  refine lv_iload_n hx hb dL_thin_3 rfl (lv_at hl 1 rfl) ?_
  refine vx_calli (vx_runV (As := [.int p0]) (rest := [.int (nI 0), .ref (ad 220)]) ⟨hx, hb, hml, hown, hts⟩ hM (cwV 1 hts (kw_V k331 k332 k333 k1 k334) rfl rfl rfl (by decide +kernel) ⟨Nat.le_of_ble_eq_true rfl, Nat.le_of_ble_eq_true rfl⟩) (kB_preV hE hR hS 0 rfl rfl [.int p0]) rfl rfl hl.1 rfl (lv_room (Nat.le_of_ble_eq_true rfl)) dL_thin_4 ⟨Nat.le_of_ble_eq_true rfl, Nat.le_of_ble_eq_true rfl⟩) hS (fun _ _ h => h) (fun _ h => h) (fun _ _ h => h) (fun E ce q9 u t H locs ht hv hu hB _ _ hS hce hcv hcl => ?_) (fun r u t H locs ht _ hw hB _ _ hS => ?_)
  · subst hu
    have hR : tR D vwCl base ad (tC (wP n ad cs) I L) H := by rw [← ht]; exact hB.2
    obtain rfl := hTH E hB.1
    refine vx_catch (name := "java/lang/IllegalArgumentException") hown [] ⟨0, 9, 12, 13⟩ [] htb (fun z hz => nomatch hz) (by decide) (by decide) (hts _ (List.mem_cons_of_mem _ k152)) (xW_use hE.2.2.2.2.2.2.2.2.1 _ (by simp [xW, eI])) hce hcv hcl ?_
    refine lv_astore_n (lv' := [(3, .ref q9), (0, .ref (ad 0)), (1, .int p0), (2, .ref (ad 220))]) hx hb dL_thin_12 rfl hl (by decide) rfl (fun ls hl => ?_)
    refine lv_iconst (v := 1) hx hb dL_thin_13 (by decide) ?_
    refine W.widen (k := 1) (n := 6) (Nat.le_of_ble_eq_true rfl) (Nat.le_of_ble_eq_true rfl) ?_
    exact W.iret (v := 1) hx hb hr (fun t ht hW => ⟨⟨_, (I, L), rfl, Or.inr (⟨rfl, hB.1, rfl⟩), by show tR _ _ _ _ _ t.heap; rw [ht]; exact hR⟩, hS.F ht⟩) hS.2.2 dL_thin_14
  · have hR : tR D vwCl base ad (tC (wP n ad cs) u.1 u.2) H := by rw [← ht]; exact hB
    refine lv_i2l hx hb dL_thin_7 rfl ?_
    refine tp_last hx hb hK hR hS 220 1 (fun _ _ => rfl) rfl 0 rfl (by omega) (by decide) dL_thin_8 (fun H locs hR hS => ?_)
    refine lv_goto (tgt := 15) hx hb dL_thin_9 (by decide) ?_
    refine lv_iconst (v := 0) hx hb dL_thin_15 (by decide) ?_
    refine W.widen (k := 1) (n := 6) (Nat.le_of_ble_eq_true rfl) (Nat.le_of_ble_eq_true rfl) ?_
    exact W.iret (v := 0) hx hb hr (fun t ht hW => ⟨⟨_, (u.1, va_up u.2 220 (vp_updL (u.2 220) 0 r.toInt64)), rfl, Or.inl ⟨rfl, r, u, hw, rfl⟩, by show tR _ _ _ _ _ t.heap; rw [ht]; exact hR⟩, hS.F ht⟩) hS.2.2 dL_thin_16
set_option maxHeartbeats 4000000 in
set_option maxRecDepth 100000 in
theorem mL_run (I : tI) (L : tL) (p0 : Int32) {post : Int32 → tI × tL → Prop} {TH : String → Prop} (hM : vx_Met l yX2_run wX2_run ({ frames := 8, cells := 2, slots := 12, locals := 200 }) (va_Pc [.ref (ad 0), .int p0] (kB D cs base sa n ad I L)) (va_Qi post (kA D cs base n ad) (fun q => base ≤ q)) (kX D cs base n ad I L TH) 2 12 (fun q => base ≤ q)) (hTH : ∀ E, TH E → E = eI ∨ E = eS) : Met l yL_run wL_run ({ frames := 9, cells := 2, slots := 12, locals := 240 }) (va_Pc [.ref (ad 0), .int p0, .ref (ad 220)] (kB D cs base sa n ad I L)) (va_Qi (fun (r : Int32) (u : tI × tL) => (r = 0 ∧ ∃ (r9 : Int32) (v : tI × tL), post r9 v ∧ u = (v.1, va_up v.2 220 (vp_updL (v.2 220) 0 r9.toInt64))) ∨ (r = 1 ∧ TH eI ∧ u = (I, L)) ∨ (r = 2 ∧ TH eS ∧ u = (I, L))) (kA D cs base n ad) (fun q => base ≤ q)) 2 12 (fun q => base ≤ q) := by
  refine va_MetW (cc := cL_run) (maxL := 4) (ret := (some .int)) (hh := [(0, 9, 12, 13), (0, 9, 15, 15)]) (by decide) rfl ?_
  intro p e s m args below meth c s₁ Bd hml hv
  obtain ⟨rfl, hE, hR⟩ := hv
  have hx := Bd.exec
  have hb := Bd.bytes
  have hr := Bd.returns
  have hts := atoms_spec (ws := wL_run) Bd.pre
  have hown : s.vm.findClass RL = some m.cls := findClass_of_methodNamed Bd.named
  have hlocks := Bd.notSynchronized
  have hK := hE.K
  have hS : va_S (fun q => base ≤ q) s.heap s.heap [] := va_S.rf
  have hR : tR D vwCl base ad (tC (wP n ad cs) I L) s.heap := hR
  have hl := lv_entry ([.ref (ad 0), .int p0, .ref (ad 220)]) (n := 4) (Nat.le_of_ble_eq_true rfl)
  rw [lg_entry_eq]
  generalize (lg_sl ([.ref (ad 0), .int p0, .ref (ad 220)]) ++ List.replicate (4 - (lg_sl ([.ref (ad 0), .int p0, .ref (ad 220)])).length) Slot.unset).toArray = ls at hl ⊢
  have hl : lv_has ls 4 [(0, .ref (ad 0)), (1, .int p0), (2, .ref (ad 220))] := hl
  have htb : c.exceptionTable.toList = tableOf [(0, 9, 12, 13), (0, 9, 15, 15)] := vx_table (x := yL_run) Bd (hts _ List.mem_cons_self)
  refine lv_aload_n hx hb dL_run_0 rfl (lv_at hl 2 rfl) ?_
  refine lv_iconst (v := nI 0) hx hb dL_run_1 (by decide) ?_
  refine lv_aload_n hx hb dL_run_2 rfl (lv_at hl 0 rfl) ?_
  refine lv_iload_n hx hb dL_run_3 rfl (lv_at hl 1 rfl) ?_
  refine vx_calli (vx_runV (As := [.int p0]) (rest := [.int (nI 0), .ref (ad 220)]) ⟨hx, hb, hml, hown, hts⟩ hM (cwV 1 hts (kw_V k339 k340 k341 k1 k342) rfl rfl rfl (by decide +kernel) ⟨Nat.le_of_ble_eq_true rfl, Nat.le_of_ble_eq_true rfl⟩) (kB_preV hE hR hS 0 rfl rfl [.int p0]) rfl rfl hl.1 rfl (lv_room (Nat.le_of_ble_eq_true rfl)) dL_run_4 ⟨Nat.le_of_ble_eq_true rfl, Nat.le_of_ble_eq_true rfl⟩) hS (fun _ _ h => h) (fun _ h => h) (fun _ _ h => h) (fun E ce q9 u t H locs ht hv hu hB _ _ hS hce hcv hcl => ?_) (fun r u t H locs ht _ hw hB _ _ hS => ?_)
  · subst hu
    have hR : tR D vwCl base ad (tC (wP n ad cs) I L) H := by rw [← ht]; exact hB.2
    rcases hTH E hB.1 with rfl | rfl
    · refine vx_catch (name := "java/lang/IllegalArgumentException") hown [] ⟨0, 9, 12, 13⟩ [⟨0, 9, 15, 15⟩] htb (fun z hz => nomatch hz) (by decide) (by decide) (hts _ (List.mem_cons_of_mem _ k152)) (xW_use hE.2.2.2.2.2.2.2.2.1 _ (by simp [xW, eI])) hce hcv hcl ?_
      refine lv_astore_n (lv' := [(3, .ref q9), (0, .ref (ad 0)), (1, .int p0), (2, .ref (ad 220))]) hx hb dL_run_12 rfl hl (by decide) rfl (fun ls hl => ?_)
      refine lv_iconst (v := 1) hx hb dL_run_13 (by decide) ?_
      refine W.widen (k := 2) (n := 12) (Nat.le_of_ble_eq_true rfl) (Nat.le_of_ble_eq_true rfl) ?_
      exact W.iret (v := 1) hx hb hr (fun t ht hW => ⟨⟨_, (I, L), rfl, Or.inr (Or.inl ⟨rfl, hB.1, rfl⟩), by show tR _ _ _ _ _ t.heap; rw [ht]; exact hR⟩, hS.F ht⟩) hS.2.2 dL_run_14
    · refine vx_catch (name := "java/lang/IllegalStateException") hown [⟨0, 9, 12, 13⟩] ⟨0, 9, 15, 15⟩ [] htb (fun z hz => by simp only [List.mem_cons, List.not_mem_nil, or_false] at hz; subst hz; exact Or.inr ⟨by decide, eI, hts _ (List.mem_cons_of_mem _ k152), hE.2.2.2.2.2.2.2.2.2 (eS, eI) (by decide)⟩) (by decide) (by decide) (hts _ (List.mem_cons_of_mem _ k153)) (xW_use hE.2.2.2.2.2.2.2.2.1 _ (by simp [xW, eS])) hce hcv hcl ?_
      refine lv_astore_n (lv' := [(3, .ref q9), (0, .ref (ad 0)), (1, .int p0), (2, .ref (ad 220))]) hx hb dL_run_15 rfl hl (by decide) rfl (fun ls hl => ?_)
      refine lv_iconst (v := 2) hx hb dL_run_16 (by decide) ?_
      refine W.widen (k := 2) (n := 12) (Nat.le_of_ble_eq_true rfl) (Nat.le_of_ble_eq_true rfl) ?_
      exact W.iret (v := 2) hx hb hr (fun t ht hW => ⟨⟨_, (I, L), rfl, Or.inr (Or.inr (⟨rfl, hB.1, rfl⟩)), by show tR _ _ _ _ _ t.heap; rw [ht]; exact hR⟩, hS.F ht⟩) hS.2.2 dL_run_17
  · have hR : tR D vwCl base ad (tC (wP n ad cs) u.1 u.2) H := by rw [← ht]; exact hB
    refine lv_i2l hx hb dL_run_7 rfl ?_
    refine tp_last hx hb hK hR hS 220 1 (fun _ _ => rfl) rfl 0 rfl (by omega) (by decide) dL_run_8 (fun H locs hR hS => ?_)
    refine lv_goto (tgt := 18) hx hb dL_run_9 (by decide) ?_
    refine lv_iconst (v := 0) hx hb dL_run_18 (by decide) ?_
    refine W.widen (k := 2) (n := 12) (Nat.le_of_ble_eq_true rfl) (Nat.le_of_ble_eq_true rfl) ?_
    exact W.iret (v := 0) hx hb hr (fun t ht hW => ⟨⟨_, (u.1, va_up u.2 220 (vp_updL (u.2 220) 0 r.toInt64)), rfl, Or.inl ⟨rfl, r, u, hw, rfl⟩, by show tR _ _ _ _ _ t.heap; rw [ht]; exact hR⟩, hS.F ht⟩) hS.2.2 dL_run_19
set_option maxHeartbeats 4000000 in
set_option maxRecDepth 100000 in
theorem mL_at (I : tI) (L : tL) (p0 p1 p2 : Int32) {post : Int32 → tI × tL → Prop} {TH : String → Prop} (hM : vx_Met l yX2_at wX2_at ({ frames := 8, cells := 3, slots := 18, locals := 140 }) (va_Pc [.ref (ad 0), .int p0, .int p1, .int p2] (kB D cs base sa n ad I L)) (va_Qi post (kA D cs base n ad) (fun q => base ≤ q)) (kX D cs base n ad I L TH) 3 18 (fun q => base ≤ q)) (hTH : ∀ E, TH E → E = eN ∨ E = eS) : Met l yL_at wL_at ({ frames := 9, cells := 3, slots := 18, locals := 180 }) (va_Pc [.ref (ad 0), .int p0, .int p1, .int p2, .ref (ad 220)] (kB D cs base sa n ad I L)) (va_Qi (fun (r : Int32) (u : tI × tL) => (r = 0 ∧ ∃ (r9 : Int32) (v : tI × tL), post r9 v ∧ u = (v.1, va_up v.2 220 (vp_updL (v.2 220) 0 r9.toInt64))) ∨ (r = 1 ∧ TH eN ∧ u = (I, L)) ∨ (r = 2 ∧ TH eS ∧ u = (I, L))) (kA D cs base n ad) (fun q => base ≤ q)) 3 18 (fun q => base ≤ q) := by
  refine va_MetW (cc := cL_at) (maxL := 6) (ret := (some .int)) (hh := [(0, 12, 15, 21), (0, 12, 19, 15)]) (by decide) rfl ?_
  intro p e s m args below meth c s₁ Bd hml hv
  obtain ⟨rfl, hE, hR⟩ := hv
  have hx := Bd.exec
  have hb := Bd.bytes
  have hr := Bd.returns
  have hts := atoms_spec (ws := wL_at) Bd.pre
  have hown : s.vm.findClass RL = some m.cls := findClass_of_methodNamed Bd.named
  have hlocks := Bd.notSynchronized
  have hK := hE.K
  have hS : va_S (fun q => base ≤ q) s.heap s.heap [] := va_S.rf
  have hR : tR D vwCl base ad (tC (wP n ad cs) I L) s.heap := hR
  have hl := lv_entry ([.ref (ad 0), .int p0, .int p1, .int p2, .ref (ad 220)]) (n := 6) (Nat.le_of_ble_eq_true rfl)
  rw [lg_entry_eq]
  generalize (lg_sl ([.ref (ad 0), .int p0, .int p1, .int p2, .ref (ad 220)]) ++ List.replicate (6 - (lg_sl ([.ref (ad 0), .int p0, .int p1, .int p2, .ref (ad 220)])).length) Slot.unset).toArray = ls at hl ⊢
  have hl : lv_has ls 6 [(0, .ref (ad 0)), (1, .int p0), (2, .int p1), (3, .int p2), (4, .ref (ad 220))] := hl
  have htb : c.exceptionTable.toList = tableOf [(0, 12, 15, 21), (0, 12, 19, 15)] := vx_table (x := yL_at) Bd (hts _ List.mem_cons_self)
  refine lv_aload hx hb dL_at_0 (lv_at hl 4 rfl) ?_
  refine lv_iconst (v := nI 0) hx hb dL_at_2 (by decide) ?_
  refine lv_aload_n hx hb dL_at_3 rfl (lv_at hl 0 rfl) ?_
  refine lv_iload_n hx hb dL_at_4 rfl (lv_at hl 1 rfl) ?_
  refine lv_iload_n hx hb dL_at_5 rfl (lv_at hl 2 rfl) ?_
  refine lv_iload_n hx hb dL_at_6 rfl (lv_at hl 3 rfl) ?_
  refine vx_calli (vx_runV (As := [.int p0, .int p1, .int p2]) (rest := [.int (nI 0), .ref (ad 220)]) ⟨hx, hb, hml, hown, hts⟩ hM (cwV 3 hts (kw_V k392 k393 k394 k1 k395) rfl rfl rfl (by decide +kernel) ⟨Nat.le_of_ble_eq_true rfl, Nat.le_of_ble_eq_true rfl⟩) (kB_preV hE hR hS 0 rfl rfl [.int p0, .int p1, .int p2]) rfl rfl hl.1 rfl (lv_room (Nat.le_of_ble_eq_true rfl)) dL_at_7 ⟨Nat.le_of_ble_eq_true rfl, Nat.le_of_ble_eq_true rfl⟩) hS (fun _ _ h => h) (fun _ h => h) (fun _ _ h => h) (fun E ce q9 u t H locs ht hv hu hB _ _ hS hce hcv hcl => ?_) (fun r u t H locs ht _ hw hB _ _ hS => ?_)
  · subst hu
    have hR : tR D vwCl base ad (tC (wP n ad cs) I L) H := by rw [← ht]; exact hB.2
    rcases hTH E hB.1 with rfl | rfl
    · refine vx_catch (name := "java/util/NoSuchElementException") hown [] ⟨0, 12, 15, 21⟩ [⟨0, 12, 19, 15⟩] htb (fun z hz => nomatch hz) (by decide) (by decide) (hts _ (List.mem_cons_of_mem _ k257)) (xW_use hE.2.2.2.2.2.2.2.2.1 _ (by simp [xW, eN])) hce hcv hcl ?_
      refine lv_astore (lv' := [(5, .ref q9), (0, .ref (ad 0)), (1, .int p0), (2, .int p1), (3, .int p2), (4, .ref (ad 220))]) hx hb dL_at_15 hl (by decide) rfl (fun ls hl => ?_)
      refine lv_iconst (v := 1) hx hb dL_at_17 (by decide) ?_
      refine W.widen (k := 3) (n := 18) (Nat.le_of_ble_eq_true rfl) (Nat.le_of_ble_eq_true rfl) ?_
      exact W.iret (v := 1) hx hb hr (fun t ht hW => ⟨⟨_, (I, L), rfl, Or.inr (Or.inl ⟨rfl, hB.1, rfl⟩), by show tR _ _ _ _ _ t.heap; rw [ht]; exact hR⟩, hS.F ht⟩) hS.2.2 dL_at_18
    · refine vx_catch (name := "java/lang/IllegalStateException") hown [⟨0, 12, 15, 21⟩] ⟨0, 12, 19, 15⟩ [] htb (fun z hz => by simp only [List.mem_cons, List.not_mem_nil, or_false] at hz; subst hz; exact Or.inr ⟨by decide, eN, hts _ (List.mem_cons_of_mem _ k257), hE.2.2.2.2.2.2.2.2.2 (eS, eN) (by decide)⟩) (by decide) (by decide) (hts _ (List.mem_cons_of_mem _ k153)) (xW_use hE.2.2.2.2.2.2.2.2.1 _ (by simp [xW, eS])) hce hcv hcl ?_
      refine lv_astore (lv' := [(5, .ref q9), (0, .ref (ad 0)), (1, .int p0), (2, .int p1), (3, .int p2), (4, .ref (ad 220))]) hx hb dL_at_19 hl (by decide) rfl (fun ls hl => ?_)
      refine lv_iconst (v := 2) hx hb dL_at_21 (by decide) ?_
      refine W.widen (k := 3) (n := 18) (Nat.le_of_ble_eq_true rfl) (Nat.le_of_ble_eq_true rfl) ?_
      exact W.iret (v := 2) hx hb hr (fun t ht hW => ⟨⟨_, (I, L), rfl, Or.inr (Or.inr (⟨rfl, hB.1, rfl⟩)), by show tR _ _ _ _ _ t.heap; rw [ht]; exact hR⟩, hS.F ht⟩) hS.2.2 dL_at_22
  · have hR : tR D vwCl base ad (tC (wP n ad cs) u.1 u.2) H := by rw [← ht]; exact hB
    refine lv_i2l hx hb dL_at_10 rfl ?_
    refine tp_last hx hb hK hR hS 220 1 (fun _ _ => rfl) rfl 0 rfl (by omega) (by decide) dL_at_11 (fun H locs hR hS => ?_)
    refine lv_goto (tgt := 23) hx hb dL_at_12 (by decide) ?_
    refine lv_iconst (v := 0) hx hb dL_at_23 (by decide) ?_
    refine W.widen (k := 3) (n := 18) (Nat.le_of_ble_eq_true rfl) (Nat.le_of_ble_eq_true rfl) ?_
    exact W.iret (v := 0) hx hb hr (fun t ht hW => ⟨⟨_, (u.1, va_up u.2 220 (vp_updL (u.2 220) 0 r.toInt64)), rfl, Or.inl ⟨rfl, r, u, hw, rfl⟩, by show tR _ _ _ _ _ t.heap; rw [ht]; exact hR⟩, hS.F ht⟩) hS.2.2 dL_at_24
set_option maxHeartbeats 4000000 in
set_option maxRecDepth 100000 in
theorem mL_counted (I : tI) (L : tL) (p0 p1 : Int32) {post : Int32 → tI × tL → Prop} {TH : String → Prop} (hM : vx_Met l yX2_counted wX2_counted ({ frames := 9, cells := 3, slots := 18, locals := 180 }) (va_Pc [.ref (ad 0), .int p0, .int p1] (kB D cs base sa n ad I L)) (va_Qi post (kA D cs base n ad) (fun q => base ≤ q)) (kX D cs base n ad I L TH) 3 18 (fun q => base ≤ q)) (hTH : ∀ E, TH E → E = eN ∨ E = eS) : Met l yL_counted wL_counted ({ frames := 10, cells := 3, slots := 18, locals := 220 }) (va_Pc [.ref (ad 0), .int p0, .int p1, .ref (ad 220)] (kB D cs base sa n ad I L)) (va_Qi (fun (r : Int32) (u : tI × tL) => (r = 0 ∧ ∃ (r9 : Int32) (v : tI × tL), post r9 v ∧ u = (v.1, va_up v.2 220 (vp_updL (v.2 220) 0 r9.toInt64))) ∨ (r = 1 ∧ TH eN ∧ u = (I, L)) ∨ (r = 2 ∧ TH eS ∧ u = (I, L))) (kA D cs base n ad) (fun q => base ≤ q)) 3 18 (fun q => base ≤ q) := by
  refine va_MetW (cc := cL_counted) (maxL := 5) (ret := (some .int)) (hh := [(0, 10, 13, 21), (0, 10, 17, 15)]) (by decide) rfl ?_
  intro p e s m args below meth c s₁ Bd hml hv
  obtain ⟨rfl, hE, hR⟩ := hv
  have hx := Bd.exec
  have hb := Bd.bytes
  have hr := Bd.returns
  have hts := atoms_spec (ws := wL_counted) Bd.pre
  have hown : s.vm.findClass RL = some m.cls := findClass_of_methodNamed Bd.named
  have hlocks := Bd.notSynchronized
  have hK := hE.K
  have hS : va_S (fun q => base ≤ q) s.heap s.heap [] := va_S.rf
  have hR : tR D vwCl base ad (tC (wP n ad cs) I L) s.heap := hR
  have hl := lv_entry ([.ref (ad 0), .int p0, .int p1, .ref (ad 220)]) (n := 5) (Nat.le_of_ble_eq_true rfl)
  rw [lg_entry_eq]
  generalize (lg_sl ([.ref (ad 0), .int p0, .int p1, .ref (ad 220)]) ++ List.replicate (5 - (lg_sl ([.ref (ad 0), .int p0, .int p1, .ref (ad 220)])).length) Slot.unset).toArray = ls at hl ⊢
  have hl : lv_has ls 5 [(0, .ref (ad 0)), (1, .int p0), (2, .int p1), (3, .ref (ad 220))] := hl
  have htb : c.exceptionTable.toList = tableOf [(0, 10, 13, 21), (0, 10, 17, 15)] := vx_table (x := yL_counted) Bd (hts _ List.mem_cons_self)
  refine lv_aload_n hx hb dL_counted_0 rfl (lv_at hl 3 rfl) ?_
  refine lv_iconst (v := nI 0) hx hb dL_counted_1 (by decide) ?_
  refine lv_aload_n hx hb dL_counted_2 rfl (lv_at hl 0 rfl) ?_
  refine lv_iload_n hx hb dL_counted_3 rfl (lv_at hl 1 rfl) ?_
  refine lv_iload_n hx hb dL_counted_4 rfl (lv_at hl 2 rfl) ?_
  refine vx_calli (vx_runV (As := [.int p0, .int p1]) (rest := [.int (nI 0), .ref (ad 220)]) ⟨hx, hb, hml, hown, hts⟩ hM (cwV 2 hts (kw_V k405 k406 k407 k1 k408) rfl rfl rfl (by decide +kernel) ⟨Nat.le_of_ble_eq_true rfl, Nat.le_of_ble_eq_true rfl⟩) (kB_preV hE hR hS 0 rfl rfl [.int p0, .int p1]) rfl rfl hl.1 rfl (lv_room (Nat.le_of_ble_eq_true rfl)) dL_counted_5 ⟨Nat.le_of_ble_eq_true rfl, Nat.le_of_ble_eq_true rfl⟩) hS (fun _ _ h => h) (fun _ h => h) (fun _ _ h => h) (fun E ce q9 u t H locs ht hv hu hB _ _ hS hce hcv hcl => ?_) (fun r u t H locs ht _ hw hB _ _ hS => ?_)
  · subst hu
    have hR : tR D vwCl base ad (tC (wP n ad cs) I L) H := by rw [← ht]; exact hB.2
    rcases hTH E hB.1 with rfl | rfl
    · refine vx_catch (name := "java/util/NoSuchElementException") hown [] ⟨0, 10, 13, 21⟩ [⟨0, 10, 17, 15⟩] htb (fun z hz => nomatch hz) (by decide) (by decide) (hts _ (List.mem_cons_of_mem _ k257)) (xW_use hE.2.2.2.2.2.2.2.2.1 _ (by simp [xW, eN])) hce hcv hcl ?_
      refine lv_astore (lv' := [(4, .ref q9), (0, .ref (ad 0)), (1, .int p0), (2, .int p1), (3, .ref (ad 220))]) hx hb dL_counted_13 hl (by decide) rfl (fun ls hl => ?_)
      refine lv_iconst (v := 1) hx hb dL_counted_15 (by decide) ?_
      refine W.widen (k := 3) (n := 18) (Nat.le_of_ble_eq_true rfl) (Nat.le_of_ble_eq_true rfl) ?_
      exact W.iret (v := 1) hx hb hr (fun t ht hW => ⟨⟨_, (I, L), rfl, Or.inr (Or.inl ⟨rfl, hB.1, rfl⟩), by show tR _ _ _ _ _ t.heap; rw [ht]; exact hR⟩, hS.F ht⟩) hS.2.2 dL_counted_16
    · refine vx_catch (name := "java/lang/IllegalStateException") hown [⟨0, 10, 13, 21⟩] ⟨0, 10, 17, 15⟩ [] htb (fun z hz => by simp only [List.mem_cons, List.not_mem_nil, or_false] at hz; subst hz; exact Or.inr ⟨by decide, eN, hts _ (List.mem_cons_of_mem _ k257), hE.2.2.2.2.2.2.2.2.2 (eS, eN) (by decide)⟩) (by decide) (by decide) (hts _ (List.mem_cons_of_mem _ k153)) (xW_use hE.2.2.2.2.2.2.2.2.1 _ (by simp [xW, eS])) hce hcv hcl ?_
      refine lv_astore (lv' := [(4, .ref q9), (0, .ref (ad 0)), (1, .int p0), (2, .int p1), (3, .ref (ad 220))]) hx hb dL_counted_17 hl (by decide) rfl (fun ls hl => ?_)
      refine lv_iconst (v := 2) hx hb dL_counted_19 (by decide) ?_
      refine W.widen (k := 3) (n := 18) (Nat.le_of_ble_eq_true rfl) (Nat.le_of_ble_eq_true rfl) ?_
      exact W.iret (v := 2) hx hb hr (fun t ht hW => ⟨⟨_, (I, L), rfl, Or.inr (Or.inr (⟨rfl, hB.1, rfl⟩)), by show tR _ _ _ _ _ t.heap; rw [ht]; exact hR⟩, hS.F ht⟩) hS.2.2 dL_counted_20
  · have hR : tR D vwCl base ad (tC (wP n ad cs) u.1 u.2) H := by rw [← ht]; exact hB
    refine lv_i2l hx hb dL_counted_8 rfl ?_
    refine tp_last hx hb hK hR hS 220 1 (fun _ _ => rfl) rfl 0 rfl (by omega) (by decide) dL_counted_9 (fun H locs hR hS => ?_)
    refine lv_goto (tgt := 21) hx hb dL_counted_10 (by decide) ?_
    refine lv_iconst (v := 0) hx hb dL_counted_21 (by decide) ?_
    refine W.widen (k := 3) (n := 18) (Nat.le_of_ble_eq_true rfl) (Nat.le_of_ble_eq_true rfl) ?_
    exact W.iret (v := 0) hx hb hr (fun t ht hW => ⟨⟨_, (u.1, va_up u.2 220 (vp_updL (u.2 220) 0 r.toInt64)), rfl, Or.inl ⟨rfl, r, u, hw, rfl⟩, by show tR _ _ _ _ _ t.heap; rw [ht]; exact hR⟩, hS.F ht⟩) hS.2.2 dL_counted_22
set_option maxHeartbeats 4000000 in
set_option maxRecDepth 100000 in
theorem mL_apart (I : tI) (L : tL) (p0 : Int32) {post : Int32 → tI × tL → Prop} {TH : String → Prop} (hM : vx_Met l yX2_apart wX2_apart ({ frames := 8, cells := 2, slots := 12, locals := 140 }) (va_Pc [.ref (ad 0), .int p0] (kB D cs base sa n ad I L)) (va_Qi post (kA D cs base n ad) (fun q => base ≤ q)) (kX D cs base n ad I L TH) 2 12 (fun q => base ≤ q)) (hTH : ∀ E, TH E → E = eN ∨ E = eS) : Met l yL_apart wL_apart ({ frames := 9, cells := 2, slots := 12, locals := 180 }) (va_Pc [.ref (ad 0), .int p0, .ref (ad 220)] (kB D cs base sa n ad I L)) (va_Qi (fun (r : Int32) (u : tI × tL) => (r = 0 ∧ ∃ (r9 : Int32) (v : tI × tL), post r9 v ∧ u = (v.1, va_up v.2 220 (vp_updL (v.2 220) 0 r9.toInt64))) ∨ (r = 1 ∧ TH eN ∧ u = (I, L)) ∨ (r = 2 ∧ TH eS ∧ u = (I, L))) (kA D cs base n ad) (fun q => base ≤ q)) 2 12 (fun q => base ≤ q) := by
  refine va_MetW (cc := cL_apart) (maxL := 4) (ret := (some .int)) (hh := [(0, 9, 12, 21), (0, 9, 15, 15)]) (by decide) rfl ?_
  intro p e s m args below meth c s₁ Bd hml hv
  obtain ⟨rfl, hE, hR⟩ := hv
  have hx := Bd.exec
  have hb := Bd.bytes
  have hr := Bd.returns
  have hts := atoms_spec (ws := wL_apart) Bd.pre
  have hown : s.vm.findClass RL = some m.cls := findClass_of_methodNamed Bd.named
  have hlocks := Bd.notSynchronized
  have hK := hE.K
  have hS : va_S (fun q => base ≤ q) s.heap s.heap [] := va_S.rf
  have hR : tR D vwCl base ad (tC (wP n ad cs) I L) s.heap := hR
  have hl := lv_entry ([.ref (ad 0), .int p0, .ref (ad 220)]) (n := 4) (Nat.le_of_ble_eq_true rfl)
  rw [lg_entry_eq]
  generalize (lg_sl ([.ref (ad 0), .int p0, .ref (ad 220)]) ++ List.replicate (4 - (lg_sl ([.ref (ad 0), .int p0, .ref (ad 220)])).length) Slot.unset).toArray = ls at hl ⊢
  have hl : lv_has ls 4 [(0, .ref (ad 0)), (1, .int p0), (2, .ref (ad 220))] := hl
  have htb : c.exceptionTable.toList = tableOf [(0, 9, 12, 21), (0, 9, 15, 15)] := vx_table (x := yL_apart) Bd (hts _ List.mem_cons_self)
  refine lv_aload_n hx hb dL_apart_0 rfl (lv_at hl 2 rfl) ?_
  refine lv_iconst (v := nI 0) hx hb dL_apart_1 (by decide) ?_
  refine lv_aload_n hx hb dL_apart_2 rfl (lv_at hl 0 rfl) ?_
  refine lv_iload_n hx hb dL_apart_3 rfl (lv_at hl 1 rfl) ?_
  refine vx_calli (vx_runV (As := [.int p0]) (rest := [.int (nI 0), .ref (ad 220)]) ⟨hx, hb, hml, hown, hts⟩ hM (cwV 1 hts (kw_V k412 k413 k414 k1 k415) rfl rfl rfl (by decide +kernel) ⟨Nat.le_of_ble_eq_true rfl, Nat.le_of_ble_eq_true rfl⟩) (kB_preV hE hR hS 0 rfl rfl [.int p0]) rfl rfl hl.1 rfl (lv_room (Nat.le_of_ble_eq_true rfl)) dL_apart_4 ⟨Nat.le_of_ble_eq_true rfl, Nat.le_of_ble_eq_true rfl⟩) hS (fun _ _ h => h) (fun _ h => h) (fun _ _ h => h) (fun E ce q9 u t H locs ht hv hu hB _ _ hS hce hcv hcl => ?_) (fun r u t H locs ht _ hw hB _ _ hS => ?_)
  · subst hu
    have hR : tR D vwCl base ad (tC (wP n ad cs) I L) H := by rw [← ht]; exact hB.2
    rcases hTH E hB.1 with rfl | rfl
    · refine vx_catch (name := "java/util/NoSuchElementException") hown [] ⟨0, 9, 12, 21⟩ [⟨0, 9, 15, 15⟩] htb (fun z hz => nomatch hz) (by decide) (by decide) (hts _ (List.mem_cons_of_mem _ k257)) (xW_use hE.2.2.2.2.2.2.2.2.1 _ (by simp [xW, eN])) hce hcv hcl ?_
      refine lv_astore_n (lv' := [(3, .ref q9), (0, .ref (ad 0)), (1, .int p0), (2, .ref (ad 220))]) hx hb dL_apart_12 rfl hl (by decide) rfl (fun ls hl => ?_)
      refine lv_iconst (v := 1) hx hb dL_apart_13 (by decide) ?_
      refine W.widen (k := 2) (n := 12) (Nat.le_of_ble_eq_true rfl) (Nat.le_of_ble_eq_true rfl) ?_
      exact W.iret (v := 1) hx hb hr (fun t ht hW => ⟨⟨_, (I, L), rfl, Or.inr (Or.inl ⟨rfl, hB.1, rfl⟩), by show tR _ _ _ _ _ t.heap; rw [ht]; exact hR⟩, hS.F ht⟩) hS.2.2 dL_apart_14
    · refine vx_catch (name := "java/lang/IllegalStateException") hown [⟨0, 9, 12, 21⟩] ⟨0, 9, 15, 15⟩ [] htb (fun z hz => by simp only [List.mem_cons, List.not_mem_nil, or_false] at hz; subst hz; exact Or.inr ⟨by decide, eN, hts _ (List.mem_cons_of_mem _ k257), hE.2.2.2.2.2.2.2.2.2 (eS, eN) (by decide)⟩) (by decide) (by decide) (hts _ (List.mem_cons_of_mem _ k153)) (xW_use hE.2.2.2.2.2.2.2.2.1 _ (by simp [xW, eS])) hce hcv hcl ?_
      refine lv_astore_n (lv' := [(3, .ref q9), (0, .ref (ad 0)), (1, .int p0), (2, .ref (ad 220))]) hx hb dL_apart_15 rfl hl (by decide) rfl (fun ls hl => ?_)
      refine lv_iconst (v := 2) hx hb dL_apart_16 (by decide) ?_
      refine W.widen (k := 2) (n := 12) (Nat.le_of_ble_eq_true rfl) (Nat.le_of_ble_eq_true rfl) ?_
      exact W.iret (v := 2) hx hb hr (fun t ht hW => ⟨⟨_, (I, L), rfl, Or.inr (Or.inr (⟨rfl, hB.1, rfl⟩)), by show tR _ _ _ _ _ t.heap; rw [ht]; exact hR⟩, hS.F ht⟩) hS.2.2 dL_apart_17
  · have hR : tR D vwCl base ad (tC (wP n ad cs) u.1 u.2) H := by rw [← ht]; exact hB
    refine lv_i2l hx hb dL_apart_7 rfl ?_
    refine tp_last hx hb hK hR hS 220 1 (fun _ _ => rfl) rfl 0 rfl (by omega) (by decide) dL_apart_8 (fun H locs hR hS => ?_)
    refine lv_goto (tgt := 18) hx hb dL_apart_9 (by decide) ?_
    refine lv_iconst (v := 0) hx hb dL_apart_18 (by decide) ?_
    refine W.widen (k := 2) (n := 12) (Nat.le_of_ble_eq_true rfl) (Nat.le_of_ble_eq_true rfl) ?_
    exact W.iret (v := 0) hx hb hr (fun t ht hW => ⟨⟨_, (u.1, va_up u.2 220 (vp_updL (u.2 220) 0 r.toInt64)), rfl, Or.inl ⟨rfl, r, u, hw, rfl⟩, by show tR _ _ _ _ _ t.heap; rw [ht]; exact hR⟩, hS.F ht⟩) hS.2.2 dL_apart_19
set_option maxHeartbeats 4000000 in
set_option maxRecDepth 100000 in
theorem mL_agreement (I : tI) (L : tL) (p0 : Int32) {post : Int32 → tI × tL → Prop} {TH : String → Prop} (hM : vx_Met l yX2_agreement wX2_agreement ({ frames := 8, cells := 2, slots := 12, locals := 140 }) (va_Pc [.ref (ad 0), .int p0] (kB D cs base sa n ad I L)) (va_Qi post (kA D cs base n ad) (fun q => base ≤ q)) (kX D cs base n ad I L TH) 2 12 (fun q => base ≤ q)) (hTH : ∀ E, TH E → E = eN ∨ E = eS) : Met l yL_agreement wL_agreement ({ frames := 9, cells := 2, slots := 12, locals := 180 }) (va_Pc [.ref (ad 0), .int p0, .ref (ad 220)] (kB D cs base sa n ad I L)) (va_Qi (fun (r : Int32) (u : tI × tL) => (r = 0 ∧ ∃ (r9 : Int32) (v : tI × tL), post r9 v ∧ u = (v.1, va_up v.2 220 (vp_updL (v.2 220) 0 r9.toInt64))) ∨ (r = 1 ∧ TH eN ∧ u = (I, L)) ∨ (r = 2 ∧ TH eS ∧ u = (I, L))) (kA D cs base n ad) (fun q => base ≤ q)) 2 12 (fun q => base ≤ q) := by
  refine va_MetW (cc := cL_agreement) (maxL := 4) (ret := (some .int)) (hh := [(0, 9, 12, 21), (0, 9, 15, 15)]) (by decide) rfl ?_
  intro p e s m args below meth c s₁ Bd hml hv
  obtain ⟨rfl, hE, hR⟩ := hv
  have hx := Bd.exec
  have hb := Bd.bytes
  have hr := Bd.returns
  have hts := atoms_spec (ws := wL_agreement) Bd.pre
  have hown : s.vm.findClass RL = some m.cls := findClass_of_methodNamed Bd.named
  have hlocks := Bd.notSynchronized
  have hK := hE.K
  have hS : va_S (fun q => base ≤ q) s.heap s.heap [] := va_S.rf
  have hR : tR D vwCl base ad (tC (wP n ad cs) I L) s.heap := hR
  have hl := lv_entry ([.ref (ad 0), .int p0, .ref (ad 220)]) (n := 4) (Nat.le_of_ble_eq_true rfl)
  rw [lg_entry_eq]
  generalize (lg_sl ([.ref (ad 0), .int p0, .ref (ad 220)]) ++ List.replicate (4 - (lg_sl ([.ref (ad 0), .int p0, .ref (ad 220)])).length) Slot.unset).toArray = ls at hl ⊢
  have hl : lv_has ls 4 [(0, .ref (ad 0)), (1, .int p0), (2, .ref (ad 220))] := hl
  have htb : c.exceptionTable.toList = tableOf [(0, 9, 12, 21), (0, 9, 15, 15)] := vx_table (x := yL_agreement) Bd (hts _ List.mem_cons_self)
  refine lv_aload_n hx hb dL_agreement_0 rfl (lv_at hl 2 rfl) ?_
  refine lv_iconst (v := nI 0) hx hb dL_agreement_1 (by decide) ?_
  refine lv_aload_n hx hb dL_agreement_2 rfl (lv_at hl 0 rfl) ?_
  refine lv_iload_n hx hb dL_agreement_3 rfl (lv_at hl 1 rfl) ?_
  refine vx_calli (vx_runV (As := [.int p0]) (rest := [.int (nI 0), .ref (ad 220)]) ⟨hx, hb, hml, hown, hts⟩ hM (cwV 1 hts (kw_V k423 k424 k425 k1 k426) rfl rfl rfl (by decide +kernel) ⟨Nat.le_of_ble_eq_true rfl, Nat.le_of_ble_eq_true rfl⟩) (kB_preV hE hR hS 0 rfl rfl [.int p0]) rfl rfl hl.1 rfl (lv_room (Nat.le_of_ble_eq_true rfl)) dL_agreement_4 ⟨Nat.le_of_ble_eq_true rfl, Nat.le_of_ble_eq_true rfl⟩) hS (fun _ _ h => h) (fun _ h => h) (fun _ _ h => h) (fun E ce q9 u t H locs ht hv hu hB _ _ hS hce hcv hcl => ?_) (fun r u t H locs ht _ hw hB _ _ hS => ?_)
  · subst hu
    have hR : tR D vwCl base ad (tC (wP n ad cs) I L) H := by rw [← ht]; exact hB.2
    rcases hTH E hB.1 with rfl | rfl
    · refine vx_catch (name := "java/util/NoSuchElementException") hown [] ⟨0, 9, 12, 21⟩ [⟨0, 9, 15, 15⟩] htb (fun z hz => nomatch hz) (by decide) (by decide) (hts _ (List.mem_cons_of_mem _ k257)) (xW_use hE.2.2.2.2.2.2.2.2.1 _ (by simp [xW, eN])) hce hcv hcl ?_
      refine lv_astore_n (lv' := [(3, .ref q9), (0, .ref (ad 0)), (1, .int p0), (2, .ref (ad 220))]) hx hb dL_agreement_12 rfl hl (by decide) rfl (fun ls hl => ?_)
      refine lv_iconst (v := 1) hx hb dL_agreement_13 (by decide) ?_
      refine W.widen (k := 2) (n := 12) (Nat.le_of_ble_eq_true rfl) (Nat.le_of_ble_eq_true rfl) ?_
      exact W.iret (v := 1) hx hb hr (fun t ht hW => ⟨⟨_, (I, L), rfl, Or.inr (Or.inl ⟨rfl, hB.1, rfl⟩), by show tR _ _ _ _ _ t.heap; rw [ht]; exact hR⟩, hS.F ht⟩) hS.2.2 dL_agreement_14
    · refine vx_catch (name := "java/lang/IllegalStateException") hown [⟨0, 9, 12, 21⟩] ⟨0, 9, 15, 15⟩ [] htb (fun z hz => by simp only [List.mem_cons, List.not_mem_nil, or_false] at hz; subst hz; exact Or.inr ⟨by decide, eN, hts _ (List.mem_cons_of_mem _ k257), hE.2.2.2.2.2.2.2.2.2 (eS, eN) (by decide)⟩) (by decide) (by decide) (hts _ (List.mem_cons_of_mem _ k153)) (xW_use hE.2.2.2.2.2.2.2.2.1 _ (by simp [xW, eS])) hce hcv hcl ?_
      refine lv_astore_n (lv' := [(3, .ref q9), (0, .ref (ad 0)), (1, .int p0), (2, .ref (ad 220))]) hx hb dL_agreement_15 rfl hl (by decide) rfl (fun ls hl => ?_)
      refine lv_iconst (v := 2) hx hb dL_agreement_16 (by decide) ?_
      refine W.widen (k := 2) (n := 12) (Nat.le_of_ble_eq_true rfl) (Nat.le_of_ble_eq_true rfl) ?_
      exact W.iret (v := 2) hx hb hr (fun t ht hW => ⟨⟨_, (I, L), rfl, Or.inr (Or.inr (⟨rfl, hB.1, rfl⟩)), by show tR _ _ _ _ _ t.heap; rw [ht]; exact hR⟩, hS.F ht⟩) hS.2.2 dL_agreement_17
  · have hR : tR D vwCl base ad (tC (wP n ad cs) u.1 u.2) H := by rw [← ht]; exact hB
    refine lv_i2l hx hb dL_agreement_7 rfl ?_
    refine tp_last hx hb hK hR hS 220 1 (fun _ _ => rfl) rfl 0 rfl (by omega) (by decide) dL_agreement_8 (fun H locs hR hS => ?_)
    refine lv_goto (tgt := 18) hx hb dL_agreement_9 (by decide) ?_
    refine lv_iconst (v := 0) hx hb dL_agreement_18 (by decide) ?_
    refine W.widen (k := 2) (n := 12) (Nat.le_of_ble_eq_true rfl) (Nat.le_of_ble_eq_true rfl) ?_
    exact W.iret (v := 0) hx hb hr (fun t ht hW => ⟨⟨_, (u.1, va_up u.2 220 (vp_updL (u.2 220) 0 r.toInt64)), rfl, Or.inl ⟨rfl, r, u, hw, rfl⟩, by show tR _ _ _ _ _ t.heap; rw [ht]; exact hR⟩, hS.F ht⟩) hS.2.2 dL_agreement_19
set_option maxHeartbeats 4000000 in
set_option maxRecDepth 100000 in
theorem mL_spans (I : tI) (L : tL) (p0 p1 : Int32) {post : Int32 → tI × tL → Prop} {TH : String → Prop} (hM : vx_Met l yX2_spans wX2_spans ({ frames := 8, cells := 3, slots := 18, locals := 140 }) (va_Pc [.ref (ad 0), .int p0, .int p1] (kB D cs base sa n ad I L)) (va_Qi post (kA D cs base n ad) (fun q => base ≤ q)) (kX D cs base n ad I L TH) 3 18 (fun q => base ≤ q)) (hTH : ∀ E, TH E → E = eN ∨ E = eI ∨ E = eS) : Met l yL_spans wL_spans ({ frames := 9, cells := 3, slots := 18, locals := 180 }) (va_Pc [.ref (ad 0), .int p0, .int p1, .ref (ad 220)] (kB D cs base sa n ad I L)) (va_Qi (fun (r : Int32) (u : tI × tL) => (r = 0 ∧ ∃ (r9 : Int32) (v : tI × tL), post r9 v ∧ u = (v.1, va_up v.2 220 (vp_updL (v.2 220) 0 r9.toInt64))) ∨ (r = 1 ∧ TH eN ∧ u = (I, L)) ∨ (r = 2 ∧ TH eI ∧ u = (I, L)) ∨ (r = 3 ∧ TH eS ∧ u = (I, L))) (kA D cs base n ad) (fun q => base ≤ q)) 3 18 (fun q => base ≤ q) := by
  refine va_MetW (cc := cL_spans) (maxL := 5) (ret := (some .int)) (hh := [(0, 10, 13, 21), (0, 10, 17, 13), (0, 10, 21, 15)]) (by decide) rfl ?_
  intro p e s m args below meth c s₁ Bd hml hv
  obtain ⟨rfl, hE, hR⟩ := hv
  have hx := Bd.exec
  have hb := Bd.bytes
  have hr := Bd.returns
  have hts := atoms_spec (ws := wL_spans) Bd.pre
  have hown : s.vm.findClass RL = some m.cls := findClass_of_methodNamed Bd.named
  have hlocks := Bd.notSynchronized
  have hK := hE.K
  have hS : va_S (fun q => base ≤ q) s.heap s.heap [] := va_S.rf
  have hR : tR D vwCl base ad (tC (wP n ad cs) I L) s.heap := hR
  have hl := lv_entry ([.ref (ad 0), .int p0, .int p1, .ref (ad 220)]) (n := 5) (Nat.le_of_ble_eq_true rfl)
  rw [lg_entry_eq]
  generalize (lg_sl ([.ref (ad 0), .int p0, .int p1, .ref (ad 220)]) ++ List.replicate (5 - (lg_sl ([.ref (ad 0), .int p0, .int p1, .ref (ad 220)])).length) Slot.unset).toArray = ls at hl ⊢
  have hl : lv_has ls 5 [(0, .ref (ad 0)), (1, .int p0), (2, .int p1), (3, .ref (ad 220))] := hl
  have htb : c.exceptionTable.toList = tableOf [(0, 10, 13, 21), (0, 10, 17, 13), (0, 10, 21, 15)] := vx_table (x := yL_spans) Bd (hts _ List.mem_cons_self)
  refine lv_aload_n hx hb dL_spans_0 rfl (lv_at hl 3 rfl) ?_
  refine lv_iconst (v := nI 0) hx hb dL_spans_1 (by decide) ?_
  refine lv_aload_n hx hb dL_spans_2 rfl (lv_at hl 0 rfl) ?_
  refine lv_iload_n hx hb dL_spans_3 rfl (lv_at hl 1 rfl) ?_
  refine lv_iload_n hx hb dL_spans_4 rfl (lv_at hl 2 rfl) ?_
  refine vx_calli (vx_runV (As := [.int p0, .int p1]) (rest := [.int (nI 0), .ref (ad 220)]) ⟨hx, hb, hml, hown, hts⟩ hM (cwV 2 hts (kw_V k436 k437 k438 k1 k439) rfl rfl rfl (by decide +kernel) ⟨Nat.le_of_ble_eq_true rfl, Nat.le_of_ble_eq_true rfl⟩) (kB_preV hE hR hS 0 rfl rfl [.int p0, .int p1]) rfl rfl hl.1 rfl (lv_room (Nat.le_of_ble_eq_true rfl)) dL_spans_5 ⟨Nat.le_of_ble_eq_true rfl, Nat.le_of_ble_eq_true rfl⟩) hS (fun _ _ h => h) (fun _ h => h) (fun _ _ h => h) (fun E ce q9 u t H locs ht hv hu hB _ _ hS hce hcv hcl => ?_) (fun r u t H locs ht _ hw hB _ _ hS => ?_)
  · subst hu
    have hR : tR D vwCl base ad (tC (wP n ad cs) I L) H := by rw [← ht]; exact hB.2
    rcases hTH E hB.1 with rfl | rfl | rfl
    · refine vx_catch (name := "java/util/NoSuchElementException") hown [] ⟨0, 10, 13, 21⟩ [⟨0, 10, 17, 13⟩, ⟨0, 10, 21, 15⟩] htb (fun z hz => nomatch hz) (by decide) (by decide) (hts _ (List.mem_cons_of_mem _ k257)) (xW_use hE.2.2.2.2.2.2.2.2.1 _ (by simp [xW, eN])) hce hcv hcl ?_
      refine lv_astore (lv' := [(4, .ref q9), (0, .ref (ad 0)), (1, .int p0), (2, .int p1), (3, .ref (ad 220))]) hx hb dL_spans_13 hl (by decide) rfl (fun ls hl => ?_)
      refine lv_iconst (v := 1) hx hb dL_spans_15 (by decide) ?_
      refine W.widen (k := 3) (n := 18) (Nat.le_of_ble_eq_true rfl) (Nat.le_of_ble_eq_true rfl) ?_
      exact W.iret (v := 1) hx hb hr (fun t ht hW => ⟨⟨_, (I, L), rfl, Or.inr (Or.inl ⟨rfl, hB.1, rfl⟩), by show tR _ _ _ _ _ t.heap; rw [ht]; exact hR⟩, hS.F ht⟩) hS.2.2 dL_spans_16
    · refine vx_catch (name := "java/lang/IllegalArgumentException") hown [⟨0, 10, 13, 21⟩] ⟨0, 10, 17, 13⟩ [⟨0, 10, 21, 15⟩] htb (fun z hz => by simp only [List.mem_cons, List.not_mem_nil, or_false] at hz; subst hz; exact Or.inr ⟨by decide, eN, hts _ (List.mem_cons_of_mem _ k257), hE.2.2.2.2.2.2.2.2.2 (eI, eN) (by decide)⟩) (by decide) (by decide) (hts _ (List.mem_cons_of_mem _ k152)) (xW_use hE.2.2.2.2.2.2.2.2.1 _ (by simp [xW, eI])) hce hcv hcl ?_
      refine lv_astore (lv' := [(4, .ref q9), (0, .ref (ad 0)), (1, .int p0), (2, .int p1), (3, .ref (ad 220))]) hx hb dL_spans_17 hl (by decide) rfl (fun ls hl => ?_)
      refine lv_iconst (v := 2) hx hb dL_spans_19 (by decide) ?_
      refine W.widen (k := 3) (n := 18) (Nat.le_of_ble_eq_true rfl) (Nat.le_of_ble_eq_true rfl) ?_
      exact W.iret (v := 2) hx hb hr (fun t ht hW => ⟨⟨_, (I, L), rfl, Or.inr (Or.inr (Or.inl ⟨rfl, hB.1, rfl⟩)), by show tR _ _ _ _ _ t.heap; rw [ht]; exact hR⟩, hS.F ht⟩) hS.2.2 dL_spans_20
    · refine vx_catch (name := "java/lang/IllegalStateException") hown [⟨0, 10, 13, 21⟩, ⟨0, 10, 17, 13⟩] ⟨0, 10, 21, 15⟩ [] htb (fun z hz => by simp only [List.mem_cons, List.not_mem_nil, or_false] at hz; rcases hz with rfl | rfl; exact Or.inr ⟨by decide, eN, hts _ (List.mem_cons_of_mem _ k257), hE.2.2.2.2.2.2.2.2.2 (eS, eN) (by decide)⟩; exact Or.inr ⟨by decide, eI, hts _ (List.mem_cons_of_mem _ k152), hE.2.2.2.2.2.2.2.2.2 (eS, eI) (by decide)⟩) (by decide) (by decide) (hts _ (List.mem_cons_of_mem _ k153)) (xW_use hE.2.2.2.2.2.2.2.2.1 _ (by simp [xW, eS])) hce hcv hcl ?_
      refine lv_astore (lv' := [(4, .ref q9), (0, .ref (ad 0)), (1, .int p0), (2, .int p1), (3, .ref (ad 220))]) hx hb dL_spans_21 hl (by decide) rfl (fun ls hl => ?_)
      refine lv_iconst (v := 3) hx hb dL_spans_23 (by decide) ?_
      refine W.widen (k := 3) (n := 18) (Nat.le_of_ble_eq_true rfl) (Nat.le_of_ble_eq_true rfl) ?_
      exact W.iret (v := 3) hx hb hr (fun t ht hW => ⟨⟨_, (I, L), rfl, Or.inr (Or.inr (Or.inr (⟨rfl, hB.1, rfl⟩))), by show tR _ _ _ _ _ t.heap; rw [ht]; exact hR⟩, hS.F ht⟩) hS.2.2 dL_spans_24
  · have hR : tR D vwCl base ad (tC (wP n ad cs) u.1 u.2) H := by rw [← ht]; exact hB
    refine lv_i2l hx hb dL_spans_8 rfl ?_
    refine tp_last hx hb hK hR hS 220 1 (fun _ _ => rfl) rfl 0 rfl (by omega) (by decide) dL_spans_9 (fun H locs hR hS => ?_)
    refine lv_goto (tgt := 25) hx hb dL_spans_10 (by decide) ?_
    refine lv_iconst (v := 0) hx hb dL_spans_25 (by decide) ?_
    refine W.widen (k := 3) (n := 18) (Nat.le_of_ble_eq_true rfl) (Nat.le_of_ble_eq_true rfl) ?_
    exact W.iret (v := 0) hx hb hr (fun t ht hW => ⟨⟨_, (u.1, va_up u.2 220 (vp_updL (u.2 220) 0 r.toInt64)), rfl, Or.inl ⟨rfl, r, u, hw, rfl⟩, by show tR _ _ _ _ _ t.heap; rw [ht]; exact hR⟩, hS.F ht⟩) hS.2.2 dL_spans_26
set_option maxHeartbeats 4000000 in
set_option maxRecDepth 100000 in
theorem mL_save (I : tI) (L : tL)  {post : Int32 → tI × tL → Prop} {TH : String → Prop} (hM : vx_Met l yX2_save wX2_save ({ frames := 8, cells := 2, slots := 12, locals := 140 }) (va_Pc [.ref (ad 0)] (kB D cs base sa n ad I L)) (va_Qi post (kA D cs base n ad) (fun q => base ≤ q)) (kX D cs base n ad I L TH) 2 12 (fun q => base ≤ q)) (hTH : ∀ E, TH E → E = eS) : Met l yL_save wL_save ({ frames := 9, cells := 2, slots := 12, locals := 180 }) (va_Pc [.ref (ad 0), .ref (ad 220)] (kB D cs base sa n ad I L)) (va_Qi (fun (r : Int32) (u : tI × tL) => (r = 0 ∧ ∃ (r9 : Int32) (v : tI × tL), post r9 v ∧ u = (v.1, va_up v.2 220 (vp_updL (v.2 220) 0 r9.toInt64))) ∨ (r = 1 ∧ TH eS ∧ u = (I, L))) (kA D cs base n ad) (fun q => base ≤ q)) 2 12 (fun q => base ≤ q) := by
  refine va_MetW (cc := cL_save) (maxL := 3) (ret := (some .int)) (hh := [(0, 8, 11, 15)]) (by decide) rfl ?_
  intro p e s m args below meth c s₁ Bd hml hv
  obtain ⟨rfl, hE, hR⟩ := hv
  have hx := Bd.exec
  have hb := Bd.bytes
  have hr := Bd.returns
  have hts := atoms_spec (ws := wL_save) Bd.pre
  have hown : s.vm.findClass RL = some m.cls := findClass_of_methodNamed Bd.named
  have hlocks := Bd.notSynchronized
  have hK := hE.K
  have hS : va_S (fun q => base ≤ q) s.heap s.heap [] := va_S.rf
  have hR : tR D vwCl base ad (tC (wP n ad cs) I L) s.heap := hR
  have hl := lv_entry ([.ref (ad 0), .ref (ad 220)]) (n := 3) (Nat.le_of_ble_eq_true rfl)
  rw [lg_entry_eq]
  generalize (lg_sl ([.ref (ad 0), .ref (ad 220)]) ++ List.replicate (3 - (lg_sl ([.ref (ad 0), .ref (ad 220)])).length) Slot.unset).toArray = ls at hl ⊢
  have hl : lv_has ls 3 [(0, .ref (ad 0)), (1, .ref (ad 220))] := hl
  have htb : c.exceptionTable.toList = tableOf [(0, 8, 11, 15)] := vx_table (x := yL_save) Bd (hts _ List.mem_cons_self)
  refine lv_aload_n hx hb dL_save_0 rfl (lv_at hl 1 rfl) ?_
  refine lv_iconst (v := nI 0) hx hb dL_save_1 (by decide) ?_
  refine lv_aload_n hx hb dL_save_2 rfl (lv_at hl 0 rfl) ?_
  refine vx_calli (vx_runV (As := []) (rest := [.int (nI 0), .ref (ad 220)]) ⟨hx, hb, hml, hown, hts⟩ hM (cwV 0 hts (kw_V k447 k448 k449 k1 k450) rfl rfl rfl (by decide +kernel) ⟨Nat.le_of_ble_eq_true rfl, Nat.le_of_ble_eq_true rfl⟩) (kB_preV hE hR hS 0 rfl rfl []) rfl rfl hl.1 rfl (lv_room (Nat.le_of_ble_eq_true rfl)) dL_save_3 ⟨Nat.le_of_ble_eq_true rfl, Nat.le_of_ble_eq_true rfl⟩) hS (fun _ _ h => h) (fun _ h => h) (fun _ _ h => h) (fun E ce q9 u t H locs ht hv hu hB _ _ hS hce hcv hcl => ?_) (fun r u t H locs ht _ hw hB _ _ hS => ?_)
  · subst hu
    have hR : tR D vwCl base ad (tC (wP n ad cs) I L) H := by rw [← ht]; exact hB.2
    obtain rfl := hTH E hB.1
    refine vx_catch (name := "java/lang/IllegalStateException") hown [] ⟨0, 8, 11, 15⟩ [] htb (fun z hz => nomatch hz) (by decide) (by decide) (hts _ (List.mem_cons_of_mem _ k153)) (xW_use hE.2.2.2.2.2.2.2.2.1 _ (by simp [xW, eS])) hce hcv hcl ?_
    refine lv_astore_n (lv' := [(2, .ref q9), (0, .ref (ad 0)), (1, .ref (ad 220))]) hx hb dL_save_11 rfl hl (by decide) rfl (fun ls hl => ?_)
    refine lv_iconst (v := 1) hx hb dL_save_12 (by decide) ?_
    refine W.widen (k := 2) (n := 12) (Nat.le_of_ble_eq_true rfl) (Nat.le_of_ble_eq_true rfl) ?_
    exact W.iret (v := 1) hx hb hr (fun t ht hW => ⟨⟨_, (I, L), rfl, Or.inr (⟨rfl, hB.1, rfl⟩), by show tR _ _ _ _ _ t.heap; rw [ht]; exact hR⟩, hS.F ht⟩) hS.2.2 dL_save_13
  · have hR : tR D vwCl base ad (tC (wP n ad cs) u.1 u.2) H := by rw [← ht]; exact hB
    refine lv_i2l hx hb dL_save_6 rfl ?_
    refine tp_last hx hb hK hR hS 220 1 (fun _ _ => rfl) rfl 0 rfl (by omega) (by decide) dL_save_7 (fun H locs hR hS => ?_)
    refine lv_goto (tgt := 14) hx hb dL_save_8 (by decide) ?_
    refine lv_iconst (v := 0) hx hb dL_save_14 (by decide) ?_
    refine W.widen (k := 2) (n := 12) (Nat.le_of_ble_eq_true rfl) (Nat.le_of_ble_eq_true rfl) ?_
    exact W.iret (v := 0) hx hb hr (fun t ht hW => ⟨⟨_, (u.1, va_up u.2 220 (vp_updL (u.2 220) 0 r.toInt64)), rfl, Or.inl ⟨rfl, r, u, hw, rfl⟩, by show tR _ _ _ _ _ t.heap; rw [ht]; exact hR⟩, hS.F ht⟩) hS.2.2 dL_save_15
set_option maxHeartbeats 4000000 in
set_option maxRecDepth 100000 in
theorem mL_back (I : tI) (L : tL) (p0 : Int32) {post : Int32 → tI × tL → Prop} {TH : String → Prop} (hM : vx_Met l yX2_back wX2_back ({ frames := 8, cells := 1, slots := 6, locals := 140 }) (va_Pc [.ref (ad 0), .int p0] (kB D cs base sa n ad I L)) (va_Qi post (kA D cs base n ad) (fun q => base ≤ q)) (kX D cs base n ad I L TH) 1 6 (fun q => base ≤ q)) (hTH : ∀ E, TH E → E = eN) : Met l yL_back wL_back ({ frames := 9, cells := 1, slots := 6, locals := 180 }) (va_Pc [.ref (ad 0), .int p0, .ref (ad 220)] (kB D cs base sa n ad I L)) (va_Qi (fun (r : Int32) (u : tI × tL) => (r = 0 ∧ ∃ (r9 : Int32) (v : tI × tL), post r9 v ∧ u = (v.1, va_up v.2 220 (vp_updL (v.2 220) 0 r9.toInt64))) ∨ (r = 1 ∧ TH eN ∧ u = (I, L))) (kA D cs base n ad) (fun q => base ≤ q)) 1 6 (fun q => base ≤ q) := by
  refine va_MetW (cc := cL_back) (maxL := 4) (ret := (some .int)) (hh := [(0, 9, 12, 21)]) (by decide) rfl ?_
  intro p e s m args below meth c s₁ Bd hml hv
  obtain ⟨rfl, hE, hR⟩ := hv
  have hx := Bd.exec
  have hb := Bd.bytes
  have hr := Bd.returns
  have hts := atoms_spec (ws := wL_back) Bd.pre
  have hown : s.vm.findClass RL = some m.cls := findClass_of_methodNamed Bd.named
  have hlocks := Bd.notSynchronized
  have hK := hE.K
  have hS : va_S (fun q => base ≤ q) s.heap s.heap [] := va_S.rf
  have hR : tR D vwCl base ad (tC (wP n ad cs) I L) s.heap := hR
  have hl := lv_entry ([.ref (ad 0), .int p0, .ref (ad 220)]) (n := 4) (Nat.le_of_ble_eq_true rfl)
  rw [lg_entry_eq]
  generalize (lg_sl ([.ref (ad 0), .int p0, .ref (ad 220)]) ++ List.replicate (4 - (lg_sl ([.ref (ad 0), .int p0, .ref (ad 220)])).length) Slot.unset).toArray = ls at hl ⊢
  have hl : lv_has ls 4 [(0, .ref (ad 0)), (1, .int p0), (2, .ref (ad 220))] := hl
  have htb : c.exceptionTable.toList = tableOf [(0, 9, 12, 21)] := vx_table (x := yL_back) Bd (hts _ List.mem_cons_self)
  refine lv_aload_n hx hb dL_back_0 rfl (lv_at hl 2 rfl) ?_
  refine lv_iconst (v := nI 0) hx hb dL_back_1 (by decide) ?_
  refine lv_aload_n hx hb dL_back_2 rfl (lv_at hl 0 rfl) ?_
  refine lv_iload_n hx hb dL_back_3 rfl (lv_at hl 1 rfl) ?_
  refine vx_calli (vx_runV (As := [.int p0]) (rest := [.int (nI 0), .ref (ad 220)]) ⟨hx, hb, hml, hown, hts⟩ hM (cwV 1 hts (kw_V k459 k460 k461 k1 k462) rfl rfl rfl (by decide +kernel) ⟨Nat.le_of_ble_eq_true rfl, Nat.le_of_ble_eq_true rfl⟩) (kB_preV hE hR hS 0 rfl rfl [.int p0]) rfl rfl hl.1 rfl (lv_room (Nat.le_of_ble_eq_true rfl)) dL_back_4 ⟨Nat.le_of_ble_eq_true rfl, Nat.le_of_ble_eq_true rfl⟩) hS (fun _ _ h => h) (fun _ h => h) (fun _ _ h => h) (fun E ce q9 u t H locs ht hv hu hB _ _ hS hce hcv hcl => ?_) (fun r u t H locs ht _ hw hB _ _ hS => ?_)
  · subst hu
    have hR : tR D vwCl base ad (tC (wP n ad cs) I L) H := by rw [← ht]; exact hB.2
    obtain rfl := hTH E hB.1
    refine vx_catch (name := "java/util/NoSuchElementException") hown [] ⟨0, 9, 12, 21⟩ [] htb (fun z hz => nomatch hz) (by decide) (by decide) (hts _ (List.mem_cons_of_mem _ k257)) (xW_use hE.2.2.2.2.2.2.2.2.1 _ (by simp [xW, eN])) hce hcv hcl ?_
    refine lv_astore_n (lv' := [(3, .ref q9), (0, .ref (ad 0)), (1, .int p0), (2, .ref (ad 220))]) hx hb dL_back_12 rfl hl (by decide) rfl (fun ls hl => ?_)
    refine lv_iconst (v := 1) hx hb dL_back_13 (by decide) ?_
    refine W.widen (k := 1) (n := 6) (Nat.le_of_ble_eq_true rfl) (Nat.le_of_ble_eq_true rfl) ?_
    exact W.iret (v := 1) hx hb hr (fun t ht hW => ⟨⟨_, (I, L), rfl, Or.inr (⟨rfl, hB.1, rfl⟩), by show tR _ _ _ _ _ t.heap; rw [ht]; exact hR⟩, hS.F ht⟩) hS.2.2 dL_back_14
  · have hR : tR D vwCl base ad (tC (wP n ad cs) u.1 u.2) H := by rw [← ht]; exact hB
    refine lv_i2l hx hb dL_back_7 rfl ?_
    refine tp_last hx hb hK hR hS 220 1 (fun _ _ => rfl) rfl 0 rfl (by omega) (by decide) dL_back_8 (fun H locs hR hS => ?_)
    refine lv_goto (tgt := 15) hx hb dL_back_9 (by decide) ?_
    refine lv_iconst (v := 0) hx hb dL_back_15 (by decide) ?_
    refine W.widen (k := 1) (n := 6) (Nat.le_of_ble_eq_true rfl) (Nat.le_of_ble_eq_true rfl) ?_
    exact W.iret (v := 0) hx hb hr (fun t ht hW => ⟨⟨_, (u.1, va_up u.2 220 (vp_updL (u.2 220) 0 r.toInt64)), rfl, Or.inl ⟨rfl, r, u, hw, rfl⟩, by show tR _ _ _ _ _ t.heap; rw [ht]; exact hR⟩, hS.F ht⟩) hS.2.2 dL_back_16
set_option maxHeartbeats 4000000 in
set_option maxRecDepth 100000 in
theorem mL_count (I : tI) (L : tL) (p0 : Int32) {post : Int32 → tI × tL → Prop} {TH : String → Prop} (hM : vx_Met l yX2_count wX2_count ({ frames := 8, cells := 1, slots := 6, locals := 140 }) (va_Pc [.ref (ad 0), .int p0] (kB D cs base sa n ad I L)) (va_Qi post (kA D cs base n ad) (fun q => base ≤ q)) (kX D cs base n ad I L TH) 1 6 (fun q => base ≤ q)) (hTH : ∀ E, TH E → E = eN) : Met l yL_count wL_count ({ frames := 9, cells := 1, slots := 6, locals := 180 }) (va_Pc [.ref (ad 0), .int p0, .ref (ad 220)] (kB D cs base sa n ad I L)) (va_Qi (fun (r : Int32) (u : tI × tL) => (r = 0 ∧ ∃ (r9 : Int32) (v : tI × tL), post r9 v ∧ u = (v.1, va_up v.2 220 (vp_updL (v.2 220) 0 r9.toInt64))) ∨ (r = 1 ∧ TH eN ∧ u = (I, L))) (kA D cs base n ad) (fun q => base ≤ q)) 1 6 (fun q => base ≤ q) := by
  refine va_MetW (cc := cL_count) (maxL := 4) (ret := (some .int)) (hh := [(0, 9, 12, 21)]) (by decide) rfl ?_
  intro p e s m args below meth c s₁ Bd hml hv
  obtain ⟨rfl, hE, hR⟩ := hv
  have hx := Bd.exec
  have hb := Bd.bytes
  have hr := Bd.returns
  have hts := atoms_spec (ws := wL_count) Bd.pre
  have hown : s.vm.findClass RL = some m.cls := findClass_of_methodNamed Bd.named
  have hlocks := Bd.notSynchronized
  have hK := hE.K
  have hS : va_S (fun q => base ≤ q) s.heap s.heap [] := va_S.rf
  have hR : tR D vwCl base ad (tC (wP n ad cs) I L) s.heap := hR
  have hl := lv_entry ([.ref (ad 0), .int p0, .ref (ad 220)]) (n := 4) (Nat.le_of_ble_eq_true rfl)
  rw [lg_entry_eq]
  generalize (lg_sl ([.ref (ad 0), .int p0, .ref (ad 220)]) ++ List.replicate (4 - (lg_sl ([.ref (ad 0), .int p0, .ref (ad 220)])).length) Slot.unset).toArray = ls at hl ⊢
  have hl : lv_has ls 4 [(0, .ref (ad 0)), (1, .int p0), (2, .ref (ad 220))] := hl
  have htb : c.exceptionTable.toList = tableOf [(0, 9, 12, 21)] := vx_table (x := yL_count) Bd (hts _ List.mem_cons_self)
  refine lv_aload_n hx hb dL_count_0 rfl (lv_at hl 2 rfl) ?_
  refine lv_iconst (v := nI 0) hx hb dL_count_1 (by decide) ?_
  refine lv_aload_n hx hb dL_count_2 rfl (lv_at hl 0 rfl) ?_
  refine lv_iload_n hx hb dL_count_3 rfl (lv_at hl 1 rfl) ?_
  refine vx_calli (vx_runV (As := [.int p0]) (rest := [.int (nI 0), .ref (ad 220)]) ⟨hx, hb, hml, hown, hts⟩ hM (cwV 1 hts (kw_V k467 k468 k469 k1 k470) rfl rfl rfl (by decide +kernel) ⟨Nat.le_of_ble_eq_true rfl, Nat.le_of_ble_eq_true rfl⟩) (kB_preV hE hR hS 0 rfl rfl [.int p0]) rfl rfl hl.1 rfl (lv_room (Nat.le_of_ble_eq_true rfl)) dL_count_4 ⟨Nat.le_of_ble_eq_true rfl, Nat.le_of_ble_eq_true rfl⟩) hS (fun _ _ h => h) (fun _ h => h) (fun _ _ h => h) (fun E ce q9 u t H locs ht hv hu hB _ _ hS hce hcv hcl => ?_) (fun r u t H locs ht _ hw hB _ _ hS => ?_)
  · subst hu
    have hR : tR D vwCl base ad (tC (wP n ad cs) I L) H := by rw [← ht]; exact hB.2
    obtain rfl := hTH E hB.1
    refine vx_catch (name := "java/util/NoSuchElementException") hown [] ⟨0, 9, 12, 21⟩ [] htb (fun z hz => nomatch hz) (by decide) (by decide) (hts _ (List.mem_cons_of_mem _ k257)) (xW_use hE.2.2.2.2.2.2.2.2.1 _ (by simp [xW, eN])) hce hcv hcl ?_
    refine lv_astore_n (lv' := [(3, .ref q9), (0, .ref (ad 0)), (1, .int p0), (2, .ref (ad 220))]) hx hb dL_count_12 rfl hl (by decide) rfl (fun ls hl => ?_)
    refine lv_iconst (v := 1) hx hb dL_count_13 (by decide) ?_
    refine W.widen (k := 1) (n := 6) (Nat.le_of_ble_eq_true rfl) (Nat.le_of_ble_eq_true rfl) ?_
    exact W.iret (v := 1) hx hb hr (fun t ht hW => ⟨⟨_, (I, L), rfl, Or.inr (⟨rfl, hB.1, rfl⟩), by show tR _ _ _ _ _ t.heap; rw [ht]; exact hR⟩, hS.F ht⟩) hS.2.2 dL_count_14
  · have hR : tR D vwCl base ad (tC (wP n ad cs) u.1 u.2) H := by rw [← ht]; exact hB
    refine lv_i2l hx hb dL_count_7 rfl ?_
    refine tp_last hx hb hK hR hS 220 1 (fun _ _ => rfl) rfl 0 rfl (by omega) (by decide) dL_count_8 (fun H locs hR hS => ?_)
    refine lv_goto (tgt := 15) hx hb dL_count_9 (by decide) ?_
    refine lv_iconst (v := 0) hx hb dL_count_15 (by decide) ?_
    refine W.widen (k := 1) (n := 6) (Nat.le_of_ble_eq_true rfl) (Nat.le_of_ble_eq_true rfl) ?_
    exact W.iret (v := 0) hx hb hr (fun t ht hW => ⟨⟨_, (u.1, va_up u.2 220 (vp_updL (u.2 220) 0 r.toInt64)), rfl, Or.inl ⟨rfl, r, u, hw, rfl⟩, by show tR _ _ _ _ _ t.heap; rw [ht]; exact hR⟩, hS.F ht⟩) hS.2.2 dL_count_16
end W1
