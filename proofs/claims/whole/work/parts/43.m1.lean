section M1
variable {l : Launch} {D : va_G} {cs : Nat → ClassId} {base : Nat} {sa : Nat → Nat} {n : Nat} {ad : Nat → Nat}
set_option maxHeartbeats 4000000 in
set_option maxRecDepth 100000 in
theorem mX3_in (I : tI) (L : tL) (v a b : Int32)  : Met l yX3_in wX3_in ({ frames := 0, cells := 0, slots := 0, locals := 0 }) (va_Pc [.int v, .int a, .int b] (kB D cs base sa n ad I L)) (va_Qi (fun (r : Int32) (u : tI × tL) => bZ (a ≤ v ∧ v ≤ b) r ∧ u = (I, L)) (kA D cs base n ad) (fun q => base ≤ q)) 0 0 (fun q => base ≤ q) := by
  refine Met.ofW (cc := cX3_in) (maxL := 3) (ret := (some .boolean)) (by decide) rfl ?_
  intro p e s m args below meth c s₁ Bd hml hv
  obtain ⟨rfl, hE, hR⟩ := hv
  have hx := Bd.exec
  have hb := Bd.bytes
  have hr := Bd.returns
  have hts := atoms_spec (ws := wX3_in) Bd.pre
  have hown : s.vm.findClass RX3 = some m.cls := findClass_of_methodNamed Bd.named
  have hlocks := Bd.notSynchronized
  have hK := hE.K
  have hS : va_S (fun q => base ≤ q) s.heap s.heap [] := va_S.rf
  have hR : tR D vwCl base ad (tC (wP n ad cs) I L) s.heap := hR
  have hl := lv_entry ([.int v, .int a, .int b]) (n := 3) (Nat.le_of_ble_eq_true rfl)
  rw [lg_entry_eq]
  generalize (lg_sl ([.int v, .int a, .int b]) ++ List.replicate (3 - (lg_sl ([.int v, .int a, .int b])).length) Slot.unset).toArray = ls at hl ⊢
  have hl : lv_has ls 3 [(0, .int v), (1, .int a), (2, .int b)] := hl
  refine lv_iload_n hx hb dX3_in_0 rfl (lv_at hl 0 rfl) ?_
  refine lv_iload_n hx hb dX3_in_1 rfl (lv_at hl 1 rfl) ?_
  refine lv_icmp_lt (tgt := 14) hx hb dX3_in_2 (by decide) (fun c1 => ?_) (fun c1 => ?_)
  · refine lv_iconst (v := 0) hx hb dX3_in_14 (by decide) ?_
    exact W.zret (v := 0) hx hb hr rfl (fun t ht hW => ⟨⟨_, (I, L), rfl, ⟨bZ0 (fun z => i_lt_n c1 z.1), rfl⟩, by show tR _ _ _ _ _ t.heap; rw [ht]; exact hR⟩, hS.F ht⟩) hS.2.2 dX3_in_15
  · refine lv_iload_n hx hb dX3_in_5 rfl (lv_at hl 0 rfl) ?_
    refine lv_iload_n hx hb dX3_in_6 rfl (lv_at hl 2 rfl) ?_
    refine lv_icmp_gt (tgt := 14) hx hb dX3_in_7 (by decide) (fun c2 => ?_) (fun c2 => ?_)
    · refine lv_iconst (v := 0) hx hb dX3_in_14 (by decide) ?_
      exact W.zret (v := 0) hx hb hr rfl (fun t ht hW => ⟨⟨_, (I, L), rfl, ⟨bZ0 (fun z => i_lt_n c2 z.2), rfl⟩, by show tR _ _ _ _ _ t.heap; rw [ht]; exact hR⟩, hS.F ht⟩) hS.2.2 dX3_in_15
    · refine lv_iconst (v := 1) hx hb dX3_in_10 (by decide) ?_
      refine lv_goto (tgt := 15) hx hb dX3_in_11 (by decide) ?_
      exact W.zret (v := 1) hx hb hr rfl (fun t ht hW => ⟨⟨_, (I, L), rfl, ⟨bZ1 ⟨i_nlt c1, i_nlt c2⟩, rfl⟩, by show tR _ _ _ _ _ t.heap; rw [ht]; exact hR⟩, hS.F ht⟩) hS.2.2 dX3_in_15
set_option maxHeartbeats 4000000 in
set_option maxRecDepth 100000 in
theorem mX3_thrown (I : tI) (L : tL)   : Met l yX3_thrown wX3_thrown ({ frames := 0, cells := 0, slots := 0, locals := 0 }) (va_Pc [.ref (ad 200)] (kB D cs base sa n ad I L)) (va_Qi (fun (r : Int32) (u : tI × tL) => r = I 200 0 ∧ u = (I, L)) (kA D cs base n ad) (fun q => base ≤ q)) 0 0 (fun q => base ≤ q) := by
  refine Met.ofW (cc := cX3_thrown) (maxL := 1) (ret := (some .int)) (by decide) rfl ?_
  intro p e s m args below meth c s₁ Bd hml hv
  obtain ⟨rfl, hE, hR⟩ := hv
  have hx := Bd.exec
  have hb := Bd.bytes
  have hr := Bd.returns
  have hts := atoms_spec (ws := wX3_thrown) Bd.pre
  have hown : s.vm.findClass RX3 = some m.cls := findClass_of_methodNamed Bd.named
  have hlocks := Bd.notSynchronized
  have hK := hE.K
  have hS : va_S (fun q => base ≤ q) s.heap s.heap [] := va_S.rf
  have hR : tR D vwCl base ad (tC (wP n ad cs) I L) s.heap := hR
  have hl := lv_entry ([.ref (ad 200)]) (n := 1) (Nat.le_of_ble_eq_true rfl)
  rw [lg_entry_eq]
  generalize (lg_sl ([.ref (ad 200)]) ++ List.replicate (1 - (lg_sl ([.ref (ad 200)])).length) Slot.unset).toArray = ls at hl ⊢
  have hl : lv_has ls 1 [(0, .ref (ad 200))] := hl
  refine lv_aload_n hx hb dX3_thrown_0 rfl (lv_at hl 0 rfl) ?_
  refine tb_get hx hb hts (fun w h => List.mem_cons_of_mem _ (inX3 w h)) hown hK hR 200 rfl rfl 0 (by decide) (hts _ (List.mem_cons_of_mem _ k478)) (fun _ h => h) rfl dX3_thrown_1 ?_
  exact W.iret (v := I 200 0) hx hb hr (fun t ht hW => ⟨⟨_, (I, L), rfl, ⟨rfl, rfl⟩, by show tR _ _ _ _ _ t.heap; rw [ht]; exact hR⟩, hS.F ht⟩) hS.2.2 dX3_thrown_4
set_option maxHeartbeats 4000000 in
set_option maxRecDepth 100000 in
theorem mX3_throwing (I : tI) (L : tL) (x1 x2 x3 : Int32) {P1 P2 P3 : Prop} (h1 : bZ P1 x1) (h2 : bZ P2 x2) (h3 : bZ P3 x3) : Met l yX3_throwing wX3_throwing ({ frames := 0, cells := 0, slots := 0, locals := 0 }) (va_Pc [.ref (ad 200), .int x1, .int x2, .int x3] (kB D cs base sa n ad I L)) (va_Qi (fun (r : Int32) (u : tI × tL) => (P1 ∧ r = 1 ∧ u = (gT I 1, L)) ∨ (¬ P1 ∧ P2 ∧ r = 1 ∧ u = (gT I 2, L)) ∨ (¬ P1 ∧ ¬ P2 ∧ P3 ∧ r = 1 ∧ u = (gT I 3, L)) ∨ (¬ P1 ∧ ¬ P2 ∧ ¬ P3 ∧ r = 0 ∧ u = (gT I 0, L))) (kA D cs base n ad) (fun q => base ≤ q)) 0 0 (fun q => base ≤ q) := by
  refine Met.ofW (cc := cX3_throwing) (maxL := 4) (ret := (some .boolean)) (by decide) rfl ?_
  intro p e s m args below meth c s₁ Bd hml hv
  obtain ⟨rfl, hE, hR⟩ := hv
  have hx := Bd.exec
  have hb := Bd.bytes
  have hr := Bd.returns
  have hts := atoms_spec (ws := wX3_throwing) Bd.pre
  have hown : s.vm.findClass RX3 = some m.cls := findClass_of_methodNamed Bd.named
  have hlocks := Bd.notSynchronized
  have hK := hE.K
  have hS : va_S (fun q => base ≤ q) s.heap s.heap [] := va_S.rf
  have hR : tR D vwCl base ad (tC (wP n ad cs) I L) s.heap := hR
  have hl := lv_entry ([.ref (ad 200), .int x1, .int x2, .int x3]) (n := 4) (Nat.le_of_ble_eq_true rfl)
  rw [lg_entry_eq]
  generalize (lg_sl ([.ref (ad 200), .int x1, .int x2, .int x3]) ++ List.replicate (4 - (lg_sl ([.ref (ad 200), .int x1, .int x2, .int x3])).length) Slot.unset).toArray = ls at hl ⊢
  have hl : lv_has ls 4 [(0, .ref (ad 200)), (1, .int x1), (2, .int x2), (3, .int x3)] := hl
  refine lv_aload_n hx hb dX3_throwing_0 rfl (lv_at hl 0 rfl) ?_
  refine lv_iload_n hx hb dX3_throwing_1 rfl (lv_at hl 1 rfl) ?_
  refine lv_if_eq (tgt := 9) hx hb dX3_throwing_2 (by decide) (fun c1 => ?_) (fun c1 => ?_)
  · refine lv_iload_n hx hb dX3_throwing_9 rfl (lv_at hl 2 rfl) ?_
    refine lv_if_eq (tgt := 17) hx hb dX3_throwing_10 (by decide) (fun c2 => ?_) (fun c2 => ?_)
    · refine lv_iload_n hx hb dX3_throwing_17 rfl (lv_at hl 3 rfl) ?_
      refine lv_if_eq (tgt := 25) hx hb dX3_throwing_18 (by decide) (fun c3 => ?_) (fun c3 => ?_)
      · refine lv_iconst (v := 0) hx hb dX3_throwing_25 (by decide) ?_
        refine tp_put hx hb hts (fun w h => List.mem_cons_of_mem _ (inX3 w h)) tyX3 tyX3_ok nmX3 hown hK hR hS 200 (fun r => [.int (r 0), .int (r 1), .int (r 2), .int (r 3), .ref (ad 201), .ref (ad 202), .ref (ad 203), .ref (ad 204), .int (r 8), .ref (ad 205), .ref (ad 206), .ref (ad 207), .ref (ad 208), .int (r 13), .int (r 14), .int (r 15), .int (r 16), .int (r 17), .ref (ad 209), .ref (ad 210), .ref (ad 211), .int (r 21), .ref (ad 212), .ref (ad 213), .ref (ad 214), .ref (ad 215), .ref (ad 216)]) (fun _ _ => rfl) rfl 0 (by decide) (hts _ (List.mem_cons_of_mem _ k478)) (fun _ h => h) rfl (ty := .int) rfl rfl rfl (by simp) (fun _ => rfl) dX3_throwing_26 (fun H locs hR hS => ?_)
        have hR : tR D vwCl base ad (tC (wP n ad cs) (gT I 0) L) H := hR
        refine lv_aload_n hx hb dX3_throwing_29 rfl (lv_at hl 0 rfl) ?_
        refine tb_get hx hb hts (fun w h => List.mem_cons_of_mem _ (inX3 w h)) hown hK hR 200 rfl rfl 0 (by decide) (hts _ (List.mem_cons_of_mem _ k478)) (fun _ h => h) rfl dX3_throwing_30 ?_
        rw [show (gT I 0) 200 0 = 0 from gT_0 I 0]
        refine lv_if_le (tgt := 40) hx hb dX3_throwing_33 (by decide) (fun c4 => ?_) (fun c4 => ?_)
        · refine lv_iconst (v := 0) hx hb dX3_throwing_40 (by decide) ?_
          exact W.zret (v := 0) hx hb hr rfl (fun t ht hW => ⟨⟨_, (gT I 0, L), rfl, Or.inr (Or.inr (Or.inr ⟨h1.f c1, h2.f c2, h3.f c3, rfl, rfl⟩)), by show tR _ _ _ _ _ t.heap; rw [ht]; exact hR⟩, hS.F ht⟩) hS.2.2 dX3_throwing_41
        · exact absurd (by decide) c4
      · refine lv_iconst (v := 3) hx hb dX3_throwing_21 (by decide) ?_
        refine lv_goto (tgt := 26) hx hb dX3_throwing_22 (by decide) ?_
        refine tp_put hx hb hts (fun w h => List.mem_cons_of_mem _ (inX3 w h)) tyX3 tyX3_ok nmX3 hown hK hR hS 200 (fun r => [.int (r 0), .int (r 1), .int (r 2), .int (r 3), .ref (ad 201), .ref (ad 202), .ref (ad 203), .ref (ad 204), .int (r 8), .ref (ad 205), .ref (ad 206), .ref (ad 207), .ref (ad 208), .int (r 13), .int (r 14), .int (r 15), .int (r 16), .int (r 17), .ref (ad 209), .ref (ad 210), .ref (ad 211), .int (r 21), .ref (ad 212), .ref (ad 213), .ref (ad 214), .ref (ad 215), .ref (ad 216)]) (fun _ _ => rfl) rfl 0 (by decide) (hts _ (List.mem_cons_of_mem _ k478)) (fun _ h => h) rfl (ty := .int) rfl rfl rfl (by simp) (fun _ => rfl) dX3_throwing_26 (fun H locs hR hS => ?_)
        have hR : tR D vwCl base ad (tC (wP n ad cs) (gT I 3) L) H := hR
        refine lv_aload_n hx hb dX3_throwing_29 rfl (lv_at hl 0 rfl) ?_
        refine tb_get hx hb hts (fun w h => List.mem_cons_of_mem _ (inX3 w h)) hown hK hR 200 rfl rfl 0 (by decide) (hts _ (List.mem_cons_of_mem _ k478)) (fun _ h => h) rfl dX3_throwing_30 ?_
        rw [show (gT I 3) 200 0 = 3 from gT_0 I 3]
        refine lv_if_le (tgt := 40) hx hb dX3_throwing_33 (by decide) (fun c5 => ?_) (fun c5 => ?_)
        · exact absurd c5 (by decide)
        · refine lv_iconst (v := 1) hx hb dX3_throwing_36 (by decide) ?_
          refine lv_goto (tgt := 41) hx hb dX3_throwing_37 (by decide) ?_
          exact W.zret (v := 1) hx hb hr rfl (fun t ht hW => ⟨⟨_, (gT I 3, L), rfl, Or.inr (Or.inr (Or.inl ⟨h1.f c1, h2.f c2, h3.t c3, rfl, rfl⟩)), by show tR _ _ _ _ _ t.heap; rw [ht]; exact hR⟩, hS.F ht⟩) hS.2.2 dX3_throwing_41
    · refine lv_iconst (v := 2) hx hb dX3_throwing_13 (by decide) ?_
      refine lv_goto (tgt := 26) hx hb dX3_throwing_14 (by decide) ?_
      refine tp_put hx hb hts (fun w h => List.mem_cons_of_mem _ (inX3 w h)) tyX3 tyX3_ok nmX3 hown hK hR hS 200 (fun r => [.int (r 0), .int (r 1), .int (r 2), .int (r 3), .ref (ad 201), .ref (ad 202), .ref (ad 203), .ref (ad 204), .int (r 8), .ref (ad 205), .ref (ad 206), .ref (ad 207), .ref (ad 208), .int (r 13), .int (r 14), .int (r 15), .int (r 16), .int (r 17), .ref (ad 209), .ref (ad 210), .ref (ad 211), .int (r 21), .ref (ad 212), .ref (ad 213), .ref (ad 214), .ref (ad 215), .ref (ad 216)]) (fun _ _ => rfl) rfl 0 (by decide) (hts _ (List.mem_cons_of_mem _ k478)) (fun _ h => h) rfl (ty := .int) rfl rfl rfl (by simp) (fun _ => rfl) dX3_throwing_26 (fun H locs hR hS => ?_)
      have hR : tR D vwCl base ad (tC (wP n ad cs) (gT I 2) L) H := hR
      refine lv_aload_n hx hb dX3_throwing_29 rfl (lv_at hl 0 rfl) ?_
      refine tb_get hx hb hts (fun w h => List.mem_cons_of_mem _ (inX3 w h)) hown hK hR 200 rfl rfl 0 (by decide) (hts _ (List.mem_cons_of_mem _ k478)) (fun _ h => h) rfl dX3_throwing_30 ?_
      rw [show (gT I 2) 200 0 = 2 from gT_0 I 2]
      refine lv_if_le (tgt := 40) hx hb dX3_throwing_33 (by decide) (fun c6 => ?_) (fun c6 => ?_)
      · exact absurd c6 (by decide)
      · refine lv_iconst (v := 1) hx hb dX3_throwing_36 (by decide) ?_
        refine lv_goto (tgt := 41) hx hb dX3_throwing_37 (by decide) ?_
        exact W.zret (v := 1) hx hb hr rfl (fun t ht hW => ⟨⟨_, (gT I 2, L), rfl, Or.inr (Or.inl ⟨h1.f c1, h2.t c2, rfl, rfl⟩), by show tR _ _ _ _ _ t.heap; rw [ht]; exact hR⟩, hS.F ht⟩) hS.2.2 dX3_throwing_41
  · refine lv_iconst (v := 1) hx hb dX3_throwing_5 (by decide) ?_
    refine lv_goto (tgt := 26) hx hb dX3_throwing_6 (by decide) ?_
    refine tp_put hx hb hts (fun w h => List.mem_cons_of_mem _ (inX3 w h)) tyX3 tyX3_ok nmX3 hown hK hR hS 200 (fun r => [.int (r 0), .int (r 1), .int (r 2), .int (r 3), .ref (ad 201), .ref (ad 202), .ref (ad 203), .ref (ad 204), .int (r 8), .ref (ad 205), .ref (ad 206), .ref (ad 207), .ref (ad 208), .int (r 13), .int (r 14), .int (r 15), .int (r 16), .int (r 17), .ref (ad 209), .ref (ad 210), .ref (ad 211), .int (r 21), .ref (ad 212), .ref (ad 213), .ref (ad 214), .ref (ad 215), .ref (ad 216)]) (fun _ _ => rfl) rfl 0 (by decide) (hts _ (List.mem_cons_of_mem _ k478)) (fun _ h => h) rfl (ty := .int) rfl rfl rfl (by simp) (fun _ => rfl) dX3_throwing_26 (fun H locs hR hS => ?_)
    have hR : tR D vwCl base ad (tC (wP n ad cs) (gT I 1) L) H := hR
    refine lv_aload_n hx hb dX3_throwing_29 rfl (lv_at hl 0 rfl) ?_
    refine tb_get hx hb hts (fun w h => List.mem_cons_of_mem _ (inX3 w h)) hown hK hR 200 rfl rfl 0 (by decide) (hts _ (List.mem_cons_of_mem _ k478)) (fun _ h => h) rfl dX3_throwing_30 ?_
    rw [show (gT I 1) 200 0 = 1 from gT_0 I 1]
    refine lv_if_le (tgt := 40) hx hb dX3_throwing_33 (by decide) (fun c7 => ?_) (fun c7 => ?_)
    · exact absurd c7 (by decide)
    · refine lv_iconst (v := 1) hx hb dX3_throwing_36 (by decide) ?_
      refine lv_goto (tgt := 41) hx hb dX3_throwing_37 (by decide) ?_
      exact W.zret (v := 1) hx hb hr rfl (fun t ht hW => ⟨⟨_, (gT I 1, L), rfl, Or.inl ⟨h1.t c1, rfl, rfl⟩, by show tR _ _ _ _ _ t.heap; rw [ht]; exact hR⟩, hS.F ht⟩) hS.2.2 dX3_throwing_41
set_option maxHeartbeats 4000000 in
set_option maxRecDepth 100000 in
theorem mX3_gone (I : tI) (L : tL)   : Met l yX3_gone wX3_gone ({ frames := 0, cells := 0, slots := 0, locals := 0 }) (va_Pc [.ref (ad 200)] (kB D cs base sa n ad I L)) (va_Qv (fun (u : tI × tL) => u = (gG I, L)) (kA D cs base n ad) (fun q => base ≤ q)) 0 0 (fun q => base ≤ q) := by
  refine Met.ofW (cc := cX3_gone) (maxL := 1) (ret := none) (by decide) rfl ?_
  intro p e s m args below meth c s₁ Bd hml hv
  obtain ⟨rfl, hE, hR⟩ := hv
  have hx := Bd.exec
  have hb := Bd.bytes
  have hr := Bd.returns
  have hts := atoms_spec (ws := wX3_gone) Bd.pre
  have hown : s.vm.findClass RX3 = some m.cls := findClass_of_methodNamed Bd.named
  have hlocks := Bd.notSynchronized
  have hK := hE.K
  have hS : va_S (fun q => base ≤ q) s.heap s.heap [] := va_S.rf
  have hR : tR D vwCl base ad (tC (wP n ad cs) I L) s.heap := hR
  have hl := lv_entry ([.ref (ad 200)]) (n := 1) (Nat.le_of_ble_eq_true rfl)
  rw [lg_entry_eq]
  generalize (lg_sl ([.ref (ad 200)]) ++ List.replicate (1 - (lg_sl ([.ref (ad 200)])).length) Slot.unset).toArray = ls at hl ⊢
  have hl : lv_has ls 1 [(0, .ref (ad 200))] := hl
  refine lv_aload_n hx hb dX3_gone_0 rfl (lv_at hl 0 rfl) ?_
  refine lv_iconst (v := 0) hx hb dX3_gone_1 (by decide) ?_
  refine tp_put hx hb hts (fun w h => List.mem_cons_of_mem _ (inX3 w h)) tyX3 tyX3_ok nmX3 hown hK hR hS 200 (fun r => [.int (r 0), .int (r 1), .int (r 2), .int (r 3), .ref (ad 201), .ref (ad 202), .ref (ad 203), .ref (ad 204), .int (r 8), .ref (ad 205), .ref (ad 206), .ref (ad 207), .ref (ad 208), .int (r 13), .int (r 14), .int (r 15), .int (r 16), .int (r 17), .ref (ad 209), .ref (ad 210), .ref (ad 211), .int (r 21), .ref (ad 212), .ref (ad 213), .ref (ad 214), .ref (ad 215), .ref (ad 216)]) (fun _ _ => rfl) rfl 15 (by decide) (hts _ (List.mem_cons_of_mem _ k493)) (fun _ h => h) rfl (ty := .boolean) rfl rfl rfl (by simp) (fun _ => rfl) dX3_gone_2 (fun H locs hR hS => ?_)
  refine lv_aload_n hx hb dX3_gone_5 rfl (lv_at hl 0 rfl) ?_
  refine lv_iconst (v := 0) hx hb dX3_gone_6 (by decide) ?_
  refine tp_put hx hb hts (fun w h => List.mem_cons_of_mem _ (inX3 w h)) tyX3 tyX3_ok nmX3 hown hK hR hS 200 (fun r => [.int (r 0), .int (r 1), .int (r 2), .int (r 3), .ref (ad 201), .ref (ad 202), .ref (ad 203), .ref (ad 204), .int (r 8), .ref (ad 205), .ref (ad 206), .ref (ad 207), .ref (ad 208), .int (r 13), .int (r 14), .int (r 15), .int (r 16), .int (r 17), .ref (ad 209), .ref (ad 210), .ref (ad 211), .int (r 21), .ref (ad 212), .ref (ad 213), .ref (ad 214), .ref (ad 215), .ref (ad 216)]) (fun _ _ => rfl) rfl 21 (by decide) (hts _ (List.mem_cons_of_mem _ k499)) (fun _ h => h) rfl (ty := .int) rfl rfl rfl (by simp) (fun _ => rfl) dX3_gone_7 (fun H locs hR hS => ?_)
  rw [bx_uu, va_up_self] at hR
  exact W.vret hx hb hr (fun t ht hW => ⟨⟨(gG I, L), rfl, rfl, by show tR _ _ _ _ _ t.heap; rw [ht]; exact hR⟩, hS.F ht⟩) hS.2.2 dX3_gone_10
set_option maxHeartbeats 4000000 in
set_option maxRecDepth 100000 in
theorem mX3_isDate (I : tI) (L : tL) (nd : Nat) (x : Int32) (hnd : I 200 3 = nI nd) (h8 : nd ≤ 8) : Met l yX3_isDate wX3_isDate ({ frames := 1, cells := 0, slots := 0, locals := 30 }) (va_Pc [.ref (ad 200), .int x] (kB D cs base sa n ad I L)) (va_Qi (fun (r : Int32) (u : tI × tL) => bZ (inN nd x) r ∧ u = (I, L)) (kA D cs base n ad) (fun q => base ≤ q)) 0 0 (fun q => base ≤ q) := by
  refine Met.ofW (cc := cX3_isDate) (maxL := 2) (ret := (some .boolean)) (by decide) rfl ?_
  intro p e s m args below meth c s₁ Bd hml hv
  obtain ⟨rfl, hE, hR⟩ := hv
  have hx := Bd.exec
  have hb := Bd.bytes
  have hr := Bd.returns
  have hts := atoms_spec (ws := wX3_isDate) Bd.pre
  have hown : s.vm.findClass RX3 = some m.cls := findClass_of_methodNamed Bd.named
  have hlocks := Bd.notSynchronized
  have hK := hE.K
  have hS : va_S (fun q => base ≤ q) s.heap s.heap [] := va_S.rf
  have hR : tR D vwCl base ad (tC (wP n ad cs) I L) s.heap := hR
  have hl := lv_entry ([.ref (ad 200), .int x]) (n := 2) (Nat.le_of_ble_eq_true rfl)
  rw [lg_entry_eq]
  generalize (lg_sl ([.ref (ad 200), .int x]) ++ List.replicate (2 - (lg_sl ([.ref (ad 200), .int x])).length) Slot.unset).toArray = ls at hl ⊢
  have hl : lv_has ls 2 [(0, .ref (ad 200)), (1, .int x)] := hl
  refine lv_iload_n hx hb dX3_isDate_0 rfl (lv_at hl 1 rfl) ?_
  refine lv_iconst (v := 0) hx hb dX3_isDate_1 (by decide) ?_
  refine lv_aload_n hx hb dX3_isDate_2 rfl (lv_at hl 0 rfl) ?_
  refine tb_get hx hb hts (fun w h => List.mem_cons_of_mem _ (inX3 w h)) hown hK hR 200 rfl rfl 3 (by decide) (hts _ (List.mem_cons_of_mem _ k481)) (fun _ h => h) rfl dX3_isDate_3 ?_
  rw [show I 200 3 = nI nd from hnd]
  refine lv_iconst (v := 1) hx hb dX3_isDate_6 (by decide) ?_
  refine lv_isub hx hb dX3_isDate_7 ?_
  refine kc_i (va_runS (As := [.int x, .int 0, .int ((nI nd) - 1)]) (rest := []) ⟨hx, hb, hml, hown, hts⟩ (mX3_in I L x 0 ((nI nd) - 1)) (va_cwS 3 hts (kw_S k568 k569 k5 k570) rfl rfl rfl (by decide +kernel) ⟨Nat.le_of_ble_eq_true rfl, Nat.le_of_ble_eq_true rfl⟩) (kB_pre hE hR hS [.int x, .int 0, .int ((nI nd) - 1)]) rfl rfl hl.1 rfl (lv_room (Nat.le_of_ble_eq_true rfl)) dX3_isDate_8 ⟨Nat.le_of_ble_eq_true rfl, Nat.le_of_ble_eq_true rfl⟩) hS (fun r u H locs hw hR hS => ?_)
  obtain ⟨q1, rfl⟩ := hw
  have hR : tR D vwCl base ad (tC (wP n ad cs) I L) H := hR
  have q1 : bZ (inN nd x) r := q1.iff (inN_iff (by omega))
  exact W.zret (v := r) hx hb hr (by rcases q1.nar with q | q <;> subst q <;> rfl) (fun t ht hW => ⟨⟨_, (I, L), rfl, ⟨q1, rfl⟩, by show tR _ _ _ _ _ t.heap; rw [ht]; exact hR⟩, hS.F ht⟩) hS.2.2 dX3_isDate_11
set_option maxHeartbeats 4000000 in
set_option maxRecDepth 100000 in
theorem mX3_hasYear (I : tI) (L : tL) {nd no : Nat} {f la : Nat → Nat} {ph : Nat → Int32} {w : Nat → Nat → Nat} {ea lt le mo : Nat → Nat} (x y : Int32) (hMs : cMs I nd no f la ph w ea lt le mo) (hwf : wfS nd no f la w ea lt le mo) : Met l yX3_hasYear wX3_hasYear ({ frames := 2, cells := 0, slots := 0, locals := 60 }) (va_Pc [.ref (ad 200), .int x, .int y] (kB D cs base sa n ad I L)) (va_Qi (fun (r : Int32) (u : tI × tL) => bZ (yOk nd f la x y) r ∧ u = (I, L)) (kA D cs base n ad) (fun q => base ≤ q)) 0 0 (fun q => base ≤ q) := by
  refine Met.ofW (cc := cX3_hasYear) (maxL := 3) (ret := (some .boolean)) (by decide) rfl ?_
  intro p e s m args below meth c s₁ Bd hml hv
  obtain ⟨rfl, hE, hR⟩ := hv
  have hx := Bd.exec
  have hb := Bd.bytes
  have hr := Bd.returns
  have hts := atoms_spec (ws := wX3_hasYear) Bd.pre
  have hown : s.vm.findClass RX3 = some m.cls := findClass_of_methodNamed Bd.named
  have hlocks := Bd.notSynchronized
  have hK := hE.K
  have hS : va_S (fun q => base ≤ q) s.heap s.heap [] := va_S.rf
  have hR : tR D vwCl base ad (tC (wP n ad cs) I L) s.heap := hR
  have hl := lv_entry ([.ref (ad 200), .int x, .int y]) (n := 3) (Nat.le_of_ble_eq_true rfl)
  rw [lg_entry_eq]
  generalize (lg_sl ([.ref (ad 200), .int x, .int y]) ++ List.replicate (3 - (lg_sl ([.ref (ad 200), .int x, .int y])).length) Slot.unset).toArray = ls at hl ⊢
  have hl : lv_has ls 3 [(0, .ref (ad 200)), (1, .int x), (2, .int y)] := hl
  obtain ⟨h_nd, h_no, h_d, h_o⟩ := id hwf
  refine lv_aload_n hx hb dX3_hasYear_0 rfl (lv_at hl 0 rfl) ?_
  refine lv_iload_n hx hb dX3_hasYear_1 rfl (lv_at hl 1 rfl) ?_
  refine kc_i (va_runV (As := [.int x]) (rest := []) ⟨hx, hb, hml, hown, hts⟩ (mX3_isDate I L nd x hMs.1 h_nd) (cwV 1 hts (kw_V k587 k589 ks28 k5 k590) rfl rfl rfl (by decide +kernel) ⟨Nat.le_of_ble_eq_true rfl, Nat.le_of_ble_eq_true rfl⟩) (kB_preV hE hR hS 200 rfl rfl [.int x]) rfl rfl hl.1 rfl (lv_room (Nat.le_of_ble_eq_true rfl)) dX3_hasYear_2 ⟨Nat.le_of_ble_eq_true rfl, Nat.le_of_ble_eq_true rfl⟩) hS (fun r u H locs hw hR hS => ?_)
  obtain ⟨hdt, rfl⟩ := hw
  have hR : tR D vwCl base ad (tC (wP n ad cs) I L) H := hR
  refine lv_if_eq (tgt := 31) hx hb dX3_hasYear_5 (by decide) (fun c1 => ?_) (fun c1 => ?_)
  · refine lv_iconst (v := 0) hx hb dX3_hasYear_31 (by decide) ?_
    exact W.zret (v := 0) hx hb hr rfl (fun t ht hW => ⟨⟨_, (I, L), rfl, ⟨bZ0 (fun z => hdt.f c1 z.1), rfl⟩, by show tR _ _ _ _ _ t.heap; rw [ht]; exact hR⟩, hS.F ht⟩) hS.2.2 dX3_hasYear_32
  · have hd0 := hdt.t c1
    obtain ⟨d, hd, rfl⟩ := id hd0
    obtain ⟨g1, g2, g3, g4⟩ := h_d d hd
    refine lv_iload_n hx hb dX3_hasYear_8 rfl (lv_at hl 2 rfl) ?_
    refine lv_aload_n hx hb dX3_hasYear_9 rfl (lv_at hl 0 rfl) ?_
    refine tb_get hx hb hts (fun w h => List.mem_cons_of_mem _ (inX3 w h)) hown hK hR 200 rfl rfl 4 (by decide) (hts _ (List.mem_cons_of_mem _ k482)) (fun _ h => h) rfl dX3_hasYear_10 ?_
    refine lv_iload_n hx hb dX3_hasYear_13 rfl (lv_at hl 1 rfl) ?_
    refine tp_iald hx hb hK hR 201 0 (fun _ _ => rfl) rfl d rfl (by omega) (by decide) dX3_hasYear_14 ?_
    rw [show I 201 d = nI (f d) from (hMs.2.2.1 d (by omega)).1]
    refine lv_aload_n hx hb dX3_hasYear_15 rfl (lv_at hl 0 rfl) ?_
    refine tb_get hx hb hts (fun w h => List.mem_cons_of_mem _ (inX3 w h)) hown hK hR 200 rfl rfl 5 (by decide) (hts _ (List.mem_cons_of_mem _ k483)) (fun _ h => h) rfl dX3_hasYear_16 ?_
    refine lv_iload_n hx hb dX3_hasYear_19 rfl (lv_at hl 1 rfl) ?_
    refine tp_iald hx hb hK hR 202 0 (fun _ _ => rfl) rfl d rfl (by omega) (by decide) dX3_hasYear_20 ?_
    rw [show I 202 d = nI (la d) from (hMs.2.2.1 d (by omega)).2.1]
    refine kc_i (va_runS (As := [.int y, .int (nI (f d)), .int (nI (la d))]) (rest := []) ⟨hx, hb, hml, hown, hts⟩ (mX3_in I L y (nI (f d)) (nI (la d))) (va_cwS 3 hts (kw_S k568 k569 k5 k570) rfl rfl rfl (by decide +kernel) ⟨Nat.le_of_ble_eq_true rfl, Nat.le_of_ble_eq_true rfl⟩) (kB_pre hE hR hS [.int y, .int (nI (f d)), .int (nI (la d))]) rfl rfl hl.1 rfl (lv_room (Nat.le_of_ble_eq_true rfl)) dX3_hasYear_21 ⟨Nat.le_of_ble_eq_true rfl, Nat.le_of_ble_eq_true rfl⟩) hS (fun r u H locs hw hR hS => ?_)
    obtain ⟨q2, rfl⟩ := hw
    have hR : tR D vwCl base ad (tC (wP n ad cs) I L) H := hR
    have q2 : bZ (yOk nd f la (nI d) y) r := q2.iff (⟨fun q => yOk_of (by omega) (fun z => i_lt_n z q.1) q.2, fun z => Classical.byContradiction (fun q => (Classical.em (y < nI (f d))).elim (fun q1 => yOk_lo (by omega) q1 z) (fun q1 => (Classical.em (y ≤ nI (la d))).elim (fun q2 => q ⟨i_nlt q1, q2⟩) (fun q2 => yOk_hi (by omega) q2 z)))⟩)
    refine lv_if_eq (tgt := 31) hx hb dX3_hasYear_24 (by decide) (fun c3 => ?_) (fun c3 => ?_)
    · refine lv_iconst (v := 0) hx hb dX3_hasYear_31 (by decide) ?_
      exact W.zret (v := 0) hx hb hr rfl (fun t ht hW => ⟨⟨_, (I, L), rfl, ⟨bZ0 (q2.f c3), rfl⟩, by show tR _ _ _ _ _ t.heap; rw [ht]; exact hR⟩, hS.F ht⟩) hS.2.2 dX3_hasYear_32
    · refine lv_iconst (v := 1) hx hb dX3_hasYear_27 (by decide) ?_
      refine lv_goto (tgt := 32) hx hb dX3_hasYear_28 (by decide) ?_
      exact W.zret (v := 1) hx hb hr rfl (fun t ht hW => ⟨⟨_, (I, L), rfl, ⟨bZ1 (q2.t c3), rfl⟩, by show tR _ _ _ _ _ t.heap; rw [ht]; exact hR⟩, hS.F ht⟩) hS.2.2 dX3_hasYear_32
set_option maxHeartbeats 4000000 in
set_option maxRecDepth 100000 in
theorem mX3_weightOf (I : tI) (L : tL) {nd no : Nat} {f la : Nat → Nat} {ph : Nat → Int32} {w : Nat → Nat → Nat} {ea lt le mo : Nat → Nat} (d y : Nat) (hMs : cMs I nd no f la ph w ea lt le mo) (hwf : wfS nd no f la w ea lt le mo) (hd : d < nd) (hy1 : f d ≤ y) (hy2 : y - f d < 64) : Met l yX3_weightOf wX3_weightOf ({ frames := 0, cells := 0, slots := 0, locals := 0 }) (va_Pc [.ref (ad 200), .int (nI d), .int (nI y)] (kB D cs base sa n ad I L)) (va_Qi (fun (r : Int32) (u : tI × tL) => r = nI (w d (y - f d)) ∧ u = (I, L)) (kA D cs base n ad) (fun q => base ≤ q)) 0 0 (fun q => base ≤ q) := by
  refine Met.ofW (cc := cX3_weightOf) (maxL := 3) (ret := (some .int)) (by decide) rfl ?_
  intro p e s m args below meth c s₁ Bd hml hv
  obtain ⟨rfl, hE, hR⟩ := hv
  have hx := Bd.exec
  have hb := Bd.bytes
  have hr := Bd.returns
  have hts := atoms_spec (ws := wX3_weightOf) Bd.pre
  have hown : s.vm.findClass RX3 = some m.cls := findClass_of_methodNamed Bd.named
  have hlocks := Bd.notSynchronized
  have hK := hE.K
  have hS : va_S (fun q => base ≤ q) s.heap s.heap [] := va_S.rf
  have hR : tR D vwCl base ad (tC (wP n ad cs) I L) s.heap := hR
  have hl := lv_entry ([.ref (ad 200), .int (nI d), .int (nI y)]) (n := 3) (Nat.le_of_ble_eq_true rfl)
  rw [lg_entry_eq]
  generalize (lg_sl ([.ref (ad 200), .int (nI d), .int (nI y)]) ++ List.replicate (3 - (lg_sl ([.ref (ad 200), .int (nI d), .int (nI y)])).length) Slot.unset).toArray = ls at hl ⊢
  have hl : lv_has ls 3 [(0, .ref (ad 200)), (1, .int (nI d)), (2, .int (nI y))] := hl
  obtain ⟨h_nd, h_no, h_d, h_o⟩ := id hwf
  refine lv_aload_n hx hb dX3_weightOf_0 rfl (lv_at hl 0 rfl) ?_
  refine tb_get hx hb hts (fun w h => List.mem_cons_of_mem _ (inX3 w h)) hown hK hR 200 rfl rfl 6 (by decide) (hts _ (List.mem_cons_of_mem _ k484)) (fun _ h => h) rfl dX3_weightOf_1 ?_
  refine lv_bipush (v := nI 64) hx hb dX3_weightOf_4 (by decide) ?_
  refine lv_iload_n hx hb dX3_weightOf_6 rfl (lv_at hl 1 rfl) ?_
  refine lv_imul hx hb dX3_weightOf_7 ?_
  rw [pk_mul]
  refine lv_iload_n hx hb dX3_weightOf_8 rfl (lv_at hl 2 rfl) ?_
  refine lv_iadd hx hb dX3_weightOf_9 ?_
  rw [nI_add]
  refine lv_aload_n hx hb dX3_weightOf_10 rfl (lv_at hl 0 rfl) ?_
  refine tb_get hx hb hts (fun w h => List.mem_cons_of_mem _ (inX3 w h)) hown hK hR 200 rfl rfl 4 (by decide) (hts _ (List.mem_cons_of_mem _ k482)) (fun _ h => h) rfl dX3_weightOf_11 ?_
  refine lv_iload_n hx hb dX3_weightOf_14 rfl (lv_at hl 1 rfl) ?_
  refine tp_iald hx hb hK hR 201 0 (fun _ _ => rfl) rfl d rfl (by omega) (by decide) dX3_weightOf_15 ?_
  rw [show I 201 d = nI (f d) from (hMs.2.2.1 d (by omega)).1]
  refine lv_isub hx hb dX3_weightOf_16 ?_
  rw [pk_sub (by omega), show 64 * d + y - f d = 64 * d + (y - f d) by omega]
  refine tp_iald hx hb hK hR 203 0 (fun _ _ => rfl) rfl (64 * d + (y - f d)) rfl (by omega) (by decide) dX3_weightOf_17 ?_
  rw [show I 203 (64 * d + (y - f d)) = nI (w d (y - f d)) from (hMs.2.2.1 d hd).2.2.2 _ hy2]
  exact W.iret (v := nI (w d (y - f d))) hx hb hr (fun t ht hW => ⟨⟨_, (I, L), rfl, ⟨rfl, rfl⟩, by show tR _ _ _ _ _ t.heap; rw [ht]; exact hR⟩, hS.F ht⟩) hS.2.2 dX3_weightOf_18
set_option maxHeartbeats 4000000 in
set_option maxRecDepth 100000 in
theorem mX3_rowAt (I : tI) (L : tL) (ch k : Nat)  : Met l yX3_rowAt wX3_rowAt ({ frames := 0, cells := 0, slots := 0, locals := 0 }) (va_Pc [.ref (ad 200), .int (nI ch), .int (nI k)] (kB D cs base sa n ad I L)) (va_Qi (fun (r : Int32) (u : tI × tL) => r = nI (8 * (60 * ch + k)) ∧ u = (I, L)) (kA D cs base n ad) (fun q => base ≤ q)) 0 0 (fun q => base ≤ q) := by
  refine Met.ofW (cc := cX3_rowAt) (maxL := 3) (ret := (some .int)) (by decide) rfl ?_
  intro p e s m args below meth c s₁ Bd hml hv
  obtain ⟨rfl, hE, hR⟩ := hv
  have hx := Bd.exec
  have hb := Bd.bytes
  have hr := Bd.returns
  have hts := atoms_spec (ws := wX3_rowAt) Bd.pre
  have hown : s.vm.findClass RX3 = some m.cls := findClass_of_methodNamed Bd.named
  have hlocks := Bd.notSynchronized
  have hK := hE.K
  have hS : va_S (fun q => base ≤ q) s.heap s.heap [] := va_S.rf
  have hR : tR D vwCl base ad (tC (wP n ad cs) I L) s.heap := hR
  have hl := lv_entry ([.ref (ad 200), .int (nI ch), .int (nI k)]) (n := 3) (Nat.le_of_ble_eq_true rfl)
  rw [lg_entry_eq]
  generalize (lg_sl ([.ref (ad 200), .int (nI ch), .int (nI k)]) ++ List.replicate (3 - (lg_sl ([.ref (ad 200), .int (nI ch), .int (nI k)])).length) Slot.unset).toArray = ls at hl ⊢
  have hl : lv_has ls 3 [(0, .ref (ad 200)), (1, .int (nI ch)), (2, .int (nI k))] := hl
  refine lv_bipush (v := nI 8) hx hb dX3_rowAt_0 (by decide) ?_
  refine lv_bipush (v := nI 60) hx hb dX3_rowAt_2 (by decide) ?_
  refine lv_iload_n hx hb dX3_rowAt_4 rfl (lv_at hl 1 rfl) ?_
  refine lv_imul hx hb dX3_rowAt_5 ?_
  rw [pk_mul]
  refine lv_iload_n hx hb dX3_rowAt_6 rfl (lv_at hl 2 rfl) ?_
  refine lv_iadd hx hb dX3_rowAt_7 ?_
  rw [nI_add]
  refine lv_imul hx hb dX3_rowAt_8 ?_
  rw [pk_mul]
  exact W.iret (v := nI (8 * (60 * ch + k))) hx hb hr (fun t ht hW => ⟨⟨_, (I, L), rfl, ⟨rfl, rfl⟩, by show tR _ _ _ _ _ t.heap; rw [ht]; exact hR⟩, hS.F ht⟩) hS.2.2 dX3_rowAt_9
set_option maxHeartbeats 4000000 in
set_option maxRecDepth 100000 in
theorem mX3_isKept (I : tI) (L : tL) (x : Nat) {bu ev sd sv : Nat} {se : Int32} (hMf : cMf I n bu ev sd sv se) (hx20 : x < 2 ^ 20) : Met l yX3_isKept wX3_isKept ({ frames := 0, cells := 0, slots := 0, locals := 0 }) (va_Pc [.ref (ad 200), .int (nI x)] (kB D cs base sa n ad I L)) (va_Qi (fun (r : Int32) (u : tI × tL) => r = nI (kN bu ev x) ∧ u = (I, L)) (kA D cs base n ad) (fun q => base ≤ q)) 0 0 (fun q => base ≤ q) := by
  refine Met.ofW (cc := cX3_isKept) (maxL := 2) (ret := (some .boolean)) (by decide) rfl ?_
  intro p e s m args below meth c s₁ Bd hml hv
  obtain ⟨rfl, hE, hR⟩ := hv
  have hx := Bd.exec
  have hb := Bd.bytes
  have hr := Bd.returns
  have hts := atoms_spec (ws := wX3_isKept) Bd.pre
  have hown : s.vm.findClass RX3 = some m.cls := findClass_of_methodNamed Bd.named
  have hlocks := Bd.notSynchronized
  have hK := hE.K
  have hS : va_S (fun q => base ≤ q) s.heap s.heap [] := va_S.rf
  have hR : tR D vwCl base ad (tC (wP n ad cs) I L) s.heap := hR
  have hl := lv_entry ([.ref (ad 200), .int (nI x)]) (n := 2) (Nat.le_of_ble_eq_true rfl)
  rw [lg_entry_eq]
  generalize (lg_sl ([.ref (ad 200), .int (nI x)]) ++ List.replicate (2 - (lg_sl ([.ref (ad 200), .int (nI x)])).length) Slot.unset).toArray = ls at hl ⊢
  have hl : lv_has ls 2 [(0, .ref (ad 200)), (1, .int (nI x))] := hl
  obtain ⟨h_f1, h_f2, h_f3, h_f4, h_f5, h_f6, h_n1, h_n4, h_bu, h_e1, h_e2, h_s1, h_v4⟩ := id hMf
  refine lv_iload_n hx hb dX3_isKept_0 rfl (lv_at hl 1 rfl) ?_
  refine lv_aload_n hx hb dX3_isKept_1 rfl (lv_at hl 0 rfl) ?_
  refine tb_get hx hb hts (fun w h => List.mem_cons_of_mem _ (inX3 w h)) hown hK hR 200 rfl rfl 13 (by decide) (hts _ (List.mem_cons_of_mem _ k491)) (fun _ h => h) rfl dX3_isKept_2 ?_
  rw [show I 200 13 = nI bu from hMf.2.2.1]
  refine lv_icmp_le (tgt := 26) hx hb dX3_isKept_5 (by decide) (fun c1 => ?_) (fun c1 => ?_)
  · have hq : ¬ (bu < x ∧ (x - bu) % ev = 0) := fun z => by have q := (nI_leI (by omega) (by omega)).mp c1; omega
    refine lv_iconst (v := 0) hx hb dX3_isKept_26 (by decide) ?_
    exact W.zret (v := 0) hx hb hr rfl (fun t ht hW => ⟨⟨_, (I, L), rfl, ⟨kN_0 hq, rfl⟩, by show tR _ _ _ _ _ t.heap; rw [ht]; exact hR⟩, hS.F ht⟩) hS.2.2 dX3_isKept_27
  · have hq1 : bu < x := Nat.lt_of_not_le (fun q => c1 (nI_le q (by omega)))
    refine lv_iload_n hx hb dX3_isKept_8 rfl (lv_at hl 1 rfl) ?_
    refine lv_aload_n hx hb dX3_isKept_9 rfl (lv_at hl 0 rfl) ?_
    refine tb_get hx hb hts (fun w h => List.mem_cons_of_mem _ (inX3 w h)) hown hK hR 200 rfl rfl 13 (by decide) (hts _ (List.mem_cons_of_mem _ k491)) (fun _ h => h) rfl dX3_isKept_10 ?_
    rw [show I 200 13 = nI bu from hMf.2.2.1]
    refine lv_isub hx hb dX3_isKept_13 ?_
    rw [pk_sub (by omega)]
    refine lv_aload_n hx hb dX3_isKept_14 rfl (lv_at hl 0 rfl) ?_
    refine tb_get hx hb hts (fun w h => List.mem_cons_of_mem _ (inX3 w h)) hown hK hR 200 rfl rfl 14 (by decide) (hts _ (List.mem_cons_of_mem _ k492)) (fun _ h => h) rfl dX3_isKept_15 ?_
    rw [show I 200 14 = nI ev from hMf.2.2.2.1]
    refine lv_irem hx hb dX3_isKept_18 (nI_ne0 (by omega) (by omega)) ?_
    rw [pk_rem (by omega) (by omega) (by omega)]
    refine lv_if_ne (tgt := 26) hx hb dX3_isKept_19 (by decide) (fun c2 => ?_) (fun c2 => ?_)
    · have hq : ¬ (bu < x ∧ (x - bu) % ev = 0) := fun z => c2 (by rw [z.2]; rfl)
      refine lv_iconst (v := 0) hx hb dX3_isKept_26 (by decide) ?_
      exact W.zret (v := 0) hx hb hr rfl (fun t ht hW => ⟨⟨_, (I, L), rfl, ⟨kN_0 hq, rfl⟩, by show tR _ _ _ _ _ t.heap; rw [ht]; exact hR⟩, hS.F ht⟩) hS.2.2 dX3_isKept_27
    · have hq2 : (x - bu) % ev = 0 := (nI_z (by have := Nat.mod_lt (x - bu) (show 0 < ev by omega); omega)).mp c2
      refine lv_iconst (v := 1) hx hb dX3_isKept_22 (by decide) ?_
      refine lv_goto (tgt := 27) hx hb dX3_isKept_23 (by decide) ?_
      exact W.zret (v := 1) hx hb hr rfl (fun t ht hW => ⟨⟨_, (I, L), rfl, ⟨kN_1 hq1 hq2, rfl⟩, by show tR _ _ _ _ _ t.heap; rw [ht]; exact hR⟩, hS.F ht⟩) hS.2.2 dX3_isKept_27
end M1
