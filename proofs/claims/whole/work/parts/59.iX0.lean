section I1
variable {l : Launch} {D : va_G} {cs : Nat → ClassId} {base : Nat} {sa : Nat → Nat} {n : Nat} {ad : Nat → Nat}
set_option maxHeartbeats 4000000 in
set_option maxRecDepth 100000 in
/-- new Course(n), at b -/
theorem mX0_init (b a : Nat) (C : Nat → Option va_E) (ha : ad b = a) (hB : isB b) (hn1 : 1 ≤ n) (hn4 : n ≤ 4) (h0 : C b = some (.inr (0, [.null, .null, .null, .int 0, .int 0]))) (hN : ∀ k, b < k → k < b + 12 → C k = none) : Met l yX0_init wX0_init ({ frames := 1, cells := 11, slots := 2000, locals := 20 }) (va_Pc [.ref a, .int (nI n)] (kG D cs base sa ad C)) (va_Qv (fun (ad' : Nat → Nat) => ∀ k, ¬ (b < k ∧ k < b + 12) → ad' k = ad k) (fun (ad' : Nat → Nat) (t : State) => tR D vwCl base ad' (bkC n ad' cs b C) t.heap) (fun q => base ≤ q)) 11 2000 (fun q => base ≤ q) := by
  refine Met.ofW (cc := cX0_init) (maxL := 2) (ret := none) (by decide) rfl ?_
  intro p e s m args below meth c s₁ Bd hml hv
  obtain ⟨rfl, hE, hR⟩ := hv
  have hx := Bd.exec
  have hb := Bd.bytes
  have hr := Bd.returns
  have hts := atoms_spec (ws := wX0_init) Bd.pre
  have hown : s.vm.findClass RX0 = some m.cls := findClass_of_methodNamed Bd.named
  have hlocks := Bd.notSynchronized
  have hK := hE.K
  have hS : va_S (fun q => base ≤ q) s.heap s.heap [] := va_S.rf
  have hR : tR D vwCl base ad (C) s.heap := hR
  have hl := lv_entry ([.ref a, .int (nI n)]) (n := 2) (Nat.le_of_ble_eq_true rfl)
  rw [lg_entry_eq]
  generalize (lg_sl ([.ref a, .int (nI n)]) ++ List.replicate (2 - (lg_sl ([.ref a, .int (nI n)])).length) Slot.unset).toArray = ls at hl ⊢
  have hl : lv_has ls 2 [(0, .ref a), (1, .int (nI n))] := hl
  have hin2 : meth.name = "<init>" := (name_of_methodNamed Bd.named Bd.method).1
  have hA9 : base ≤ s.heap.size := hR.base h0
  refine lv_aload_n hx hb dX0_init_0 rfl (lv_at hl 0 rfl) ?_
  refine W.objInit hx hb hown (hts _ (List.mem_cons_of_mem _ k77)) (hts _ (List.mem_cons_of_mem _ k19)) (hts _ (List.mem_cons_of_mem _ k20)) rfl (by rw [hml]; exact hl.1) rfl dX0_init_1 (Nat.le_of_ble_eq_true rfl) (Nat.le_of_ble_eq_true rfl) ?_
  refine W.eq (g2 := F0 m 4 ls []) rfl ?_
  refine lv_aload_n hx hb dX0_init_4 rfl (lv_at hl 0 rfl) ?_
  refine lv_iload_n hx hb dX0_init_5 rfl (lv_at hl 1 rfl) ?_
  refine lv_bipush (v := 8) hx hb dX0_init_6 (by decide) ?_
  refine tb_mna (N' := n) (K' := 8) hx hb hown (hts _ (List.mem_cons_of_mem _ k78)) hE.2.2.2.2.2.2.1 (hts _ (List.mem_cons_of_mem _ k71)) hK hR hS hA9 (b + 1) (b + 4) (hN _ (by omega) (by omega)) (fun i hi => hN _ (by omega) (by omega)) (fun i hi => by omega) (nI_pos (by omega)) (by decide) (nI_clamp (by omega)) (by decide) (by omega) (by omega) (by show 0 + (1 + n) ≤ 11; omega) (by show 0 + (n + n * 8) ≤ 2000; omega) dX0_init_8 (fun qb1 rb1 H hR hS => ?_)
  refine W.widen (k := 5) (n := 36) (by omega) (by omega) ?_
  refine tb_putFA hx hb hts (fun w h => List.mem_cons_of_mem _ (inX0 w h)) tyX0 tyX0_ok nmX0 hown hK hR hS b (mnA_n (by omega) (by omega) (ha)) (mnC_n (by omega) (by omega) (h0)) rfl 0 (by decide) (hts _ (List.mem_cons_of_mem _ k79)) (fun _ h => h) rfl hin2 rfl (tyX0_ok 0 (by decide)) rfl rfl (by show 0 < 5; decide) (gs := [.ref qb1, .null, .null, .int 0, .int 0]) rfl dX0_init_12 (fun H locs hR hS => ?_)
  refine lv_aload_n hx hb dX0_init_15 rfl (lv_at hl 0 rfl) ?_
  refine lv_iload_n hx hb dX0_init_16 rfl (lv_at hl 1 rfl) ?_
  refine tb_newa (atype := .long) hx hb (hts _ (List.mem_cons_of_mem _ k99)) (ty := .long) rfl hK hR hS hA9 (b + 2) (up_n (by omega) (mnC_n (by omega) (by omega) (hN _ (by omega) (by omega)))) 1 rfl (N' := n) (a0 := (n, .inr (.inl (fun _ => 0)))) (fun _ => rfl) (nI_pos (by omega)) (nI_clamp (by omega)) (by show n * 8 ≤ 536870912; omega) (by show 5 + 1 ≤ 11; omega) (by show 36 + n ≤ 2000; omega) dX0_init_17 (fun qb2 H hR hS => ?_)
  refine W.widen (k := 6) (n := 40) (by omega) (by omega) ?_
  refine tb_putFA hx hb hts (fun w h => List.mem_cons_of_mem _ (inX0 w h)) tyX0 tyX0_ok nmX0 hown hK hR hS b (up_n (by omega) (mnA_n (by omega) (by omega) (ha))) (up_n (by omega) (up_s)) rfl 1 (by decide) (hts _ (List.mem_cons_of_mem _ k81)) (fun _ h => h) rfl hin2 rfl (tyX0_ok 1 (by decide)) rfl rfl (by show 1 < 5; decide) (gs := [.ref qb1, .ref qb2, .null, .int 0, .int 0]) rfl dX0_init_19 (fun H locs hR hS => ?_)
  refine lv_aload_n hx hb dX0_init_22 rfl (lv_at hl 0 rfl) ?_
  refine lv_iload_n hx hb dX0_init_23 rfl (lv_at hl 1 rfl) ?_
  refine lv_sipush (v := 480) hx hb dX0_init_24 (by decide) ?_
  refine tb_mna (N' := n) (K' := 480) hx hb hown (hts _ (List.mem_cons_of_mem _ k78)) hE.2.2.2.2.2.2.1 (hts _ (List.mem_cons_of_mem _ k71)) hK hR hS hA9 (b + 3) (b + 8) (up_n (by omega) (up_n (by omega) (up_n (by omega) (mnC_n (by omega) (by omega) (hN _ (by omega) (by omega)))))) (fun i hi => up_n (by omega) (up_n (by omega) (up_n (by omega) (mnC_n (by omega) (by omega) (hN _ (by omega) (by omega)))))) (fun i hi => by omega) (nI_pos (by omega)) (by decide) (nI_clamp (by omega)) (by decide) (by omega) (by omega) (by show 6 + (1 + n) ≤ 11; omega) (by show 40 + (n + n * 480) ≤ 2000; omega) dX0_init_27 (fun qb3 rb3 H hR hS => ?_)
  refine W.widen (k := 11) (n := 2000) (by omega) (by omega) ?_
  refine tb_putFA hx hb hts (fun w h => List.mem_cons_of_mem _ (inX0 w h)) tyX0 tyX0_ok nmX0 hown hK hR hS b (mnA_n (by omega) (by omega) (up_n (by omega) (mnA_n (by omega) (by omega) (ha)))) (mnC_n (by omega) (by omega) (up_s)) rfl 2 (by decide) (hts _ (List.mem_cons_of_mem _ k83)) (fun _ h => h) rfl hin2 rfl (tyX0_ok 2 (by decide)) rfl rfl (by show 2 < 5; decide) (gs := [.ref qb1, .ref qb2, .ref qb3, .int 0, .int 0]) rfl dX0_init_31 (fun H locs hR hS => ?_)
  refine lv_aload_n hx hb dX0_init_34 rfl (lv_at hl 0 rfl) ?_
  refine lv_iconst (v := 0) hx hb dX0_init_35 (by decide) ?_
  refine tb_putA hx hb hts (fun w h => List.mem_cons_of_mem _ (inX0 w h)) tyX0 tyX0_ok nmX0 hown hK hR hS b (mnA_n (by omega) (by omega) (up_n (by omega) (mnA_n (by omega) (by omega) (ha)))) (up_s) rfl 3 (by decide) (hts _ (List.mem_cons_of_mem _ k84)) (fun _ h => h) rfl (tyX0_ok 3 (by decide)) rfl rfl (by show 3 < 5; decide) (gs := [.ref qb1, .ref qb2, .ref qb3, .int 0, .int 0]) rfl dX0_init_36 (fun H locs hR hS => ?_)
  refine lv_aload_n hx hb dX0_init_39 rfl (lv_at hl 0 rfl) ?_
  refine lv_iconst (v := 0) hx hb dX0_init_40 (by decide) ?_
  refine tb_putA hx hb hts (fun w h => List.mem_cons_of_mem _ (inX0 w h)) tyX0 tyX0_ok nmX0 hown hK hR hS b (mnA_n (by omega) (by omega) (up_n (by omega) (mnA_n (by omega) (by omega) (ha)))) (up_s) rfl 4 (by decide) (hts _ (List.mem_cons_of_mem _ k86)) (fun _ h => h) rfl (tyX0_ok 4 (by decide)) rfl rfl (by show 4 < 5; decide) (gs := [.ref qb1, .ref qb2, .ref qb3, .int 0, .int 0]) rfl dX0_init_41 (fun H locs hR hS => ?_)
  replace hR := Eq.mp (congrArg (fun z => tR D vwCl base (mnA (va_up (mnA ad (b + 1) (b + 4) n qb1 rb1) (b + 2) qb2) (b + 3) (b + 8) n qb3 rb3) z H) (x0_fin (ad := mnA (va_up (mnA ad (b + 1) (b + 4) n qb1 rb1) (b + 2) qb2) (b + 3) (b + 8) n qb3 rb3) (cs := cs) hB hn4 hN (mnA_n (by omega) (by omega) (up_n (by omega) mnA_o)) (mnA_n (by omega) (by omega) up_s) mnA_o (fun i hi => mnA_n (by omega) (by omega) (up_n (by omega) (mnA_i (by omega) hi))) (fun i hi => mnA_i (by omega) hi))) hR
  refine W.widen (k := 11) (n := 2000) (by omega) (by omega) ?_
  exact W.vret hx hb hr (fun t ht hW => ⟨⟨mnA (va_up (mnA ad (b + 1) (b + 4) n qb1 rb1) (b + 2) qb2) (b + 3) (b + 8) n qb3 rb3, rfl, fun k hk => mnA_n (by omega) (by omega) (up_n (by omega) (mnA_n (by omega) (by omega) rfl)), by show tR _ _ _ _ _ t.heap; rw [ht]; exact hR⟩, hS.F ht⟩) hS.2.2 dX0_init_44
end I1
