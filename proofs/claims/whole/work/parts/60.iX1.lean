section I1
variable {l : Launch} {D : va_G} {cs : Nat → ClassId} {base : Nat} {sa : Nat → Nat} {n : Nat} {ad : Nat → Nat}
set_option maxHeartbeats 4000000 in
set_option maxRecDepth 100000 in
/-- new Site() -/
theorem mX1_init (a : Nat) (C : Nat → Option va_E) (ha : ad 1 = a) (h0 : C 1 = some (.inr (1, [.null, .null, .null, .null, .null, .null, .null, .null, .int 0, .int 0]))) (hN : ∀ k, 1 < k → k < 18 → C k = none) : Met l yX1_init wX1_init ({ frames := 1, cells := 16, slots := 640, locals := 20 }) (va_Pc [.ref a] (kG D cs base sa ad C)) (va_Qv (fun (ad' : Nat → Nat) => ∀ k, ¬ (1 < k ∧ k < 18) → ad' k = ad k) (fun (ad' : Nat → Nat) (t : State) => tR D vwCl base ad' (siC n ad' cs C) t.heap) (fun q => base ≤ q)) 16 640 (fun q => base ≤ q) := by
  refine Met.ofW (cc := cX1_init) (maxL := 1) (ret := none) (by decide) rfl ?_
  intro p e s m args below meth c s₁ Bd hml hv
  obtain ⟨rfl, hE, hR⟩ := hv
  have hx := Bd.exec
  have hb := Bd.bytes
  have hr := Bd.returns
  have hts := atoms_spec (ws := wX1_init) Bd.pre
  have hown : s.vm.findClass RX1 = some m.cls := findClass_of_methodNamed Bd.named
  have hlocks := Bd.notSynchronized
  have hK := hE.K
  have hS : va_S (fun q => base ≤ q) s.heap s.heap [] := va_S.rf
  have hR : tR D vwCl base ad (C) s.heap := hR
  have hl := lv_entry ([.ref a]) (n := 1) (Nat.le_of_ble_eq_true rfl)
  rw [lg_entry_eq]
  generalize (lg_sl ([.ref a]) ++ List.replicate (1 - (lg_sl ([.ref a])).length) Slot.unset).toArray = ls at hl ⊢
  have hl : lv_has ls 1 [(0, .ref a)] := hl
  have hin2 : meth.name = "<init>" := (name_of_methodNamed Bd.named Bd.method).1
  have hA9 : base ≤ s.heap.size := hR.base h0
  refine lv_aload_n hx hb dX1_init_0 rfl (lv_at hl 0 rfl) ?_
  refine W.objInit hx hb hown (hts _ (List.mem_cons_of_mem _ k32)) (hts _ (List.mem_cons_of_mem _ k19)) (hts _ (List.mem_cons_of_mem _ k20)) rfl (by rw [hml]; exact hl.1) rfl dX1_init_1 (Nat.le_of_ble_eq_true rfl) (Nat.le_of_ble_eq_true rfl) ?_
  refine W.eq (g2 := F0 m 4 ls []) rfl ?_
  refine lv_aload_n hx hb dX1_init_4 rfl (lv_at hl 0 rfl) ?_
  refine lv_bipush (v := 8) hx hb dX1_init_5 (by decide) ?_
  refine tb_newa (atype := .int) hx hb (hts _ (List.mem_cons_of_mem _ k71)) (ty := .int) rfl hK hR hS hA9 2 (hN _ (by omega) (by omega)) 0 rfl (N' := 8) (a0 := (8, .inl (fun _ => 0))) (fun _ => rfl) (by decide) (by decide) (by decide) (by show 0 + 1 ≤ 16; omega) (by show 0 + 8 ≤ 640; omega) dX1_init_7 (fun q2 H hR hS => ?_)
  refine W.widen (k := 1) (n := 8) (by omega) (by omega) ?_
  refine tb_putFA hx hb hts (fun w h => List.mem_cons_of_mem _ (inX1 w h)) tyX1 tyX1_ok nmX1 hown hK hR hS 1 (up_n (by decide) (ha)) (up_n (by decide) (h0)) rfl 0 (by decide) (hts _ (List.mem_cons_of_mem _ k35)) (fun _ h => h) rfl hin2 rfl (tyX1_ok 0 (by decide)) rfl rfl (by show 0 < 10; decide) (gs := [.ref q2, .null, .null, .null, .null, .null, .null, .null, .int 0, .int 0]) rfl dX1_init_9 (fun H locs hR hS => ?_)
  refine lv_aload_n hx hb dX1_init_12 rfl (lv_at hl 0 rfl) ?_
  refine lv_bipush (v := 8) hx hb dX1_init_13 (by decide) ?_
  refine tb_newa (atype := .int) hx hb (hts _ (List.mem_cons_of_mem _ k71)) (ty := .int) rfl hK hR hS hA9 3 (up_n (by decide) (up_n (by decide) (hN _ (by omega) (by omega)))) 0 rfl (N' := 8) (a0 := (8, .inl (fun _ => 0))) (fun _ => rfl) (by decide) (by decide) (by decide) (by show 1 + 1 ≤ 16; omega) (by show 8 + 8 ≤ 640; omega) dX1_init_15 (fun q3 H hR hS => ?_)
  refine W.widen (k := 2) (n := 16) (by omega) (by omega) ?_
  refine tb_putFA hx hb hts (fun w h => List.mem_cons_of_mem _ (inX1 w h)) tyX1 tyX1_ok nmX1 hown hK hR hS 1 (up_n (by decide) (up_n (by decide) (ha))) (up_n (by decide) (up_s)) rfl 1 (by decide) (hts _ (List.mem_cons_of_mem _ k37)) (fun _ h => h) rfl hin2 rfl (tyX1_ok 1 (by decide)) rfl rfl (by show 1 < 10; decide) (gs := [.ref q2, .ref q3, .null, .null, .null, .null, .null, .null, .int 0, .int 0]) rfl dX1_init_17 (fun H locs hR hS => ?_)
  refine lv_aload_n hx hb dX1_init_20 rfl (lv_at hl 0 rfl) ?_
  refine lv_bipush (v := 8) hx hb dX1_init_21 (by decide) ?_
  refine tb_newa (atype := .int) hx hb (hts _ (List.mem_cons_of_mem _ k71)) (ty := .int) rfl hK hR hS hA9 4 (up_n (by decide) (up_n (by decide) (up_n (by decide) (up_n (by decide) (hN _ (by omega) (by omega)))))) 0 rfl (N' := 8) (a0 := (8, .inl (fun _ => 0))) (fun _ => rfl) (by decide) (by decide) (by decide) (by show 2 + 1 ≤ 16; omega) (by show 16 + 8 ≤ 640; omega) dX1_init_23 (fun q4 H hR hS => ?_)
  refine W.widen (k := 3) (n := 24) (by omega) (by omega) ?_
  refine tb_putFA hx hb hts (fun w h => List.mem_cons_of_mem _ (inX1 w h)) tyX1 tyX1_ok nmX1 hown hK hR hS 1 (up_n (by decide) (up_n (by decide) (up_n (by decide) (ha)))) (up_n (by decide) (up_s)) rfl 2 (by decide) (hts _ (List.mem_cons_of_mem _ k39)) (fun _ h => h) rfl hin2 rfl (tyX1_ok 2 (by decide)) rfl rfl (by show 2 < 10; decide) (gs := [.ref q2, .ref q3, .ref q4, .null, .null, .null, .null, .null, .int 0, .int 0]) rfl dX1_init_25 (fun H locs hR hS => ?_)
  refine lv_aload_n hx hb dX1_init_28 rfl (lv_at hl 0 rfl) ?_
  refine lv_bipush (v := 8) hx hb dX1_init_29 (by decide) ?_
  refine lv_bipush (v := 64) hx hb dX1_init_31 (by decide) ?_
  refine tb_mna (N' := 8) (K' := 64) hx hb hown (hts _ (List.mem_cons_of_mem _ k33)) hE.2.2.2.2.2.2.1 (hts _ (List.mem_cons_of_mem _ k71)) hK hR hS hA9 5 10 (up_n (by decide) (up_n (by decide) (up_n (by decide) (up_n (by decide) (up_n (by decide) (up_n (by decide) (hN _ (by omega) (by omega)))))))) (fun i hi => up_n (by omega) (up_n (by omega) (up_n (by omega) (up_n (by omega) (up_n (by omega) (up_n (by omega) (hN _ (by omega) (by omega)))))))) (fun i hi => by omega) (by decide) (by decide) (by decide) (by decide) (by omega) (by omega) (by show 3 + (1 + 8) ≤ 16; omega) (by show 24 + (8 + 8 * 64) ≤ 640; omega) dX1_init_33 (fun q5 r5 H hR hS => ?_)
  refine W.widen (k := 12) (n := 544) (by omega) (by omega) ?_
  refine tb_putFA hx hb hts (fun w h => List.mem_cons_of_mem _ (inX1 w h)) tyX1 tyX1_ok nmX1 hown hK hR hS 1 (mnA_n (by decide) (by decide) (up_n (by decide) (up_n (by decide) (up_n (by decide) (ha))))) (mnC_n (by decide) (by decide) (up_s)) rfl 3 (by decide) (hts _ (List.mem_cons_of_mem _ k41)) (fun _ h => h) rfl hin2 rfl (tyX1_ok 3 (by decide)) rfl rfl (by show 3 < 10; decide) (gs := [.ref q2, .ref q3, .ref q4, .ref q5, .null, .null, .null, .null, .int 0, .int 0]) rfl dX1_init_37 (fun H locs hR hS => ?_)
  refine lv_aload_n hx hb dX1_init_40 rfl (lv_at hl 0 rfl) ?_
  refine lv_bipush (v := 24) hx hb dX1_init_41 (by decide) ?_
  refine tb_newa (atype := .int) hx hb (hts _ (List.mem_cons_of_mem _ k71)) (ty := .int) rfl hK hR hS hA9 6 (up_n (by decide) (mnC_n (by decide) (by decide) (up_n (by decide) (up_n (by decide) (up_n (by decide) (up_n (by decide) (up_n (by decide) (up_n (by decide) (hN _ (by omega) (by omega)))))))))) 0 rfl (N' := 24) (a0 := (24, .inl (fun _ => 0))) (fun _ => rfl) (by decide) (by decide) (by decide) (by show 12 + 1 ≤ 16; omega) (by show 544 + 24 ≤ 640; omega) dX1_init_43 (fun q6 H hR hS => ?_)
  refine W.widen (k := 13) (n := 568) (by omega) (by omega) ?_
  refine tb_putFA hx hb hts (fun w h => List.mem_cons_of_mem _ (inX1 w h)) tyX1 tyX1_ok nmX1 hown hK hR hS 1 (up_n (by decide) (mnA_n (by decide) (by decide) (up_n (by decide) (up_n (by decide) (up_n (by decide) (ha)))))) (up_n (by decide) (up_s)) rfl 4 (by decide) (hts _ (List.mem_cons_of_mem _ k42)) (fun _ h => h) rfl hin2 rfl (tyX1_ok 4 (by decide)) rfl rfl (by show 4 < 10; decide) (gs := [.ref q2, .ref q3, .ref q4, .ref q5, .ref q6, .null, .null, .null, .int 0, .int 0]) rfl dX1_init_45 (fun H locs hR hS => ?_)
  refine lv_aload_n hx hb dX1_init_48 rfl (lv_at hl 0 rfl) ?_
  refine lv_bipush (v := 24) hx hb dX1_init_49 (by decide) ?_
  refine tb_newa (atype := .int) hx hb (hts _ (List.mem_cons_of_mem _ k71)) (ty := .int) rfl hK hR hS hA9 7 (up_n (by decide) (up_n (by decide) (up_n (by decide) (mnC_n (by decide) (by decide) (up_n (by decide) (up_n (by decide) (up_n (by decide) (up_n (by decide) (up_n (by decide) (up_n (by decide) (hN _ (by omega) (by omega)))))))))))) 0 rfl (N' := 24) (a0 := (24, .inl (fun _ => 0))) (fun _ => rfl) (by decide) (by decide) (by decide) (by show 13 + 1 ≤ 16; omega) (by show 568 + 24 ≤ 640; omega) dX1_init_51 (fun q7 H hR hS => ?_)
  refine W.widen (k := 14) (n := 592) (by omega) (by omega) ?_
  refine tb_putFA hx hb hts (fun w h => List.mem_cons_of_mem _ (inX1 w h)) tyX1 tyX1_ok nmX1 hown hK hR hS 1 (up_n (by decide) (up_n (by decide) (mnA_n (by decide) (by decide) (up_n (by decide) (up_n (by decide) (up_n (by decide) (ha))))))) (up_n (by decide) (up_s)) rfl 5 (by decide) (hts _ (List.mem_cons_of_mem _ k43)) (fun _ h => h) rfl hin2 rfl (tyX1_ok 5 (by decide)) rfl rfl (by show 5 < 10; decide) (gs := [.ref q2, .ref q3, .ref q4, .ref q5, .ref q6, .ref q7, .null, .null, .int 0, .int 0]) rfl dX1_init_53 (fun H locs hR hS => ?_)
  refine lv_aload_n hx hb dX1_init_56 rfl (lv_at hl 0 rfl) ?_
  refine lv_bipush (v := 24) hx hb dX1_init_57 (by decide) ?_
  refine tb_newa (atype := .int) hx hb (hts _ (List.mem_cons_of_mem _ k71)) (ty := .int) rfl hK hR hS hA9 8 (up_n (by decide) (up_n (by decide) (up_n (by decide) (up_n (by decide) (up_n (by decide) (mnC_n (by decide) (by decide) (up_n (by decide) (up_n (by decide) (up_n (by decide) (up_n (by decide) (up_n (by decide) (up_n (by decide) (hN _ (by omega) (by omega)))))))))))))) 0 rfl (N' := 24) (a0 := (24, .inl (fun _ => 0))) (fun _ => rfl) (by decide) (by decide) (by decide) (by show 14 + 1 ≤ 16; omega) (by show 592 + 24 ≤ 640; omega) dX1_init_59 (fun q8 H hR hS => ?_)
  refine W.widen (k := 15) (n := 616) (by omega) (by omega) ?_
  refine tb_putFA hx hb hts (fun w h => List.mem_cons_of_mem _ (inX1 w h)) tyX1 tyX1_ok nmX1 hown hK hR hS 1 (up_n (by decide) (up_n (by decide) (up_n (by decide) (mnA_n (by decide) (by decide) (up_n (by decide) (up_n (by decide) (up_n (by decide) (ha)))))))) (up_n (by decide) (up_s)) rfl 6 (by decide) (hts _ (List.mem_cons_of_mem _ k44)) (fun _ h => h) rfl hin2 rfl (tyX1_ok 6 (by decide)) rfl rfl (by show 6 < 10; decide) (gs := [.ref q2, .ref q3, .ref q4, .ref q5, .ref q6, .ref q7, .ref q8, .null, .int 0, .int 0]) rfl dX1_init_61 (fun H locs hR hS => ?_)
  refine lv_aload_n hx hb dX1_init_64 rfl (lv_at hl 0 rfl) ?_
  refine lv_bipush (v := 24) hx hb dX1_init_65 (by decide) ?_
  refine tb_newa (atype := .int) hx hb (hts _ (List.mem_cons_of_mem _ k71)) (ty := .int) rfl hK hR hS hA9 9 (up_n (by decide) (up_n (by decide) (up_n (by decide) (up_n (by decide) (up_n (by decide) (up_n (by decide) (up_n (by decide) (mnC_n (by decide) (by decide) (up_n (by decide) (up_n (by decide) (up_n (by decide) (up_n (by decide) (up_n (by decide) (up_n (by decide) (hN _ (by omega) (by omega)))))))))))))))) 0 rfl (N' := 24) (a0 := (24, .inl (fun _ => 0))) (fun _ => rfl) (by decide) (by decide) (by decide) (by show 15 + 1 ≤ 16; omega) (by show 616 + 24 ≤ 640; omega) dX1_init_67 (fun q9 H hR hS => ?_)
  refine W.widen (k := 16) (n := 640) (by omega) (by omega) ?_
  refine tb_putFA hx hb hts (fun w h => List.mem_cons_of_mem _ (inX1 w h)) tyX1 tyX1_ok nmX1 hown hK hR hS 1 (up_n (by decide) (up_n (by decide) (up_n (by decide) (up_n (by decide) (mnA_n (by decide) (by decide) (up_n (by decide) (up_n (by decide) (up_n (by decide) (ha))))))))) (up_n (by decide) (up_s)) rfl 7 (by decide) (hts _ (List.mem_cons_of_mem _ k45)) (fun _ h => h) rfl hin2 rfl (tyX1_ok 7 (by decide)) rfl rfl (by show 7 < 10; decide) (gs := [.ref q2, .ref q3, .ref q4, .ref q5, .ref q6, .ref q7, .ref q8, .ref q9, .int 0, .int 0]) rfl dX1_init_69 (fun H locs hR hS => ?_)
  refine lv_aload_n hx hb dX1_init_72 rfl (lv_at hl 0 rfl) ?_
  refine lv_iconst (v := 0) hx hb dX1_init_73 (by decide) ?_
  refine tb_putA hx hb hts (fun w h => List.mem_cons_of_mem _ (inX1 w h)) tyX1 tyX1_ok nmX1 hown hK hR hS 1 (up_n (by decide) (up_n (by decide) (up_n (by decide) (up_n (by decide) (mnA_n (by decide) (by decide) (up_n (by decide) (up_n (by decide) (up_n (by decide) (ha))))))))) (up_s) rfl 8 (by decide) (hts _ (List.mem_cons_of_mem _ k46)) (fun _ h => h) rfl (tyX1_ok 8 (by decide)) rfl rfl (by show 8 < 10; decide) (gs := [.ref q2, .ref q3, .ref q4, .ref q5, .ref q6, .ref q7, .ref q8, .ref q9, .int 0, .int 0]) rfl dX1_init_74 (fun H locs hR hS => ?_)
  refine lv_aload_n hx hb dX1_init_77 rfl (lv_at hl 0 rfl) ?_
  refine lv_iconst (v := 0) hx hb dX1_init_78 (by decide) ?_
  refine tb_putA hx hb hts (fun w h => List.mem_cons_of_mem _ (inX1 w h)) tyX1 tyX1_ok nmX1 hown hK hR hS 1 (up_n (by decide) (up_n (by decide) (up_n (by decide) (up_n (by decide) (mnA_n (by decide) (by decide) (up_n (by decide) (up_n (by decide) (up_n (by decide) (ha))))))))) (up_s) rfl 9 (by decide) (hts _ (List.mem_cons_of_mem _ k48)) (fun _ h => h) rfl (tyX1_ok 9 (by decide)) rfl rfl (by show 9 < 10; decide) (gs := [.ref q2, .ref q3, .ref q4, .ref q5, .ref q6, .ref q7, .ref q8, .ref q9, .int 0, .int 0]) rfl dX1_init_79 (fun H locs hR hS => ?_)
  replace hR := Eq.mp (congrArg (fun z => tR D vwCl base (va_up (va_up (va_up (va_up (mnA (va_up (va_up (va_up ad 2 q2) 3 q3) 4 q4) 5 10 8 q5 r5) 6 q6) 7 q7) 8 q8) 9 q9) z H) (x1_fin (ad := va_up (va_up (va_up (va_up (mnA (va_up (va_up (va_up ad 2 q2) 3 q3) 4 q4) 5 10 8 q5 r5) 6 q6) 7 q7) 8 q8) 9 q9) (n := n) (cs := cs) (up_n (by decide) (up_n (by decide) (up_n (by decide) (up_n (by decide) (mnA_n (by decide) (by decide) (up_n (by decide) (up_n (by decide) (up_s)))))))) (up_n (by decide) (up_n (by decide) (up_n (by decide) (up_n (by decide) (mnA_n (by decide) (by decide) (up_n (by decide) (up_s))))))) (up_n (by decide) (up_n (by decide) (up_n (by decide) (up_n (by decide) (mnA_n (by decide) (by decide) (up_s)))))) (up_n (by decide) (up_n (by decide) (up_n (by decide) (up_n (by decide) (mnA_o))))) (up_n (by decide) (up_n (by decide) (up_n (by decide) (up_s)))) (up_n (by decide) (up_n (by decide) (up_s))) (up_n (by decide) (up_s)) (up_s) (fun i hi => up_n (by omega) (up_n (by omega) (up_n (by omega) (up_n (by omega) (mnA_i (by omega) hi))))))) hR
  refine W.widen (k := 16) (n := 640) (by omega) (by omega) ?_
  exact W.vret hx hb hr (fun t ht hW => ⟨⟨va_up (va_up (va_up (va_up (mnA (va_up (va_up (va_up ad 2 q2) 3 q3) 4 q4) 5 10 8 q5 r5) 6 q6) 7 q7) 8 q8) 9 q9, rfl, fun k hk => up_n (by omega) (up_n (by omega) (up_n (by omega) (up_n (by omega) (mnA_n (by omega) (by omega) (up_n (by omega) (up_n (by omega) (up_n (by omega) (rfl)))))))), by show tR _ _ _ _ _ t.heap; rw [ht]; exact hR⟩, hS.F ht⟩) hS.2.2 dX1_init_82
end I1
