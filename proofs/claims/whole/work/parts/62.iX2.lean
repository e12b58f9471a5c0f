section I1
variable {l : Launch} {D : va_G} {cs : Nat → ClassId} {base : Nat} {sa : Nat → Nat} {n : Nat} {ad : Nat → Nat}
theorem x2_pk {p0 : Int32} {i : Nat} {ad0 ad' : Nat → Nat} {C : Nat → Option va_E} {H : Heap} (h : x2J p0 n cs ad0 i ad' C) (hR : tR D vwCl base ad' C H) : ∃ (a9 : Nat → Nat) (C9 : Nat → Option va_E), x2J p0 n cs ad0 i a9 C9 ∧ tR D vwCl base a9 C9 H := ⟨_, _, h, hR⟩
set_option maxHeartbeats 4000000 in
set_option maxRecDepth 100000 in
/-- new SeedChains(seed, chains) -/
theorem mX2_init (a : Nat) (p0 p1 : Int32) (C : Nat → Option va_E) (ha : ad 0 = a) (hn : n = chN p1) (h0 : C 0 = some (.inr (2, [.int 0, .int 0, .null, .null, .null, .int 0, .int 0, .int 0, .int 0]))) (hN : ∀ k, 0 < k → k < 200 → C k = none) : Met l yX2_init wX2_init ({ frames := 4, cells := 80, slots := 11000, locals := 120 }) (va_Pc [.ref a, .int p0, .int p1] (kG D cs base sa ad C)) (va_Qv (fun (ad' : Nat → Nat) => ad' 0 = ad 0) (fun (ad' : Nat → Nat) (t : State) => tR D vwCl base ad' (fun k => if k < 200 then wP n ad' cs k (i0 p0 n k) (fun _ => 0) else none) t.heap) (fun q => base ≤ q)) 80 11000 (fun q => base ≤ q) := by
  refine Met.ofW (cc := cX2_init) (maxL := 4) (ret := none) (by decide) rfl ?_
  intro p e s m args below meth c s₁ Bd hml hv
  obtain ⟨rfl, hE, hR⟩ := hv
  have hx := Bd.exec
  have hb := Bd.bytes
  have hr := Bd.returns
  have hts := atoms_spec (ws := wX2_init) Bd.pre
  have hown : s.vm.findClass RX2 = some m.cls := findClass_of_methodNamed Bd.named
  have hlocks := Bd.notSynchronized
  have hK := hE.K
  have hS : va_S (fun q => base ≤ q) s.heap s.heap [] := va_S.rf
  have hR : tR D vwCl base ad (C) s.heap := hR
  have hl := lv_entry ([.ref a, .int p0, .int p1]) (n := 4) (Nat.le_of_ble_eq_true rfl)
  rw [lg_entry_eq]
  generalize (lg_sl ([.ref a, .int p0, .int p1]) ++ List.replicate (4 - (lg_sl ([.ref a, .int p0, .int p1])).length) Slot.unset).toArray = ls at hl ⊢
  have hl : lv_has ls 4 [(0, .ref a), (1, .int p0), (2, .int p1)] := hl
  have hin2 : meth.name = "<init>" := (name_of_methodNamed Bd.named Bd.method).1
  have hA9 : base ≤ s.heap.size := hR.base h0
  obtain ⟨hn1, hn4⟩ : 1 ≤ n ∧ n ≤ 4 := by rw [hn]; exact ch_b p1
  refine lv_aload_n hx hb dX2_init_0 rfl (lv_at hl 0 rfl) ?_
  refine W.objInit hx hb hown (hts _ (List.mem_cons_of_mem _ k18)) (hts _ (List.mem_cons_of_mem _ k19)) (hts _ (List.mem_cons_of_mem _ k20)) rfl (by rw [hml]; exact hl.1) rfl dX2_init_1 (Nat.le_of_ble_eq_true rfl) (Nat.le_of_ble_eq_true rfl) ?_
  refine W.eq (g2 := F0 m 4 ls []) rfl ?_
  refine lv_aload_n hx hb dX2_init_4 rfl (lv_at hl 0 rfl) ?_
  refine lv_iload_n hx hb dX2_init_5 rfl (lv_at hl 1 rfl) ?_
  refine tb_putFA hx hb hts (fun w h => List.mem_cons_of_mem _ (inX2 w h)) tyX2 tyX2_ok nmX2 hown hK hR hS 0 (ha) (h0) rfl 0 (by decide) (hts _ (List.mem_cons_of_mem _ k101)) (fun _ h => h) rfl hin2 rfl (tyX2_ok 0 (by decide)) rfl rfl (by show 0 < 9; decide) (gs := [.int p0, .int 0, .null, .null, .null, .int 0, .int 0, .int 0, .int 0]) rfl dX2_init_6 (fun H locs hR hS => ?_)
  refine lv_aload_n hx hb dX2_init_9 rfl (lv_at hl 0 rfl) ?_
  refine lv_iconst (v := 1) hx hb dX2_init_10 (by decide) ?_
  refine lv_iconst (v := 4) hx hb dX2_init_11 (by decide) ?_
  refine lv_iload_n hx hb dX2_init_12 rfl (lv_at hl 2 rfl) ?_
  refine va_mmin hx hb (hml.trans hl.1.symm) hown (hts _ (List.mem_cons_of_mem _ k21)) (hts _ (List.mem_cons_of_mem _ k22)) (hts _ (List.mem_cons_of_mem _ k2)) (hts _ (List.mem_cons_of_mem _ k23)) (Nat.le_of_ble_eq_true rfl) (Nat.le_of_ble_eq_true rfl) (Nat.le_of_ble_eq_true rfl) (Nat.le_of_ble_eq_true rfl) dX2_init_13 ?_
  refine va_mmax hx hb (hml.trans hl.1.symm) hown (hts _ (List.mem_cons_of_mem _ k24)) (hts _ (List.mem_cons_of_mem _ k25)) (hts _ (List.mem_cons_of_mem _ k2)) (hts _ (List.mem_cons_of_mem _ k26)) (Nat.le_of_ble_eq_true rfl) (Nat.le_of_ble_eq_true rfl) (Nat.le_of_ble_eq_true rfl) (Nat.le_of_ble_eq_true rfl) dX2_init_16 ?_
  rw [show (if 1 < if p1 < 4 then p1 else 4 then if p1 < 4 then p1 else 4 else 1) = nI n from by rw [hn]; exact ch_mm p1]
  refine tb_putFA hx hb hts (fun w h => List.mem_cons_of_mem _ (inX2 w h)) tyX2 tyX2_ok nmX2 hown hK hR hS 0 (ha) (up_s) rfl 1 (by decide) (hts _ (List.mem_cons_of_mem _ k102)) (fun _ h => h) rfl hin2 rfl (tyX2_ok 1 (by decide)) rfl rfl (by show 1 < 9; decide) (gs := [.int p0, .int (nI n), .null, .null, .null, .int 0, .int 0, .int 0, .int 0]) rfl dX2_init_19 (fun H locs hR hS => ?_)
  refine lv_aload_n hx hb dX2_init_22 rfl (lv_at hl 0 rfl) ?_
  refine tb_new (fs := [.null, .null, .null, .null, .null, .null, .null, .null, .int 0, .int 0]) hx hb hts (fun w h => List.mem_cons_of_mem _ (inX1 w h)) tyX1 tyX1_ok hown (hts _ (List.mem_cons_of_mem _ k27)) (hts _ (List.mem_cons_of_mem _ k28)) (hts _ (List.mem_cons_of_mem _ k3)) hK hR hS hA9 1 (up_n (by omega) (up_n (by omega) (hN _ (by omega) (by omega)))) (ci := 1) rfl (fun j hj => by rcases (show j = 0 ∨ j = 1 ∨ j = 2 ∨ j = 3 ∨ j = 4 ∨ j = 5 ∨ j = 6 ∨ j = 7 ∨ j = 8 ∨ j = 9 by omega) with rfl | rfl | rfl | rfl | rfl | rfl | rfl | rfl | rfl | rfl <;> rfl) (Nat.le_of_ble_eq_true rfl) (Nat.le_of_ble_eq_true rfl) dX2_init_23 (fun q1 H hR hS => ?_)
  refine lv_dup hx hb dX2_init_26 rfl ?_
  refine kg_v (va_runIN (As := []) (rest := [.ref q1, .ref a]) ⟨hx, hb, hml, hown, hts⟩ (mX1_init (n := n) (ad := va_up ad 1 q1) q1 (va_up (va_up (va_up C 0 _) 0 _) 1 _) up_s up_s (fun k h1 h2 => up_n (by omega) (up_n (by omega) (up_n (by omega) (hN k (by omega) (by omega)))))) ⟨va_cnB 0 hts (kw_N k31) rfl rfl rfl (hE.2.2.1 (27, yX1_init) (by decide)) (hts _ (List.mem_cons_of_mem _ k3)) (by decide +kernel) ⟨(Nat.le_of_ble_eq_true rfl), (Nat.le_of_ble_eq_true rfl)⟩, rfl, hts _ (List.mem_cons_of_mem _ k30)⟩ (kG_pre hE hR hS [.ref q1]) rfl rfl hl.1 rfl (lv_room (Nat.le_of_ble_eq_true rfl)) dX2_init_27 ⟨(Nat.le_of_ble_eq_true rfl), (Nat.le_of_ble_eq_true rfl)⟩) hS (fun ad1 H locs hwad1 hR hS => ?_)
  refine tb_putFA hx hb hts (fun w h => List.mem_cons_of_mem _ (inX2 w h)) tyX2 tyX2_ok nmX2 hown hK hR hS 0 ((hwad1 0 (by omega)).trans (up_n (by omega) ha)) (siC_n (by omega) (up_n (by omega) up_s)) rfl 2 (by decide) (hts _ (List.mem_cons_of_mem _ k103)) (fun _ h => h) rfl hin2 rfl (tyX2_ok 2 (by decide)) rfl rfl (by show 2 < 9; decide) (gs := [.int p0, .int (nI n), .ref q1, .null, .null, .int 0, .int 0, .int 0, .int 0]) rfl dX2_init_30 (fun H locs hR hS => ?_)
  refine lv_aload_n hx hb dX2_init_33 rfl (lv_at hl 0 rfl) ?_
  refine tb_new (fs := [.null, .null, .null, .int 0, .int 0]) hx hb hts (fun w h => List.mem_cons_of_mem _ (inX0 w h)) tyX0 tyX0_ok hown (hts _ (List.mem_cons_of_mem _ k72)) (hts _ (List.mem_cons_of_mem _ k73)) (hts _ (List.mem_cons_of_mem _ k4)) hK hR hS hA9 20 (up_n (by omega) (siC_n (by omega) (up_n (by omega) (up_n (by omega) (up_n (by omega) (hN _ (by omega) (by omega))))))) (ci := 0) rfl (fun j hj => by rcases (show j = 0 ∨ j = 1 ∨ j = 2 ∨ j = 3 ∨ j = 4 by omega) with rfl | rfl | rfl | rfl | rfl <;> rfl) (Nat.le_of_ble_eq_true rfl) (Nat.le_of_ble_eq_true rfl) dX2_init_34 (fun q20 H hR hS => ?_)
  refine lv_dup hx hb dX2_init_37 rfl ?_
  refine lv_aload_n hx hb dX2_init_38 rfl (lv_at hl 0 rfl) ?_
  refine tb_getA hx hb hts (fun w h => List.mem_cons_of_mem _ (inX2 w h)) hown hK hR 0 (up_n (by omega) ((hwad1 0 (by omega)).trans (up_n (by omega) ha))) (up_n (by omega) up_s) rfl 1 (by decide) (hts _ (List.mem_cons_of_mem _ k102)) (fun _ h => h) (v := .int (nI n)) rfl dX2_init_39 ?_
  refine kg_v (va_runIN (As := [.int (nI n)]) (rest := [.ref q20, .ref a]) ⟨hx, hb, hml, hown, hts⟩ (mX0_init (n := n) (ad := va_up ad1 20 q20) 20 q20 (va_up (va_up (siC n ad1 cs (va_up (va_up (va_up C 0 _) 0 _) 1 _)) 0 _) 20 _) up_s (Or.inl rfl) hn1 hn4 up_s (fun k h1 h2 => up_n (by omega) (up_n (by omega) (siC_n (by omega) (up_n (by omega) (up_n (by omega) (up_n (by omega) (hN k (by omega) (by omega))))))))) ⟨va_cnB 1 hts (kw_N k76) rfl rfl rfl (hE.2.2.1 (34, yX0_init) (by decide)) (hts _ (List.mem_cons_of_mem _ k4)) (by decide +kernel) ⟨(Nat.le_of_ble_eq_true rfl), (Nat.le_of_ble_eq_true rfl)⟩, rfl, hts _ (List.mem_cons_of_mem _ k75)⟩ (kG_pre hE hR hS [.ref q20, .int (nI n)]) rfl rfl hl.1 rfl (lv_room (Nat.le_of_ble_eq_true rfl)) dX2_init_42 ⟨(Nat.le_of_ble_eq_true rfl), (Nat.le_of_ble_eq_true rfl)⟩) hS (fun ad2 H locs hwad2 hR hS => ?_)
  refine tb_putFA hx hb hts (fun w h => List.mem_cons_of_mem _ (inX2 w h)) tyX2 tyX2_ok nmX2 hown hK hR hS 0 ((hwad2 0 (by omega)).trans (up_n (by omega) ((hwad1 0 (by omega)).trans (up_n (by omega) ha)))) (bkC_n (by omega) (up_n (by omega) up_s)) rfl 3 (by decide) (hts _ (List.mem_cons_of_mem _ k104)) (fun _ h => h) rfl hin2 rfl (tyX2_ok 3 (by decide)) rfl rfl (by show 3 < 9; decide) (gs := [.int p0, .int (nI n), .ref q1, .ref q20, .null, .int 0, .int 0, .int 0, .int 0]) rfl dX2_init_45 (fun H locs hR hS => ?_)
  refine lv_aload_n hx hb dX2_init_48 rfl (lv_at hl 0 rfl) ?_
  refine lv_iconst (v := 4) hx hb dX2_init_49 (by decide) ?_
  refine tb_newq hx hb hown (hts _ (List.mem_cons_of_mem _ k72)) hE.2.2.2.2.2.2.2.1 hK hR hS hA9 18 (up_n (by omega) (bkC_n (by omega) (up_n (by omega) (up_n (by omega) (siC_n (by omega) (up_n (by omega) (up_n (by omega) (up_n (by omega) (hN _ (by omega) (by omega)))))))))) 3 rfl (N' := 4) (by decide) (by decide) (by decide) (Nat.le_of_ble_eq_true rfl) (Nat.le_of_ble_eq_true rfl) dX2_init_50 (fun q18 H hR hS => ?_)
  refine tb_putFA hx hb hts (fun w h => List.mem_cons_of_mem _ (inX2 w h)) tyX2 tyX2_ok nmX2 hown hK hR hS 0 (up_n (by omega) ((hwad2 0 (by omega)).trans (up_n (by omega) ((hwad1 0 (by omega)).trans (up_n (by omega) ha))))) (up_n (by omega) up_s) rfl 4 (by decide) (hts _ (List.mem_cons_of_mem _ k105)) (fun _ h => h) rfl hin2 rfl (tyX2_ok 4 (by decide)) rfl rfl (by show 4 < 9; decide) (gs := [.int p0, .int (nI n), .ref q1, .ref q20, .ref q18, .int 0, .int 0, .int 0, .int 0]) rfl dX2_init_53 (fun H locs hR hS => ?_)
  obtain ⟨ad3, C3, hJ, hR⟩ := x2_pk (x2J_0 hn4 hN hwad1 hwad2) hR
  refine lv_iconst (v := nI 0) hx hb dX2_init_56 (by decide) ?_
  refine lv_istore_n (lv' := [(3, .int (nI 0)), (0, .ref a), (1, .int p0), (2, .int p1)]) hx hb dX2_init_57 rfl hl (by decide) rfl (fun ls hl => ?_)
  refine lv_iload_n hx hb dX2_init_58 rfl (lv_at hl 0 rfl) ?_
  refine lv_iconst (v := 4) hx hb dX2_init_59 (by decide) ?_
  refine lv_icmp_ge (tgt := 86) hx hb dX2_init_60 (by decide) (fun c9 => absurd c9 (by decide)) (fun _ => ?_)
  refine lv_aload_n hx hb dX2_init_63 rfl (lv_at hl 1 rfl) ?_
  refine tb_getA hx hb hts (fun w h => List.mem_cons_of_mem _ (inX2 w h)) hown hK hR 0 (hJ.1.trans ha) (hJ.2.1) rfl 4 (by decide) (hts _ (List.mem_cons_of_mem _ k105)) (fun _ h => h) (v := .ref (ad3 18)) rfl dX2_init_64 ?_
  refine lv_iload_n hx hb dX2_init_67 rfl (lv_at hl 0 rfl) ?_
  refine tb_new (fs := [.null, .null, .null, .int 0, .int 0]) hx hb hts (fun w h => List.mem_cons_of_mem _ (inX0 w h)) tyX0 tyX0_ok hown (hts _ (List.mem_cons_of_mem _ k72)) (hts _ (List.mem_cons_of_mem _ k73)) (hts _ (List.mem_cons_of_mem _ k4)) hK hR hS hA9 40 (hJ.2.2.2.2 40 (by omega) (by omega)) (ci := 0) rfl (fun j hj => by rcases (show j = 0 ∨ j = 1 ∨ j = 2 ∨ j = 3 ∨ j = 4 by omega) with rfl | rfl | rfl | rfl | rfl <;> rfl) (Nat.le_of_ble_eq_true rfl) (Nat.le_of_ble_eq_true rfl) dX2_init_68 (fun q40 H hR hS => ?_)
  refine lv_dup hx hb dX2_init_71 rfl ?_
  refine lv_aload_n hx hb dX2_init_72 rfl (lv_at hl 1 rfl) ?_
  refine tb_getA hx hb hts (fun w h => List.mem_cons_of_mem _ (inX2 w h)) hown hK hR 0 (up_n (by omega) (hJ.1.trans ha)) (up_n (by omega) hJ.2.1) rfl 1 (by decide) (hts _ (List.mem_cons_of_mem _ k102)) (fun _ h => h) (v := .int (nI n)) rfl dX2_init_73 ?_
  refine kg_v (va_runIN (As := [.int (nI n)]) (rest := [.ref q40, .int (nI 0), .ref (ad3 18)]) ⟨hx, hb, hml, hown, hts⟩ (mX0_init (n := n) (ad := va_up ad3 40 q40) 40 q40 (va_up C3 40 _) up_s (by unfold isB; omega) hn1 hn4 up_s (fun k h1 h2 => up_n (by omega) (hJ.2.2.2.2 k (by omega) (by omega)))) ⟨va_cnB 1 hts (kw_N k76) rfl rfl rfl (hE.2.2.1 (34, yX0_init) (by decide)) (hts _ (List.mem_cons_of_mem _ k4)) (by decide +kernel) ⟨(Nat.le_of_ble_eq_true rfl), (Nat.le_of_ble_eq_true rfl)⟩, rfl, hts _ (List.mem_cons_of_mem _ k75)⟩ (kG_pre hE hR hS [.ref q40, .int (nI n)]) rfl rfl hl.1 rfl (lv_room (Nat.le_of_ble_eq_true rfl)) dX2_init_76 ⟨(Nat.le_of_ble_eq_true rfl), (Nat.le_of_ble_eq_true rfl)⟩) hS (fun ad4 H locs hwad4 hR hS => ?_)
  refine tb_astqA (r := (RX0, TX0, 5)) hx hb hK hR hS 18 3 40 0 ((hwad4 18 (by omega)).trans (up_n (by omega) rfl)) ((hwad4 40 (by omega)).trans up_s) (bkC_n (by omega) (up_n (by omega) hJ.2.2.1)) rfl ((bkC_i (by omega)).trans (wP_b0 (by unfold isB; omega) _ _)) rfl 0 rfl (by decide) (by decide) dX2_init_79 (fun H locs hR hS => ?_)
  obtain ⟨ad3, C3, hJ, hR⟩ := x2_pk (x2J_s (i := 0) (b := 40) hn4 (by omega) hJ rfl hwad4) hR
  refine lv_iinc (v := nI 1) (lv' := [(3, .int (nI 1)), (0, .ref a), (1, .int p0), (2, .int p1)]) hx hb dX2_init_80 hl (k := 0) rfl (nI_1 0) (by decide) rfl (fun ls hl => ?_)
  refine lv_goto (tgt := 58) hx hb dX2_init_83 (by decide) ?_
  refine lv_iload_n hx hb dX2_init_58 rfl (lv_at hl 0 rfl) ?_
  refine lv_iconst (v := 4) hx hb dX2_init_59 (by decide) ?_
  refine lv_icmp_ge (tgt := 86) hx hb dX2_init_60 (by decide) (fun c9 => absurd c9 (by decide)) (fun _ => ?_)
  refine lv_aload_n hx hb dX2_init_63 rfl (lv_at hl 1 rfl) ?_
  refine tb_getA hx hb hts (fun w h => List.mem_cons_of_mem _ (inX2 w h)) hown hK hR 0 (hJ.1.trans ha) (hJ.2.1) rfl 4 (by decide) (hts _ (List.mem_cons_of_mem _ k105)) (fun _ h => h) (v := .ref (ad3 18)) rfl dX2_init_64 ?_
  refine lv_iload_n hx hb dX2_init_67 rfl (lv_at hl 0 rfl) ?_
  refine tb_new (fs := [.null, .null, .null, .int 0, .int 0]) hx hb hts (fun w h => List.mem_cons_of_mem _ (inX0 w h)) tyX0 tyX0_ok hown (hts _ (List.mem_cons_of_mem _ k72)) (hts _ (List.mem_cons_of_mem _ k73)) (hts _ (List.mem_cons_of_mem _ k4)) hK hR hS hA9 60 (hJ.2.2.2.2 60 (by omega) (by omega)) (ci := 0) rfl (fun j hj => by rcases (show j = 0 ∨ j = 1 ∨ j = 2 ∨ j = 3 ∨ j = 4 by omega) with rfl | rfl | rfl | rfl | rfl <;> rfl) (Nat.le_of_ble_eq_true rfl) (Nat.le_of_ble_eq_true rfl) dX2_init_68 (fun q60 H hR hS => ?_)
  refine lv_dup hx hb dX2_init_71 rfl ?_
  refine lv_aload_n hx hb dX2_init_72 rfl (lv_at hl 1 rfl) ?_
  refine tb_getA hx hb hts (fun w h => List.mem_cons_of_mem _ (inX2 w h)) hown hK hR 0 (up_n (by omega) (hJ.1.trans ha)) (up_n (by omega) hJ.2.1) rfl 1 (by decide) (hts _ (List.mem_cons_of_mem _ k102)) (fun _ h => h) (v := .int (nI n)) rfl dX2_init_73 ?_
  refine kg_v (va_runIN (As := [.int (nI n)]) (rest := [.ref q60, .int (nI 1), .ref (ad3 18)]) ⟨hx, hb, hml, hown, hts⟩ (mX0_init (n := n) (ad := va_up ad3 60 q60) 60 q60 (va_up C3 60 _) up_s (by unfold isB; omega) hn1 hn4 up_s (fun k h1 h2 => up_n (by omega) (hJ.2.2.2.2 k (by omega) (by omega)))) ⟨va_cnB 1 hts (kw_N k76) rfl rfl rfl (hE.2.2.1 (34, yX0_init) (by decide)) (hts _ (List.mem_cons_of_mem _ k4)) (by decide +kernel) ⟨(Nat.le_of_ble_eq_true rfl), (Nat.le_of_ble_eq_true rfl)⟩, rfl, hts _ (List.mem_cons_of_mem _ k75)⟩ (kG_pre hE hR hS [.ref q60, .int (nI n)]) rfl rfl hl.1 rfl (lv_room (Nat.le_of_ble_eq_true rfl)) dX2_init_76 ⟨(Nat.le_of_ble_eq_true rfl), (Nat.le_of_ble_eq_true rfl)⟩) hS (fun ad4 H locs hwad4 hR hS => ?_)
  refine tb_astqA (r := (RX0, TX0, 5)) hx hb hK hR hS 18 3 60 0 ((hwad4 18 (by omega)).trans (up_n (by omega) rfl)) ((hwad4 60 (by omega)).trans up_s) (bkC_n (by omega) (up_n (by omega) hJ.2.2.1)) rfl ((bkC_i (by omega)).trans (wP_b0 (by unfold isB; omega) _ _)) rfl 1 rfl (by decide) (by decide) dX2_init_79 (fun H locs hR hS => ?_)
  obtain ⟨ad3, C3, hJ, hR⟩ := x2_pk (x2J_s (i := 1) (b := 60) hn4 (by omega) hJ rfl hwad4) hR
  refine lv_iinc (v := nI 2) (lv' := [(3, .int (nI 2)), (0, .ref a), (1, .int p0), (2, .int p1)]) hx hb dX2_init_80 hl (k := 0) rfl (nI_1 1) (by decide) rfl (fun ls hl => ?_)
  refine lv_goto (tgt := 58) hx hb dX2_init_83 (by decide) ?_
  refine lv_iload_n hx hb dX2_init_58 rfl (lv_at hl 0 rfl) ?_
  refine lv_iconst (v := 4) hx hb dX2_init_59 (by decide) ?_
  refine lv_icmp_ge (tgt := 86) hx hb dX2_init_60 (by decide) (fun c9 => absurd c9 (by decide)) (fun _ => ?_)
  refine lv_aload_n hx hb dX2_init_63 rfl (lv_at hl 1 rfl) ?_
  refine tb_getA hx hb hts (fun w h => List.mem_cons_of_mem _ (inX2 w h)) hown hK hR 0 (hJ.1.trans ha) (hJ.2.1) rfl 4 (by decide) (hts _ (List.mem_cons_of_mem _ k105)) (fun _ h => h) (v := .ref (ad3 18)) rfl dX2_init_64 ?_
  refine lv_iload_n hx hb dX2_init_67 rfl (lv_at hl 0 rfl) ?_
  refine tb_new (fs := [.null, .null, .null, .int 0, .int 0]) hx hb hts (fun w h => List.mem_cons_of_mem _ (inX0 w h)) tyX0 tyX0_ok hown (hts _ (List.mem_cons_of_mem _ k72)) (hts _ (List.mem_cons_of_mem _ k73)) (hts _ (List.mem_cons_of_mem _ k4)) hK hR hS hA9 80 (hJ.2.2.2.2 80 (by omega) (by omega)) (ci := 0) rfl (fun j hj => by rcases (show j = 0 ∨ j = 1 ∨ j = 2 ∨ j = 3 ∨ j = 4 by omega) with rfl | rfl | rfl | rfl | rfl <;> rfl) (Nat.le_of_ble_eq_true rfl) (Nat.le_of_ble_eq_true rfl) dX2_init_68 (fun q80 H hR hS => ?_)
  refine lv_dup hx hb dX2_init_71 rfl ?_
  refine lv_aload_n hx hb dX2_init_72 rfl (lv_at hl 1 rfl) ?_
  refine tb_getA hx hb hts (fun w h => List.mem_cons_of_mem _ (inX2 w h)) hown hK hR 0 (up_n (by omega) (hJ.1.trans ha)) (up_n (by omega) hJ.2.1) rfl 1 (by decide) (hts _ (List.mem_cons_of_mem _ k102)) (fun _ h => h) (v := .int (nI n)) rfl dX2_init_73 ?_
  refine kg_v (va_runIN (As := [.int (nI n)]) (rest := [.ref q80, .int (nI 2), .ref (ad3 18)]) ⟨hx, hb, hml, hown, hts⟩ (mX0_init (n := n) (ad := va_up ad3 80 q80) 80 q80 (va_up C3 80 _) up_s (by unfold isB; omega) hn1 hn4 up_s (fun k h1 h2 => up_n (by omega) (hJ.2.2.2.2 k (by omega) (by omega)))) ⟨va_cnB 1 hts (kw_N k76) rfl rfl rfl (hE.2.2.1 (34, yX0_init) (by decide)) (hts _ (List.mem_cons_of_mem _ k4)) (by decide +kernel) ⟨(Nat.le_of_ble_eq_true rfl), (Nat.le_of_ble_eq_true rfl)⟩, rfl, hts _ (List.mem_cons_of_mem _ k75)⟩ (kG_pre hE hR hS [.ref q80, .int (nI n)]) rfl rfl hl.1 rfl (lv_room (Nat.le_of_ble_eq_true rfl)) dX2_init_76 ⟨(Nat.le_of_ble_eq_true rfl), (Nat.le_of_ble_eq_true rfl)⟩) hS (fun ad4 H locs hwad4 hR hS => ?_)
  refine tb_astqA (r := (RX0, TX0, 5)) hx hb hK hR hS 18 3 80 0 ((hwad4 18 (by omega)).trans (up_n (by omega) rfl)) ((hwad4 80 (by omega)).trans up_s) (bkC_n (by omega) (up_n (by omega) hJ.2.2.1)) rfl ((bkC_i (by omega)).trans (wP_b0 (by unfold isB; omega) _ _)) rfl 2 rfl (by decide) (by decide) dX2_init_79 (fun H locs hR hS => ?_)
  obtain ⟨ad3, C3, hJ, hR⟩ := x2_pk (x2J_s (i := 2) (b := 80) hn4 (by omega) hJ rfl hwad4) hR
  refine lv_iinc (v := nI 3) (lv' := [(3, .int (nI 3)), (0, .ref a), (1, .int p0), (2, .int p1)]) hx hb dX2_init_80 hl (k := 0) rfl (nI_1 2) (by decide) rfl (fun ls hl => ?_)
  refine lv_goto (tgt := 58) hx hb dX2_init_83 (by decide) ?_
  refine lv_iload_n hx hb dX2_init_58 rfl (lv_at hl 0 rfl) ?_
  refine lv_iconst (v := 4) hx hb dX2_init_59 (by decide) ?_
  refine lv_icmp_ge (tgt := 86) hx hb dX2_init_60 (by decide) (fun c9 => absurd c9 (by decide)) (fun _ => ?_)
  refine lv_aload_n hx hb dX2_init_63 rfl (lv_at hl 1 rfl) ?_
  refine tb_getA hx hb hts (fun w h => List.mem_cons_of_mem _ (inX2 w h)) hown hK hR 0 (hJ.1.trans ha) (hJ.2.1) rfl 4 (by decide) (hts _ (List.mem_cons_of_mem _ k105)) (fun _ h => h) (v := .ref (ad3 18)) rfl dX2_init_64 ?_
  refine lv_iload_n hx hb dX2_init_67 rfl (lv_at hl 0 rfl) ?_
  refine tb_new (fs := [.null, .null, .null, .int 0, .int 0]) hx hb hts (fun w h => List.mem_cons_of_mem _ (inX0 w h)) tyX0 tyX0_ok hown (hts _ (List.mem_cons_of_mem _ k72)) (hts _ (List.mem_cons_of_mem _ k73)) (hts _ (List.mem_cons_of_mem _ k4)) hK hR hS hA9 100 (hJ.2.2.2.2 100 (by omega) (by omega)) (ci := 0) rfl (fun j hj => by rcases (show j = 0 ∨ j = 1 ∨ j = 2 ∨ j = 3 ∨ j = 4 by omega) with rfl | rfl | rfl | rfl | rfl <;> rfl) (Nat.le_of_ble_eq_true rfl) (Nat.le_of_ble_eq_true rfl) dX2_init_68 (fun q100 H hR hS => ?_)
  refine lv_dup hx hb dX2_init_71 rfl ?_
  refine lv_aload_n hx hb dX2_init_72 rfl (lv_at hl 1 rfl) ?_
  refine tb_getA hx hb hts (fun w h => List.mem_cons_of_mem _ (inX2 w h)) hown hK hR 0 (up_n (by omega) (hJ.1.trans ha)) (up_n (by omega) hJ.2.1) rfl 1 (by decide) (hts _ (List.mem_cons_of_mem _ k102)) (fun _ h => h) (v := .int (nI n)) rfl dX2_init_73 ?_
  refine kg_v (va_runIN (As := [.int (nI n)]) (rest := [.ref q100, .int (nI 3), .ref (ad3 18)]) ⟨hx, hb, hml, hown, hts⟩ (mX0_init (n := n) (ad := va_up ad3 100 q100) 100 q100 (va_up C3 100 _) up_s (by unfold isB; omega) hn1 hn4 up_s (fun k h1 h2 => up_n (by omega) (hJ.2.2.2.2 k (by omega) (by omega)))) ⟨va_cnB 1 hts (kw_N k76) rfl rfl rfl (hE.2.2.1 (34, yX0_init) (by decide)) (hts _ (List.mem_cons_of_mem _ k4)) (by decide +kernel) ⟨(Nat.le_of_ble_eq_true rfl), (Nat.le_of_ble_eq_true rfl)⟩, rfl, hts _ (List.mem_cons_of_mem _ k75)⟩ (kG_pre hE hR hS [.ref q100, .int (nI n)]) rfl rfl hl.1 rfl (lv_room (Nat.le_of_ble_eq_true rfl)) dX2_init_76 ⟨(Nat.le_of_ble_eq_true rfl), (Nat.le_of_ble_eq_true rfl)⟩) hS (fun ad4 H locs hwad4 hR hS => ?_)
  refine tb_astqA (r := (RX0, TX0, 5)) hx hb hK hR hS 18 3 100 0 ((hwad4 18 (by omega)).trans (up_n (by omega) rfl)) ((hwad4 100 (by omega)).trans up_s) (bkC_n (by omega) (up_n (by omega) hJ.2.2.1)) rfl ((bkC_i (by omega)).trans (wP_b0 (by unfold isB; omega) _ _)) rfl 3 rfl (by decide) (by decide) dX2_init_79 (fun H locs hR hS => ?_)
  obtain ⟨ad3, C3, hJ, hR⟩ := x2_pk (x2J_s (i := 3) (b := 100) hn4 (by omega) hJ rfl hwad4) hR
  refine lv_iinc (v := nI 4) (lv' := [(3, .int (nI 4)), (0, .ref a), (1, .int p0), (2, .int p1)]) hx hb dX2_init_80 hl (k := 0) rfl (nI_1 3) (by decide) rfl (fun ls hl => ?_)
  refine lv_goto (tgt := 58) hx hb dX2_init_83 (by decide) ?_
  refine lv_iload_n hx hb dX2_init_58 rfl (lv_at hl 0 rfl) ?_
  refine lv_iconst (v := 4) hx hb dX2_init_59 (by decide) ?_
  refine lv_icmp_ge (tgt := 86) hx hb dX2_init_60 (by decide) (fun _ => ?_) (fun c9 => absurd (by decide) c9)
  refine lv_aload_n hx hb dX2_init_86 rfl (lv_at hl 1 rfl) ?_
  refine lv_iconst (v := 0) hx hb dX2_init_87 (by decide) ?_
  refine tb_putA hx hb hts (fun w h => List.mem_cons_of_mem _ (inX2 w h)) tyX2 tyX2_ok nmX2 hown hK hR hS 0 (hJ.1.trans ha) (hJ.2.1) rfl 5 (by decide) (hts _ (List.mem_cons_of_mem _ k106)) (fun _ h => h) rfl (tyX2_ok 5 (by decide)) rfl rfl (by show 5 < 9; decide) (gs := [.int p0, .int (nI n), .ref (ad3 1), .ref (ad3 20), .ref (ad3 18), .int 0, .int 0, .int 0, .int 0]) rfl dX2_init_88 (fun H locs hR hS => ?_)
  refine lv_aload_n hx hb dX2_init_91 rfl (lv_at hl 1 rfl) ?_
  refine lv_iconst (v := 0) hx hb dX2_init_92 (by decide) ?_
  refine tb_putA hx hb hts (fun w h => List.mem_cons_of_mem _ (inX2 w h)) tyX2 tyX2_ok nmX2 hown hK hR hS 0 (hJ.1.trans ha) (up_s) rfl 6 (by decide) (hts _ (List.mem_cons_of_mem _ k107)) (fun _ h => h) rfl (tyX2_ok 6 (by decide)) rfl rfl (by show 6 < 9; decide) (gs := [.int p0, .int (nI n), .ref (ad3 1), .ref (ad3 20), .ref (ad3 18), .int 0, .int 0, .int 0, .int 0]) rfl dX2_init_93 (fun H locs hR hS => ?_)
  refine lv_aload_n hx hb dX2_init_96 rfl (lv_at hl 1 rfl) ?_
  refine lv_iconst (v := 0) hx hb dX2_init_97 (by decide) ?_
  refine tb_putA hx hb hts (fun w h => List.mem_cons_of_mem _ (inX2 w h)) tyX2 tyX2_ok nmX2 hown hK hR hS 0 (hJ.1.trans ha) (up_s) rfl 7 (by decide) (hts _ (List.mem_cons_of_mem _ k108)) (fun _ h => h) rfl (tyX2_ok 7 (by decide)) rfl rfl (by show 7 < 9; decide) (gs := [.int p0, .int (nI n), .ref (ad3 1), .ref (ad3 20), .ref (ad3 18), .int 0, .int 0, .int 0, .int 0]) rfl dX2_init_98 (fun H locs hR hS => ?_)
  refine lv_aload_n hx hb dX2_init_101 rfl (lv_at hl 1 rfl) ?_
  refine lv_iconst (v := 1) hx hb dX2_init_102 (by decide) ?_
  refine tb_putA hx hb hts (fun w h => List.mem_cons_of_mem _ (inX2 w h)) tyX2 tyX2_ok nmX2 hown hK hR hS 0 (hJ.1.trans ha) (up_s) rfl 8 (by decide) (hts _ (List.mem_cons_of_mem _ k109)) (fun _ h => h) rfl (tyX2_ok 8 (by decide)) rfl rfl (by show 8 < 9; decide) (gs := [.int p0, .int (nI n), .ref (ad3 1), .ref (ad3 20), .ref (ad3 18), .int 0, .int 0, .int 0, .int 1]) rfl dX2_init_103 (fun H locs hR hS => ?_)
  replace hR := hR.less (x2_fin hJ)
  refine W.widen (k := 80) (n := 11000) (by omega) (by omega) ?_
  exact W.vret hx hb hr (fun t ht hW => ⟨⟨ad3, rfl, hJ.1, by show tR _ _ _ _ _ t.heap; rw [ht]; exact hR⟩, hS.F ht⟩) hS.2.2 dX2_init_106
end I1
