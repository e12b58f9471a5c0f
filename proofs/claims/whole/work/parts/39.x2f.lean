section C12
variable {l : Launch} {D : va_G} {cs : Nat → ClassId} {base : Nat} {sa : Nat → Nat} {n : Nat} {ad : Nat → Nat}
set_option maxHeartbeats 4000000 in
set_option maxRecDepth 100000 in
theorem lpX2_run {p : Program} {e : Env} {R : Room} {s : State} {m : MethodId} {args : Array Value} {below : List Frame} {meth : Method} {c : Code} {cells slots : Nat} {Q : State → Prop} (S0 : CallFix p m c cX2_run 3 s args wX2_run RX2) (hE : eV D cs base sa s) (hRf : 5 ≤ R.frames) (hRl : 170 ≤ R.locals) (hRc : cells ≤ R.cells) (hRs : slots ≤ R.slots) (I : tI) (L : tL) {nd no : Nat} {f la : Nat → Nat} {ph : Nat → Int32} {w : Nat → Nat → Nat} {ea lt le mo : Nat → Nat} {Y : Nat → Nat → Nat} {st : Nat → Int64} {Rw : Nat → Nat → Nat → Nat} {kp sp : Nat} (bu ev x : Nat) (hSi : cSi I nd no f la ph w ea lt le mo) (hwf : wfS nd no f la w ea lt le mo) (hcf : cCf I n bu ev) (hwY : ∀ c, c < n → wfY nd no f la ea lt le mo (Y c)) (hx100 : x ≤ 100) (hsp : sp + 100 < 2 ^ 19) (hk60 : kp + cK bu ev sp x ≤ 60)
    (kx : ∀ (J : tI) (K : tL) (H : Heap) (locs : List Loc) (ls : Array Slot), cCo J K n nd 20 (iY nd no f la w ea lt le mo Y st x).1 (iY nd no f la w ea lt le mo Y st x).2 (iR nd no f la w ea lt le mo Y st Rw kp sp bu ev x) (kp + cK bu ev sp x) (sp + x) → ((∀ k, (k < 20 ∨ 40 ≤ k) → J k = I k) ∧ ∀ k, k ≠ 22 → K k = L k) → tR D vwCl base ad (tC (wP n ad cs) J K) H → va_S (fun q => base ≤ q) s.heap H locs → lv_has ls 3 [(2, .int (nI x)), (0, .ref (ad 0)), (1, .int (nI x))] → W p l e R s m args below meth c H locs cells slots Q (F0 m 69 ls [])) :
    ∀ (k j : Nat) (J : tI) (K : tL) (H : Heap) (locs : List Loc) (ls : Array Slot), j ≤ x → x + 1 ≤ j + k → cCo J K n nd 20 (iY nd no f la w ea lt le mo Y st j).1 (iY nd no f la w ea lt le mo Y st j).2 (iR nd no f la w ea lt le mo Y st Rw kp sp bu ev j) (kp + cK bu ev sp j) (sp + j) → ((∀ k, (k < 20 ∨ 40 ≤ k) → J k = I k) ∧ ∀ k, k ≠ 22 → K k = L k) → tR D vwCl base ad (tC (wP n ad cs) J K) H → va_S (fun q => base ≤ q) s.heap H locs → lv_has ls 3 [(2, .int (nI j)), (0, .ref (ad 0)), (1, .int (nI x))] → W p l e R s m args below meth c H locs cells slots Q (F0 m 54 ls []) := by
  obtain ⟨hx, hb, hml, hown, hts⟩ := S0
  have hK := hE.K
  obtain ⟨h_nd, h_no, h_d, h_o⟩ := id hwf
  obtain ⟨h_c1, h_c2, h_c3, h_n1, h_n4, h_bu, h_e1, h_e2⟩ := id hcf
  have hn4 : n ≤ 4 := h_n4
  intro k
  induction k with
  | zero => intro j J K H locs ls h1 h2; exact absurd h2 (by omega)
  | succ k ih =>
    intro j J K H locs ls hj hk hJ hF hR hS hl
    refine lv_iload_n hx hb dX2_run_54 rfl (lv_at hl 0 rfl) ?_
    refine lv_iload_n hx hb dX2_run_55 rfl (lv_at hl 2 rfl) ?_
    refine lv_icmp_ge (tgt := 69) hx hb dX2_run_56 (by decide) (fun c1 => ?_) (fun c1 => ?_)
    · have hjN : j = x := by have e9 := (nI_leI (by omega) (by omega)).mp c1; omega
      subst hjN
      exact kx J K H locs ls hJ hF hR hS (lv_sub hl [0, 1, 2] rfl)
    · have hjN : j < x := by
        rcases Nat.lt_or_ge j x with q | q
        · exact q
        · exact absurd (nI_le (by omega) (by omega)) c1
      refine lv_aload_n hx hb dX2_run_59 rfl (lv_at hl 1 rfl) ?_
      have e9 : kp + cK bu ev sp j + kN bu ev (sp + j + 1) = kp + cK bu ev sp (j + 1) := Nat.add_assoc _ _ _
      refine kc_v (va_runV (As := []) (rest := []) ⟨hx, hb, hml, hown, hts⟩ (mX2_stepAll J K bu ev (hSi.of h_nd (fun k a b => hF.1 k (by omega))) hwf (hcf.of (hF.1 0 (by omega))) hJ (iY_wf hwf hwY j) (by omega) (by have := cK_mono bu ev sp (show j + 1 ≤ x by omega); rw [e9]; exact Nat.le_trans (Nat.add_le_add_left this kp) hk60)) (cwV 0 hts (kw_V k358 k360 ks14 k1 k361) rfl rfl rfl (by decide +kernel) ⟨Nat.le_trans (Nat.le_of_ble_eq_true rfl) hRf, Nat.le_trans (Nat.le_of_ble_eq_true rfl) hRl⟩) (kB_preV hE hR hS 0 rfl rfl []) rfl rfl hl.1 rfl (lv_room (Nat.le_of_ble_eq_true rfl)) dX2_run_60 ⟨hRc, hRs⟩) hS (fun u H locs hw hR hS => ?_)
      obtain ⟨q1, q2, q3⟩ := hw
      rw [e9] at q1
      refine lv_iinc (v := nI (j + 1)) (lv' := [(2, .int (nI (j + 1))), (0, .ref (ad 0)), (1, .int (nI x))]) hx hb dX2_run_63 hl (k := 0) rfl (nI_1 _) (by decide) rfl (fun ls hl => ?_)
      refine lv_goto (tgt := 54) hx hb dX2_run_66 (by decide) ?_
      exact ih (j + 1) u.1 u.2 H locs ls (by omega) (by omega) q1 ⟨fun k hk => (q2 k hk).trans (hF.1 k hk), fun k hk => (q3 k hk).trans (hF.2 k hk)⟩ hR hS (lv_sub hl [0, 1, 2] rfl)
set_option maxHeartbeats 4000000 in
set_option maxRecDepth 100000 in
theorem mX2_run (hl0 : l.stackTraces = false) (I : tI) (L : tL) {nd no : Nat} {f la : Nat → Nat} {ph : Nat → Int32} {w : Nat → Nat → Nat} {ea lt le mo : Nat → Nat} {Y : Nat → Nat → Nat} {st : Nat → Int64} {Rw : Nat → Nat → Nat → Nat} {kp sp : Nat} (bu ev B : Nat) (p0 : Int32) (hSi : cSi I nd no f la ph w ea lt le mo) (hwf : wfS nd no f la w ea lt le mo) (hcf : cCf I n bu ev) (sd : Nat) (hsd : I 0 6 = nI sd) (hs1 : sd ≤ 1) (hC : sd = 1 → cCo I L n nd 20 Y st Rw kp sp ∧ wCo n nd no f la ea lt le mo B Y Rw kp sp) (hB : B + 100 < 2 ^ 19) : vx_Met l yX2_run wX2_run ({ frames := 8, cells := 2, slots := 12, locals := 200 }) (va_Pc [.ref (ad 0), .int p0] (kB D cs base sa n ad I L)) (va_Qi (fun (r : Int32) (u : tI × tL) => inN 101 p0 ∧ rOk sd kp bu ev sp p0 ∧ ∃ x, x ≤ 100 ∧ p0 = nI x ∧ r = nI (kp + cK bu ev sp x) ∧ cCo u.1 u.2 n nd 20 (iY nd no f la w ea lt le mo Y st x).1 (iY nd no f la w ea lt le mo Y st x).2 (iR nd no f la w ea lt le mo Y st Rw kp sp bu ev x) (kp + cK bu ev sp x) (sp + x) ∧ (∀ k, (k < 20 ∨ 40 ≤ k) → u.1 k = I k) ∧ ∀ k, k ≠ 22 → u.2 k = L k) (kA D cs base n ad) (fun q => base ≤ q)) (kX D cs base n ad I L (fun E => (E = eI ∧ ¬ inN 101 p0) ∨ (E = eS ∧ inN 101 p0 ∧ ¬ rOk sd kp bu ev sp p0))) 2 12 (fun q => base ≤ q) := by
  refine vx_ofW (cc := cX2_run) (maxL := 3) (ret := (some .int)) (by decide) rfl ?_
  intro p e s m args below meth c s₁ Bd hml htab hv
  obtain ⟨rfl, hE, hR⟩ := hv
  have hx := Bd.exec
  have hb := Bd.bytes
  have hr := Bd.returns
  have hts := atoms_spec (ws := wX2_run) Bd.pre
  have hown : s.vm.findClass RX2 = some m.cls := findClass_of_methodNamed Bd.named
  have hlocks := Bd.notSynchronized
  have hK := hE.K
  have hS : va_S (fun q => base ≤ q) s.heap s.heap [] := va_S.rf
  have hR : tR D vwCl base ad (tC (wP n ad cs) I L) s.heap := hR
  have hl := lv_entry ([.ref (ad 0), .int p0]) (n := 3) (Nat.le_of_ble_eq_true rfl)
  rw [lg_entry_eq]
  generalize (lg_sl ([.ref (ad 0), .int p0]) ++ List.replicate (3 - (lg_sl ([.ref (ad 0), .int p0])).length) Slot.unset).toArray = ls at hl ⊢
  have hl : lv_has ls 3 [(0, .ref (ad 0)), (1, .int p0)] := hl
  obtain ⟨h_nd, h_no, h_d, h_o⟩ := id hwf
  obtain ⟨h_c1, h_c2, h_c3, h_n1, h_n4, h_bu, h_e1, h_e2⟩ := id hcf
  have hn4 : n ≤ 4 := h_n4
  refine lv_iload_n hx hb dX2_run_0 rfl (lv_at hl 1 rfl) ?_
  refine lv_if_lt (tgt := 10) hx hb dX2_run_1 (by decide) (fun c1 => ?_) (fun c1 => ?_)
  · exact th_I hx hb hl0 hown hts hE hR hS (hl.1.trans hml.symm) 137 "steps" (by decide) dX2_run_14 dX2_run_13 dX2_run_19 htab hlocks (Nat.le_of_ble_eq_true rfl) (Nat.le_of_ble_eq_true rfl) (Nat.le_of_ble_eq_true rfl) (Nat.le_of_ble_eq_true rfl) (Nat.le_of_ble_eq_true rfl) (Nat.le_of_ble_eq_true rfl) (Or.inl ⟨rfl, inN_neg (by decide) c1⟩) dX2_run_10 dX2_run_16
  · refine lv_iload_n hx hb dX2_run_4 rfl (lv_at hl 1 rfl) ?_
    refine lv_bipush (v := 100) hx hb dX2_run_5 (by decide) ?_
    refine lv_icmp_le (tgt := 20) hx hb dX2_run_7 (by decide) (fun c2 => ?_) (fun c2 => ?_)
    · obtain ⟨x, hx0, hx100, rfl⟩ := inR_of (a := 0) (b := 100) (by decide) (by decide) (show ¬ p0 < nI 0 from c1) (show p0 ≤ nI 100 from c2)
      have hin : inN 101 (nI x) := ⟨x, by omega, rfl⟩
      refine lv_aload_n hx hb dX2_run_20 rfl (lv_at hl 0 rfl) ?_
      refine kt_v (vx_runV (As := []) (rest := []) ⟨hx, hb, hml, hown, hts⟩ (mX2_needStarted hl0 I L sd hsd hs1) (cwV 0 hts (kw_V k344 k346 ks11 k1 k347) rfl rfl rfl (by decide +kernel) ⟨Nat.le_of_ble_eq_true rfl, Nat.le_of_ble_eq_true rfl⟩) (kB_preV hE hR hS 0 rfl rfl []) rfl rfl hl.1 rfl (lv_room (Nat.le_of_ble_eq_true rfl)) dX2_run_21 ⟨Nat.le_of_ble_eq_true rfl, Nat.le_of_ble_eq_true rfl⟩) hS htab hlocks (fun E h => Or.inr ⟨h.1, hin, fun z => h.2 z.1⟩) (Nat.le_of_ble_eq_true rfl) (Nat.le_of_ble_eq_true rfl) (fun u H locs hw hR hS => ?_)
      obtain ⟨hs, rfl⟩ := hw
      have hR : tR D vwCl base ad (tC (wP n ad cs) I L) H := hR
      obtain ⟨hCo, hwY, hk60, hspB, hRb⟩ := hC hs
      refine lv_aload_n hx hb dX2_run_24 rfl (lv_at hl 0 rfl) ?_
      refine tb_get hx hb hts (fun w h => List.mem_cons_of_mem _ (inX2 w h)) hown hK hR 0 rfl rfl 3 (by decide) (hts _ (List.mem_cons_of_mem _ k104)) (fun _ h => h) rfl dX2_run_25 ?_
      refine tb_getN hx hb hts (fun w h => List.mem_cons_of_mem _ (inX0 w h)) hown hK hR 20 rfl rfl 3 (by decide) (va_Nw.use rfl (hE.2.1 (117, "SeedChains$Course", "kept", "I") (by decide))) (fun _ h => h) rfl dX2_run_28 ?_
      rw [show I 20 3 = nI kp from hCo.1]
      refine lv_aload_n hx hb dX2_run_31 rfl (lv_at hl 0 rfl) ?_
      refine lv_iload_n hx hb dX2_run_32 rfl (lv_at hl 1 rfl) ?_
      refine kc_i (va_runV (As := [.int (nI x)]) (rest := [.int (nI kp)]) ⟨hx, hb, hml, hown, hts⟩ (mX2_rowsToCome I L x sp bu ev hcf hCo.2.1 hx100 (by omega)) (cwV 1 hts (kw_V k349 k351 ks12 k1 k352) rfl rfl rfl (by decide +kernel) ⟨Nat.le_of_ble_eq_true rfl, Nat.le_of_ble_eq_true rfl⟩) (kB_preV hE hR hS 0 rfl rfl [.int (nI x)]) rfl rfl hl.1 rfl (lv_room (Nat.le_of_ble_eq_true rfl)) dX2_run_33 ⟨Nat.le_of_ble_eq_true rfl, Nat.le_of_ble_eq_true rfl⟩) hS (fun r u H locs hw hR hS => ?_)
      obtain ⟨rfl, rfl⟩ := hw
      have hR : tR D vwCl base ad (tC (wP n ad cs) I L) H := hR
      have h_ck := cK_le bu ev sp x
      refine lv_iadd hx hb dX2_run_36 ?_
      rw [nI_add]
      refine lv_bipush (v := 60) hx hb dX2_run_37 (by decide) ?_
      refine lv_icmp_le (tgt := 52) hx hb dX2_run_39 (by decide) (fun c3 => ?_) (fun c3 => ?_)
      · have hle : kp + cK bu ev sp x ≤ 60 := (nI_leI (by omega) (by decide)).mp (show nI (kp + cK bu ev sp x) ≤ nI 60 from c3)
        have hro : rOk sd kp bu ev sp (nI x) := ⟨hs, fun y hy e => by rw [← (nI_eq (by omega) (by omega)).mp e]; exact hle⟩
        refine lv_iconst (v := 0) hx hb dX2_run_52 (by decide) ?_
        rw [show (0 : Int32) = nI 0 from nI_0.symm]
        refine lv_istore_n (lv' := [(2, .int (nI 0)), (0, .ref (ad 0)), (1, .int (nI x))]) hx hb dX2_run_53 rfl hl (by decide) rfl (fun ls hl => ?_)
        refine lpX2_run ⟨hx, hb, hml, hown, hts⟩ hE (Nat.le_of_ble_eq_true rfl) (Nat.le_of_ble_eq_true rfl) (Nat.le_of_ble_eq_true rfl) (Nat.le_of_ble_eq_true rfl) I L bu ev x hSi hwf hcf hwY hx100 (by omega) hle (fun J K H locs ls hJ hF hR hS hl => ?_) (x + 1) 0 I L _ _ ls (Nat.zero_le _) (by omega) hCo ⟨fun _ _ => rfl, fun _ _ => rfl⟩ hR hS (lv_sub hl [0, 1, 2] rfl)
        refine lv_aload_n hx hb dX2_run_69 rfl (lv_at hl 1 rfl) ?_
        refine tb_get hx hb hts (fun w h => List.mem_cons_of_mem _ (inX2 w h)) hown hK hR 0 rfl rfl 3 (by decide) (hts _ (List.mem_cons_of_mem _ k104)) (fun _ h => h) rfl dX2_run_70 ?_
        refine tb_getN hx hb hts (fun w h => List.mem_cons_of_mem _ (inX0 w h)) hown hK hR 20 rfl rfl 3 (by decide) (va_Nw.use rfl (hE.2.1 (117, "SeedChains$Course", "kept", "I") (by decide))) (fun _ h => h) rfl dX2_run_73 ?_
        rw [show J 20 3 = nI (kp + cK bu ev sp x) from hJ.1]
        refine W.widen (k := 2) (n := 12) (Nat.le_of_ble_eq_true rfl) (Nat.le_of_ble_eq_true rfl) ?_
        refine vx_ret ?_
        exact W.iret (v := nI (kp + cK bu ev sp x)) hx hb hr (fun t ht hW => ⟨⟨_, (J, K), rfl, ⟨hin, hro, x, hx100, rfl, rfl, hJ, hF⟩, by show tR _ _ _ _ _ t.heap; rw [ht]; exact hR⟩, hS.F ht⟩) hS.2.2 dX2_run_76
      · exact th_S hx hb hl0 hown hts hE hR hS (hl.1.trans hml.symm) 145 "more than 60 rows" (by decide) dX2_run_46 dX2_run_45 dX2_run_51 htab hlocks (Nat.le_of_ble_eq_true rfl) (Nat.le_of_ble_eq_true rfl) (Nat.le_of_ble_eq_true rfl) (Nat.le_of_ble_eq_true rfl) (Nat.le_of_ble_eq_true rfl) (Nat.le_of_ble_eq_true rfl) (Or.inr ⟨rfl, hin, fun z => c3 (show nI (kp + cK bu ev sp x) ≤ nI 60 from nI_le (z.2 x hx100 rfl) (by decide))⟩) dX2_run_42 dX2_run_48
    · exact th_I hx hb hl0 hown hts hE hR hS (hl.1.trans hml.symm) 137 "steps" (by decide) dX2_run_14 dX2_run_13 dX2_run_19 htab hlocks (Nat.le_of_ble_eq_true rfl) (Nat.le_of_ble_eq_true rfl) (Nat.le_of_ble_eq_true rfl) (Nat.le_of_ble_eq_true rfl) (Nat.le_of_ble_eq_true rfl) (Nat.le_of_ble_eq_true rfl) (Or.inl ⟨rfl, fun z => inR_hi (a := 0) (b := 100) (by decide) (show ¬ p0 ≤ nI 100 from c2) (by obtain ⟨j, hj, e⟩ := z; exact ⟨j, Nat.zero_le _, by omega, e⟩)⟩) dX2_run_10 dX2_run_16
set_option maxHeartbeats 4000000 in
set_option maxRecDepth 100000 in
theorem mX2_at (hl0 : l.stackTraces = false) (I : tI) (L : tL) {nd no : Nat} {f la : Nat → Nat} {ph : Nat → Int32} {w : Nat → Nat → Nat} {ea lt le mo : Nat → Nat} {Y : Nat → Nat → Nat} {st : Nat → Int64} {Rw : Nat → Nat → Nat → Nat} {kp sp : Nat} (bu ev B : Nat) (p0 p1 p2 : Int32) (hSi : cSi I nd no f la ph w ea lt le mo) (hwf : wfS nd no f la w ea lt le mo) (hcf : cCf I n bu ev) (sd : Nat) (hsd : I 0 6 = nI sd) (hs1 : sd ≤ 1) (hC : sd = 1 → cCo I L n nd 20 Y st Rw kp sp ∧ wCo n nd no f la ea lt le mo B Y Rw kp sp) : vx_Met l yX2_at wX2_at ({ frames := 8, cells := 3, slots := 18, locals := 140 }) (va_Pc [.ref (ad 0), .int p0, .int p1, .int p2] (kB D cs base sa n ad I L)) (va_Qi (fun (r : Int32) (u : tI × tL) => aOk n nd sd kp p0 p1 p2 ∧ sd = 1 ∧ u = (I, L) ∧ ∃ c d, c < n ∧ d < nd ∧ p0 = nI c ∧ p2 = nI d ∧ ((p1 = -1 ∧ r = nI (Y c d)) ∨ ∃ k, k < kp ∧ p1 = nI k ∧ r = nI (Rw c k d))) (kA D cs base n ad) (fun q => base ≤ q)) (kX D cs base n ad I L (fun E => (E = eN ∧ ¬ aOk n nd sd kp p0 p1 p2) ∨ (E = eS ∧ aOk n nd sd kp p0 p1 p2 ∧ ¬ sd = 1))) 3 18 (fun q => base ≤ q) := by
  refine vx_ofW (cc := cX2_at) (maxL := 4) (ret := (some .int)) (by decide) rfl ?_
  intro p e s m args below meth c s₁ Bd hml htab hv
  obtain ⟨rfl, hE, hR⟩ := hv
  have hx := Bd.exec
  have hb := Bd.bytes
  have hr := Bd.returns
  have hts := atoms_spec (ws := wX2_at) Bd.pre
  have hown : s.vm.findClass RX2 = some m.cls := findClass_of_methodNamed Bd.named
  have hlocks := Bd.notSynchronized
  have hK := hE.K
  have hS : va_S (fun q => base ≤ q) s.heap s.heap [] := va_S.rf
  have hR : tR D vwCl base ad (tC (wP n ad cs) I L) s.heap := hR
  have hl := lv_entry ([.ref (ad 0), .int p0, .int p1, .int p2]) (n := 4) (Nat.le_of_ble_eq_true rfl)
  rw [lg_entry_eq]
  generalize (lg_sl ([.ref (ad 0), .int p0, .int p1, .int p2]) ++ List.replicate (4 - (lg_sl ([.ref (ad 0), .int p0, .int p1, .int p2])).length) Slot.unset).toArray = ls at hl ⊢
  have hl : lv_has ls 4 [(0, .ref (ad 0)), (1, .int p0), (2, .int p1), (3, .int p2)] := hl
  obtain ⟨h_nd, h_no, h_d, h_o⟩ := id hwf
  obtain ⟨h_c1, h_c2, h_c3, h_n1, h_n4, h_bu, h_e1, h_e2⟩ := id hcf
  have hn4 : n ≤ 4 := h_n4
  refine lv_iload_n hx hb dX2_at_0 rfl (lv_at hl 1 rfl) ?_
  refine lv_if_lt (tgt := 12) hx hb dX2_at_1 (by decide) (fun c1 => ?_) (fun c1 => ?_)
  · exact th_N hx hb hl0 hown hts hE hR hS (hl.1.trans hml.symm) 152 "chain" (by decide) dX2_at_16 dX2_at_15 dX2_at_21 htab hlocks (Nat.le_of_ble_eq_true rfl) (Nat.le_of_ble_eq_true rfl) (Nat.le_of_ble_eq_true rfl) (Nat.le_of_ble_eq_true rfl) (Nat.le_of_ble_eq_true rfl) (Nat.le_of_ble_eq_true rfl) (Or.inl ⟨rfl, fun z => inN_neg (by omega) c1 z.1⟩) dX2_at_12 dX2_at_18
  · refine lv_iload_n hx hb dX2_at_4 rfl (lv_at hl 1 rfl) ?_
    refine lv_aload_n hx hb dX2_at_5 rfl (lv_at hl 0 rfl) ?_
    refine tb_get hx hb hts (fun w h => List.mem_cons_of_mem _ (inX2 w h)) hown hK hR 0 rfl rfl 1 (by decide) (hts _ (List.mem_cons_of_mem _ k102)) (fun _ h => h) rfl dX2_at_6 ?_
    rw [show I 0 1 = nI n from hcf.1]
    refine lv_icmp_lt (tgt := 22) hx hb dX2_at_9 (by decide) (fun c2 => ?_) (fun c2 => ?_)
    · have hp0 : inN n p0 := inN_of (by omega) c1 (i_lt_n c2)
      refine lv_aload_n hx hb dX2_at_22 rfl (lv_at hl 0 rfl) ?_
      refine lv_iload_n hx hb dX2_at_23 rfl (lv_at hl 3 rfl) ?_
      refine kt_v (vx_runV (As := [.int p2]) (rest := []) ⟨hx, hb, hml, hown, hts⟩ (mX2_needDate hl0 I L nd p2 hSi.1 h_nd) (cwV 1 hts (kw_V k266 k268 ks7 k1 k269) rfl rfl rfl (by decide +kernel) ⟨Nat.le_of_ble_eq_true rfl, Nat.le_of_ble_eq_true rfl⟩) (kB_preV hE hR hS 0 rfl rfl [.int p2]) rfl rfl hl.1 rfl (lv_room (Nat.le_of_ble_eq_true rfl)) dX2_at_24 ⟨Nat.le_of_ble_eq_true rfl, Nat.le_of_ble_eq_true rfl⟩) hS htab hlocks (fun E h => Or.inl ⟨h.1, fun z => h.2 z.2.1⟩) (Nat.le_of_ble_eq_true rfl) (Nat.le_of_ble_eq_true rfl) (fun u H locs hw hR hS => ?_)
      obtain ⟨hp2, rfl⟩ := hw
      have hR : tR D vwCl base ad (tC (wP n ad cs) I L) H := hR
      refine lv_iload_n hx hb dX2_at_27 rfl (lv_at hl 2 rfl) ?_
      refine lv_iconst (v := -1) hx hb dX2_at_28 (by decide) ?_
      refine lv_icmp_ge (tgt := 42) hx hb dX2_at_29 (by decide) (fun c3 => ?_) (fun c3 => ?_)
      · have hp1 : ¬ p1 < -1 := fun q => i_lt_n q c3
        refine lv_aload_n hx hb dX2_at_42 rfl (lv_at hl 0 rfl) ?_
        refine kt_v (vx_runV (As := []) (rest := []) ⟨hx, hb, hml, hown, hts⟩ (mX2_needStarted hl0 I L sd hsd hs1) (cwV 0 hts (kw_V k344 k346 ks11 k1 k347) rfl rfl rfl (by decide +kernel) ⟨Nat.le_of_ble_eq_true rfl, Nat.le_of_ble_eq_true rfl⟩) (kB_preV hE hR hS 0 rfl rfl []) rfl rfl hl.1 rfl (lv_room (Nat.le_of_ble_eq_true rfl)) dX2_at_43 ⟨Nat.le_of_ble_eq_true rfl, Nat.le_of_ble_eq_true rfl⟩) hS htab hlocks (fun E h => Or.inr ⟨h.1, ⟨hp0, hp2, hp1, fun z => absurd z h.2⟩, h.2⟩) (Nat.le_of_ble_eq_true rfl) (Nat.le_of_ble_eq_true rfl) (fun u H locs hw hR hS => ?_)
        obtain ⟨hs, rfl⟩ := hw
        have hR : tR D vwCl base ad (tC (wP n ad cs) I L) H := hR
        obtain ⟨hCo, hwY, hk60, hspB, hRb⟩ := hC hs
        refine lv_iload_n hx hb dX2_at_46 rfl (lv_at hl 2 rfl) ?_
        refine lv_aload_n hx hb dX2_at_47 rfl (lv_at hl 0 rfl) ?_
        refine tb_get hx hb hts (fun w h => List.mem_cons_of_mem _ (inX2 w h)) hown hK hR 0 rfl rfl 3 (by decide) (hts _ (List.mem_cons_of_mem _ k104)) (fun _ h => h) rfl dX2_at_48 ?_
        refine tb_getN hx hb hts (fun w h => List.mem_cons_of_mem _ (inX0 w h)) hown hK hR 20 rfl rfl 3 (by decide) (va_Nw.use rfl (hE.2.1 (117, "SeedChains$Course", "kept", "I") (by decide))) (fun _ h => h) rfl dX2_at_51 ?_
        rw [show I 20 3 = nI kp from hCo.1]
        refine lv_icmp_lt (tgt := 67) hx hb dX2_at_54 (by decide) (fun c4 => ?_) (fun c4 => ?_)
        · have hok : aOk n nd sd kp p0 p1 p2 := ⟨hp0, hp2, hp1, fun _ => c4⟩
          obtain ⟨ch, hch, rfl⟩ := id hp0
          obtain ⟨d, hd, rfl⟩ := id hp2
          refine lv_iload_n hx hb dX2_at_67 rfl (lv_at hl 2 rfl) ?_
          refine lv_iconst (v := -1) hx hb dX2_at_68 (by decide) ?_
          refine lv_icmp_ne (tgt := 86) hx hb dX2_at_69 (by decide) (fun c5 => ?_) (fun c5 => ?_)
          · obtain ⟨k, hk31, rfl⟩ := nI_of (i_m1k hp1 c5)
            have hk : k < kp := (nI_ltI hk31 (by omega)).mp c4
            refine lv_aload_n hx hb dX2_at_86 rfl (lv_at hl 0 rfl) ?_
            refine tb_get hx hb hts (fun w h => List.mem_cons_of_mem _ (inX2 w h)) hown hK hR 0 rfl rfl 3 (by decide) (hts _ (List.mem_cons_of_mem _ k104)) (fun _ h => h) rfl dX2_at_87 ?_
            refine lv_iload_n hx hb dX2_at_90 rfl (lv_at hl 1 rfl) ?_
            refine lv_iload_n hx hb dX2_at_91 rfl (lv_at hl 2 rfl) ?_
            refine lv_iload_n hx hb dX2_at_92 rfl (lv_at hl 3 rfl) ?_
            refine kc_i (va_runVN (As := [.int (nI ch), .int (nI k), .int (nI d)]) (rest := []) ⟨hx, hb, hml, hown, hts⟩ (mX0_keptYear I L 20 ch k d (Or.inl rfl) (by omega) (by omega) (by omega)) ⟨va_cnB 3 hts (kw_N k401) rfl rfl rfl (hE.2.2.1 (157, yX0_keptYear) (by decide)) (hts _ (List.mem_cons_of_mem _ k4)) (by decide +kernel) ⟨Nat.le_of_ble_eq_true rfl, Nat.le_of_ble_eq_true rfl⟩, hts _ (List.mem_cons_of_mem _ k400), hts _ (List.mem_cons_of_mem _ ks20)⟩ (kB_preV hE hR hS 20 rfl rfl [.int (nI ch), .int (nI k), .int (nI d)]) rfl rfl hl.1 rfl (lv_room (Nat.le_of_ble_eq_true rfl)) dX2_at_93 ⟨Nat.le_of_ble_eq_true rfl, Nat.le_of_ble_eq_true rfl⟩) hS (fun r u H locs hw hR hS => ?_)
            obtain ⟨rfl, rfl⟩ := hw
            have hR : tR D vwCl base ad (tC (wP n ad cs) I L) H := hR
            rw [show (I (20 + 8 + ch) (k * 8 + d)) = nI (Rw ch k d) from (hCo.2.2 ch (by omega)).2.2 k (by omega) d (by omega)]
            refine W.widen (k := 3) (n := 18) (Nat.le_of_ble_eq_true rfl) (Nat.le_of_ble_eq_true rfl) ?_
            refine vx_ret ?_
            exact W.iret (v := nI (Rw ch k d)) hx hb hr (fun t ht hW => ⟨⟨_, (I, L), rfl, ⟨hok, hs, rfl, ch, d, hch, hd, rfl, rfl, Or.inr ⟨k, hk, rfl, rfl⟩⟩, by show tR _ _ _ _ _ t.heap; rw [ht]; exact hR⟩, hS.F ht⟩) hS.2.2 dX2_at_96
          · have hm1 : p1 = -1 := c5
            refine lv_aload_n hx hb dX2_at_72 rfl (lv_at hl 0 rfl) ?_
            refine tb_get hx hb hts (fun w h => List.mem_cons_of_mem _ (inX2 w h)) hown hK hR 0 rfl rfl 3 (by decide) (hts _ (List.mem_cons_of_mem _ k104)) (fun _ h => h) rfl dX2_at_73 ?_
            refine tb_getN hx hb hts (fun w h => List.mem_cons_of_mem _ (inX0 w h)) hown hK hR 20 rfl rfl 0 (by decide) (va_Nw.use rfl (hE.2.1 (129, "SeedChains$Course", "years", "[[I") (by decide))) (fun _ h => h) rfl dX2_at_76 ?_
            refine lv_iload_n hx hb dX2_at_79 rfl (lv_at hl 1 rfl) ?_
            refine tb_aald hx hb hK hR 21 2 rfl rfl ch rfl (by omega) (by omega) (if_pos (by omega)) dX2_at_80 ?_
            refine lv_iload_n hx hb dX2_at_81 rfl (lv_at hl 3 rfl) ?_
            refine tp_iald hx hb hK hR (20 + 4 + ch) 0 (fun _ _ => wP_b4 (by unfold isB; omega) hn4 (by omega) _ _) rfl d rfl (by omega) (by decide) dX2_at_82 ?_
            rw [show I (20 + 4 + ch) d = nI (Y ch d) from (hCo.2.2 ch (by omega)).2.1 d (by omega)]
            refine lv_goto (tgt := 96) hx hb dX2_at_83 (by decide) ?_
            refine W.widen (k := 3) (n := 18) (Nat.le_of_ble_eq_true rfl) (Nat.le_of_ble_eq_true rfl) ?_
            refine vx_ret ?_
            exact W.iret (v := nI (Y ch d)) hx hb hr (fun t ht hW => ⟨⟨_, (I, L), rfl, ⟨hok, hs, rfl, ch, d, hch, hd, rfl, rfl, Or.inl ⟨hm1, rfl⟩⟩, by show tR _ _ _ _ _ t.heap; rw [ht]; exact hR⟩, hS.F ht⟩) hS.2.2 dX2_at_96
        · exact th_N hx hb hl0 hown hts hE hR hS (hl.1.trans hml.symm) 155 "row" (by decide) dX2_at_61 dX2_at_60 dX2_at_66 htab hlocks (Nat.le_of_ble_eq_true rfl) (Nat.le_of_ble_eq_true rfl) (Nat.le_of_ble_eq_true rfl) (Nat.le_of_ble_eq_true rfl) (Nat.le_of_ble_eq_true rfl) (Nat.le_of_ble_eq_true rfl) (Or.inl ⟨rfl, fun z => c4 (z.2.2.2 hs)⟩) dX2_at_57 dX2_at_63
      · exact th_N hx hb hl0 hown hts hE hR hS (hl.1.trans hml.symm) 155 "row" (by decide) dX2_at_36 dX2_at_35 dX2_at_41 htab hlocks (Nat.le_of_ble_eq_true rfl) (Nat.le_of_ble_eq_true rfl) (Nat.le_of_ble_eq_true rfl) (Nat.le_of_ble_eq_true rfl) (Nat.le_of_ble_eq_true rfl) (Nat.le_of_ble_eq_true rfl) (Or.inl ⟨rfl, fun z => c3 (i_nlt z.2.2.1)⟩) dX2_at_32 dX2_at_38
    · exact th_N hx hb hl0 hown hts hE hR hS (hl.1.trans hml.symm) 152 "chain" (by decide) dX2_at_16 dX2_at_15 dX2_at_21 htab hlocks (Nat.le_of_ble_eq_true rfl) (Nat.le_of_ble_eq_true rfl) (Nat.le_of_ble_eq_true rfl) (Nat.le_of_ble_eq_true rfl) (Nat.le_of_ble_eq_true rfl) (Nat.le_of_ble_eq_true rfl) (Or.inl ⟨rfl, fun z => inN_ge (by omega) (Nat.le_refl _) (by omega) (i_nlt c2) z.1⟩) dX2_at_12 dX2_at_18
set_option maxHeartbeats 4000000 in
set_option maxRecDepth 100000 in
theorem lqX2_counted {p : Program} {e : Env} {R : Room} {s : State} {m : MethodId} {args : Array Value} {below : List Frame} {meth : Method} {c : Code} {cells slots : Nat} {Q : State → Prop} (S0 : CallFix p m c cX2_counted 6 s args wX2_counted RX2) (hE : eV D cs base sa s) (hRf : 1 ≤ R.frames) (hRl : 40 ≤ R.locals) (hRc : cells ≤ R.cells) (hRs : slots ≤ R.slots) (I : tI) (L : tL) {nd no : Nat} {f la : Nat → Nat} {ph : Nat → Int32} {w : Nat → Nat → Nat} {ea lt le mo : Nat → Nat} {Y : Nat → Nat → Nat} {st : Nat → Int64} {Rw : Nat → Nat → Nat → Nat} {kp sp : Nat} (bu ev d i9 ch : Nat) (hSi : cSi I nd no f la ph w ea lt le mo) (hwf : wfS nd no f la w ea lt le mo) (hcf : cCf I n bu ev) (hCo : cCo I L n nd 20 Y st Rw kp sp) (hk60 : kp ≤ 60) (hd : d < nd) (hi9 : f d + i9 ≤ la d) (hRb : ∀ c, c < n → ∀ k, k < kp → ∀ d, d < nd → f d ≤ Rw c k d ∧ Rw c k d ≤ la d) (hch : ch < n)
    (kx : ∀ (H : Heap) (locs : List Loc) (ls : Array Slot), tR D vwCl base ad (tC (wP n ad cs) I L) H → va_S (fun q => base ≤ q) s.heap H locs → lv_has ls 6 [(5, .int (nI kp)), (3, .int (nI (s2 (fun c k => if Rw c k d = f d + i9 then 1 else 0) kp ch + sS ((fun c k => if Rw c k d = f d + i9 then 1 else 0) ch) kp))), (4, .int (nI ch)), (0, .ref (ad 0)), (1, .int (nI d)), (2, .int (nI (f d + i9)))] → W p l e R s m args below meth c H locs cells slots Q (F0 m 64 ls [])) :
    ∀ (k j : Nat) (H : Heap) (locs : List Loc) (ls : Array Slot), j ≤ kp → kp + 1 ≤ j + k → tR D vwCl base ad (tC (wP n ad cs) I L) H → va_S (fun q => base ≤ q) s.heap H locs → lv_has ls 6 [(5, .int (nI j)), (3, .int (nI (s2 (fun c k => if Rw c k d = f d + i9 then 1 else 0) kp ch + sS ((fun c k => if Rw c k d = f d + i9 then 1 else 0) ch) j))), (4, .int (nI ch)), (0, .ref (ad 0)), (1, .int (nI d)), (2, .int (nI (f d + i9)))] → W p l e R s m args below meth c H locs cells slots Q (F0 m 27 ls []) := by
  obtain ⟨hx, hb, hml, hown, hts⟩ := S0
  have hK := hE.K
  obtain ⟨h_nd, h_no, h_d, h_o⟩ := id hwf
  obtain ⟨h_c1, h_c2, h_c3, h_n1, h_n4, h_bu, h_e1, h_e2⟩ := id hcf
  have hn4 : n ≤ 4 := h_n4
  intro k
  induction k with
  | zero => intro j  H locs ls h1 h2; exact absurd h2 (by omega)
  | succ k ih =>
    intro j  H locs ls hj hk  hR hS hl
    refine lv_iload hx hb dX2_counted_27 (lv_at hl 0 rfl) ?_
    refine lv_aload_n hx hb dX2_counted_29 rfl (lv_at hl 3 rfl) ?_
    refine tb_get hx hb hts (fun w h => List.mem_cons_of_mem _ (inX2 w h)) hown hK hR 0 rfl rfl 3 (by decide) (hts _ (List.mem_cons_of_mem _ k104)) (fun _ h => h) rfl dX2_counted_30 ?_
    refine tb_getN hx hb hts (fun w h => List.mem_cons_of_mem _ (inX0 w h)) hown hK hR 20 rfl rfl 3 (by decide) (va_Nw.use rfl (hE.2.1 (117, "SeedChains$Course", "kept", "I") (by decide))) (fun _ h => h) rfl dX2_counted_33 ?_
    rw [show I 20 3 = nI kp from hCo.1]
    refine lv_icmp_ge (tgt := 64) hx hb dX2_counted_36 (by decide) (fun c1 => ?_) (fun c1 => ?_)
    · have hjN : j = kp := by have e9 := (nI_leI (by omega) (by omega)).mp c1; omega
      subst hjN
      exact kx  H locs ls  hR hS (lv_sub hl [0, 1, 2, 3, 4, 5] rfl)
    · have hjN : j < kp := by
        rcases Nat.lt_or_ge j kp with q | q
        · exact q
        · exact absurd (nI_le (by omega) (by omega)) c1
      obtain ⟨g1, g2, g3, g4⟩ := h_d d hd
      refine lv_aload_n hx hb dX2_counted_39 rfl (lv_at hl 3 rfl) ?_
      refine tb_get hx hb hts (fun w h => List.mem_cons_of_mem _ (inX2 w h)) hown hK hR 0 rfl rfl 3 (by decide) (hts _ (List.mem_cons_of_mem _ k104)) (fun _ h => h) rfl dX2_counted_40 ?_
      refine lv_iload hx hb dX2_counted_43 (lv_at hl 2 rfl) ?_
      refine lv_iload hx hb dX2_counted_45 (lv_at hl 0 rfl) ?_
      refine lv_iload_n hx hb dX2_counted_47 rfl (lv_at hl 4 rfl) ?_
      refine kc_i (va_runVN (As := [.int (nI ch), .int (nI j), .int (nI d)]) (rest := []) ⟨hx, hb, hml, hown, hts⟩ (mX0_keptYear I L 20 ch j d (Or.inl rfl) (by omega) (by omega) (by omega)) ⟨va_cnB 3 hts (kw_N k401) rfl rfl rfl (hE.2.2.1 (157, yX0_keptYear) (by decide)) (hts _ (List.mem_cons_of_mem _ k4)) (by decide +kernel) ⟨Nat.le_trans (Nat.le_of_ble_eq_true rfl) hRf, Nat.le_trans (Nat.le_of_ble_eq_true rfl) hRl⟩, hts _ (List.mem_cons_of_mem _ k400), hts _ (List.mem_cons_of_mem _ ks20)⟩ (kB_preV hE hR hS 20 rfl rfl [.int (nI ch), .int (nI j), .int (nI d)]) rfl rfl hl.1 rfl (lv_room (Nat.le_of_ble_eq_true rfl)) dX2_counted_48 ⟨hRc, hRs⟩) hS (fun r u H locs hw hR hS => ?_)
      obtain ⟨rfl, rfl⟩ := hw
      have hR : tR D vwCl base ad (tC (wP n ad cs) I L) H := hR
      rw [show (I (20 + 8 + ch) (j * 8 + d)) = nI (Rw ch j d) from (hCo.2.2 ch (by omega)).2.2 j (by omega) d (by omega)]
      refine lv_iload_n hx hb dX2_counted_51 rfl (lv_at hl 5 rfl) ?_
      refine lv_icmp_ne (tgt := 58) hx hb dX2_counted_52 (by decide) (fun c2 => ?_) (fun c2 => ?_)
      · have hq : ¬ Rw ch j d = f d + i9 := fun z => c2 (by rw [z])
        rw [show sS ((fun c k => if Rw c k d = f d + i9 then 1 else 0) ch) j = sS ((fun c k => if Rw c k d = f d + i9 then 1 else 0) ch) (j + 1) from by show _ = _ + (if _ then _ else _); rw [if_neg hq]; rfl] at hl
        refine lv_iinc (v := nI (j + 1)) (lv' := [(5, .int (nI (j + 1))), (3, .int (nI (s2 (fun c k => if Rw c k d = f d + i9 then 1 else 0) kp ch + sS ((fun c k => if Rw c k d = f d + i9 then 1 else 0) ch) (j + 1)))), (4, .int (nI ch)), (0, .ref (ad 0)), (1, .int (nI d)), (2, .int (nI (f d + i9)))]) hx hb dX2_counted_58 hl (k := 0) rfl (nI_1 _) (by decide) rfl (fun ls hl => ?_)
        refine lv_goto (tgt := 27) hx hb dX2_counted_61 (by decide) ?_
        exact ih (j + 1)  H locs ls (by omega) (by omega)  hR hS (lv_sub hl [0, 1, 2, 3, 4, 5] rfl)
      · have hq : Rw ch j d = f d + i9 := (nI_eq (by have := hRb ch hch j hjN d hd; omega) (by omega)).mp c2
        refine lv_iinc (v := nI (s2 (fun c k => if Rw c k d = f d + i9 then 1 else 0) kp ch + sS ((fun c k => if Rw c k d = f d + i9 then 1 else 0) ch) j + 1)) (lv' := [(3, .int (nI (s2 (fun c k => if Rw c k d = f d + i9 then 1 else 0) kp ch + sS ((fun c k => if Rw c k d = f d + i9 then 1 else 0) ch) j + 1))), (5, .int (nI j)), (4, .int (nI ch)), (0, .ref (ad 0)), (1, .int (nI d)), (2, .int (nI (f d + i9)))]) hx hb dX2_counted_55 hl (k := 1) rfl (nI_1 _) (by decide) rfl (fun ls hl => ?_)
        rw [show s2 (fun c k => if Rw c k d = f d + i9 then 1 else 0) kp ch + sS ((fun c k => if Rw c k d = f d + i9 then 1 else 0) ch) j + 1 = s2 (fun c k => if Rw c k d = f d + i9 then 1 else 0) kp ch + sS ((fun c k => if Rw c k d = f d + i9 then 1 else 0) ch) (j + 1) from by show _ = _ + (_ + (if _ then _ else _)); rw [if_pos hq]; rfl] at hl
        refine lv_iinc (v := nI (j + 1)) (lv' := [(5, .int (nI (j + 1))), (3, .int (nI (s2 (fun c k => if Rw c k d = f d + i9 then 1 else 0) kp ch + sS ((fun c k => if Rw c k d = f d + i9 then 1 else 0) ch) (j + 1)))), (4, .int (nI ch)), (0, .ref (ad 0)), (1, .int (nI d)), (2, .int (nI (f d + i9)))]) hx hb dX2_counted_58 hl (k := 1) rfl (nI_1 _) (by decide) rfl (fun ls hl => ?_)
        refine lv_goto (tgt := 27) hx hb dX2_counted_61 (by decide) ?_
        exact ih (j + 1)  H locs ls (by omega) (by omega)  hR hS (lv_sub hl [0, 1, 2, 3, 4, 5] rfl)
set_option maxHeartbeats 4000000 in
set_option maxRecDepth 100000 in
theorem lpX2_counted {p : Program} {e : Env} {R : Room} {s : State} {m : MethodId} {args : Array Value} {below : List Frame} {meth : Method} {c : Code} {cells slots : Nat} {Q : State → Prop} (S0 : CallFix p m c cX2_counted 6 s args wX2_counted RX2) (hE : eV D cs base sa s) (hRf : 1 ≤ R.frames) (hRl : 40 ≤ R.locals) (hRc : cells ≤ R.cells) (hRs : slots ≤ R.slots) (I : tI) (L : tL) {nd no : Nat} {f la : Nat → Nat} {ph : Nat → Int32} {w : Nat → Nat → Nat} {ea lt le mo : Nat → Nat} {Y : Nat → Nat → Nat} {st : Nat → Int64} {Rw : Nat → Nat → Nat → Nat} {kp sp : Nat} (bu ev d i9 : Nat) (hSi : cSi I nd no f la ph w ea lt le mo) (hwf : wfS nd no f la w ea lt le mo) (hcf : cCf I n bu ev) (hCo : cCo I L n nd 20 Y st Rw kp sp) (hk60 : kp ≤ 60) (hd : d < nd) (hi9 : f d + i9 ≤ la d) (hRb : ∀ c, c < n → ∀ k, k < kp → ∀ d, d < nd → f d ≤ Rw c k d ∧ Rw c k d ≤ la d)
    (kx : ∀ (H : Heap) (locs : List Loc) (ls : Array Slot), tR D vwCl base ad (tC (wP n ad cs) I L) H → va_S (fun q => base ≤ q) s.heap H locs → lv_has ls 6 [(4, .int (nI n)), (3, .int (nI (s2 (fun c k => if Rw c k d = f d + i9 then 1 else 0) kp n))), (0, .ref (ad 0)), (1, .int (nI d)), (2, .int (nI (f d + i9)))] → W p l e R s m args below meth c H locs cells slots Q (F0 m 70 ls [])) :
    ∀ (k j : Nat) (H : Heap) (locs : List Loc) (ls : Array Slot), j ≤ n → n + 1 ≤ j + k → tR D vwCl base ad (tC (wP n ad cs) I L) H → va_S (fun q => base ≤ q) s.heap H locs → lv_has ls 6 [(4, .int (nI j)), (3, .int (nI (s2 (fun c k => if Rw c k d = f d + i9 then 1 else 0) kp j))), (0, .ref (ad 0)), (1, .int (nI d)), (2, .int (nI (f d + i9)))] → W p l e R s m args below meth c H locs cells slots Q (F0 m 15 ls []) := by
  obtain ⟨hx, hb, hml, hown, hts⟩ := S0
  have hK := hE.K
  obtain ⟨h_nd, h_no, h_d, h_o⟩ := id hwf
  obtain ⟨h_c1, h_c2, h_c3, h_n1, h_n4, h_bu, h_e1, h_e2⟩ := id hcf
  have hn4 : n ≤ 4 := h_n4
  intro k
  induction k with
  | zero => intro j  H locs ls h1 h2; exact absurd h2 (by omega)
  | succ k ih =>
    intro j  H locs ls hj hk  hR hS hl
    refine lv_iload hx hb dX2_counted_15 (lv_at hl 0 rfl) ?_
    refine lv_aload_n hx hb dX2_counted_17 rfl (lv_at hl 2 rfl) ?_
    refine tb_get hx hb hts (fun w h => List.mem_cons_of_mem _ (inX2 w h)) hown hK hR 0 rfl rfl 1 (by decide) (hts _ (List.mem_cons_of_mem _ k102)) (fun _ h => h) rfl dX2_counted_18 ?_
    rw [show I 0 1 = nI n from hcf.1]
    refine lv_icmp_ge (tgt := 70) hx hb dX2_counted_21 (by decide) (fun c1 => ?_) (fun c1 => ?_)
    · have hjN : j = n := by have e9 := (nI_leI (by omega) (by omega)).mp c1; omega
      subst hjN
      exact kx  H locs ls  hR hS (lv_sub hl [0, 1, 2, 3, 4] rfl)
    · have hjN : j < n := by
        rcases Nat.lt_or_ge j n with q | q
        · exact q
        · exact absurd (nI_le (by omega) (by omega)) c1
      refine lv_iconst (v := 0) hx hb dX2_counted_24 (by decide) ?_
      rw [show (0 : Int32) = nI 0 from nI_0.symm]
      refine lv_istore (lv' := [(5, .int (nI 0)), (4, .int (nI j)), (3, .int (nI (s2 (fun c k => if Rw c k d = f d + i9 then 1 else 0) kp j))), (0, .ref (ad 0)), (1, .int (nI d)), (2, .int (nI (f d + i9)))]) hx hb dX2_counted_25 hl (by decide) rfl (fun ls hl => ?_)
      rw [show s2 (fun c k => if Rw c k d = f d + i9 then 1 else 0) kp j = s2 (fun c k => if Rw c k d = f d + i9 then 1 else 0) kp j + sS ((fun c k => if Rw c k d = f d + i9 then 1 else 0) j) 0 from rfl] at hl
      refine lqX2_counted ⟨hx, hb, hml, hown, hts⟩ hE hRf hRl hRc hRs I L bu ev d i9 j hSi hwf hcf hCo hk60 hd hi9 hRb hjN (fun H locs ls hR hS hl => ?_) (kp + 1) 0 _ _ ls (Nat.zero_le _) (by omega) hR hS (lv_sub hl [0, 2, 1, 3, 4, 5] rfl)
      have hl : lv_has ls 6 [(5, .int (nI kp)), (3, .int (nI (s2 (fun c k => if Rw c k d = f d + i9 then 1 else 0) kp (j + 1)))), (4, .int (nI j)), (0, .ref (ad 0)), (1, .int (nI d)), (2, .int (nI (f d + i9)))] := hl
      refine lv_iinc (v := nI (j + 1)) (lv' := [(4, .int (nI (j + 1))), (5, .int (nI kp)), (3, .int (nI (s2 (fun c k => if Rw c k d = f d + i9 then 1 else 0) kp (j + 1)))), (0, .ref (ad 0)), (1, .int (nI d)), (2, .int (nI (f d + i9)))]) hx hb dX2_counted_64 hl (k := 2) rfl (nI_1 _) (by decide) rfl (fun ls hl => ?_)
      refine lv_goto (tgt := 15) hx hb dX2_counted_67 (by decide) ?_
      exact ih (j + 1)  H locs ls (by omega) (by omega)  hR hS (lv_sub hl [0, 2, 3, 4, 5] rfl)
set_option maxHeartbeats 4000000 in
set_option maxRecDepth 100000 in
theorem mX2_counted (hl0 : l.stackTraces = false) (I : tI) (L : tL) {nd no : Nat} {f la : Nat → Nat} {ph : Nat → Int32} {w : Nat → Nat → Nat} {ea lt le mo : Nat → Nat} {Y : Nat → Nat → Nat} {st : Nat → Int64} {Rw : Nat → Nat → Nat → Nat} {kp sp : Nat} (bu ev B : Nat) (p0 p1 : Int32) (hSi : cSi I nd no f la ph w ea lt le mo) (hwf : wfS nd no f la w ea lt le mo) (hcf : cCf I n bu ev) (sd : Nat) (hsd : I 0 6 = nI sd) (hs1 : sd ≤ 1) (hC : sd = 1 → cCo I L n nd 20 Y st Rw kp sp ∧ wCo n nd no f la ea lt le mo B Y Rw kp sp) : vx_Met l yX2_counted wX2_counted ({ frames := 9, cells := 3, slots := 18, locals := 180 }) (va_Pc [.ref (ad 0), .int p0, .int p1] (kB D cs base sa n ad I L)) (va_Qi (fun (r : Int32) (u : tI × tL) => yOk nd f la p0 p1 ∧ sd = 1 ∧ u = (I, L) ∧ ∃ d i9, d < nd ∧ p0 = nI d ∧ p1 = nI (f d + i9) ∧ f d + i9 ≤ la d ∧ r = nI (s2 (fun c k => if Rw c k d = f d + i9 then 1 else 0) kp n)) (kA D cs base n ad) (fun q => base ≤ q)) (kX D cs base n ad I L (fun E => (E = eN ∧ ¬ yOk nd f la p0 p1) ∨ (E = eS ∧ yOk nd f la p0 p1 ∧ ¬ sd = 1))) 3 18 (fun q => base ≤ q) := by
  refine vx_ofW (cc := cX2_counted) (maxL := 6) (ret := (some .int)) (by decide) rfl ?_
  intro p e s m args below meth c s₁ Bd hml htab hv
  obtain ⟨rfl, hE, hR⟩ := hv
  have hx := Bd.exec
  have hb := Bd.bytes
  have hr := Bd.returns
  have hts := atoms_spec (ws := wX2_counted) Bd.pre
  have hown : s.vm.findClass RX2 = some m.cls := findClass_of_methodNamed Bd.named
  have hlocks := Bd.notSynchronized
  have hK := hE.K
  have hS : va_S (fun q => base ≤ q) s.heap s.heap [] := va_S.rf
  have hR : tR D vwCl base ad (tC (wP n ad cs) I L) s.heap := hR
  have hl := lv_entry ([.ref (ad 0), .int p0, .int p1]) (n := 6) (Nat.le_of_ble_eq_true rfl)
  rw [lg_entry_eq]
  generalize (lg_sl ([.ref (ad 0), .int p0, .int p1]) ++ List.replicate (6 - (lg_sl ([.ref (ad 0), .int p0, .int p1])).length) Slot.unset).toArray = ls at hl ⊢
  have hl : lv_has ls 6 [(0, .ref (ad 0)), (1, .int p0), (2, .int p1)] := hl
  obtain ⟨h_nd, h_no, h_d, h_o⟩ := id hwf
  obtain ⟨h_c1, h_c2, h_c3, h_n1, h_n4, h_bu, h_e1, h_e2⟩ := id hcf
  have hn4 : n ≤ 4 := h_n4
  refine lv_aload_n hx hb dX2_counted_0 rfl (lv_at hl 0 rfl) ?_
  refine lv_iload_n hx hb dX2_counted_1 rfl (lv_at hl 1 rfl) ?_
  refine lv_iload_n hx hb dX2_counted_2 rfl (lv_at hl 2 rfl) ?_
  refine kt_v (vx_runV (As := [.int p0, .int p1]) (rest := []) ⟨hx, hb, hml, hown, hts⟩ (mX2_needYearOf hl0 I L p0 p1 hSi hwf) (cwV 2 hts (kw_V k262 k264 ks6 k1 k265) rfl rfl rfl (by decide +kernel) ⟨Nat.le_of_ble_eq_true rfl, Nat.le_of_ble_eq_true rfl⟩) (kB_preV hE hR hS 0 rfl rfl [.int p0, .int p1]) rfl rfl hl.1 rfl (lv_room (Nat.le_of_ble_eq_true rfl)) dX2_counted_3 ⟨Nat.le_of_ble_eq_true rfl, Nat.le_of_ble_eq_true rfl⟩) hS htab hlocks (fun E h => Or.inl h) (Nat.le_of_ble_eq_true rfl) (Nat.le_of_ble_eq_true rfl) (fun u H locs hw hR hS => ?_)
  obtain ⟨hy, rfl⟩ := hw
  have hR : tR D vwCl base ad (tC (wP n ad cs) I L) H := hR
  obtain ⟨_, d, i9, hd, rfl, rfl, hi9⟩ := id hy
  refine lv_aload_n hx hb dX2_counted_6 rfl (lv_at hl 0 rfl) ?_
  refine kt_v (vx_runV (As := []) (rest := []) ⟨hx, hb, hml, hown, hts⟩ (mX2_needStarted hl0 I L sd hsd hs1) (cwV 0 hts (kw_V k344 k346 ks11 k1 k347) rfl rfl rfl (by decide +kernel) ⟨Nat.le_of_ble_eq_true rfl, Nat.le_of_ble_eq_true rfl⟩) (kB_preV hE hR hS 0 rfl rfl []) rfl rfl hl.1 rfl (lv_room (Nat.le_of_ble_eq_true rfl)) dX2_counted_7 ⟨Nat.le_of_ble_eq_true rfl, Nat.le_of_ble_eq_true rfl⟩) hS htab hlocks (fun E h => Or.inr ⟨h.1, hy, h.2⟩) (Nat.le_of_ble_eq_true rfl) (Nat.le_of_ble_eq_true rfl) (fun u H locs hw hR hS => ?_)
  obtain ⟨hs, rfl⟩ := hw
  have hR : tR D vwCl base ad (tC (wP n ad cs) I L) H := hR
  obtain ⟨hCo, hwY, hk60, hspB, hRb⟩ := hC hs
  refine lv_iconst (v := 0) hx hb dX2_counted_10 (by decide) ?_
  rw [show (0 : Int32) = nI (s2 (fun c k => if Rw c k d = f d + i9 then 1 else 0) kp 0) from rfl]
  refine lv_istore_n (lv' := [(3, .int (nI (s2 (fun c k => if Rw c k d = f d + i9 then 1 else 0) kp 0))), (0, .ref (ad 0)), (1, .int (nI d)), (2, .int (nI (f d + i9)))]) hx hb dX2_counted_11 rfl hl (by decide) rfl (fun ls hl => ?_)
  refine lv_iconst (v := 0) hx hb dX2_counted_12 (by decide) ?_
  rw [show (0 : Int32) = nI 0 from nI_0.symm]
  refine lv_istore (lv' := [(4, .int (nI 0)), (3, .int (nI (s2 (fun c k => if Rw c k d = f d + i9 then 1 else 0) kp 0))), (0, .ref (ad 0)), (1, .int (nI d)), (2, .int (nI (f d + i9)))]) hx hb dX2_counted_13 hl (by decide) rfl (fun ls hl => ?_)
  refine lpX2_counted ⟨hx, hb, hml, hown, hts⟩ hE (Nat.le_of_ble_eq_true rfl) (Nat.le_of_ble_eq_true rfl) (Nat.le_of_ble_eq_true rfl) (Nat.le_of_ble_eq_true rfl) I L bu ev d i9 hSi hwf hcf hCo hk60 hd hi9 hRb (fun H locs ls hR hS hl => ?_) (n + 1) 0 _ _ ls (Nat.zero_le _) (by omega) hR hS (lv_sub hl [0, 1, 2, 3, 4] rfl)
  refine lv_iload_n hx hb dX2_counted_70 rfl (lv_at hl 1 rfl) ?_
  refine W.widen (k := 3) (n := 18) (Nat.le_of_ble_eq_true rfl) (Nat.le_of_ble_eq_true rfl) ?_
  refine vx_ret ?_
  exact W.iret (v := nI (s2 (fun c k => if Rw c k d = f d + i9 then 1 else 0) kp n)) hx hb hr (fun t ht hW => ⟨⟨_, (I, L), rfl, ⟨hy, hs, rfl, d, i9, hd, rfl, rfl, hi9, rfl⟩, by show tR _ _ _ _ _ t.heap; rw [ht]; exact hR⟩, hS.F ht⟩) hS.2.2 dX2_counted_71
end C12
