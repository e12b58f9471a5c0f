section C8
variable {l : Launch} {D : va_G} {cs : Nat → ClassId} {base : Nat} {sa : Nat → Nat} {n : Nat} {ad : Nat → Nat}
set_option maxHeartbeats 4000000 in
set_option maxRecDepth 100000 in
theorem lpX2_stepAll {p : Program} {e : Env} {R : Room} {s : State} {m : MethodId} {args : Array Value} {below : List Frame} {meth : Method} {c : Code} {cells slots : Nat} {Q : State → Prop} (S0 : CallFix p m c cX2_stepAll 2 s args wX2_stepAll RX2) (hE : eV D cs base sa s) (hRf : 4 ≤ R.frames) (hRl : 140 ≤ R.locals) (hRc : cells ≤ R.cells) (hRs : slots ≤ R.slots) (I : tI) (L : tL) {nd no : Nat} {f la : Nat → Nat} {ph : Nat → Int32} {w : Nat → Nat → Nat} {ea lt le mo : Nat → Nat} {Y : Nat → Nat → Nat} {st : Nat → Int64} {Rw : Nat → Nat → Nat → Nat} {kp sp : Nat} (bu ev : Nat) (hSi : cSi I nd no f la ph w ea lt le mo) (hwf : wfS nd no f la w ea lt le mo) (hcf : cCf I n bu ev) (hCo : cCo I L n nd 20 Y st Rw kp sp) (hwY : ∀ c, c < n → wfY nd no f la ea lt le mo (Y c))
    (kx : ∀ (J : tI) (K : tL) (H : Heap) (locs : List Loc) (ls : Array Slot), sJ n nd no f la w ea lt le mo Y st I L n J K → tR D vwCl base ad (tC (wP n ad cs) J K) H → va_S (fun q => base ≤ q) s.heap H locs → lv_has ls 2 [(1, .int (nI n)), (0, .ref (ad 0))] → W p l e R s m args below meth c H locs cells slots Q (F0 m 21 ls [])) :
    ∀ (k j : Nat) (J : tI) (K : tL) (H : Heap) (locs : List Loc) (ls : Array Slot), j ≤ n → n + 1 ≤ j + k → sJ n nd no f la w ea lt le mo Y st I L j J K → tR D vwCl base ad (tC (wP n ad cs) J K) H → va_S (fun q => base ≤ q) s.heap H locs → lv_has ls 2 [(1, .int (nI j)), (0, .ref (ad 0))] → W p l e R s m args below meth c H locs cells slots Q (F0 m 2 ls []) := by
  obtain ⟨hx, hb, hml, hown, hts⟩ := S0
  have hK := hE.K
  obtain ⟨h_nd, h_no, h_d, h_o⟩ := id hwf
  obtain ⟨h_c1, h_c2, h_c3, h_n1, h_n4, h_bu, h_e1, h_e2⟩ := id hcf
  intro k
  induction k with
  | zero => intro j J K H locs ls h1 h2; exact absurd h2 (by omega)
  | succ k ih =>
    intro j J K H locs ls hj hk hJ hR hS hl
    refine lv_iload_n hx hb dX2_stepAll_2 rfl (lv_at hl 0 rfl) ?_
    refine lv_aload_n hx hb dX2_stepAll_3 rfl (lv_at hl 1 rfl) ?_
    refine tb_get hx hb hts (fun w h => List.mem_cons_of_mem _ (inX2 w h)) hown hK hR 0 rfl rfl 1 (by decide) (hts _ (List.mem_cons_of_mem _ k102)) (fun _ h => h) rfl dX2_stepAll_4 ?_
    rw [show J 0 1 = nI n from (by rw [hJ.1 0 (by omega)]; exact hcf.1)]
    refine lv_icmp_ge (tgt := 21) hx hb dX2_stepAll_7 (by decide) (fun c1 => ?_) (fun c1 => ?_)
    · have hjN : j = n := by have e9 := (nI_leI (by omega) (by omega)).mp c1; omega
      subst hjN
      exact kx J K H locs ls hJ hR hS (lv_sub hl [0, 1] rfl)
    · have hjN : j < n := by
        rcases Nat.lt_or_ge j n with q | q
        · exact q
        · exact absurd (nI_le (by omega) (by omega)) c1
      refine lv_aload_n hx hb dX2_stepAll_10 rfl (lv_at hl 1 rfl) ?_
      refine lv_iload_n hx hb dX2_stepAll_11 rfl (lv_at hl 0 rfl) ?_
      refine kc_v (va_runV (As := [.int (nI j)]) (rest := []) ⟨hx, hb, hml, hown, hts⟩ (mX2_stepChain J K j (Y j) (hSi.of h_nd (fun k a b => hJ.1 k (by omega))) hwf h_n4 hjN ((hJ.2.2 j hjN).2 (Nat.le_refl _)).2 (hwY j hjN)) (cwV 1 hts (kw_V k362 k364 ks15 k1 k365) rfl rfl rfl (by decide +kernel) ⟨Nat.le_trans (Nat.le_of_ble_eq_true rfl) hRf, Nat.le_trans (Nat.le_of_ble_eq_true rfl) hRl⟩) (kB_preV hE hR hS 0 rfl rfl [.int (nI j)]) rfl rfl hl.1 rfl (lv_room (Nat.le_of_ble_eq_true rfl)) dX2_stepAll_12 ⟨hRc, hRs⟩) hS (fun u H locs hw hR hS => ?_)
      rw [((hJ.2.2 j hjN).2 (Nat.le_refl _)).1] at hw
      obtain ⟨row, rfl, hrow⟩ := hw
      have hJ2 := sJ_s hJ hjN h_n4 hrow
      have hR : tR D vwCl base ad (tC (wP n ad cs) (va_up J (20 + 4 + j) row) (va_up K 22 (vp_updL (K 22) j (nS nd no f la w ea lt le mo Y st j)))) H := hR
      refine lv_iinc (v := nI (j + 1)) (lv' := [(1, .int (nI (j + 1))), (0, .ref (ad 0))]) hx hb dX2_stepAll_15 hl (k := 0) rfl (nI_1 _) (by decide) rfl (fun ls hl => ?_)
      refine lv_goto (tgt := 2) hx hb dX2_stepAll_18 (by decide) ?_
      exact ih (j + 1) (va_up J (20 + 4 + j) row) (va_up K 22 (vp_updL (K 22) j (nS nd no f la w ea lt le mo Y st j))) H locs ls (by omega) (by omega) hJ2 hR hS (lv_sub hl [0, 1] rfl)
set_option maxHeartbeats 4000000 in
set_option maxRecDepth 100000 in
theorem mX2_stepAll (I : tI) (L : tL) {nd no : Nat} {f la : Nat → Nat} {ph : Nat → Int32} {w : Nat → Nat → Nat} {ea lt le mo : Nat → Nat} {Y : Nat → Nat → Nat} {st : Nat → Int64} {Rw : Nat → Nat → Nat → Nat} {kp sp : Nat} (bu ev : Nat) (hSi : cSi I nd no f la ph w ea lt le mo) (hwf : wfS nd no f la w ea lt le mo) (hcf : cCf I n bu ev) (hCo : cCo I L n nd 20 Y st Rw kp sp) (hwY : ∀ c, c < n → wfY nd no f la ea lt le mo (Y c)) (hsp : sp < 2 ^ 19) (hk60 : kp + kN bu ev (sp + 1) ≤ 60) : Met l yX2_stepAll wX2_stepAll ({ frames := 4, cells := 0, slots := 0, locals := 140 }) (va_Pc [.ref (ad 0)] (kB D cs base sa n ad I L)) (va_Qv (fun (u : tI × tL) => cCo u.1 u.2 n nd 20 (nY nd no f la w ea lt le mo Y st) (nS nd no f la w ea lt le mo Y st) (nR kp (nY nd no f la w ea lt le mo Y st) Rw) (kp + kN bu ev (sp + 1)) (sp + 1) ∧ (∀ k, (k < 20 ∨ 40 ≤ k) → u.1 k = I k) ∧ ∀ k, k ≠ 22 → u.2 k = L k) (kA D cs base n ad) (fun q => base ≤ q)) 0 0 (fun q => base ≤ q) := by
  refine Met.ofW (cc := cX2_stepAll) (maxL := 2) (ret := none) (by decide) rfl ?_
  intro p e s m args below meth c s₁ Bd hml hv
  obtain ⟨rfl, hE, hR⟩ := hv
  have hx := Bd.exec
  have hb := Bd.bytes
  have hr := Bd.returns
  have hts := atoms_spec (ws := wX2_stepAll) Bd.pre
  have hown : s.vm.findClass RX2 = some m.cls := findClass_of_methodNamed Bd.named
  have hlocks := Bd.notSynchronized
  have hK := hE.K
  have hS : va_S (fun q => base ≤ q) s.heap s.heap [] := va_S.rf
  have hR : tR D vwCl base ad (tC (wP n ad cs) I L) s.heap := hR
  have hl := lv_entry ([.ref (ad 0)]) (n := 2) (Nat.le_of_ble_eq_true rfl)
  rw [lg_entry_eq]
  generalize (lg_sl ([.ref (ad 0)]) ++ List.replicate (2 - (lg_sl ([.ref (ad 0)])).length) Slot.unset).toArray = ls at hl ⊢
  have hl : lv_has ls 2 [(0, .ref (ad 0))] := hl
  obtain ⟨h_nd, h_no, h_d, h_o⟩ := id hwf
  obtain ⟨h_c1, h_c2, h_c3, h_n1, h_n4, h_bu, h_e1, h_e2⟩ := id hcf
  refine lv_iconst (v := 0) hx hb dX2_stepAll_0 (by decide) ?_
  rw [show (0 : Int32) = nI 0 from nI_0.symm]
  refine lv_istore_n (lv' := [(1, .int (nI 0)), (0, .ref (ad 0))]) hx hb dX2_stepAll_1 rfl hl (by decide) rfl (fun ls hl => ?_)
  refine lpX2_stepAll ⟨hx, hb, hml, hown, hts⟩ hE (Nat.le_of_ble_eq_true rfl) (Nat.le_of_ble_eq_true rfl) (Nat.le_of_ble_eq_true rfl) (Nat.le_of_ble_eq_true rfl) I L bu ev hSi hwf hcf hCo hwY (fun J K H locs ls hJ hR hS hl => ?_) (n + 1) 0 I L _ _ ls (Nat.zero_le _) (by omega) ⟨fun _ _ => rfl, fun _ _ => rfl, fun c hc => ⟨fun q => absurd q (Nat.not_lt_zero _), fun _ => ⟨(hCo.2.2 c hc).1, (hCo.2.2 c hc).2.1⟩⟩⟩ hR hS (lv_sub hl [0, 1] rfl)
  have hC0 := cCo_s0 hCo hJ h_n4
  refine lv_aload_n hx hb dX2_stepAll_21 rfl (lv_at hl 1 rfl) ?_
  refine tb_get hx hb hts (fun w h => List.mem_cons_of_mem _ (inX2 w h)) hown hK hR 0 rfl rfl 3 (by decide) (hts _ (List.mem_cons_of_mem _ k104)) (fun _ h => h) rfl dX2_stepAll_22 ?_
  refine lv_dup hx hb dX2_stepAll_25 rfl ?_
  refine tb_getN hx hb hts (fun w h => List.mem_cons_of_mem _ (inX0 w h)) hown hK hR 20 rfl rfl 4 (by decide) (va_Nw.use rfl (hE.2.1 (120, "SeedChains$Course", "steps", "I") (by decide))) (fun _ h => h) rfl dX2_stepAll_26 ?_
  rw [show J 20 4 = nI sp from (by first | (rw [hJ.1 20 (by omega)]; exact hCo.2.1) | (rw [va_up_self]; exact if_pos rfl))]
  refine lv_iconst (v := 1) hx hb dX2_stepAll_29 (by decide) ?_
  refine lv_iadd hx hb dX2_stepAll_30 ?_
  rw [nI_1]
  refine tp_putN hx hb hts (fun w h => List.mem_cons_of_mem _ (inX0 w h)) tyX0 tyX0_ok nmX0 hown hK hR hS 20 (fun r => [.ref (ad (21)), .ref (ad (22)), .ref (ad (23)), .int (r 3), .int (r 4)]) (fun _ _ => rfl) rfl 4 (by decide) (va_Nw.use rfl (hE.2.1 (120, "SeedChains$Course", "steps", "I") (by decide))) (fun _ h => h) rfl (ty := .int) rfl rfl rfl (by simp) (fun _ => rfl) dX2_stepAll_31 (fun H locs hR hS => ?_)
  have hcf1 : cCf (va_up J 20 (upd (J 20) 4 (nI (sp + 1)))) n bu ev := hcf.of (by rw [va_up_ne _ _ (by omega)]; exact hJ.1 0 (by omega))
  refine lv_aload_n hx hb dX2_stepAll_34 rfl (lv_at hl 1 rfl) ?_
  refine lv_aload_n hx hb dX2_stepAll_35 rfl (lv_at hl 1 rfl) ?_
  refine tb_get hx hb hts (fun w h => List.mem_cons_of_mem _ (inX2 w h)) hown hK hR 0 rfl rfl 3 (by decide) (hts _ (List.mem_cons_of_mem _ k104)) (fun _ h => h) rfl dX2_stepAll_36 ?_
  refine tb_getN hx hb hts (fun w h => List.mem_cons_of_mem _ (inX0 w h)) hown hK hR 20 rfl rfl 4 (by decide) (va_Nw.use rfl (hE.2.1 (120, "SeedChains$Course", "steps", "I") (by decide))) (fun _ h => h) rfl dX2_stepAll_39 ?_
  rw [show (va_up J 20 (upd (J 20) 4 (nI (sp + 1)))) 20 4 = nI (sp + 1) from (by first | (rw [hJ.1 20 (by omega)]; exact hCo.2.1) | (rw [va_up_self]; exact if_pos rfl))]
  refine kc_i (va_runV (As := [.int (nI (sp + 1))]) (rest := []) ⟨hx, hb, hml, hown, hts⟩ (mX2_isKept (va_up J 20 (upd (J 20) 4 (nI (sp + 1)))) K (sp + 1) bu ev hcf1 (by omega)) (cwV 1 hts (kw_V k353 k355 ks13 k1 k356) rfl rfl rfl (by decide +kernel) ⟨Nat.le_of_ble_eq_true rfl, Nat.le_of_ble_eq_true rfl⟩) (kB_preV hE hR hS 0 rfl rfl [.int (nI (sp + 1))]) rfl rfl hl.1 rfl (lv_room (Nat.le_of_ble_eq_true rfl)) dX2_stepAll_42 ⟨Nat.le_of_ble_eq_true rfl, Nat.le_of_ble_eq_true rfl⟩) hS (fun r u H locs hw hR hS => ?_)
  obtain ⟨rfl, rfl⟩ := hw
  have hR : tR D vwCl base ad (tC (wP n ad cs) (va_up J 20 (upd (J 20) 4 (nI (sp + 1)))) K) H := hR
  refine lv_if_eq (tgt := 55) hx hb dX2_stepAll_45 (by decide) (fun c1 => ?_) (fun c1 => ?_)
  · have hq : kN bu ev (sp + 1) = 0 := (nI_z (by have := kN_le bu ev (sp + 1); omega)).mp c1
    exact W.vret hx hb hr (fun t ht hW => ⟨⟨((va_up J 20 (upd (J 20) 4 (nI (sp + 1)))), K), rfl, ⟨(by rw [hq]; exact hC0), fun k hk => by show (va_up J 20 (upd (J 20) 4 (nI (sp + 1)))) k = I k; rw [va_up_ne _ _ (by omega)]; exact hJ.1 k (by omega), hJ.2.1⟩, by show tR _ _ _ _ _ t.heap; rw [ht]; exact hR⟩, hS.F ht⟩) hS.2.2 dX2_stepAll_55
  · have hq : kN bu ev (sp + 1) = 1 := by have q1 := kN_le bu ev (sp + 1); have q2 : ¬ kN bu ev (sp + 1) = 0 := fun z => c1 (by rw [z]; rfl); omega
    refine lv_aload_n hx hb dX2_stepAll_48 rfl (lv_at hl 1 rfl) ?_
    refine tb_get hx hb hts (fun w h => List.mem_cons_of_mem _ (inX2 w h)) hown hK hR 0 rfl rfl 3 (by decide) (hts _ (List.mem_cons_of_mem _ k104)) (fun _ h => h) rfl dX2_stepAll_49 ?_
    refine kc_v (va_runVN (As := []) (rest := []) ⟨hx, hb, hml, hown, hts⟩ (mX0_keepYears (va_up J 20 (upd (J 20) 4 (nI (sp + 1)))) K 20 kp (Or.inl rfl) h_n4 hC0.1 (by omega)) ⟨va_cnB 0 hts (kw_N k385) rfl rfl rfl (hE.2.2.1 (205, yX0_keepYears) (by decide)) (hts _ (List.mem_cons_of_mem _ k4)) (by decide +kernel) ⟨Nat.le_of_ble_eq_true rfl, Nat.le_of_ble_eq_true rfl⟩, hts _ (List.mem_cons_of_mem _ k384), hts _ (List.mem_cons_of_mem _ ks19)⟩ (kB_preV hE hR hS 20 rfl rfl []) rfl rfl hl.1 rfl (lv_room (Nat.le_of_ble_eq_true rfl)) dX2_stepAll_52 ⟨Nat.le_of_ble_eq_true rfl, Nat.le_of_ble_eq_true rfl⟩) hS (fun u H locs hw hR hS => ?_)
    subst hw
    have hR : tR D vwCl base ad (tC (wP n ad cs) (gKeep (va_up J 20 (upd (J 20) 4 (nI (sp + 1)))) 20 kp n) K) H := hR
    exact W.vret hx hb hr (fun t ht hW => ⟨⟨((gKeep (va_up J 20 (upd (J 20) 4 (nI (sp + 1)))) 20 kp n), K), rfl, ⟨(by rw [hq]; exact cCo_s1 hC0 h_n4 h_nd (by omega)), fun k hk => by show (gKeep (va_up J 20 (upd (J 20) 4 (nI (sp + 1)))) 20 kp n) k = I k; unfold gKeep; rw [va_up_ne _ _ (by omega)]; unfold gKY; rw [if_neg (by omega), va_up_ne _ _ (by omega)]; exact hJ.1 k (by omega), hJ.2.1⟩, by show tR _ _ _ _ _ t.heap; rw [ht]; exact hR⟩, hS.F ht⟩) hS.2.2 dX2_stepAll_55
end C8
