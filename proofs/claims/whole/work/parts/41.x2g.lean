section C13
variable {l : Launch} {D : va_G} {cs : Nat → ClassId} {base : Nat} {sa : Nat → Nat} {n : Nat} {ad : Nat → Nat}
set_option maxHeartbeats 4000000 in
set_option maxRecDepth 100000 in
theorem lpX2_apart {p : Program} {e : Env} {R : Room} {s : State} {m : MethodId} {args : Array Value} {below : List Frame} {meth : Method} {c : Code} {cells slots : Nat} {Q : State → Prop} (S0 : CallFix p m c cX2_apart 6 s args wX2_apart RX2) (hE : eV D cs base sa s) (hRf : 2 ≤ R.frames) (hRl : 80 ≤ R.locals) (hRc : cells ≤ R.cells) (hRs : slots ≤ R.slots) (I : tI) (L : tL) {nd no : Nat} {f la : Nat → Nat} {ph : Nat → Int32} {w : Nat → Nat → Nat} {ea lt le mo : Nat → Nat} {Y : Nat → Nat → Nat} {st : Nat → Int64} {Rw : Nat → Nat → Nat → Nat} {kp sp : Nat} (bu ev d : Nat) (hSi : cSi I nd no f la ph w ea lt le mo) (hwf : wfS nd no f la w ea lt le mo) (hcf : cCf I n bu ev) (hCo : cCo I L n nd 20 Y st Rw kp sp) (hk60 : kp ≤ 60) (hd : d < nd) (hRb : ∀ c, c < n → ∀ k, k < kp → ∀ d, d < nd → f d ≤ Rw c k d ∧ Rw c k d ≤ la d)
    (kx : ∀ (H : Heap) (locs : List Loc) (ls : Array Slot), 1 ≤ n → tR D vwCl base ad (tC (wP n ad cs) I L) H → va_S (fun q => base ≤ q) s.heap H locs → lv_has ls 6 [(4, .int (nI n)), (3, .int (nI (mxF (fun c => sS (fun k => Rw c k d) kp) (n - 1)))), (2, .int (nI (mnF (fun c => sS (fun k => Rw c k d) kp) (n - 1)))), (0, .ref (ad 0)), (1, .int (nI d))] → W p l e R s m args below meth c H locs cells slots Q (F0 m 59 ls [])) :
    ∀ (k j : Nat) (H : Heap) (locs : List Loc) (ls : Array Slot), j ≤ n → n + 1 ≤ j + k → 1 ≤ j → tR D vwCl base ad (tC (wP n ad cs) I L) H → va_S (fun q => base ≤ q) s.heap H locs → lv_has ls 6 [(4, .int (nI j)), (3, .int (nI (mxF (fun c => sS (fun k => Rw c k d) kp) (j - 1)))), (2, .int (nI (mnF (fun c => sS (fun k => Rw c k d) kp) (j - 1)))), (0, .ref (ad 0)), (1, .int (nI d))] → W p l e R s m args below meth c H locs cells slots Q (F0 m 21 ls []) := by
  obtain ⟨hx, hb, hml, hown, hts⟩ := S0
  have hK := hE.K
  obtain ⟨h_nd, h_no, h_d, h_o⟩ := id hwf
  obtain ⟨h_c1, h_c2, h_c3, h_n1, h_n4, h_bu, h_e1, h_e2⟩ := id hcf
  have hn4 : n ≤ 4 := h_n4
  have hgb : ∀ c, c < n → (fun c => sS (fun k => Rw c k d) kp) c ≤ 15300 := fun c hc => Nat.le_trans (sS_le (B := 255) (fun k hk => by have := hRb c hc k hk d hd; have := (h_d d hd).2.1; omega)) (by omega)
  intro k
  induction k with
  | zero => intro j  H locs ls h1 h2; exact absurd h2 (by omega)
  | succ k ih =>
    intro j  H locs ls hj hk hj1 hR hS hl
    refine lv_iload hx hb dX2_apart_21 (lv_at hl 0 rfl) ?_
    refine lv_aload_n hx hb dX2_apart_23 rfl (lv_at hl 3 rfl) ?_
    refine tb_get hx hb hts (fun w h => List.mem_cons_of_mem _ (inX2 w h)) hown hK hR 0 rfl rfl 1 (by decide) (hts _ (List.mem_cons_of_mem _ k102)) (fun _ h => h) rfl dX2_apart_24 ?_
    rw [show I 0 1 = nI n from hcf.1]
    refine lv_icmp_ge (tgt := 59) hx hb dX2_apart_27 (by decide) (fun c1 => ?_) (fun c1 => ?_)
    · have hjN : j = n := by have e9 := (nI_leI (by omega) (by omega)).mp c1; omega
      subst hjN
      exact kx  H locs ls hj1 hR hS (lv_sub hl [0, 1, 2, 3, 4] rfl)
    · have hjN : j < n := by
        rcases Nat.lt_or_ge j n with q | q
        · exact q
        · exact absurd (nI_le (by omega) (by omega)) c1
      refine lv_aload_n hx hb dX2_apart_30 rfl (lv_at hl 3 rfl) ?_
      refine lv_iload hx hb dX2_apart_31 (lv_at hl 0 rfl) ?_
      refine lv_iload_n hx hb dX2_apart_33 rfl (lv_at hl 4 rfl) ?_
      refine kc_i (va_runV (As := [.int (nI j), .int (nI d)]) (rest := []) ⟨hx, hb, hml, hown, hts⟩ (mX2_sumOfYears I L j d hCo h_n4 hjN hd h_nd hk60) (cwV 2 hts (kw_V k416 k418 ks21 k1 k419) rfl rfl rfl (by decide +kernel) ⟨Nat.le_trans (Nat.le_of_ble_eq_true rfl) hRf, Nat.le_trans (Nat.le_of_ble_eq_true rfl) hRl⟩) (kB_preV hE hR hS 0 rfl rfl [.int (nI j), .int (nI d)]) rfl rfl hl.1 rfl (lv_room (Nat.le_of_ble_eq_true rfl)) dX2_apart_34 ⟨hRc, hRs⟩) hS (fun r u H locs hw hR hS => ?_)
      obtain ⟨rfl, rfl⟩ := hw
      have hR : tR D vwCl base ad (tC (wP n ad cs) I L) H := hR
      refine lv_istore (lv' := [(5, .int (nI (sS (fun k => Rw j k d) kp))), (4, .int (nI j)), (3, .int (nI (mxF (fun c => sS (fun k => Rw c k d) kp) (j - 1)))), (2, .int (nI (mnF (fun c => sS (fun k => Rw c k d) kp) (j - 1)))), (0, .ref (ad 0)), (1, .int (nI d))]) hx hb dX2_apart_37 hl (by decide) rfl (fun ls hl => ?_)
      refine lv_iload_n hx hb dX2_apart_39 rfl (lv_at hl 3 rfl) ?_
      refine lv_iload hx hb dX2_apart_40 (lv_at hl 0 rfl) ?_
      refine va_mmin hx hb (hml.trans hl.1.symm) hown (hts _ (List.mem_cons_of_mem _ k21)) (hts _ (List.mem_cons_of_mem _ k22)) (hts _ (List.mem_cons_of_mem _ k2)) (hts _ (List.mem_cons_of_mem _ k23)) (Nat.le_trans (Nat.le_of_ble_eq_true rfl) hRf) (Nat.le_trans (Nat.le_of_ble_eq_true rfl) hRl) hRc hRs dX2_apart_42 ?_
      rw [show (if nI (sS (fun k => Rw j k d) kp) < nI (mnF (fun c => sS (fun k => Rw c k d) kp) (j - 1)) then nI (sS (fun k => Rw j k d) kp) else nI (mnF (fun c => sS (fun k => Rw c k d) kp) (j - 1))) = nI (mnF (fun c => sS (fun k => Rw c k d) kp) (j + 1 - 1)) from (mn_n (a := mnF (fun c => sS (fun k => Rw c k d) kp) (j - 1)) (b := (fun c => sS (fun k => Rw c k d) kp) j) (by have := mnF_le (g := (fun c => sS (fun k => Rw c k d) kp)) (m := j - 1) (B := 15300) (fun i hi => hgb i (by omega)); omega) (by have := hgb j hjN; omega)).trans (by obtain ⟨i, rfl⟩ : ∃ i, j = i + 1 := ⟨j - 1, by omega⟩; rfl)]
      refine lv_istore_n (lv' := [(2, .int (nI (mnF (fun c => sS (fun k => Rw c k d) kp) (j + 1 - 1)))), (5, .int (nI (sS (fun k => Rw j k d) kp))), (4, .int (nI j)), (3, .int (nI (mxF (fun c => sS (fun k => Rw c k d) kp) (j - 1)))), (0, .ref (ad 0)), (1, .int (nI d))]) hx hb dX2_apart_45 rfl hl (by decide) rfl (fun ls hl => ?_)
      refine lv_iload_n hx hb dX2_apart_46 rfl (lv_at hl 3 rfl) ?_
      refine lv_iload hx hb dX2_apart_47 (lv_at hl 1 rfl) ?_
      refine va_mmax hx hb (hml.trans hl.1.symm) hown (hts _ (List.mem_cons_of_mem _ k24)) (hts _ (List.mem_cons_of_mem _ k25)) (hts _ (List.mem_cons_of_mem _ k2)) (hts _ (List.mem_cons_of_mem _ k26)) (Nat.le_trans (Nat.le_of_ble_eq_true rfl) hRf) (Nat.le_trans (Nat.le_of_ble_eq_true rfl) hRl) hRc hRs dX2_apart_49 ?_
      rw [show (if nI (mxF (fun c => sS (fun k => Rw c k d) kp) (j - 1)) < nI (sS (fun k => Rw j k d) kp) then nI (sS (fun k => Rw j k d) kp) else nI (mxF (fun c => sS (fun k => Rw c k d) kp) (j - 1))) = nI (mxF (fun c => sS (fun k => Rw c k d) kp) (j + 1 - 1)) from (mx_n (a := mxF (fun c => sS (fun k => Rw c k d) kp) (j - 1)) (b := (fun c => sS (fun k => Rw c k d) kp) j) (by have := mxF_le (g := (fun c => sS (fun k => Rw c k d) kp)) (m := j - 1) (B := 15300) (fun i hi => hgb i (by omega)); omega) (by have := hgb j hjN; omega)).trans (by obtain ⟨i, rfl⟩ : ∃ i, j = i + 1 := ⟨j - 1, by omega⟩; rfl)]
      refine lv_istore_n (lv' := [(3, .int (nI (mxF (fun c => sS (fun k => Rw c k d) kp) (j + 1 - 1)))), (2, .int (nI (mnF (fun c => sS (fun k => Rw c k d) kp) (j + 1 - 1)))), (5, .int (nI (sS (fun k => Rw j k d) kp))), (4, .int (nI j)), (0, .ref (ad 0)), (1, .int (nI d))]) hx hb dX2_apart_52 rfl hl (by decide) rfl (fun ls hl => ?_)
      refine lv_iinc (v := nI (j + 1)) (lv' := [(4, .int (nI (j + 1))), (3, .int (nI (mxF (fun c => sS (fun k => Rw c k d) kp) (j + 1 - 1)))), (2, .int (nI (mnF (fun c => sS (fun k => Rw c k d) kp) (j + 1 - 1)))), (5, .int (nI (sS (fun k => Rw j k d) kp))), (0, .ref (ad 0)), (1, .int (nI d))]) hx hb dX2_apart_53 hl (k := 3) rfl (nI_1 _) (by decide) rfl (fun ls hl => ?_)
      refine lv_goto (tgt := 21) hx hb dX2_apart_56 (by decide) ?_
      exact ih (j + 1)  H locs ls (by omega) (by omega) (by omega) hR hS (lv_sub hl [0, 1, 2, 4, 5] rfl)
set_option maxHeartbeats 4000000 in
set_option maxRecDepth 100000 in
theorem mX2_apart (hl0 : l.stackTraces = false) (I : tI) (L : tL) {nd no : Nat} {f la : Nat → Nat} {ph : Nat → Int32} {w : Nat → Nat → Nat} {ea lt le mo : Nat → Nat} {Y : Nat → Nat → Nat} {st : Nat → Int64} {Rw : Nat → Nat → Nat → Nat} {kp sp : Nat} (bu ev B : Nat) (p0 : Int32) (hSi : cSi I nd no f la ph w ea lt le mo) (hwf : wfS nd no f la w ea lt le mo) (hcf : cCf I n bu ev) (sd : Nat) (hsd : I 0 6 = nI sd) (hs1 : sd ≤ 1) (hC : sd = 1 → cCo I L n nd 20 Y st Rw kp sp ∧ wCo n nd no f la ea lt le mo B Y Rw kp sp) : vx_Met l yX2_apart wX2_apart ({ frames := 8, cells := 2, slots := 12, locals := 140 }) (va_Pc [.ref (ad 0), .int p0] (kB D cs base sa n ad I L)) (va_Qi (fun (r : Int32) (u : tI × tL) => inN nd p0 ∧ sd = 1 ∧ u = (I, L) ∧ ∃ d, d < nd ∧ p0 = nI d ∧ r = nI (mxF (fun c => sS (fun k => Rw c k d) kp) (n - 1) - mnF (fun c => sS (fun k => Rw c k d) kp) (n - 1))) (kA D cs base n ad) (fun q => base ≤ q)) (kX D cs base n ad I L (fun E => (E = eN ∧ ¬ inN nd p0) ∨ (E = eS ∧ inN nd p0 ∧ ¬ sd = 1))) 2 12 (fun q => base ≤ q) := by
  refine vx_ofW (cc := cX2_apart) (maxL := 6) (ret := (some .int)) (by decide) rfl ?_
  intro p e s m args below meth c s₁ Bd hml htab hv
  obtain ⟨rfl, hE, hR⟩ := hv
  have hx := Bd.exec
  have hb := Bd.bytes
  have hr := Bd.returns
  have hts := atoms_spec (ws := wX2_apart) Bd.pre
  have hown : s.vm.findClass RX2 = some m.cls := findClass_of_methodNamed Bd.named
  have hlocks := Bd.notSynchronized
  have hK := hE.K
  have hS : va_S (fun q => base ≤ q) s.heap s.heap [] := va_S.rf
  have hR : tR D vwCl base ad (tC (wP n ad cs) I L) s.heap := hR
  have hl := lv_entry ([.ref (ad 0), .int p0]) (n := 6) (Nat.le_of_ble_eq_true rfl)
  rw [lg_entry_eq]
  generalize (lg_sl ([.ref (ad 0), .int p0]) ++ List.replicate (6 - (lg_sl ([.ref (ad 0), .int p0])).length) Slot.unset).toArray = ls at hl ⊢
  have hl : lv_has ls 6 [(0, .ref (ad 0)), (1, .int p0)] := hl
  obtain ⟨h_nd, h_no, h_d, h_o⟩ := id hwf
  obtain ⟨h_c1, h_c2, h_c3, h_n1, h_n4, h_bu, h_e1, h_e2⟩ := id hcf
  have hn4 : n ≤ 4 := h_n4
  refine lv_aload_n hx hb dX2_apart_0 rfl (lv_at hl 0 rfl) ?_
  refine lv_iload_n hx hb dX2_apart_1 rfl (lv_at hl 1 rfl) ?_
  refine kt_v (vx_runV (As := [.int p0]) (rest := []) ⟨hx, hb, hml, hown, hts⟩ (mX2_needDate hl0 I L nd p0 hSi.1 h_nd) (cwV 1 hts (kw_V k266 k268 ks7 k1 k269) rfl rfl rfl (by decide +kernel) ⟨Nat.le_of_ble_eq_true rfl, Nat.le_of_ble_eq_true rfl⟩) (kB_preV hE hR hS 0 rfl rfl [.int p0]) rfl rfl hl.1 rfl (lv_room (Nat.le_of_ble_eq_true rfl)) dX2_apart_2 ⟨Nat.le_of_ble_eq_true rfl, Nat.le_of_ble_eq_true rfl⟩) hS htab hlocks (fun E h => Or.inl h) (Nat.le_of_ble_eq_true rfl) (Nat.le_of_ble_eq_true rfl) (fun u H locs hw hR hS => ?_)
  obtain ⟨hp0, rfl⟩ := hw
  have hR : tR D vwCl base ad (tC (wP n ad cs) I L) H := hR
  obtain ⟨d, hd, rfl⟩ := id hp0
  refine lv_aload_n hx hb dX2_apart_5 rfl (lv_at hl 0 rfl) ?_
  refine kt_v (vx_runV (As := []) (rest := []) ⟨hx, hb, hml, hown, hts⟩ (mX2_needStarted hl0 I L sd hsd hs1) (cwV 0 hts (kw_V k344 k346 ks11 k1 k347) rfl rfl rfl (by decide +kernel) ⟨Nat.le_of_ble_eq_true rfl, Nat.le_of_ble_eq_true rfl⟩) (kB_preV hE hR hS 0 rfl rfl []) rfl rfl hl.1 rfl (lv_room (Nat.le_of_ble_eq_true rfl)) dX2_apart_6 ⟨Nat.le_of_ble_eq_true rfl, Nat.le_of_ble_eq_true rfl⟩) hS htab hlocks (fun E h => Or.inr ⟨h.1, hp0, h.2⟩) (Nat.le_of_ble_eq_true rfl) (Nat.le_of_ble_eq_true rfl) (fun u H locs hw hR hS => ?_)
  obtain ⟨hs, rfl⟩ := hw
  have hR : tR D vwCl base ad (tC (wP n ad cs) I L) H := hR
  obtain ⟨hCo, hwY, hk60, hspB, hRb⟩ := hC hs
  refine lv_aload_n hx hb dX2_apart_9 rfl (lv_at hl 0 rfl) ?_
  refine lv_iconst (v := nI 0) hx hb dX2_apart_10 (by decide) ?_
  refine lv_iload_n hx hb dX2_apart_11 rfl (lv_at hl 1 rfl) ?_
  refine kc_i (va_runV (As := [.int (nI 0), .int (nI d)]) (rest := []) ⟨hx, hb, hml, hown, hts⟩ (mX2_sumOfYears I L 0 d hCo h_n4 (by omega) hd h_nd hk60) (cwV 2 hts (kw_V k416 k418 ks21 k1 k419) rfl rfl rfl (by decide +kernel) ⟨Nat.le_of_ble_eq_true rfl, Nat.le_of_ble_eq_true rfl⟩) (kB_preV hE hR hS 0 rfl rfl [.int (nI 0), .int (nI d)]) rfl rfl hl.1 rfl (lv_room (Nat.le_of_ble_eq_true rfl)) dX2_apart_12 ⟨Nat.le_of_ble_eq_true rfl, Nat.le_of_ble_eq_true rfl⟩) hS (fun r u H locs hw hR hS => ?_)
  obtain ⟨rfl, rfl⟩ := hw
  have hR : tR D vwCl base ad (tC (wP n ad cs) I L) H := hR
  refine lv_istore_n (lv' := [(2, .int (nI (sS (fun k => Rw 0 k d) kp))), (0, .ref (ad 0)), (1, .int (nI d))]) hx hb dX2_apart_15 rfl hl (by decide) rfl (fun ls hl => ?_)
  refine lv_iload_n hx hb dX2_apart_16 rfl (lv_at hl 0 rfl) ?_
  refine lv_istore_n (lv' := [(3, .int (nI (sS (fun k => Rw 0 k d) kp))), (2, .int (nI (sS (fun k => Rw 0 k d) kp))), (0, .ref (ad 0)), (1, .int (nI d))]) hx hb dX2_apart_17 rfl hl (by decide) rfl (fun ls hl => ?_)
  refine lv_iconst (v := 1) hx hb dX2_apart_18 (by decide) ?_
  rw [show (1 : Int32) = nI 1 from rfl]
  refine lv_istore (lv' := [(4, .int (nI 1)), (3, .int (nI (sS (fun k => Rw 0 k d) kp))), (2, .int (nI (sS (fun k => Rw 0 k d) kp))), (0, .ref (ad 0)), (1, .int (nI d))]) hx hb dX2_apart_19 hl (by decide) rfl (fun ls hl => ?_)
  have hl : lv_has ls 6 [(4, .int (nI 1)), (3, .int (nI (mxF (fun c => sS (fun k => Rw c k d) kp) (1 - 1)))), (2, .int (nI (mnF (fun c => sS (fun k => Rw c k d) kp) (1 - 1)))), (0, .ref (ad 0)), (1, .int (nI d))] := hl
  refine lpX2_apart ⟨hx, hb, hml, hown, hts⟩ hE (Nat.le_of_ble_eq_true rfl) (Nat.le_of_ble_eq_true rfl) (Nat.le_of_ble_eq_true rfl) (Nat.le_of_ble_eq_true rfl) I L bu ev d hSi hwf hcf hCo hk60 hd hRb (fun H locs ls _ hR hS hl => ?_) (n + 1) 1 _ _ ls (by omega) (by omega) (Nat.le_refl _) hR hS (lv_sub hl [0, 1, 2, 3, 4] rfl)
  refine lv_iload_n hx hb dX2_apart_59 rfl (lv_at hl 1 rfl) ?_
  refine lv_iload_n hx hb dX2_apart_60 rfl (lv_at hl 2 rfl) ?_
  refine lv_isub hx hb dX2_apart_61 ?_
  rw [pk_sub (mn_mx _ _)]
  refine W.widen (k := 2) (n := 12) (Nat.le_of_ble_eq_true rfl) (Nat.le_of_ble_eq_true rfl) ?_
  refine vx_ret ?_
  exact W.iret (v := nI (mxF (fun c => sS (fun k => Rw c k d) kp) (n - 1) - mnF (fun c => sS (fun k => Rw c k d) kp) (n - 1))) hx hb hr (fun t ht hW => ⟨⟨_, (I, L), rfl, ⟨hp0, hs, rfl, d, hd, rfl, rfl⟩, by show tR _ _ _ _ _ t.heap; rw [ht]; exact hR⟩, hS.F ht⟩) hS.2.2 dX2_apart_62
set_option maxHeartbeats 4000000 in
set_option maxRecDepth 100000 in
theorem lqX2_agreement {p : Program} {e : Env} {R : Room} {s : State} {m : MethodId} {args : Array Value} {below : List Frame} {meth : Method} {c : Code} {cells slots : Nat} {Q : State → Prop} (S0 : CallFix p m c cX2_agreement 6 s args wX2_agreement RX2) (hE : eV D cs base sa s) (hRf : 1 ≤ R.frames) (hRl : 40 ≤ R.locals) (hRc : cells ≤ R.cells) (hRs : slots ≤ R.slots) (I : tI) (L : tL) {nd no : Nat} {f la : Nat → Nat} {ph : Nat → Int32} {w : Nat → Nat → Nat} {ea lt le mo : Nat → Nat} {Y : Nat → Nat → Nat} {st : Nat → Int64} {Rw : Nat → Nat → Nat → Nat} {kp sp : Nat} (bu ev d ch : Nat) (hSi : cSi I nd no f la ph w ea lt le mo) (hwf : wfS nd no f la w ea lt le mo) (hcf : cCf I n bu ev) (hCo : cCo I L n nd 20 Y st Rw kp sp) (hk60 : kp ≤ 60) (hd : d < nd) (hRb : ∀ c, c < n → ∀ k, k < kp → ∀ d, d < nd → f d ≤ Rw c k d ∧ Rw c k d ≤ la d) (hch : ch < n)
    (kx : ∀ (H : Heap) (locs : List Loc) (ls : Array Slot), tR D vwCl base ad (tC (wP n ad cs) I L) H → va_S (fun q => base ≤ q) s.heap H locs → lv_has ls 6 [(5, .int (nI kp)), (2, .long (lN (s2 (fun c k => w d (Rw c k d - f d)) kp ch + sS ((fun c k => w d (Rw c k d - f d)) ch) kp))), (4, .int (nI ch)), (0, .ref (ad 0)), (1, .int (nI d))] → W p l e R s m args below meth c H locs cells slots Q (F0 m 68 ls [])) :
    ∀ (k j : Nat) (H : Heap) (locs : List Loc) (ls : Array Slot), j ≤ kp → kp + 1 ≤ j + k → tR D vwCl base ad (tC (wP n ad cs) I L) H → va_S (fun q => base ≤ q) s.heap H locs → lv_has ls 6 [(5, .int (nI j)), (2, .long (lN (s2 (fun c k => w d (Rw c k d - f d)) kp ch + sS ((fun c k => w d (Rw c k d - f d)) ch) j))), (4, .int (nI ch)), (0, .ref (ad 0)), (1, .int (nI d))] → W p l e R s m args below meth c H locs cells slots Q (F0 m 26 ls []) := by
  obtain ⟨hx, hb, hml, hown, hts⟩ := S0
  have hK := hE.K
  obtain ⟨h_nd, h_no, h_d, h_o⟩ := id hwf
  obtain ⟨h_c1, h_c2, h_c3, h_n1, h_n4, h_bu, h_e1, h_e2⟩ := id hcf
  have hn4 : n ≤ 4 := h_n4
  intro k
  induction k with
  | zero => intro j  H locs ls h1 h2; exact absurd h2 (by omega)
  | succ k ih =>
    intro j  H locs ls hj hk  hR hS hl
    refine lv_iload hx hb dX2_agreement_26 (lv_at hl 0 rfl) ?_
    refine lv_aload_n hx hb dX2_agreement_28 rfl (lv_at hl 3 rfl) ?_
    refine tb_get hx hb hts (fun w h => List.mem_cons_of_mem _ (inX2 w h)) hown hK hR 0 rfl rfl 3 (by decide) (hts _ (List.mem_cons_of_mem _ k104)) (fun _ h => h) rfl dX2_agreement_29 ?_
    refine tb_getN hx hb hts (fun w h => List.mem_cons_of_mem _ (inX0 w h)) hown hK hR 20 rfl rfl 3 (by decide) (va_Nw.use rfl (hE.2.1 (117, "SeedChains$Course", "kept", "I") (by decide))) (fun _ h => h) rfl dX2_agreement_32 ?_
    rw [show I 20 3 = nI kp from hCo.1]
    refine lv_icmp_ge (tgt := 68) hx hb dX2_agreement_35 (by decide) (fun c1 => ?_) (fun c1 => ?_)
    · have hjN : j = kp := by have e9 := (nI_leI (by omega) (by omega)).mp c1; omega
      subst hjN
      exact kx  H locs ls  hR hS (lv_sub hl [0, 1, 2, 3, 4] rfl)
    · have hjN : j < kp := by
        rcases Nat.lt_or_ge j kp with q | q
        · exact q
        · exact absurd (nI_le (by omega) (by omega)) c1
      obtain ⟨g1, g2, g3, g4⟩ := h_d d hd
      have h_rb := hRb ch hch j hjN d hd
      refine lv_lload_n hx hb dX2_agreement_38 rfl (lv_at hl 1 rfl) ?_
      refine lv_aload_n hx hb dX2_agreement_39 rfl (lv_at hl 3 rfl) ?_
      refine tb_get hx hb hts (fun w h => List.mem_cons_of_mem _ (inX2 w h)) hown hK hR 0 rfl rfl 2 (by decide) (hts _ (List.mem_cons_of_mem _ k103)) (fun _ h => h) rfl dX2_agreement_40 ?_
      refine lv_iload_n hx hb dX2_agreement_43 rfl (lv_at hl 4 rfl) ?_
      refine lv_aload_n hx hb dX2_agreement_44 rfl (lv_at hl 3 rfl) ?_
      refine tb_get hx hb hts (fun w h => List.mem_cons_of_mem _ (inX2 w h)) hown hK hR 0 rfl rfl 3 (by decide) (hts _ (List.mem_cons_of_mem _ k104)) (fun _ h => h) rfl dX2_agreement_45 ?_
      refine lv_iload hx hb dX2_agreement_48 (lv_at hl 2 rfl) ?_
      refine lv_iload hx hb dX2_agreement_50 (lv_at hl 0 rfl) ?_
      refine lv_iload_n hx hb dX2_agreement_52 rfl (lv_at hl 4 rfl) ?_
      refine kc_i (va_runVN (As := [.int (nI ch), .int (nI j), .int (nI d)]) (rest := [.int (nI d), .ref (ad 1), .long (lN (s2 (fun c k => w d (Rw c k d - f d)) kp ch + sS ((fun c k => w d (Rw c k d - f d)) ch) j))]) ⟨hx, hb, hml, hown, hts⟩ (mX0_keptYear I L 20 ch j d (Or.inl rfl) (by omega) (by omega) (by omega)) ⟨va_cnB 3 hts (kw_N k401) rfl rfl rfl (hE.2.2.1 (157, yX0_keptYear) (by decide)) (hts _ (List.mem_cons_of_mem _ k4)) (by decide +kernel) ⟨Nat.le_trans (Nat.le_of_ble_eq_true rfl) hRf, Nat.le_trans (Nat.le_of_ble_eq_true rfl) hRl⟩, hts _ (List.mem_cons_of_mem _ k400), hts _ (List.mem_cons_of_mem _ ks20)⟩ (kB_preV hE hR hS 20 rfl rfl [.int (nI ch), .int (nI j), .int (nI d)]) rfl rfl hl.1 rfl (lv_room (Nat.le_of_ble_eq_true rfl)) dX2_agreement_53 ⟨hRc, hRs⟩) hS (fun r u H locs hw hR hS => ?_)
      obtain ⟨rfl, rfl⟩ := hw
      have hR : tR D vwCl base ad (tC (wP n ad cs) I L) H := hR
      rw [show (I (20 + 8 + ch) (j * 8 + d)) = nI (Rw ch j d) from (hCo.2.2 ch (by omega)).2.2 j (by omega) d (by omega)]
      refine kc_i (va_runVN (As := [.int (nI d), .int (nI (Rw ch j d))]) (rest := [.long (lN (s2 (fun c k => w d (Rw c k d - f d)) kp ch + sS ((fun c k => w d (Rw c k d - f d)) ch) j))]) ⟨hx, hb, hml, hown, hts⟩ (mX1_weightOf I L d (Rw ch j d - f d) (nI (Rw ch j d)) (by omega) (by rw [(hSi.2.2.1 d hd).1, pk_sub (by omega)]) (by omega)) ⟨va_cnB 2 hts (kw_N k295) rfl rfl rfl (hE.2.2.1 (163, yX1_weightOf) (by decide)) (hts _ (List.mem_cons_of_mem _ k3)) (by decide +kernel) ⟨Nat.le_trans (Nat.le_of_ble_eq_true rfl) hRf, Nat.le_trans (Nat.le_of_ble_eq_true rfl) hRl⟩, hts _ (List.mem_cons_of_mem _ k294), hts _ (List.mem_cons_of_mem _ ks9)⟩ (kB_preV hE hR hS 1 rfl rfl [.int (nI d), .int (nI (Rw ch j d))]) rfl rfl hl.1 rfl (lv_room (Nat.le_of_ble_eq_true rfl)) dX2_agreement_56 ⟨hRc, hRs⟩) hS (fun r u H locs hw hR hS => ?_)
      obtain ⟨rfl, rfl⟩ := hw
      have hR : tR D vwCl base ad (tC (wP n ad cs) I L) H := hR
      rw [show (I (10 + d) (Rw ch j d - f d)) = nI (w d (Rw ch j d - f d)) from (hSi.2.2.1 d hd).2.2.2 _ (by omega)]
      refine lv_i2l hx hb dX2_agreement_59 rfl ?_
      rw [nI_l (by have := g4 (Rw ch j d - f d) (by omega); omega)]
      refine lv_ladd hx hb dX2_agreement_60 ?_
      rw [lN_add, show s2 (fun c k => w d (Rw c k d - f d)) kp ch + sS ((fun c k => w d (Rw c k d - f d)) ch) j + w d (Rw ch j d - f d) = s2 (fun c k => w d (Rw c k d - f d)) kp ch + sS ((fun c k => w d (Rw c k d - f d)) ch) (j + 1) from Nat.add_assoc _ _ _]
      refine lv_lstore_n (lv' := [(2, .long (lN (s2 (fun c k => w d (Rw c k d - f d)) kp ch + sS ((fun c k => w d (Rw c k d - f d)) ch) (j + 1)))), (5, .int (nI j)), (4, .int (nI ch)), (0, .ref (ad 0)), (1, .int (nI d))]) hx hb dX2_agreement_61 rfl hl (by decide) rfl (fun ls hl => ?_)
      refine lv_iinc (v := nI (j + 1)) (lv' := [(5, .int (nI (j + 1))), (2, .long (lN (s2 (fun c k => w d (Rw c k d - f d)) kp ch + sS ((fun c k => w d (Rw c k d - f d)) ch) (j + 1)))), (4, .int (nI ch)), (0, .ref (ad 0)), (1, .int (nI d))]) hx hb dX2_agreement_62 hl (k := 1) rfl (nI_1 _) (by decide) rfl (fun ls hl => ?_)
      refine lv_goto (tgt := 26) hx hb dX2_agreement_65 (by decide) ?_
      exact ih (j + 1)  H locs ls (by omega) (by omega)  hR hS (lv_sub hl [0, 1, 2, 3, 4] rfl)
set_option maxHeartbeats 4000000 in
set_option maxRecDepth 100000 in
theorem lpX2_agreement {p : Program} {e : Env} {R : Room} {s : State} {m : MethodId} {args : Array Value} {below : List Frame} {meth : Method} {c : Code} {cells slots : Nat} {Q : State → Prop} (S0 : CallFix p m c cX2_agreement 6 s args wX2_agreement RX2) (hE : eV D cs base sa s) (hRf : 1 ≤ R.frames) (hRl : 40 ≤ R.locals) (hRc : cells ≤ R.cells) (hRs : slots ≤ R.slots) (I : tI) (L : tL) {nd no : Nat} {f la : Nat → Nat} {ph : Nat → Int32} {w : Nat → Nat → Nat} {ea lt le mo : Nat → Nat} {Y : Nat → Nat → Nat} {st : Nat → Int64} {Rw : Nat → Nat → Nat → Nat} {kp sp : Nat} (bu ev d : Nat) (hSi : cSi I nd no f la ph w ea lt le mo) (hwf : wfS nd no f la w ea lt le mo) (hcf : cCf I n bu ev) (hCo : cCo I L n nd 20 Y st Rw kp sp) (hk60 : kp ≤ 60) (hd : d < nd) (hRb : ∀ c, c < n → ∀ k, k < kp → ∀ d, d < nd → f d ≤ Rw c k d ∧ Rw c k d ≤ la d)
    (kx : ∀ (H : Heap) (locs : List Loc) (ls : Array Slot), tR D vwCl base ad (tC (wP n ad cs) I L) H → va_S (fun q => base ≤ q) s.heap H locs → lv_has ls 6 [(4, .int (nI n)), (2, .long (lN (s2 (fun c k => w d (Rw c k d - f d)) kp n))), (0, .ref (ad 0)), (1, .int (nI d))] → W p l e R s m args below meth c H locs cells slots Q (F0 m 74 ls [])) :
    ∀ (k j : Nat) (H : Heap) (locs : List Loc) (ls : Array Slot), j ≤ n → n + 1 ≤ j + k → tR D vwCl base ad (tC (wP n ad cs) I L) H → va_S (fun q => base ≤ q) s.heap H locs → lv_has ls 6 [(4, .int (nI j)), (2, .long (lN (s2 (fun c k => w d (Rw c k d - f d)) kp j))), (0, .ref (ad 0)), (1, .int (nI d))] → W p l e R s m args below meth c H locs cells slots Q (F0 m 14 ls []) := by
  obtain ⟨hx, hb, hml, hown, hts⟩ := S0
  have hK := hE.K
  obtain ⟨h_nd, h_no, h_d, h_o⟩ := id hwf
  obtain ⟨h_c1, h_c2, h_c3, h_n1, h_n4, h_bu, h_e1, h_e2⟩ := id hcf
  have hn4 : n ≤ 4 := h_n4
  intro k
  induction k with
  | zero => intro j  H locs ls h1 h2; exact absurd h2 (by omega)
  | succ k ih =>
    intro j  H locs ls hj hk  hR hS hl
    refine lv_iload hx hb dX2_agreement_14 (lv_at hl 0 rfl) ?_
    refine lv_aload_n hx hb dX2_agreement_16 rfl (lv_at hl 2 rfl) ?_
    refine tb_get hx hb hts (fun w h => List.mem_cons_of_mem _ (inX2 w h)) hown hK hR 0 rfl rfl 1 (by decide) (hts _ (List.mem_cons_of_mem _ k102)) (fun _ h => h) rfl dX2_agreement_17 ?_
    rw [show I 0 1 = nI n from hcf.1]
    refine lv_icmp_ge (tgt := 74) hx hb dX2_agreement_20 (by decide) (fun c1 => ?_) (fun c1 => ?_)
    · have hjN : j = n := by have e9 := (nI_leI (by omega) (by omega)).mp c1; omega
      subst hjN
      exact kx  H locs ls  hR hS (lv_sub hl [0, 1, 2, 3] rfl)
    · have hjN : j < n := by
        rcases Nat.lt_or_ge j n with q | q
        · exact q
        · exact absurd (nI_le (by omega) (by omega)) c1
      refine lv_iconst (v := 0) hx hb dX2_agreement_23 (by decide) ?_
      rw [show (0 : Int32) = nI 0 from nI_0.symm]
      refine lv_istore (lv' := [(5, .int (nI 0)), (4, .int (nI j)), (2, .long (lN (s2 (fun c k => w d (Rw c k d - f d)) kp j))), (0, .ref (ad 0)), (1, .int (nI d))]) hx hb dX2_agreement_24 hl (by decide) rfl (fun ls hl => ?_)
      rw [show s2 (fun c k => w d (Rw c k d - f d)) kp j = s2 (fun c k => w d (Rw c k d - f d)) kp j + sS ((fun c k => w d (Rw c k d - f d)) j) 0 from rfl] at hl
      refine lqX2_agreement ⟨hx, hb, hml, hown, hts⟩ hE hRf hRl hRc hRs I L bu ev d j hSi hwf hcf hCo hk60 hd hRb hjN (fun H locs ls hR hS hl => ?_) (kp + 1) 0 _ _ ls (Nat.zero_le _) (by omega) hR hS (lv_sub hl [0, 2, 1, 3, 4] rfl)
      have hl : lv_has ls 6 [(5, .int (nI kp)), (2, .long (lN (s2 (fun c k => w d (Rw c k d - f d)) kp (j + 1)))), (4, .int (nI j)), (0, .ref (ad 0)), (1, .int (nI d))] := hl
      refine lv_iinc (v := nI (j + 1)) (lv' := [(4, .int (nI (j + 1))), (5, .int (nI kp)), (2, .long (lN (s2 (fun c k => w d (Rw c k d - f d)) kp (j + 1)))), (0, .ref (ad 0)), (1, .int (nI d))]) hx hb dX2_agreement_68 hl (k := 2) rfl (nI_1 _) (by decide) rfl (fun ls hl => ?_)
      refine lv_goto (tgt := 14) hx hb dX2_agreement_71 (by decide) ?_
      exact ih (j + 1)  H locs ls (by omega) (by omega)  hR hS (lv_sub hl [0, 2, 3, 4] rfl)
set_option maxHeartbeats 4000000 in
set_option maxRecDepth 100000 in
theorem mX2_agreement (hl0 : l.stackTraces = false) (I : tI) (L : tL) {nd no : Nat} {f la : Nat → Nat} {ph : Nat → Int32} {w : Nat → Nat → Nat} {ea lt le mo : Nat → Nat} {Y : Nat → Nat → Nat} {st : Nat → Int64} {Rw : Nat → Nat → Nat → Nat} {kp sp : Nat} (bu ev B : Nat) (p0 : Int32) (hSi : cSi I nd no f la ph w ea lt le mo) (hwf : wfS nd no f la w ea lt le mo) (hcf : cCf I n bu ev) (sd : Nat) (hsd : I 0 6 = nI sd) (hs1 : sd ≤ 1) (hC : sd = 1 → cCo I L n nd 20 Y st Rw kp sp ∧ wCo n nd no f la ea lt le mo B Y Rw kp sp) : vx_Met l yX2_agreement wX2_agreement ({ frames := 8, cells := 2, slots := 12, locals := 140 }) (va_Pc [.ref (ad 0), .int p0] (kB D cs base sa n ad I L)) (va_Qi (fun (r : Int32) (u : tI × tL) => inN nd p0 ∧ sd = 1 ∧ u = (I, L) ∧ ∃ d, d < nd ∧ p0 = nI d ∧ r = agV n kp (s2 (fun c k => w d (Rw c k d - f d)) kp n) (sMx (fun q => w d (q - f d)) (f d) (la d + 1 - f d))) (kA D cs base n ad) (fun q => base ≤ q)) (kX D cs base n ad I L (fun E => (E = eN ∧ ¬ inN nd p0) ∨ (E = eS ∧ inN nd p0 ∧ ¬ sd = 1))) 2 12 (fun q => base ≤ q) := by
  refine vx_ofW (cc := cX2_agreement) (maxL := 6) (ret := (some .int)) (by decide) rfl ?_
  intro p e s m args below meth c s₁ Bd hml htab hv
  obtain ⟨rfl, hE, hR⟩ := hv
  have hx := Bd.exec
  have hb := Bd.bytes
  have hr := Bd.returns
  have hts := atoms_spec (ws := wX2_agreement) Bd.pre
  have hown : s.vm.findClass RX2 = some m.cls := findClass_of_methodNamed Bd.named
  have hlocks := Bd.notSynchronized
  have hK := hE.K
  have hS : va_S (fun q => base ≤ q) s.heap s.heap [] := va_S.rf
  have hR : tR D vwCl base ad (tC (wP n ad cs) I L) s.heap := hR
  have hl := lv_entry ([.ref (ad 0), .int p0]) (n := 6) (Nat.le_of_ble_eq_true rfl)
  rw [lg_entry_eq]
  generalize (lg_sl ([.ref (ad 0), .int p0]) ++ List.replicate (6 - (lg_sl ([.ref (ad 0), .int p0])).length) Slot.unset).toArray = ls at hl ⊢
  have hl : lv_has ls 6 [(0, .ref (ad 0)), (1, .int p0)] := hl
  obtain ⟨h_nd, h_no, h_d, h_o⟩ := id hwf
  obtain ⟨h_c1, h_c2, h_c3, h_n1, h_n4, h_bu, h_e1, h_e2⟩ := id hcf
  have hn4 : n ≤ 4 := h_n4
  refine lv_aload_n hx hb dX2_agreement_0 rfl (lv_at hl 0 rfl) ?_
  refine lv_iload_n hx hb dX2_agreement_1 rfl (lv_at hl 1 rfl) ?_
  refine kt_v (vx_runV (As := [.int p0]) (rest := []) ⟨hx, hb, hml, hown, hts⟩ (mX2_needDate hl0 I L nd p0 hSi.1 h_nd) (cwV 1 hts (kw_V k266 k268 ks7 k1 k269) rfl rfl rfl (by decide +kernel) ⟨Nat.le_of_ble_eq_true rfl, Nat.le_of_ble_eq_true rfl⟩) (kB_preV hE hR hS 0 rfl rfl [.int p0]) rfl rfl hl.1 rfl (lv_room (Nat.le_of_ble_eq_true rfl)) dX2_agreement_2 ⟨Nat.le_of_ble_eq_true rfl, Nat.le_of_ble_eq_true rfl⟩) hS htab hlocks (fun E h => Or.inl h) (Nat.le_of_ble_eq_true rfl) (Nat.le_of_ble_eq_true rfl) (fun u H locs hw hR hS => ?_)
  obtain ⟨hp0, rfl⟩ := hw
  have hR : tR D vwCl base ad (tC (wP n ad cs) I L) H := hR
  obtain ⟨d, hd, rfl⟩ := id hp0
  refine lv_aload_n hx hb dX2_agreement_5 rfl (lv_at hl 0 rfl) ?_
  refine kt_v (vx_runV (As := []) (rest := []) ⟨hx, hb, hml, hown, hts⟩ (mX2_needStarted hl0 I L sd hsd hs1) (cwV 0 hts (kw_V k344 k346 ks11 k1 k347) rfl rfl rfl (by decide +kernel) ⟨Nat.le_of_ble_eq_true rfl, Nat.le_of_ble_eq_true rfl⟩) (kB_preV hE hR hS 0 rfl rfl []) rfl rfl hl.1 rfl (lv_room (Nat.le_of_ble_eq_true rfl)) dX2_agreement_6 ⟨Nat.le_of_ble_eq_true rfl, Nat.le_of_ble_eq_true rfl⟩) hS htab hlocks (fun E h => Or.inr ⟨h.1, hp0, h.2⟩) (Nat.le_of_ble_eq_true rfl) (Nat.le_of_ble_eq_true rfl) (fun u H locs hw hR hS => ?_)
  obtain ⟨hs, rfl⟩ := hw
  have hR : tR D vwCl base ad (tC (wP n ad cs) I L) H := hR
  obtain ⟨hCo, hwY, hk60, hspB, hRb⟩ := hC hs
  refine lv_lconst (v := 0) hx hb dX2_agreement_9 (by decide) ?_
  rw [show (0 : Int64) = lN (s2 (fun c k => w d (Rw c k d - f d)) kp 0) from rfl]
  refine lv_lstore_n (lv' := [(2, .long (lN (s2 (fun c k => w d (Rw c k d - f d)) kp 0))), (0, .ref (ad 0)), (1, .int (nI d))]) hx hb dX2_agreement_10 rfl hl (by decide) rfl (fun ls hl => ?_)
  refine lv_iconst (v := 0) hx hb dX2_agreement_11 (by decide) ?_
  rw [show (0 : Int32) = nI 0 from nI_0.symm]
  refine lv_istore (lv' := [(4, .int (nI 0)), (2, .long (lN (s2 (fun c k => w d (Rw c k d - f d)) kp 0))), (0, .ref (ad 0)), (1, .int (nI d))]) hx hb dX2_agreement_12 hl (by decide) rfl (fun ls hl => ?_)
  refine lpX2_agreement ⟨hx, hb, hml, hown, hts⟩ hE (Nat.le_of_ble_eq_true rfl) (Nat.le_of_ble_eq_true rfl) (Nat.le_of_ble_eq_true rfl) (Nat.le_of_ble_eq_true rfl) I L bu ev d hSi hwf hcf hCo hk60 hd hRb (fun H locs ls hR hS hl => ?_) (n + 1) 0 _ _ ls (Nat.zero_le _) (by omega) hR hS (lv_sub hl [0, 1, 2, 3] rfl)
  obtain ⟨g1, g2, g3, g4⟩ := h_d d hd
  have h_mx : sMx (fun q => w d (q - f d)) (f d) (la d + 1 - f d) ≤ 1000 := sMx_le (fun i hi => (g4 _ (by omega)).2)
  have h_mp : 0 < sMx (fun q => w d (q - f d)) (f d) (la d + 1 - f d) := sMx_pos (by omega) (fun i hi => (g4 _ (by omega)).1)
  have h_sm : s2 (fun c k => w d (Rw c k d - f d)) kp n ≤ 240000 := Nat.le_trans (s2_le (B := 1000) (fun c hc k hk => (g4 _ (by have := hRb c hc k hk d hd; omega)).2)) (Nat.le_trans (Nat.mul_le_mul h_n4 (Nat.mul_le_mul hk60 (Nat.le_refl _))) (by decide))
  have h_nk : n * kp ≤ 240 := Nat.mul_le_mul h_n4 hk60
  have h_wh : n * kp * (sMx (fun q => w d (q - f d)) (f d) (la d + 1 - f d)) ≤ 240000 := Nat.mul_le_mul h_nk h_mx
  refine lv_aload_n hx hb dX2_agreement_74 rfl (lv_at hl 2 rfl) ?_
  refine tb_get hx hb hts (fun w h => List.mem_cons_of_mem _ (inX2 w h)) hown hK hR 0 rfl rfl 1 (by decide) (hts _ (List.mem_cons_of_mem _ k102)) (fun _ h => h) rfl dX2_agreement_75 ?_
  rw [show I 0 1 = nI n from hcf.1]
  refine lv_i2l hx hb dX2_agreement_78 rfl ?_
  rw [nI_l (by omega)]
  refine lv_aload_n hx hb dX2_agreement_79 rfl (lv_at hl 2 rfl) ?_
  refine tb_get hx hb hts (fun w h => List.mem_cons_of_mem _ (inX2 w h)) hown hK hR 0 rfl rfl 3 (by decide) (hts _ (List.mem_cons_of_mem _ k104)) (fun _ h => h) rfl dX2_agreement_80 ?_
  refine tb_getN hx hb hts (fun w h => List.mem_cons_of_mem _ (inX0 w h)) hown hK hR 20 rfl rfl 3 (by decide) (va_Nw.use rfl (hE.2.1 (117, "SeedChains$Course", "kept", "I") (by decide))) (fun _ h => h) rfl dX2_agreement_83 ?_
  rw [show I 20 3 = nI kp from hCo.1]
  refine lv_i2l hx hb dX2_agreement_86 rfl ?_
  rw [nI_l (by omega)]
  refine lv_lmul hx hb dX2_agreement_87 ?_
  rw [lN_mul]
  refine lv_aload_n hx hb dX2_agreement_88 rfl (lv_at hl 2 rfl) ?_
  refine tb_get hx hb hts (fun w h => List.mem_cons_of_mem _ (inX2 w h)) hown hK hR 0 rfl rfl 2 (by decide) (hts _ (List.mem_cons_of_mem _ k103)) (fun _ h => h) rfl dX2_agreement_89 ?_
  refine lv_iload_n hx hb dX2_agreement_92 rfl (lv_at hl 3 rfl) ?_
  refine kc_i (va_runVN (As := [.int (nI d)]) (rest := [.long (lN (n * kp))]) ⟨hx, hb, hml, hown, hts⟩ (mX1_greatestWeight I L d hSi hwf hd) ⟨va_cnB 1 hts (kw_N k431) rfl rfl rfl (hE.2.2.1 (166, yX1_greatestWeight) (by decide)) (hts _ (List.mem_cons_of_mem _ k3)) (by decide +kernel) ⟨Nat.le_of_ble_eq_true rfl, Nat.le_of_ble_eq_true rfl⟩, hts _ (List.mem_cons_of_mem _ k430), hts _ (List.mem_cons_of_mem _ ks22)⟩ (kB_preV hE hR hS 1 rfl rfl [.int (nI d)]) rfl rfl hl.1 rfl (lv_room (Nat.le_of_ble_eq_true rfl)) dX2_agreement_93 ⟨Nat.le_of_ble_eq_true rfl, Nat.le_of_ble_eq_true rfl⟩) hS (fun r u H locs hw hR hS => ?_)
  obtain ⟨rfl, rfl⟩ := hw
  have hR : tR D vwCl base ad (tC (wP n ad cs) I L) H := hR
  refine lv_i2l hx hb dX2_agreement_96 rfl ?_
  rw [nI_l (by omega)]
  refine lv_lmul hx hb dX2_agreement_97 ?_
  rw [lN_mul]
  refine lv_lstore (lv' := [(4, .long (lN (n * kp * (sMx (fun q => w d (q - f d)) (f d) (la d + 1 - f d))))), (2, .long (lN (s2 (fun c k => w d (Rw c k d - f d)) kp n))), (0, .ref (ad 0)), (1, .int (nI d))]) hx hb dX2_agreement_98 hl (by decide) rfl (fun ls hl => ?_)
  refine lv_lload hx hb dX2_agreement_100 (lv_at hl 0 rfl) ?_
  refine lv_lconst (v := 0) hx hb dX2_agreement_102 (by decide) ?_
  refine W.lcmp hx hb dX2_agreement_103 ?_
  refine lv_if_le (tgt := 119) hx hb dX2_agreement_104 (by decide) (fun c1 => ?_) (fun c1 => ?_)
  · have hq : kp = 0 := by
      have q1 := (lN_le0 (by omega)).mp c1
      rcases Nat.eq_zero_or_pos kp with q | q
      · exact q
      · exact absurd q1 (Nat.ne_of_gt (Nat.mul_pos (Nat.mul_pos h_n1 q) h_mp))
    refine lv_iconst (v := -1) hx hb dX2_agreement_119 (by decide) ?_
    refine W.widen (k := 2) (n := 12) (Nat.le_of_ble_eq_true rfl) (Nat.le_of_ble_eq_true rfl) ?_
    refine vx_ret ?_
    exact W.iret (v := (-1)) hx hb hr (fun t ht hW => ⟨⟨_, (I, L), rfl, ⟨hp0, hs, rfl, d, hd, rfl, by unfold agV; rw [if_pos hq]⟩, by show tR _ _ _ _ _ t.heap; rw [ht]; exact hR⟩, hS.F ht⟩) hS.2.2 dX2_agreement_120
  · have hw0 : 0 < n * kp * (sMx (fun q => w d (q - f d)) (f d) (la d + 1 - f d)) := Nat.pos_of_ne_zero (fun z => c1 ((lN_le0 (by omega)).mpr z))
    have hq : ¬ kp = 0 := fun z => by rw [z, Nat.mul_zero, Nat.zero_mul] at hw0; omega
    refine lv_ldc2 (v := 1000) hx hb hown (hts _ (List.mem_cons_of_mem _ k432)) dX2_agreement_107 ?_
    rw [show (1000 : Int64) = lN 1000 from rfl]
    refine lv_lload_n hx hb dX2_agreement_110 rfl (lv_at hl 1 rfl) ?_
    refine lv_lmul hx hb dX2_agreement_111 ?_
    rw [lN_mul]
    refine lv_lload hx hb dX2_agreement_112 (lv_at hl 0 rfl) ?_
    refine lv_ldiv hx hb dX2_agreement_114 (lN_ne0 hw0 (by omega)) ?_
    rw [pk_lDiv (by omega) hw0 (by omega)]
    refine lv_l2i hx hb dX2_agreement_115 rfl ?_
    rw [lN_i]
    refine lv_goto (tgt := 120) hx hb dX2_agreement_116 (by decide) ?_
    refine W.widen (k := 2) (n := 12) (Nat.le_of_ble_eq_true rfl) (Nat.le_of_ble_eq_true rfl) ?_
    refine vx_ret ?_
    exact W.iret (v := nI (1000 * (s2 (fun c k => w d (Rw c k d - f d)) kp n) / (n * kp * (sMx (fun q => w d (q - f d)) (f d) (la d + 1 - f d))))) hx hb hr (fun t ht hW => ⟨⟨_, (I, L), rfl, ⟨hp0, hs, rfl, d, hd, rfl, by unfold agV; rw [if_neg hq]⟩, by show tR _ _ _ _ _ t.heap; rw [ht]; exact hR⟩, hS.F ht⟩) hS.2.2 dX2_agreement_120
set_option maxHeartbeats 4000000 in
set_option maxRecDepth 100000 in
theorem lqX2_spans {p : Program} {e : Env} {R : Room} {s : State} {m : MethodId} {args : Array Value} {below : List Frame} {meth : Method} {c : Code} {cells slots : Nat} {Q : State → Prop} (S0 : CallFix p m c cX2_spans 6 s args wX2_spans RX2) (hE : eV D cs base sa s) (hRf : 2 ≤ R.frames) (hRl : 80 ≤ R.locals) (hRc : cells ≤ R.cells) (hRs : slots ≤ R.slots) (I : tI) (L : tL) {nd no : Nat} {f la : Nat → Nat} {ph : Nat → Int32} {w : Nat → Nat → Nat} {ea lt le mo : Nat → Nat} {Y : Nat → Nat → Nat} {st : Nat → Int64} {Rw : Nat → Nat → Nat → Nat} {kp sp : Nat} (bu ev ch : Nat) (p0 p1 : Int32) (hSi : cSi I nd no f la ph w ea lt le mo) (hwf : wfS nd no f la w ea lt le mo) (hcf : cCf I n bu ev) (hCo : cCo I L n nd 20 Y st Rw kp sp) (hk60 : kp ≤ 60) (hRb : ∀ c, c < n → ∀ k, k < kp → ∀ d, d < nd → f d ≤ Rw c k d ∧ Rw c k d ≤ la d) (hch : ch < n)
    (kx : ∀ (H : Heap) (locs : List Loc) (ls : Array Slot), tR D vwCl base ad (tC (wP n ad cs) I L) H → va_S (fun q => base ≤ q) s.heap H locs → lv_has ls 6 [(5, .int (nI kp)), (3, .int (nI (s2 (fun c k => if spV ph p0 (Rw c k) nd = p1 then 1 else 0) kp ch + sS ((fun c k => if spV ph p0 (Rw c k) nd = p1 then 1 else 0) ch) kp))), (4, .int (nI ch)), (0, .ref (ad 0)), (1, .int p0), (2, .int p1)] → W p l e R s m args below meth c H locs cells slots Q (F0 m 63 ls [])) :
    ∀ (k j : Nat) (H : Heap) (locs : List Loc) (ls : Array Slot), j ≤ kp → kp + 1 ≤ j + k → tR D vwCl base ad (tC (wP n ad cs) I L) H → va_S (fun q => base ≤ q) s.heap H locs → lv_has ls 6 [(5, .int (nI j)), (3, .int (nI (s2 (fun c k => if spV ph p0 (Rw c k) nd = p1 then 1 else 0) kp ch + sS ((fun c k => if spV ph p0 (Rw c k) nd = p1 then 1 else 0) ch) j))), (4, .int (nI ch)), (0, .ref (ad 0)), (1, .int p0), (2, .int p1)] → W p l e R s m args below meth c H locs cells slots Q (F0 m 29 ls []) := by
  obtain ⟨hx, hb, hml, hown, hts⟩ := S0
  have hK := hE.K
  obtain ⟨h_nd, h_no, h_d, h_o⟩ := id hwf
  obtain ⟨h_c1, h_c2, h_c3, h_n1, h_n4, h_bu, h_e1, h_e2⟩ := id hcf
  have hn4 : n ≤ 4 := h_n4
  intro k
  induction k with
  | zero => intro j  H locs ls h1 h2; exact absurd h2 (by omega)
  | succ k ih =>
    intro j  H locs ls hj hk  hR hS hl
    refine lv_iload hx hb dX2_spans_29 (lv_at hl 0 rfl) ?_
    refine lv_aload_n hx hb dX2_spans_31 rfl (lv_at hl 3 rfl) ?_
    refine tb_get hx hb hts (fun w h => List.mem_cons_of_mem _ (inX2 w h)) hown hK hR 0 rfl rfl 3 (by decide) (hts _ (List.mem_cons_of_mem _ k104)) (fun _ h => h) rfl dX2_spans_32 ?_
    refine tb_getN hx hb hts (fun w h => List.mem_cons_of_mem _ (inX0 w h)) hown hK hR 20 rfl rfl 3 (by decide) (va_Nw.use rfl (hE.2.1 (117, "SeedChains$Course", "kept", "I") (by decide))) (fun _ h => h) rfl dX2_spans_35 ?_
    rw [show I 20 3 = nI kp from hCo.1]
    refine lv_icmp_ge (tgt := 63) hx hb dX2_spans_38 (by decide) (fun c1 => ?_) (fun c1 => ?_)
    · have hjN : j = kp := by have e9 := (nI_leI (by omega) (by omega)).mp c1; omega
      subst hjN
      exact kx  H locs ls  hR hS (lv_sub hl [0, 1, 2, 3, 4, 5] rfl)
    · have hjN : j < kp := by
        rcases Nat.lt_or_ge j kp with q | q
        · exact q
        · exact absurd (nI_le (by omega) (by omega)) c1
      refine lv_aload_n hx hb dX2_spans_41 rfl (lv_at hl 3 rfl) ?_
      refine lv_iload_n hx hb dX2_spans_42 rfl (lv_at hl 4 rfl) ?_
      refine lv_iload hx hb dX2_spans_43 (lv_at hl 2 rfl) ?_
      refine lv_iload hx hb dX2_spans_45 (lv_at hl 0 rfl) ?_
      refine kc_i (va_runV (As := [.int p0, .int (nI ch), .int (nI j)]) (rest := []) ⟨hx, hb, hml, hown, hts⟩ (mX2_spanOf I L p0 ch j hSi hwf hCo h_n4 hch hjN hk60 (fun d hd => by have := hRb ch hch j hjN d hd; have := (h_d d hd).2.1; omega)) (cwV 3 hts (kw_V k440 k442 ks23 k1 k443) rfl rfl rfl (by decide +kernel) ⟨Nat.le_trans (Nat.le_of_ble_eq_true rfl) hRf, Nat.le_trans (Nat.le_of_ble_eq_true rfl) hRl⟩) (kB_preV hE hR hS 0 rfl rfl [.int p0, .int (nI ch), .int (nI j)]) rfl rfl hl.1 rfl (lv_room (Nat.le_of_ble_eq_true rfl)) dX2_spans_47 ⟨hRc, hRs⟩) hS (fun r u H locs hw hR hS => ?_)
      obtain ⟨rfl, rfl⟩ := hw
      have hR : tR D vwCl base ad (tC (wP n ad cs) I L) H := hR
      refine lv_iload_n hx hb dX2_spans_50 rfl (lv_at hl 5 rfl) ?_
      refine lv_icmp_ne (tgt := 57) hx hb dX2_spans_51 (by decide) (fun c2 => ?_) (fun c2 => ?_)
      · rw [show sS ((fun c k => if spV ph p0 (Rw c k) nd = p1 then 1 else 0) ch) j = sS ((fun c k => if spV ph p0 (Rw c k) nd = p1 then 1 else 0) ch) (j + 1) from by show _ = _ + (if _ then _ else _); rw [if_neg c2]; rfl] at hl
        refine lv_iinc (v := nI (j + 1)) (lv' := [(5, .int (nI (j + 1))), (3, .int (nI (s2 (fun c k => if spV ph p0 (Rw c k) nd = p1 then 1 else 0) kp ch + sS ((fun c k => if spV ph p0 (Rw c k) nd = p1 then 1 else 0) ch) (j + 1)))), (4, .int (nI ch)), (0, .ref (ad 0)), (1, .int p0), (2, .int p1)]) hx hb dX2_spans_57 hl (k := 0) rfl (nI_1 _) (by decide) rfl (fun ls hl => ?_)
        refine lv_goto (tgt := 29) hx hb dX2_spans_60 (by decide) ?_
        exact ih (j + 1)  H locs ls (by omega) (by omega)  hR hS (lv_sub hl [0, 1, 2, 3, 4, 5] rfl)
      · have hq : spV ph p0 (Rw ch j) nd = p1 := c2
        refine lv_iinc (v := nI (s2 (fun c k => if spV ph p0 (Rw c k) nd = p1 then 1 else 0) kp ch + sS ((fun c k => if spV ph p0 (Rw c k) nd = p1 then 1 else 0) ch) j + 1)) (lv' := [(3, .int (nI (s2 (fun c k => if spV ph p0 (Rw c k) nd = p1 then 1 else 0) kp ch + sS ((fun c k => if spV ph p0 (Rw c k) nd = p1 then 1 else 0) ch) j + 1))), (5, .int (nI j)), (4, .int (nI ch)), (0, .ref (ad 0)), (1, .int p0), (2, .int p1)]) hx hb dX2_spans_54 hl (k := 1) rfl (nI_1 _) (by decide) rfl (fun ls hl => ?_)
        rw [show s2 (fun c k => if spV ph p0 (Rw c k) nd = p1 then 1 else 0) kp ch + sS ((fun c k => if spV ph p0 (Rw c k) nd = p1 then 1 else 0) ch) j + 1 = s2 (fun c k => if spV ph p0 (Rw c k) nd = p1 then 1 else 0) kp ch + sS ((fun c k => if spV ph p0 (Rw c k) nd = p1 then 1 else 0) ch) (j + 1) from by show _ = _ + (_ + (if _ then _ else _)); rw [if_pos hq]; rfl] at hl
        refine lv_iinc (v := nI (j + 1)) (lv' := [(5, .int (nI (j + 1))), (3, .int (nI (s2 (fun c k => if spV ph p0 (Rw c k) nd = p1 then 1 else 0) kp ch + sS ((fun c k => if spV ph p0 (Rw c k) nd = p1 then 1 else 0) ch) (j + 1)))), (4, .int (nI ch)), (0, .ref (ad 0)), (1, .int p0), (2, .int p1)]) hx hb dX2_spans_57 hl (k := 1) rfl (nI_1 _) (by decide) rfl (fun ls hl => ?_)
        refine lv_goto (tgt := 29) hx hb dX2_spans_60 (by decide) ?_
        exact ih (j + 1)  H locs ls (by omega) (by omega)  hR hS (lv_sub hl [0, 1, 2, 3, 4, 5] rfl)
set_option maxHeartbeats 4000000 in
set_option maxRecDepth 100000 in
theorem lpX2_spans {p : Program} {e : Env} {R : Room} {s : State} {m : MethodId} {args : Array Value} {below : List Frame} {meth : Method} {c : Code} {cells slots : Nat} {Q : State → Prop} (S0 : CallFix p m c cX2_spans 6 s args wX2_spans RX2) (hE : eV D cs base sa s) (hRf : 2 ≤ R.frames) (hRl : 80 ≤ R.locals) (hRc : cells ≤ R.cells) (hRs : slots ≤ R.slots) (I : tI) (L : tL) {nd no : Nat} {f la : Nat → Nat} {ph : Nat → Int32} {w : Nat → Nat → Nat} {ea lt le mo : Nat → Nat} {Y : Nat → Nat → Nat} {st : Nat → Int64} {Rw : Nat → Nat → Nat → Nat} {kp sp : Nat} (bu ev : Nat) (p0 p1 : Int32) (hSi : cSi I nd no f la ph w ea lt le mo) (hwf : wfS nd no f la w ea lt le mo) (hcf : cCf I n bu ev) (hCo : cCo I L n nd 20 Y st Rw kp sp) (hk60 : kp ≤ 60) (hRb : ∀ c, c < n → ∀ k, k < kp → ∀ d, d < nd → f d ≤ Rw c k d ∧ Rw c k d ≤ la d)
    (kx : ∀ (H : Heap) (locs : List Loc) (ls : Array Slot), tR D vwCl base ad (tC (wP n ad cs) I L) H → va_S (fun q => base ≤ q) s.heap H locs → lv_has ls 6 [(4, .int (nI n)), (3, .int (nI (s2 (fun c k => if spV ph p0 (Rw c k) nd = p1 then 1 else 0) kp n))), (0, .ref (ad 0)), (1, .int p0), (2, .int p1)] → W p l e R s m args below meth c H locs cells slots Q (F0 m 69 ls [])) :
    ∀ (k j : Nat) (H : Heap) (locs : List Loc) (ls : Array Slot), j ≤ n → n + 1 ≤ j + k → tR D vwCl base ad (tC (wP n ad cs) I L) H → va_S (fun q => base ≤ q) s.heap H locs → lv_has ls 6 [(4, .int (nI j)), (3, .int (nI (s2 (fun c k => if spV ph p0 (Rw c k) nd = p1 then 1 else 0) kp j))), (0, .ref (ad 0)), (1, .int p0), (2, .int p1)] → W p l e R s m args below meth c H locs cells slots Q (F0 m 17 ls []) := by
  obtain ⟨hx, hb, hml, hown, hts⟩ := S0
  have hK := hE.K
  obtain ⟨h_nd, h_no, h_d, h_o⟩ := id hwf
  obtain ⟨h_c1, h_c2, h_c3, h_n1, h_n4, h_bu, h_e1, h_e2⟩ := id hcf
  have hn4 : n ≤ 4 := h_n4
  intro k
  induction k with
  | zero => intro j  H locs ls h1 h2; exact absurd h2 (by omega)
  | succ k ih =>
    intro j  H locs ls hj hk  hR hS hl
    refine lv_iload hx hb dX2_spans_17 (lv_at hl 0 rfl) ?_
    refine lv_aload_n hx hb dX2_spans_19 rfl (lv_at hl 2 rfl) ?_
    refine tb_get hx hb hts (fun w h => List.mem_cons_of_mem _ (inX2 w h)) hown hK hR 0 rfl rfl 1 (by decide) (hts _ (List.mem_cons_of_mem _ k102)) (fun _ h => h) rfl dX2_spans_20 ?_
    rw [show I 0 1 = nI n from hcf.1]
    refine lv_icmp_ge (tgt := 69) hx hb dX2_spans_23 (by decide) (fun c1 => ?_) (fun c1 => ?_)
    · have hjN : j = n := by have e9 := (nI_leI (by omega) (by omega)).mp c1; omega
      subst hjN
      exact kx  H locs ls  hR hS (lv_sub hl [0, 1, 2, 3, 4] rfl)
    · have hjN : j < n := by
        rcases Nat.lt_or_ge j n with q | q
        · exact q
        · exact absurd (nI_le (by omega) (by omega)) c1
      refine lv_iconst (v := 0) hx hb dX2_spans_26 (by decide) ?_
      rw [show (0 : Int32) = nI 0 from nI_0.symm]
      refine lv_istore (lv' := [(5, .int (nI 0)), (4, .int (nI j)), (3, .int (nI (s2 (fun c k => if spV ph p0 (Rw c k) nd = p1 then 1 else 0) kp j))), (0, .ref (ad 0)), (1, .int p0), (2, .int p1)]) hx hb dX2_spans_27 hl (by decide) rfl (fun ls hl => ?_)
      rw [show s2 (fun c k => if spV ph p0 (Rw c k) nd = p1 then 1 else 0) kp j = s2 (fun c k => if spV ph p0 (Rw c k) nd = p1 then 1 else 0) kp j + sS ((fun c k => if spV ph p0 (Rw c k) nd = p1 then 1 else 0) j) 0 from rfl] at hl
      refine lqX2_spans ⟨hx, hb, hml, hown, hts⟩ hE hRf hRl hRc hRs I L bu ev j p0 p1 hSi hwf hcf hCo hk60 hRb hjN (fun H locs ls hR hS hl => ?_) (kp + 1) 0 _ _ ls (Nat.zero_le _) (by omega) hR hS (lv_sub hl [0, 2, 1, 3, 4, 5] rfl)
      have hl : lv_has ls 6 [(5, .int (nI kp)), (3, .int (nI (s2 (fun c k => if spV ph p0 (Rw c k) nd = p1 then 1 else 0) kp (j + 1)))), (4, .int (nI j)), (0, .ref (ad 0)), (1, .int p0), (2, .int p1)] := hl
      refine lv_iinc (v := nI (j + 1)) (lv' := [(4, .int (nI (j + 1))), (5, .int (nI kp)), (3, .int (nI (s2 (fun c k => if spV ph p0 (Rw c k) nd = p1 then 1 else 0) kp (j + 1)))), (0, .ref (ad 0)), (1, .int p0), (2, .int p1)]) hx hb dX2_spans_63 hl (k := 2) rfl (nI_1 _) (by decide) rfl (fun ls hl => ?_)
      refine lv_goto (tgt := 17) hx hb dX2_spans_66 (by decide) ?_
      exact ih (j + 1)  H locs ls (by omega) (by omega)  hR hS (lv_sub hl [0, 2, 3, 4, 5] rfl)
set_option maxHeartbeats 4000000 in
set_option maxRecDepth 100000 in
theorem mX2_spans (hl0 : l.stackTraces = false) (I : tI) (L : tL) {nd no : Nat} {f la : Nat → Nat} {ph : Nat → Int32} {w : Nat → Nat → Nat} {ea lt le mo : Nat → Nat} {Y : Nat → Nat → Nat} {st : Nat → Int64} {Rw : Nat → Nat → Nat → Nat} {kp sp : Nat} (bu ev B : Nat) (p0 p1 : Int32) (hSi : cSi I nd no f la ph w ea lt le mo) (hwf : wfS nd no f la w ea lt le mo) (hcf : cCf I n bu ev) (sd : Nat) (hsd : I 0 6 = nI sd) (hs1 : sd ≤ 1) (hC : sd = 1 → cCo I L n nd 20 Y st Rw kp sp ∧ wCo n nd no f la ea lt le mo B Y Rw kp sp) : vx_Met l yX2_spans wX2_spans ({ frames := 8, cells := 3, slots := 18, locals := 140 }) (va_Pc [.ref (ad 0), .int p0, .int p1] (kB D cs base sa n ad I L)) (va_Qi (fun (r : Int32) (u : tI × tL) => inN 4 p0 ∧ inN 256 p1 ∧ sd = 1 ∧ u = (I, L) ∧ r = nI (s2 (fun c k => if spV ph p0 (Rw c k) nd = p1 then 1 else 0) kp n)) (kA D cs base n ad) (fun q => base ≤ q)) (kX D cs base n ad I L (fun E => (E = eN ∧ ¬ inN 4 p0) ∨ (E = eI ∧ inN 4 p0 ∧ ¬ inN 256 p1) ∨ (E = eS ∧ inN 4 p0 ∧ inN 256 p1 ∧ ¬ sd = 1))) 3 18 (fun q => base ≤ q) := by
  refine vx_ofW (cc := cX2_spans) (maxL := 6) (ret := (some .int)) (by decide) rfl ?_
  intro p e s m args below meth c s₁ Bd hml htab hv
  obtain ⟨rfl, hE, hR⟩ := hv
  have hx := Bd.exec
  have hb := Bd.bytes
  have hr := Bd.returns
  have hts := atoms_spec (ws := wX2_spans) Bd.pre
  have hown : s.vm.findClass RX2 = some m.cls := findClass_of_methodNamed Bd.named
  have hlocks := Bd.notSynchronized
  have hK := hE.K
  have hS : va_S (fun q => base ≤ q) s.heap s.heap [] := va_S.rf
  have hR : tR D vwCl base ad (tC (wP n ad cs) I L) s.heap := hR
  have hl := lv_entry ([.ref (ad 0), .int p0, .int p1]) (n := 6) (Nat.le_of_ble_eq_true rfl)
  rw [lg_entry_eq]
  generalize (lg_sl ([.ref (ad 0), .int p0, .int p1]) ++ List.replicate (6 - (lg_sl ([.ref (ad 0), .int p0, .int p1])).length) Slot.unset).toArray = ls at hl ⊢
  have hl : lv_has ls 6 [(0, .ref (ad 0)), (1, .int p0), (2, .int p1)] := hl
  obtain ⟨h_nd, h_no, h_d, h_o⟩ := id hwf
  obtain ⟨h_c1, h_c2, h_c3, h_n1, h_n4, h_bu, h_e1, h_e2⟩ := id hcf
  have hn4 : n ≤ 4 := h_n4
  refine lv_iload_n hx hb dX2_spans_0 rfl (lv_at hl 1 rfl) ?_
  refine kt_v (vx_runS (As := [.int p0]) (rest := []) ⟨hx, hb, hml, hown, hts⟩ (mX2_needPhase hl0 I L p0) (va_cwS 1 hts (kw_S k316 k317 k1 k318) rfl rfl rfl (by decide +kernel) ⟨Nat.le_of_ble_eq_true rfl, Nat.le_of_ble_eq_true rfl⟩) (kB_pre hE hR hS [.int p0]) rfl rfl hl.1 rfl (lv_room (Nat.le_of_ble_eq_true rfl)) dX2_spans_1 ⟨Nat.le_of_ble_eq_true rfl, Nat.le_of_ble_eq_true rfl⟩) hS htab hlocks (fun E h => Or.inl h) (Nat.le_of_ble_eq_true rfl) (Nat.le_of_ble_eq_true rfl) (fun u H locs hw hR hS => ?_)
  obtain ⟨hp0, rfl⟩ := hw
  have hR : tR D vwCl base ad (tC (wP n ad cs) I L) H := hR
  refine lv_iload_n hx hb dX2_spans_4 rfl (lv_at hl 2 rfl) ?_
  refine kt_v (vx_runS (As := [.int p1]) (rest := []) ⟨hx, hb, hml, hown, hts⟩ (mX2_needYears hl0 I L p1) (va_cwS 1 hts (kw_S k158 k159 k1 k160) rfl rfl rfl (by decide +kernel) ⟨Nat.le_of_ble_eq_true rfl, Nat.le_of_ble_eq_true rfl⟩) (kB_pre hE hR hS [.int p1]) rfl rfl hl.1 rfl (lv_room (Nat.le_of_ble_eq_true rfl)) dX2_spans_5 ⟨Nat.le_of_ble_eq_true rfl, Nat.le_of_ble_eq_true rfl⟩) hS htab hlocks (fun E h => Or.inr (Or.inl ⟨h.1, hp0, h.2⟩)) (Nat.le_of_ble_eq_true rfl) (Nat.le_of_ble_eq_true rfl) (fun u H locs hw hR hS => ?_)
  obtain ⟨hp1, rfl⟩ := hw
  have hR : tR D vwCl base ad (tC (wP n ad cs) I L) H := hR
  refine lv_aload_n hx hb dX2_spans_8 rfl (lv_at hl 0 rfl) ?_
  refine kt_v (vx_runV (As := []) (rest := []) ⟨hx, hb, hml, hown, hts⟩ (mX2_needStarted hl0 I L sd hsd hs1) (cwV 0 hts (kw_V k344 k346 ks11 k1 k347) rfl rfl rfl (by decide +kernel) ⟨Nat.le_of_ble_eq_true rfl, Nat.le_of_ble_eq_true rfl⟩) (kB_preV hE hR hS 0 rfl rfl []) rfl rfl hl.1 rfl (lv_room (Nat.le_of_ble_eq_true rfl)) dX2_spans_9 ⟨Nat.le_of_ble_eq_true rfl, Nat.le_of_ble_eq_true rfl⟩) hS htab hlocks (fun E h => Or.inr (Or.inr ⟨h.1, hp0, hp1, h.2⟩)) (Nat.le_of_ble_eq_true rfl) (Nat.le_of_ble_eq_true rfl) (fun u H locs hw hR hS => ?_)
  obtain ⟨hs, rfl⟩ := hw
  have hR : tR D vwCl base ad (tC (wP n ad cs) I L) H := hR
  obtain ⟨hCo, hwY, hk60, hspB, hRb⟩ := hC hs
  refine lv_iconst (v := 0) hx hb dX2_spans_12 (by decide) ?_
  rw [show (0 : Int32) = nI (s2 (fun c k => if spV ph p0 (Rw c k) nd = p1 then 1 else 0) kp 0) from rfl]
  refine lv_istore_n (lv' := [(3, .int (nI (s2 (fun c k => if spV ph p0 (Rw c k) nd = p1 then 1 else 0) kp 0))), (0, .ref (ad 0)), (1, .int p0), (2, .int p1)]) hx hb dX2_spans_13 rfl hl (by decide) rfl (fun ls hl => ?_)
  refine lv_iconst (v := 0) hx hb dX2_spans_14 (by decide) ?_
  rw [show (0 : Int32) = nI 0 from nI_0.symm]
  refine lv_istore (lv' := [(4, .int (nI 0)), (3, .int (nI (s2 (fun c k => if spV ph p0 (Rw c k) nd = p1 then 1 else 0) kp 0))), (0, .ref (ad 0)), (1, .int p0), (2, .int p1)]) hx hb dX2_spans_15 hl (by decide) rfl (fun ls hl => ?_)
  refine lpX2_spans ⟨hx, hb, hml, hown, hts⟩ hE (Nat.le_of_ble_eq_true rfl) (Nat.le_of_ble_eq_true rfl) (Nat.le_of_ble_eq_true rfl) (Nat.le_of_ble_eq_true rfl) I L bu ev p0 p1 hSi hwf hcf hCo hk60 hRb (fun H locs ls hR hS hl => ?_) (n + 1) 0 _ _ ls (Nat.zero_le _) (by omega) hR hS (lv_sub hl [0, 1, 2, 3, 4] rfl)
  refine lv_iload_n hx hb dX2_spans_69 rfl (lv_at hl 1 rfl) ?_
  refine W.widen (k := 3) (n := 18) (Nat.le_of_ble_eq_true rfl) (Nat.le_of_ble_eq_true rfl) ?_
  refine vx_ret ?_
  exact W.iret (v := nI (s2 (fun c k => if spV ph p0 (Rw c k) nd = p1 then 1 else 0) kp n)) hx hb hr (fun t ht hW => ⟨⟨_, (I, L), rfl, ⟨hp0, hp1, hs, rfl, rfl⟩, by show tR _ _ _ _ _ t.heap; rw [ht]; exact hR⟩, hS.F ht⟩) hS.2.2 dX2_spans_70
set_option maxHeartbeats 4000000 in
set_option maxRecDepth 100000 in
theorem mX2_save (hl0 : l.stackTraces = false) (I : tI) (L : tL) {nd no : Nat} {f la : Nat → Nat} {ph : Nat → Int32} {w : Nat → Nat → Nat} {ea lt le mo : Nat → Nat} {Y : Nat → Nat → Nat} {st : Nat → Int64} {Rw : Nat → Nat → Nat → Nat} {kp sp : Nat} (bu ev B sv : Nat) (hcf : cCf I n bu ev) (sd : Nat) (hsd : I 0 6 = nI sd) (hs1 : sd ≤ 1) (hC : sd = 1 → cCo I L n nd 20 Y st Rw kp sp ∧ wCo n nd no f la ea lt le mo B Y Rw kp sp) (hsv : I 0 5 = nI sv) (hv4 : sv ≤ 4) : vx_Met l yX2_save wX2_save ({ frames := 8, cells := 2, slots := 12, locals := 140 }) (va_Pc [.ref (ad 0)] (kB D cs base sa n ad I L)) (va_Qi (fun (r : Int32) (u : tI × tL) => sd = 1 ∧ sv < 4 ∧ r = nI sv ∧ u = (va_up (gTake I (40 + 20 * sv) 20 kp n) 0 (upd (I 0) 5 (nI (sv + 1))), gTl L (40 + 20 * sv) 20 n)) (kA D cs base n ad) (fun q => base ≤ q)) (kX D cs base n ad I L (fun E => E = eS ∧ ¬ (sd = 1 ∧ sv < 4))) 2 12 (fun q => base ≤ q) := by
  refine vx_ofW (cc := cX2_save) (maxL := 1) (ret := (some .int)) (by decide) rfl ?_
  intro p e s m args below meth c s₁ Bd hml htab hv
  obtain ⟨rfl, hE, hR⟩ := hv
  have hx := Bd.exec
  have hb := Bd.bytes
  have hr := Bd.returns
  have hts := atoms_spec (ws := wX2_save) Bd.pre
  have hown : s.vm.findClass RX2 = some m.cls := findClass_of_methodNamed Bd.named
  have hlocks := Bd.notSynchronized
  have hK := hE.K
  have hS : va_S (fun q => base ≤ q) s.heap s.heap [] := va_S.rf
  have hR : tR D vwCl base ad (tC (wP n ad cs) I L) s.heap := hR
  have hl := lv_entry ([.ref (ad 0)]) (n := 1) (Nat.le_of_ble_eq_true rfl)
  rw [lg_entry_eq]
  generalize (lg_sl ([.ref (ad 0)]) ++ List.replicate (1 - (lg_sl ([.ref (ad 0)])).length) Slot.unset).toArray = ls at hl ⊢
  have hl : lv_has ls 1 [(0, .ref (ad 0))] := hl
  obtain ⟨h_c1, h_c2, h_c3, h_n1, h_n4, h_bu, h_e1, h_e2⟩ := id hcf
  refine lv_aload_n hx hb dX2_save_0 rfl (lv_at hl 0 rfl) ?_
  refine kt_v (vx_runV (As := []) (rest := []) ⟨hx, hb, hml, hown, hts⟩ (mX2_needStarted hl0 I L sd hsd hs1) (cwV 0 hts (kw_V k344 k346 ks11 k1 k347) rfl rfl rfl (by decide +kernel) ⟨Nat.le_of_ble_eq_true rfl, Nat.le_of_ble_eq_true rfl⟩) (kB_preV hE hR hS 0 rfl rfl []) rfl rfl hl.1 rfl (lv_room (Nat.le_of_ble_eq_true rfl)) dX2_save_1 ⟨Nat.le_of_ble_eq_true rfl, Nat.le_of_ble_eq_true rfl⟩) hS htab hlocks (fun E h => ⟨h.1, fun z => h.2 z.1⟩) (Nat.le_of_ble_eq_true rfl) (Nat.le_of_ble_eq_true rfl) (fun u H locs hw hR hS => ?_)
  obtain ⟨hs, rfl⟩ := hw
  have hR : tR D vwCl base ad (tC (wP n ad cs) I L) H := hR
  obtain ⟨hCo, hwY, hk60, hspB, hRb⟩ := hC hs
  refine lv_aload_n hx hb dX2_save_4 rfl (lv_at hl 0 rfl) ?_
  refine tb_get hx hb hts (fun w h => List.mem_cons_of_mem _ (inX2 w h)) hown hK hR 0 rfl rfl 5 (by decide) (hts _ (List.mem_cons_of_mem _ k106)) (fun _ h => h) rfl dX2_save_5 ?_
  rw [show I 0 5 = nI sv from hsv]
  refine lv_iconst (v := 4) hx hb dX2_save_8 (by decide) ?_
  refine lv_icmp_lt (tgt := 22) hx hb dX2_save_9 (by decide) (fun c1 => ?_) (fun c1 => ?_)
  · have hlt : sv < 4 := (nI_ltI (by omega) (by decide)).mp (show nI sv < nI 4 from c1)
    refine lv_aload_n hx hb dX2_save_22 rfl (lv_at hl 0 rfl) ?_
    refine tb_get hx hb hts (fun w h => List.mem_cons_of_mem _ (inX2 w h)) hown hK hR 0 rfl rfl 4 (by decide) (hts _ (List.mem_cons_of_mem _ k105)) (fun _ h => h) rfl dX2_save_23 ?_
    refine lv_aload_n hx hb dX2_save_26 rfl (lv_at hl 0 rfl) ?_
    refine tb_get hx hb hts (fun w h => List.mem_cons_of_mem _ (inX2 w h)) hown hK hR 0 rfl rfl 5 (by decide) (hts _ (List.mem_cons_of_mem _ k106)) (fun _ h => h) rfl dX2_save_27 ?_
    rw [show I 0 5 = nI sv from hsv]
    refine tb_oald hx hb hK hR 18 3 rfl rfl sv rfl (by omega) (by decide) (if_pos (by omega)) dX2_save_30 ?_
    refine lv_aload_n hx hb dX2_save_31 rfl (lv_at hl 0 rfl) ?_
    refine tb_get hx hb hts (fun w h => List.mem_cons_of_mem _ (inX2 w h)) hown hK hR 0 rfl rfl 3 (by decide) (hts _ (List.mem_cons_of_mem _ k104)) (fun _ h => h) rfl dX2_save_32 ?_
    refine kc_v (va_runVN (As := [.ref (ad 20)]) (rest := []) ⟨hx, hb, hml, hown, hts⟩ (mX0_take I L (40 + 20 * sv) 20 kp (isB_sv hlt) (Or.inl rfl) (by omega) h_n4 hCo.1 hk60) ⟨va_cnB 1 hts (kw_N k455) rfl rfl rfl (hE.2.2.1 (176, yX0_take) (by decide)) (hts _ (List.mem_cons_of_mem _ k4)) (by decide +kernel) ⟨Nat.le_of_ble_eq_true rfl, Nat.le_of_ble_eq_true rfl⟩, hts _ (List.mem_cons_of_mem _ k454), hts _ (List.mem_cons_of_mem _ ks24)⟩ (kB_preV hE hR hS (40 + 20 * sv) (wP_b0 (isB_sv (by omega)) _ _) rfl [.ref (ad 20)]) rfl rfl hl.1 rfl (lv_room (Nat.le_of_ble_eq_true rfl)) dX2_save_35 ⟨Nat.le_of_ble_eq_true rfl, Nat.le_of_ble_eq_true rfl⟩) hS (fun u H locs hw hR hS => ?_)
    subst hw
    have hR : tR D vwCl base ad (tC (wP n ad cs) (gTake I (40 + 20 * sv) 20 kp n) (gTl L (40 + 20 * sv) 20 n)) H := hR
    have e0 : (gTake I (40 + 20 * sv) 20 kp n) 0 = I 0 := by unfold gTake; rw [va_up_ne _ _ (by omega), gTk_n I (by omega) (by omega)]
    refine lv_aload_n hx hb dX2_save_38 rfl (lv_at hl 0 rfl) ?_
    refine lv_dup hx hb dX2_save_39 rfl ?_
    refine tb_get hx hb hts (fun w h => List.mem_cons_of_mem _ (inX2 w h)) hown hK hR 0 rfl rfl 5 (by decide) (hts _ (List.mem_cons_of_mem _ k106)) (fun _ h => h) rfl dX2_save_40 ?_
    rw [show (gTake I (40 + 20 * sv) 20 kp n) 0 5 = nI sv from (by rw [e0]; exact hsv)]
    refine lv_iconst (v := 1) hx hb dX2_save_43 (by decide) ?_
    refine lv_iadd hx hb dX2_save_44 ?_
    rw [nI_1]
    refine tp_put hx hb hts (fun w h => List.mem_cons_of_mem _ (inX2 w h)) tyX2 tyX2_ok nmX2 hown hK hR hS 0 (fun r => [.int (r 0), .int (r 1), .ref (ad 1), .ref (ad 20), .ref (ad 18), .int (r 5), .int (r 6), .int (r 7), .int (r 8)]) (fun _ _ => rfl) rfl 5 (by decide) (hts _ (List.mem_cons_of_mem _ k106)) (fun _ h => h) rfl (ty := .int) rfl rfl rfl (by simp) (fun _ => rfl) dX2_save_45 (fun H locs hR hS => ?_)
    rw [e0] at hR
    refine lv_aload_n hx hb dX2_save_48 rfl (lv_at hl 0 rfl) ?_
    refine tb_get hx hb hts (fun w h => List.mem_cons_of_mem _ (inX2 w h)) hown hK hR 0 rfl rfl 5 (by decide) (hts _ (List.mem_cons_of_mem _ k106)) (fun _ h => h) rfl dX2_save_49 ?_
    rw [show (va_up (gTake I (40 + 20 * sv) 20 kp n) 0 (upd (I 0) 5 (nI (sv + 1)))) 0 5 = nI (sv + 1) from (by rw [va_up_self]; exact if_pos rfl)]
    refine lv_iconst (v := 1) hx hb dX2_save_52 (by decide) ?_
    refine lv_isub hx hb dX2_save_53 ?_
    rw [nI_pred]
    refine W.widen (k := 2) (n := 12) (Nat.le_of_ble_eq_true rfl) (Nat.le_of_ble_eq_true rfl) ?_
    refine vx_ret ?_
    exact W.iret (v := nI sv) hx hb hr (fun t ht hW => ⟨⟨_, (va_up (gTake I (40 + 20 * sv) 20 kp n) 0 (upd (I 0) 5 (nI (sv + 1))), gTl L (40 + 20 * sv) 20 n), rfl, ⟨hs, hlt, rfl, rfl⟩, by show tR _ _ _ _ _ t.heap; rw [ht]; exact hR⟩, hS.F ht⟩) hS.2.2 dX2_save_54
  · exact th_S hx hb hl0 hown hts hE hR hS (hl.1.trans hml.symm) 174 "there are four saved states" (by decide) dX2_save_16 dX2_save_15 dX2_save_21 htab hlocks (Nat.le_of_ble_eq_true rfl) (Nat.le_of_ble_eq_true rfl) (Nat.le_of_ble_eq_true rfl) (Nat.le_of_ble_eq_true rfl) (Nat.le_of_ble_eq_true rfl) (Nat.le_of_ble_eq_true rfl) (⟨rfl, fun z => c1 (show nI sv < nI 4 from nI_lt z.2 (by decide))⟩) dX2_save_12 dX2_save_18
set_option maxHeartbeats 4000000 in
set_option maxRecDepth 100000 in
theorem mX2_back (hl0 : l.stackTraces = false) (I : tI) (L : tL) (bu ev sv : Nat) (ks : Nat → Nat) (p0 : Int32) (hcf : cCf I n bu ev) (hsv : I 0 5 = nI sv) (hv4 : sv ≤ 4) (hks : ∀ i, i < sv → I (40 + 20 * i) 3 = nI (ks i) ∧ ks i ≤ 60) : vx_Met l yX2_back wX2_back ({ frames := 8, cells := 1, slots := 6, locals := 140 }) (va_Pc [.ref (ad 0), .int p0] (kB D cs base sa n ad I L)) (va_Qi (fun (r : Int32) (u : tI × tL) => inN sv p0 ∧ ∃ i9, i9 < sv ∧ p0 = nI i9 ∧ r = nI (ks i9) ∧ u = (va_up (gTake I 20 (40 + 20 * i9) (ks i9) n) 0 (upd (I 0) 6 1), gTl L 20 (40 + 20 * i9) n)) (kA D cs base n ad) (fun q => base ≤ q)) (kX D cs base n ad I L (fun E => E = eN ∧ ¬ inN sv p0)) 1 6 (fun q => base ≤ q) := by
  refine vx_ofW (cc := cX2_back) (maxL := 2) (ret := (some .int)) (by decide) rfl ?_
  intro p e s m args below meth c s₁ Bd hml htab hv
  obtain ⟨rfl, hE, hR⟩ := hv
  have hx := Bd.exec
  have hb := Bd.bytes
  have hr := Bd.returns
  have hts := atoms_spec (ws := wX2_back) Bd.pre
  have hown : s.vm.findClass RX2 = some m.cls := findClass_of_methodNamed Bd.named
  have hlocks := Bd.notSynchronized
  have hK := hE.K
  have hS : va_S (fun q => base ≤ q) s.heap s.heap [] := va_S.rf
  have hR : tR D vwCl base ad (tC (wP n ad cs) I L) s.heap := hR
  have hl := lv_entry ([.ref (ad 0), .int p0]) (n := 2) (Nat.le_of_ble_eq_true rfl)
  rw [lg_entry_eq]
  generalize (lg_sl ([.ref (ad 0), .int p0]) ++ List.replicate (2 - (lg_sl ([.ref (ad 0), .int p0])).length) Slot.unset).toArray = ls at hl ⊢
  have hl : lv_has ls 2 [(0, .ref (ad 0)), (1, .int p0)] := hl
  obtain ⟨h_c1, h_c2, h_c3, h_n1, h_n4, h_bu, h_e1, h_e2⟩ := id hcf
  refine lv_iload_n hx hb dX2_back_0 rfl (lv_at hl 1 rfl) ?_
  refine lv_if_lt (tgt := 12) hx hb dX2_back_1 (by decide) (fun c1 => ?_) (fun c1 => ?_)
  · exact th_N hx hb hl0 hown hts hE hR hS (hl.1.trans hml.symm) 180 "saved state" (by decide) dX2_back_16 dX2_back_15 dX2_back_21 htab hlocks (Nat.le_of_ble_eq_true rfl) (Nat.le_of_ble_eq_true rfl) (Nat.le_of_ble_eq_true rfl) (Nat.le_of_ble_eq_true rfl) (Nat.le_of_ble_eq_true rfl) (Nat.le_of_ble_eq_true rfl) (⟨rfl, inN_neg (by omega) c1⟩) dX2_back_12 dX2_back_18
  · refine lv_iload_n hx hb dX2_back_4 rfl (lv_at hl 1 rfl) ?_
    refine lv_aload_n hx hb dX2_back_5 rfl (lv_at hl 0 rfl) ?_
    refine tb_get hx hb hts (fun w h => List.mem_cons_of_mem _ (inX2 w h)) hown hK hR 0 rfl rfl 5 (by decide) (hts _ (List.mem_cons_of_mem _ k106)) (fun _ h => h) rfl dX2_back_6 ?_
    rw [show I 0 5 = nI sv from hsv]
    refine lv_icmp_lt (tgt := 22) hx hb dX2_back_9 (by decide) (fun c2 => ?_) (fun c2 => ?_)
    · have hp0 : inN sv p0 := inN_of (by omega) c1 (i_lt_n c2)
      obtain ⟨i9, hi9, rfl⟩ := id hp0
      refine lv_aload_n hx hb dX2_back_22 rfl (lv_at hl 0 rfl) ?_
      refine tb_get hx hb hts (fun w h => List.mem_cons_of_mem _ (inX2 w h)) hown hK hR 0 rfl rfl 3 (by decide) (hts _ (List.mem_cons_of_mem _ k104)) (fun _ h => h) rfl dX2_back_23 ?_
      refine lv_aload_n hx hb dX2_back_26 rfl (lv_at hl 0 rfl) ?_
      refine tb_get hx hb hts (fun w h => List.mem_cons_of_mem _ (inX2 w h)) hown hK hR 0 rfl rfl 4 (by decide) (hts _ (List.mem_cons_of_mem _ k105)) (fun _ h => h) rfl dX2_back_27 ?_
      refine lv_iload_n hx hb dX2_back_30 rfl (lv_at hl 1 rfl) ?_
      refine tb_oald hx hb hK hR 18 3 rfl rfl i9 rfl (by omega) (by decide) (if_pos (by omega)) dX2_back_31 ?_
      refine kc_v (va_runVN (As := [.ref (ad (40 + 20 * i9))]) (rest := []) ⟨hx, hb, hml, hown, hts⟩ (mX0_take I L 20 (40 + 20 * i9) (ks i9) (Or.inl rfl) (isB_sv (by omega)) (by omega) h_n4 (hks i9 hi9).1 (hks i9 hi9).2) ⟨va_cnB 1 hts (kw_N k455) rfl rfl rfl (hE.2.2.1 (176, yX0_take) (by decide)) (hts _ (List.mem_cons_of_mem _ k4)) (by decide +kernel) ⟨Nat.le_of_ble_eq_true rfl, Nat.le_of_ble_eq_true rfl⟩, hts _ (List.mem_cons_of_mem _ k454), hts _ (List.mem_cons_of_mem _ ks24)⟩ (kB_preV hE hR hS 20 rfl rfl [.ref (ad (40 + 20 * i9))]) rfl rfl hl.1 rfl (lv_room (Nat.le_of_ble_eq_true rfl)) dX2_back_32 ⟨Nat.le_of_ble_eq_true rfl, Nat.le_of_ble_eq_true rfl⟩) hS (fun u H locs hw hR hS => ?_)
      subst hw
      have hR : tR D vwCl base ad (tC (wP n ad cs) (gTake I 20 (40 + 20 * i9) (ks i9) n) (gTl L 20 (40 + 20 * i9) n)) H := hR
      have e0 : (gTake I 20 (40 + 20 * i9) (ks i9) n) 0 = I 0 := by unfold gTake; rw [va_up_ne _ _ (by omega), gTk_n I (by omega) (by omega)]
      refine lv_aload_n hx hb dX2_back_35 rfl (lv_at hl 0 rfl) ?_
      refine lv_iconst (v := 1) hx hb dX2_back_36 (by decide) ?_
      refine tp_put hx hb hts (fun w h => List.mem_cons_of_mem _ (inX2 w h)) tyX2 tyX2_ok nmX2 hown hK hR hS 0 (fun r => [.int (r 0), .int (r 1), .ref (ad 1), .ref (ad 20), .ref (ad 18), .int (r 5), .int (r 6), .int (r 7), .int (r 8)]) (fun _ _ => rfl) rfl 6 (by decide) (hts _ (List.mem_cons_of_mem _ k107)) (fun _ h => h) rfl (ty := .boolean) rfl rfl rfl (by simp) (fun _ => rfl) dX2_back_37 (fun H locs hR hS => ?_)
      rw [e0] at hR
      refine lv_aload_n hx hb dX2_back_40 rfl (lv_at hl 0 rfl) ?_
      refine tb_get hx hb hts (fun w h => List.mem_cons_of_mem _ (inX2 w h)) hown hK hR 0 rfl rfl 3 (by decide) (hts _ (List.mem_cons_of_mem _ k104)) (fun _ h => h) rfl dX2_back_41 ?_
      refine tb_getN hx hb hts (fun w h => List.mem_cons_of_mem _ (inX0 w h)) hown hK hR 20 rfl rfl 3 (by decide) (va_Nw.use rfl (hE.2.1 (117, "SeedChains$Course", "kept", "I") (by decide))) (fun _ h => h) rfl dX2_back_44 ?_
      rw [show (va_up (gTake I 20 (40 + 20 * i9) (ks i9) n) 0 (upd (I 0) 6 1)) 20 3 = nI (ks i9) from (by rw [va_up_ne _ _ (by omega)]; unfold gTake; rw [va_up_self]; exact (hks i9 hi9).1)]
      refine W.widen (k := 1) (n := 6) (Nat.le_of_ble_eq_true rfl) (Nat.le_of_ble_eq_true rfl) ?_
      refine vx_ret ?_
      exact W.iret (v := nI (ks i9)) hx hb hr (fun t ht hW => ⟨⟨_, (va_up (gTake I 20 (40 + 20 * i9) (ks i9) n) 0 (upd (I 0) 6 1), gTl L 20 (40 + 20 * i9) n), rfl, ⟨hp0, i9, hi9, rfl, rfl, rfl⟩, by show tR _ _ _ _ _ t.heap; rw [ht]; exact hR⟩, hS.F ht⟩) hS.2.2 dX2_back_47
    · exact th_N hx hb hl0 hown hts hE hR hS (hl.1.trans hml.symm) 180 "saved state" (by decide) dX2_back_16 dX2_back_15 dX2_back_21 htab hlocks (Nat.le_of_ble_eq_true rfl) (Nat.le_of_ble_eq_true rfl) (Nat.le_of_ble_eq_true rfl) (Nat.le_of_ble_eq_true rfl) (Nat.le_of_ble_eq_true rfl) (Nat.le_of_ble_eq_true rfl) (⟨rfl, inN_ge (by omega) (Nat.le_refl _) (by omega) (i_nlt c2)⟩) dX2_back_12 dX2_back_18
set_option maxHeartbeats 4000000 in
set_option maxRecDepth 100000 in
theorem mX2_count (hl0 : l.stackTraces = false) (I : tI) (L : tL) {nd no : Nat} {f la : Nat → Nat} {ph : Nat → Int32} {w : Nat → Nat → Nat} {ea lt le mo : Nat → Nat} {Y : Nat → Nat → Nat} {st : Nat → Int64} {Rw : Nat → Nat → Nat → Nat} {kp sp : Nat} (bu ev B sv : Nat) (p0 : Int32) (hSi : cSi I nd no f la ph w ea lt le mo) (hwf : wfS nd no f la w ea lt le mo) (hcf : cCf I n bu ev) (sd : Nat) (hsd : I 0 6 = nI sd) (hs1 : sd ≤ 1) (hC : sd = 1 → cCo I L n nd 20 Y st Rw kp sp ∧ wCo n nd no f la ea lt le mo B Y Rw kp sp) (hsv : I 0 5 = nI sv) (hv4 : sv ≤ 4) : vx_Met l yX2_count wX2_count ({ frames := 8, cells := 1, slots := 6, locals := 140 }) (va_Pc [.ref (ad 0), .int p0] (kB D cs base sa n ad I L)) (va_Qi (fun (r : Int32) (u : tI × tL) => inN 6 p0 ∧ u = (I, L) ∧ r = cnV nd no n sd kp sp sv p0) (kA D cs base n ad) (fun q => base ≤ q)) (kX D cs base n ad I L (fun E => E = eN ∧ ¬ inN 6 p0)) 1 6 (fun q => base ≤ q) := by
  refine vx_ofW (cc := cX2_count) (maxL := 2) (ret := (some .int)) (by decide) rfl ?_
  intro p e s m args below meth c s₁ Bd hml htab hv
  obtain ⟨rfl, hE, hR⟩ := hv
  have hx := Bd.exec
  have hb := Bd.bytes
  have hr := Bd.returns
  have hts := atoms_spec (ws := wX2_count) Bd.pre
  have hown : s.vm.findClass RX2 = some m.cls := findClass_of_methodNamed Bd.named
  have hlocks := Bd.notSynchronized
  have hK := hE.K
  have hS : va_S (fun q => base ≤ q) s.heap s.heap [] := va_S.rf
  have hR : tR D vwCl base ad (tC (wP n ad cs) I L) s.heap := hR
  have hl := lv_entry ([.ref (ad 0), .int p0]) (n := 2) (Nat.le_of_ble_eq_true rfl)
  rw [lg_entry_eq]
  generalize (lg_sl ([.ref (ad 0), .int p0]) ++ List.replicate (2 - (lg_sl ([.ref (ad 0), .int p0])).length) Slot.unset).toArray = ls at hl ⊢
  have hl : lv_has ls 2 [(0, .ref (ad 0)), (1, .int p0)] := hl
  refine lv_iload_n hx hb dX2_count_0 rfl (lv_at hl 1 rfl) ?_
  rcases cn_of p0 with hq | rfl | rfl | rfl | rfl | rfl | rfl
  · refine lv_tableOut (tgt := 104) hx hb dX2_count_1 (sw_out hq) (by decide) ?_
    exact th_N hx hb hl0 hown hts hE hR hS (hl.1.trans hml.symm) 182 "count" (by decide) dX2_count_108 dX2_count_107 dX2_count_113 htab hlocks (Nat.le_of_ble_eq_true rfl) (Nat.le_of_ble_eq_true rfl) (Nat.le_of_ble_eq_true rfl) (Nat.le_of_ble_eq_true rfl) (Nat.le_of_ble_eq_true rfl) (Nat.le_of_ble_eq_true rfl) (⟨rfl, hq⟩) dX2_count_104 dX2_count_110
  · refine lv_tableIn (tgt := 40) hx hb dX2_count_1 (by decide) (by decide) rfl (by decide) ?_
    refine lv_aload_n hx hb dX2_count_40 rfl (lv_at hl 0 rfl) ?_
    refine tb_get hx hb hts (fun w h => List.mem_cons_of_mem _ (inX2 w h)) hown hK hR 0 rfl rfl 2 (by decide) (hts _ (List.mem_cons_of_mem _ k103)) (fun _ h => h) rfl dX2_count_41 ?_
    refine tb_getN hx hb hts (fun w h => List.mem_cons_of_mem _ (inX1 w h)) hown hK hR 1 rfl rfl 8 (by decide) (va_Nw.use rfl (hE.2.1 (68, "SeedChains$Site", "dates", "I") (by decide))) (fun _ h => h) rfl dX2_count_44 ?_
    rw [show I 1 8 = nI nd from hSi.1]
    refine W.widen (k := 1) (n := 6) (Nat.le_of_ble_eq_true rfl) (Nat.le_of_ble_eq_true rfl) ?_
    refine vx_ret ?_
    exact W.iret (v := nI nd) hx hb hr (fun t ht hW => ⟨⟨_, (I, L), rfl, ⟨⟨0, by decide, rfl⟩, rfl, (rfl).symm⟩, by show tR _ _ _ _ _ t.heap; rw [ht]; exact hR⟩, hS.F ht⟩) hS.2.2 dX2_count_47
  · refine lv_tableIn (tgt := 48) hx hb dX2_count_1 (by decide) (by decide) rfl (by decide) ?_
    refine lv_aload_n hx hb dX2_count_48 rfl (lv_at hl 0 rfl) ?_
    refine tb_get hx hb hts (fun w h => List.mem_cons_of_mem _ (inX2 w h)) hown hK hR 0 rfl rfl 2 (by decide) (hts _ (List.mem_cons_of_mem _ k103)) (fun _ h => h) rfl dX2_count_49 ?_
    refine tb_getN hx hb hts (fun w h => List.mem_cons_of_mem _ (inX1 w h)) hown hK hR 1 rfl rfl 9 (by decide) (va_Nw.use rfl (hE.2.1 (97, "SeedChains$Site", "orders", "I") (by decide))) (fun _ h => h) rfl dX2_count_52 ?_
    rw [show I 1 9 = nI no from hSi.2.1]
    refine W.widen (k := 1) (n := 6) (Nat.le_of_ble_eq_true rfl) (Nat.le_of_ble_eq_true rfl) ?_
    refine vx_ret ?_
    exact W.iret (v := nI no) hx hb hr (fun t ht hW => ⟨⟨_, (I, L), rfl, ⟨⟨1, by decide, rfl⟩, rfl, (rfl).symm⟩, by show tR _ _ _ _ _ t.heap; rw [ht]; exact hR⟩, hS.F ht⟩) hS.2.2 dX2_count_55
  · refine lv_tableIn (tgt := 56) hx hb dX2_count_1 (by decide) (by decide) rfl (by decide) ?_
    refine lv_aload_n hx hb dX2_count_56 rfl (lv_at hl 0 rfl) ?_
    refine tb_get hx hb hts (fun w h => List.mem_cons_of_mem _ (inX2 w h)) hown hK hR 0 rfl rfl 1 (by decide) (hts _ (List.mem_cons_of_mem _ k102)) (fun _ h => h) rfl dX2_count_57 ?_
    rw [show I 0 1 = nI n from hcf.1]
    refine W.widen (k := 1) (n := 6) (Nat.le_of_ble_eq_true rfl) (Nat.le_of_ble_eq_true rfl) ?_
    refine vx_ret ?_
    exact W.iret (v := nI n) hx hb hr (fun t ht hW => ⟨⟨_, (I, L), rfl, ⟨⟨2, by decide, rfl⟩, rfl, (rfl).symm⟩, by show tR _ _ _ _ _ t.heap; rw [ht]; exact hR⟩, hS.F ht⟩) hS.2.2 dX2_count_60
  · refine lv_tableIn (tgt := 61) hx hb dX2_count_1 (by decide) (by decide) rfl (by decide) ?_
    refine lv_aload_n hx hb dX2_count_61 rfl (lv_at hl 0 rfl) ?_
    refine tb_get hx hb hts (fun w h => List.mem_cons_of_mem _ (inX2 w h)) hown hK hR 0 rfl rfl 6 (by decide) (hts _ (List.mem_cons_of_mem _ k107)) (fun _ h => h) rfl dX2_count_62 ?_
    rw [show I 0 6 = nI sd from hsd]
    refine lv_if_eq (tgt := 78) hx hb dX2_count_65 (by decide) (fun c1 => ?_) (fun c1 => ?_)
    · have hq : ¬ sd = 1 := fun z => absurd c1 (by rw [z]; decide)
      refine lv_iconst (v := 0) hx hb dX2_count_78 (by decide) ?_
      refine W.widen (k := 1) (n := 6) (Nat.le_of_ble_eq_true rfl) (Nat.le_of_ble_eq_true rfl) ?_
      refine vx_ret ?_
      exact W.iret (v := 0) hx hb hr (fun t ht hW => ⟨⟨_, (I, L), rfl, ⟨⟨3, by decide, rfl⟩, rfl, ((cn_3 _ _ _ _ _ _ _).trans (if_neg hq)).symm⟩, by show tR _ _ _ _ _ t.heap; rw [ht]; exact hR⟩, hS.F ht⟩) hS.2.2 dX2_count_79
    · have hq : sd = 1 := by have q : ¬ sd = 0 := fun z => c1 (by rw [z]; rfl); omega
      obtain ⟨hCo, hwY, hk60, hspB, hRb⟩ := hC hq
      refine lv_aload_n hx hb dX2_count_68 rfl (lv_at hl 0 rfl) ?_
      refine tb_get hx hb hts (fun w h => List.mem_cons_of_mem _ (inX2 w h)) hown hK hR 0 rfl rfl 3 (by decide) (hts _ (List.mem_cons_of_mem _ k104)) (fun _ h => h) rfl dX2_count_69 ?_
      refine tb_getN hx hb hts (fun w h => List.mem_cons_of_mem _ (inX0 w h)) hown hK hR 20 rfl rfl 3 (by decide) (va_Nw.use rfl (hE.2.1 (117, "SeedChains$Course", "kept", "I") (by decide))) (fun _ h => h) rfl dX2_count_72 ?_
      rw [show I 20 3 = nI kp from hCo.1]
      refine lv_goto (tgt := 79) hx hb dX2_count_75 (by decide) ?_
      refine W.widen (k := 1) (n := 6) (Nat.le_of_ble_eq_true rfl) (Nat.le_of_ble_eq_true rfl) ?_
      refine vx_ret ?_
      exact W.iret (v := nI kp) hx hb hr (fun t ht hW => ⟨⟨_, (I, L), rfl, ⟨⟨3, by decide, rfl⟩, rfl, ((cn_3 _ _ _ _ _ _ _).trans (if_pos hq)).symm⟩, by show tR _ _ _ _ _ t.heap; rw [ht]; exact hR⟩, hS.F ht⟩) hS.2.2 dX2_count_79
  · refine lv_tableIn (tgt := 80) hx hb dX2_count_1 (by decide) (by decide) rfl (by decide) ?_
    refine lv_aload_n hx hb dX2_count_80 rfl (lv_at hl 0 rfl) ?_
    refine tb_get hx hb hts (fun w h => List.mem_cons_of_mem _ (inX2 w h)) hown hK hR 0 rfl rfl 6 (by decide) (hts _ (List.mem_cons_of_mem _ k107)) (fun _ h => h) rfl dX2_count_81 ?_
    rw [show I 0 6 = nI sd from hsd]
    refine lv_if_eq (tgt := 97) hx hb dX2_count_84 (by decide) (fun c2 => ?_) (fun c2 => ?_)
    · have hq : ¬ sd = 1 := fun z => absurd c2 (by rw [z]; decide)
      refine lv_iconst (v := 0) hx hb dX2_count_97 (by decide) ?_
      refine W.widen (k := 1) (n := 6) (Nat.le_of_ble_eq_true rfl) (Nat.le_of_ble_eq_true rfl) ?_
      refine vx_ret ?_
      exact W.iret (v := 0) hx hb hr (fun t ht hW => ⟨⟨_, (I, L), rfl, ⟨⟨4, by decide, rfl⟩, rfl, ((cn_4 _ _ _ _ _ _ _).trans (if_neg hq)).symm⟩, by show tR _ _ _ _ _ t.heap; rw [ht]; exact hR⟩, hS.F ht⟩) hS.2.2 dX2_count_98
    · have hq : sd = 1 := by have q : ¬ sd = 0 := fun z => c2 (by rw [z]; rfl); omega
      obtain ⟨hCo, hwY, hk60, hspB, hRb⟩ := hC hq
      refine lv_aload_n hx hb dX2_count_87 rfl (lv_at hl 0 rfl) ?_
      refine tb_get hx hb hts (fun w h => List.mem_cons_of_mem _ (inX2 w h)) hown hK hR 0 rfl rfl 3 (by decide) (hts _ (List.mem_cons_of_mem _ k104)) (fun _ h => h) rfl dX2_count_88 ?_
      refine tb_getN hx hb hts (fun w h => List.mem_cons_of_mem _ (inX0 w h)) hown hK hR 20 rfl rfl 4 (by decide) (va_Nw.use rfl (hE.2.1 (120, "SeedChains$Course", "steps", "I") (by decide))) (fun _ h => h) rfl dX2_count_91 ?_
      rw [show I 20 4 = nI sp from hCo.2.1]
      refine lv_goto (tgt := 98) hx hb dX2_count_94 (by decide) ?_
      refine W.widen (k := 1) (n := 6) (Nat.le_of_ble_eq_true rfl) (Nat.le_of_ble_eq_true rfl) ?_
      refine vx_ret ?_
      exact W.iret (v := nI sp) hx hb hr (fun t ht hW => ⟨⟨_, (I, L), rfl, ⟨⟨4, by decide, rfl⟩, rfl, ((cn_4 _ _ _ _ _ _ _).trans (if_pos hq)).symm⟩, by show tR _ _ _ _ _ t.heap; rw [ht]; exact hR⟩, hS.F ht⟩) hS.2.2 dX2_count_98
  · refine lv_tableIn (tgt := 99) hx hb dX2_count_1 (by decide) (by decide) rfl (by decide) ?_
    refine lv_aload_n hx hb dX2_count_99 rfl (lv_at hl 0 rfl) ?_
    refine tb_get hx hb hts (fun w h => List.mem_cons_of_mem _ (inX2 w h)) hown hK hR 0 rfl rfl 5 (by decide) (hts _ (List.mem_cons_of_mem _ k106)) (fun _ h => h) rfl dX2_count_100 ?_
    rw [show I 0 5 = nI sv from hsv]
    refine W.widen (k := 1) (n := 6) (Nat.le_of_ble_eq_true rfl) (Nat.le_of_ble_eq_true rfl) ?_
    refine vx_ret ?_
    exact W.iret (v := nI sv) hx hb hr (fun t ht hW => ⟨⟨_, (I, L), rfl, ⟨⟨5, by decide, rfl⟩, rfl, (rfl).symm⟩, by show tR _ _ _ _ _ t.heap; rw [ht]; exact hR⟩, hS.F ht⟩) hS.2.2 dX2_count_103
end C13
