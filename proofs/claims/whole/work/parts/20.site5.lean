section C5
variable {l : Launch} {D : va_G} {cs : Nat → ClassId} {base : Nat} {sa : Nat → Nat} {n : Nat} {ad : Nat → Nat}
set_option maxHeartbeats 4000000 in
set_option maxRecDepth 100000 in
theorem lp1X1_findLeastYears {p : Program} {e : Env} {R : Room} {s : State} {m : MethodId} {args : Array Value} {below : List Frame} {meth : Method} {c : Code} {cells slots : Nat} {Q : State → Prop} (S0 : CallFix p m c cX1_findLeastYears 4 s args wX1_findLeastYears RX1) (hE : eV D cs base sa s) (hRf : 0 ≤ R.frames) (hRl : 0 ≤ R.locals) (hRc : cells ≤ R.cells) (hRs : slots ≤ R.slots) (I : tI) (L : tL) {nd no : Nat} {f la : Nat → Nat} {ph : Nat → Int32} {w : Nat → Nat → Nat} {ea lt le mo : Nat → Nat} (ky : Nat) (hSi : cSi I nd no f la ph w ea lt le mo) (hwf : wfS nd no f la w ea lt le mo) (hk18 : 18 ≤ ky) (hky : ∀ r q, wP n ad cs ky r q = some (.inl (cs 0, 8, .inl r)))
    (kx : ∀ (row : Nat → Int32) (H : Heap) (locs : List Loc) (ls : Array Slot), rw_Y nd row f → tR D vwCl base ad (tC (wP n ad cs) (va_up I ky row) L) H → va_S (fun q => base ≤ q) s.heap H locs → lv_has ls 4 [(2, .int (nI nd)), (0, .ref (ad 1)), (1, .ref (ad ky))] → W p l e R s m args below meth c H locs cells slots Q (F0 m 25 ls [])) :
    ∀ (k j : Nat) (row : Nat → Int32) (H : Heap) (locs : List Loc) (ls : Array Slot), j ≤ nd → nd + 1 ≤ j + k → rw_Y j row f → tR D vwCl base ad (tC (wP n ad cs) (va_up I ky row) L) H → va_S (fun q => base ≤ q) s.heap H locs → lv_has ls 4 [(2, .int (nI j)), (0, .ref (ad 1)), (1, .ref (ad ky))] → W p l e R s m args below meth c H locs cells slots Q (F0 m 2 ls []) := by
  obtain ⟨hx, hb, hml, hown, hts⟩ := S0
  have hK := hE.K
  obtain ⟨h_nd, h_no, h_d, h_o⟩ := id hwf
  intro k
  induction k with
  | zero => intro j row H locs ls h1 h2; exact absurd h2 (by omega)
  | succ k ih =>
    intro j row H locs ls hj hk hin hR hS hl
    refine lv_iload_n hx hb dX1_findLeastYears_2 rfl (lv_at hl 0 rfl) ?_
    refine lv_aload_n hx hb dX1_findLeastYears_3 rfl (lv_at hl 1 rfl) ?_
    refine tb_get hx hb hts (fun w h => List.mem_cons_of_mem _ (inX1 w h)) hown hK hR 1 rfl rfl 8 (by decide) (hts _ (List.mem_cons_of_mem _ k46)) (fun _ h => h) rfl dX1_findLeastYears_4 ?_
    rw [show (va_up I ky row) 1 8 = nI nd from (by rw [va_up_ne _ _ (by omega)]; exact hSi.1)]
    refine lv_icmp_ge (tgt := 25) hx hb dX1_findLeastYears_7 (by decide) (fun c1 => ?_) (fun c1 => ?_)
    · have hjN : j = nd := by have e9 := (nI_leI (by omega) (by omega)).mp c1; omega
      subst hjN
      exact kx row H locs ls hin hR hS (lv_sub hl [0, 1, 2] rfl)
    · have hjN : j < nd := by
        rcases Nat.lt_or_ge j nd with q | q
        · exact q
        · exact absurd (nI_le (by omega) (by omega)) c1
      refine lv_aload_n hx hb dX1_findLeastYears_10 rfl (lv_at hl 2 rfl) ?_
      refine lv_iload_n hx hb dX1_findLeastYears_11 rfl (lv_at hl 0 rfl) ?_
      refine lv_aload_n hx hb dX1_findLeastYears_12 rfl (lv_at hl 1 rfl) ?_
      refine tb_get hx hb hts (fun w h => List.mem_cons_of_mem _ (inX1 w h)) hown hK hR 1 rfl rfl 0 (by decide) (hts _ (List.mem_cons_of_mem _ k35)) (fun _ h => h) rfl dX1_findLeastYears_13 ?_
      refine lv_iload_n hx hb dX1_findLeastYears_16 rfl (lv_at hl 0 rfl) ?_
      refine tp_iald hx hb hK hR 2 0 (fun _ _ => rfl) rfl j rfl (by omega) (by decide) dX1_findLeastYears_17 ?_
      rw [show (va_up I ky row) 2 j = nI (f j) from (by rw [va_up_ne _ _ (by omega)]; exact (hSi.2.2.1 j (by omega)).1)]
      refine tp_iast hx hb hK hR hS ky 0 hky rfl j rfl (by omega) (by decide) dX1_findLeastYears_18 (fun H locs hR hS => ?_)
      rw [bx_uu, va_up_self] at hR
      have hin2 : rw_Y (j + 1) (upd row j (nI (f j))) f := by
        intro i hi; unfold upd; split
        · rename_i e9; rw [e9]
        · exact hin i (by omega)
      refine lv_iinc (v := nI (j + 1)) (lv' := [(2, .int (nI (j + 1))), (0, .ref (ad 1)), (1, .ref (ad ky))]) hx hb dX1_findLeastYears_19 hl (k := 0) rfl (nI_1 _) (by decide) rfl (fun ls hl => ?_)
      refine lv_goto (tgt := 2) hx hb dX1_findLeastYears_22 (by decide) ?_
      exact ih (j + 1) (upd row j (nI (f j))) H locs ls (by omega) (by omega) hin2 hR hS (lv_sub hl [0, 1, 2] rfl)
set_option maxHeartbeats 4000000 in
set_option maxRecDepth 100000 in
theorem lp2X1_findLeastYears {p : Program} {e : Env} {R : Room} {s : State} {m : MethodId} {args : Array Value} {below : List Frame} {meth : Method} {c : Code} {cells slots : Nat} {Q : State → Prop} (S0 : CallFix p m c cX1_findLeastYears 4 s args wX1_findLeastYears RX1) (hE : eV D cs base sa s) (hRf : 1 ≤ R.frames) (hRl : 30 ≤ R.locals) (hRc : cells ≤ R.cells) (hRs : slots ≤ R.slots) (I : tI) (L : tL) {nd no : Nat} {f la : Nat → Nat} {ph : Nat → Int32} {w : Nat → Nat → Nat} {ea lt le mo : Nat → Nat} (ky : Nat) (hSi : cSi I nd no f la ph w ea lt le mo) (hwf : wfS nd no f la w ea lt le mo) (hk18 : 18 ≤ ky) (hky : ∀ r q, wP n ad cs ky r q = some (.inl (cs 0, 8, .inl r)))
    (kx : ∀ (row : Nat → Int32) (z : Int32) (H : Heap) (locs : List Loc) (ls : Array Slot), (∃ j, j ≤ 9 ∧ (z = 0 ∨ j = 9) ∧ rw_Y nd row (rK ea lt le mo no j f) ∧ ((j = 0 ∧ z = 1) ∨ ∃ i, j = i + 1 ∧ rZ nd (rK ea lt le mo no i f) (rK ea lt le mo no j f) z)) → tR D vwCl base ad (tC (wP n ad cs) (va_up I ky row) L) H → va_S (fun q => base ≤ q) s.heap H locs → lv_has ls 4 [(2, .int z), (0, .ref (ad 1)), (1, .ref (ad ky))] → W p l e R s m args below meth c H locs cells slots Q (F0 m 51 ls [])) :
    ∀ (k j : Nat) (row : Nat → Int32) (z : Int32) (H : Heap) (locs : List Loc) (ls : Array Slot), j ≤ 9 → 9 + 1 ≤ j + k → rw_Y nd row (rK ea lt le mo no j f) → ((j = 0 ∧ z = 1) ∨ ∃ i, j = i + 1 ∧ rZ nd (rK ea lt le mo no i f) (rK ea lt le mo no j f) z) → tR D vwCl base ad (tC (wP n ad cs) (va_up I ky row) L) H → va_S (fun q => base ≤ q) s.heap H locs → lv_has ls 4 [(3, .int (nI j)), (2, .int z), (0, .ref (ad 1)), (1, .ref (ad ky))] → W p l e R s m args below meth c H locs cells slots Q (F0 m 29 ls []) := by
  obtain ⟨hx, hb, hml, hown, hts⟩ := S0
  have hK := hE.K
  obtain ⟨h_nd, h_no, h_d, h_o⟩ := id hwf
  intro k
  induction k with
  | zero => intro j row z H locs ls h1 h2; exact absurd h2 (by omega)
  | succ k ih =>
    intro j row z H locs ls hj hk hrow hz hR hS hl
    refine lv_iload_n hx hb dX1_findLeastYears_29 rfl (lv_at hl 0 rfl) ?_
    refine lv_bipush (v := nI 8) hx hb dX1_findLeastYears_30 (by decide) ?_
    refine lv_icmp_gt (tgt := 51) hx hb dX1_findLeastYears_32 (by decide) (fun c1 => ?_) (fun c1 => ?_)
    · have hjN : j = 9 := by have e9 := (nI_ltI (by omega) (by omega)).mp c1; omega
      subst hjN
      exact kx row z H locs ls ⟨9, Nat.le_refl 9, Or.inr rfl, hrow, hz⟩ hR hS (lv_sub hl [1, 2, 3] rfl)
    · have hjN : j < 9 := by
        rcases Nat.lt_or_ge j 9 with q | q
        · exact q
        · exact absurd (nI_lt (by omega) (by omega)) c1
      refine lv_iload_n hx hb dX1_findLeastYears_35 rfl (lv_at hl 1 rfl) ?_
      refine lv_if_eq (tgt := 51) hx hb dX1_findLeastYears_36 (by decide) (fun c2 => ?_) (fun c2 => ?_)
      · exact kx row z H locs ls ⟨j, by omega, Or.inl c2, hrow, hz⟩ hR hS (lv_sub hl [1, 2, 3] rfl)
      · refine lv_aload_n hx hb dX1_findLeastYears_39 rfl (lv_at hl 2 rfl) ?_
        refine lv_aload_n hx hb dX1_findLeastYears_40 rfl (lv_at hl 3 rfl) ?_
        refine kc_i (va_runV (As := [.ref (ad ky)]) (rest := []) ⟨hx, hb, hml, hown, hts⟩ (mX1_raiseByOrders I L ky (255 + 6120 * j) (rK ea lt le mo no j f) row hSi hwf hk18 hky (rK_le hwf j) (by omega) hrow) (cwV 1 hts (kw_V k138 k140 ks1 k3 k141) rfl rfl rfl (by decide +kernel) ⟨Nat.le_trans (Nat.le_of_ble_eq_true rfl) hRf, Nat.le_trans (Nat.le_of_ble_eq_true rfl) hRl⟩) (kB_preV hE hR hS 1 rfl rfl [.ref (ad ky)]) rfl rfl hl.1 rfl (lv_room (Nat.le_of_ble_eq_true rfl)) dX1_findLeastYears_41 ⟨hRc, hRs⟩) hS (fun r u H locs hw hR hS => ?_)
        obtain ⟨row1, rfl, hrow1, hz1⟩ := hw
        have hR : tR D vwCl base ad (tC (wP n ad cs) (va_up I ky row1) L) H := hR
        refine lv_istore_n (lv' := [(2, .int r), (3, .int (nI j)), (0, .ref (ad 1)), (1, .ref (ad ky))]) hx hb dX1_findLeastYears_44 rfl hl (by decide) rfl (fun ls hl => ?_)
        refine lv_iinc (v := nI (j + 1)) (lv' := [(3, .int (nI (j + 1))), (2, .int r), (0, .ref (ad 1)), (1, .ref (ad ky))]) hx hb dX1_findLeastYears_45 hl (k := 1) rfl (nI_1 _) (by decide) rfl (fun ls hl => ?_)
        refine lv_goto (tgt := 29) hx hb dX1_findLeastYears_48 (by decide) ?_
        exact ih (j + 1) row1 r H locs ls (by omega) (by omega) hrow1 (Or.inr ⟨j, rfl, hz1⟩) hR hS (lv_sub hl [0, 1, 2, 3] rfl)
set_option maxHeartbeats 4000000 in
set_option maxRecDepth 100000 in
theorem mX1_findLeastYears (I : tI) (L : tL) {nd no : Nat} {f la : Nat → Nat} {ph : Nat → Int32} {w : Nat → Nat → Nat} {ea lt le mo : Nat → Nat} (ky : Nat) (hSi : cSi I nd no f la ph w ea lt le mo) (hwf : wfS nd no f la w ea lt le mo) (hk18 : 18 ≤ ky) (hky : ∀ r q, wP n ad cs ky r q = some (.inl (cs 0, 8, .inl r))) : Met l yX1_findLeastYears wX1_findLeastYears ({ frames := 1, cells := 0, slots := 0, locals := 30 }) (va_Pc [.ref (ad 1), .ref (ad ky)] (kB D cs base sa n ad I L)) (va_Qi (fun (r : Int32) (u : tI × tL) => ∃ row : Nat → Int32, u = (va_up I ky row, L) ∧ ((r = 1 ∧ ∃ z : Nat → Nat, yM nd no f la ea lt le mo z ∧ rw_Y nd row z) ∨ (r = 0 ∧ ¬ ∃ z, yS nd no f la ea lt le mo z))) (kA D cs base n ad) (fun q => base ≤ q)) 0 0 (fun q => base ≤ q) := by
  refine Met.ofW (cc := cX1_findLeastYears) (maxL := 4) (ret := (some .boolean)) (by decide) rfl ?_
  intro p e s m args below meth c s₁ Bd hml hv
  obtain ⟨rfl, hE, hR⟩ := hv
  have hx := Bd.exec
  have hb := Bd.bytes
  have hr := Bd.returns
  have hts := atoms_spec (ws := wX1_findLeastYears) Bd.pre
  have hown : s.vm.findClass RX1 = some m.cls := findClass_of_methodNamed Bd.named
  have hlocks := Bd.notSynchronized
  have hK := hE.K
  have hS : va_S (fun q => base ≤ q) s.heap s.heap [] := va_S.rf
  have hR : tR D vwCl base ad (tC (wP n ad cs) I L) s.heap := hR
  have hl := lv_entry ([.ref (ad 1), .ref (ad ky)]) (n := 4) (Nat.le_of_ble_eq_true rfl)
  rw [lg_entry_eq]
  generalize (lg_sl ([.ref (ad 1), .ref (ad ky)]) ++ List.replicate (4 - (lg_sl ([.ref (ad 1), .ref (ad ky)])).length) Slot.unset).toArray = ls at hl ⊢
  have hl : lv_has ls 4 [(0, .ref (ad 1)), (1, .ref (ad ky))] := hl
  obtain ⟨h_nd, h_no, h_d, h_o⟩ := id hwf
  refine lv_iconst (v := 0) hx hb dX1_findLeastYears_0 (by decide) ?_
  rw [show (0 : Int32) = nI 0 from nI_0.symm]
  refine lv_istore_n (lv' := [(2, .int (nI 0)), (0, .ref (ad 1)), (1, .ref (ad ky))]) hx hb dX1_findLeastYears_1 rfl hl (by decide) rfl (fun ls hl => ?_)
  have hR : tR D vwCl base ad (tC (wP n ad cs) (va_up I ky (I ky)) L) s.heap := by rw [va_up_id]; exact hR
  refine lp1X1_findLeastYears ⟨hx, hb, hml, hown, hts⟩ hE (Nat.zero_le _) (Nat.zero_le _) (Nat.le_of_ble_eq_true rfl) (Nat.le_of_ble_eq_true rfl) I L ky hSi hwf hk18 hky (fun row H locs ls hrow hR hS hl => ?_) (nd + 1) 0 (I ky) _ _ ls (Nat.zero_le _) (by omega) (fun i hi => absurd hi (Nat.not_lt_zero _)) hR hS (lv_sub hl [0, 1, 2] rfl)
  refine lv_iconst (v := 1) hx hb dX1_findLeastYears_25 (by decide) ?_
  refine lv_istore_n (lv' := [(2, .int 1), (0, .ref (ad 1)), (1, .ref (ad ky))]) hx hb dX1_findLeastYears_26 rfl hl (by decide) rfl (fun ls hl => ?_)
  refine lv_iconst (v := 0) hx hb dX1_findLeastYears_27 (by decide) ?_
  rw [show (0 : Int32) = nI 0 from nI_0.symm]
  refine lv_istore_n (lv' := [(3, .int (nI 0)), (2, .int 1), (0, .ref (ad 1)), (1, .ref (ad ky))]) hx hb dX1_findLeastYears_28 rfl hl (by decide) rfl (fun ls hl => ?_)
  refine lp2X1_findLeastYears ⟨hx, hb, hml, hown, hts⟩ hE (Nat.le_of_ble_eq_true rfl) (Nat.le_of_ble_eq_true rfl) (Nat.le_of_ble_eq_true rfl) (Nat.le_of_ble_eq_true rfl) I L ky hSi hwf hk18 hky (fun row z H locs ls hex hR hS hl => ?_) 10 0 row 1 _ _ ls (Nat.zero_le _) (by omega) hrow (Or.inl ⟨rfl, rfl⟩) hR hS (lv_sub hl [0, 1, 2, 3] rfl)
  obtain ⟨j, hj9, hzj, hrow, hz⟩ := hex
  refine lv_iload_n hx hb dX1_findLeastYears_51 rfl (lv_at hl 0 rfl) ?_
  refine lv_if_ne (tgt := 67) hx hb dX1_findLeastYears_52 (by decide) (fun c1 => ?_) (fun c1 => ?_)
  · have hno : ¬ ∃ z, yS nd no f la ea lt le mo z := by
      have h9 : j = 9 := hzj.elim (fun q => absurd q c1) id
      subst h9
      rcases hz with ⟨q, -⟩ | ⟨i, hi, q⟩
      · omega
      · have hi8 : i = 8 := by omega
        subst hi8
        rcases q with ⟨q, -⟩ | ⟨-, q⟩
        · exact absurd q c1
        · exact ls_no hwf q
    refine lv_iconst (v := 0) hx hb dX1_findLeastYears_67 (by decide) ?_
    exact W.zret (v := 0) hx hb hr rfl (fun t ht hW => ⟨⟨_, (va_up I ky row, L), rfl, ⟨row, rfl, Or.inr ⟨rfl, hno⟩⟩, by show tR _ _ _ _ _ t.heap; rw [ht]; exact hR⟩, hS.F ht⟩) hS.2.2 dX1_findLeastYears_68
  · have hz0 : ∃ i, j = i + 1 ∧ ∀ d, d < nd → rK ea lt le mo no (i + 1) f d = rK ea lt le mo no i f d := by
      rcases hz with ⟨-, q⟩ | ⟨i, hi, q⟩
      · rw [c1] at q; exact absurd q (by decide)
      · rcases q with ⟨-, q⟩ | ⟨q, -⟩
        · exact ⟨i, hi, by rw [hi] at q; exact q⟩
        · rw [c1] at q; exact absurd q (by decide)
    obtain ⟨i, hi, hfx⟩ := hz0
    subst hi
    refine lv_aload_n hx hb dX1_findLeastYears_55 rfl (lv_at hl 1 rfl) ?_
    refine lv_aload_n hx hb dX1_findLeastYears_56 rfl (lv_at hl 2 rfl) ?_
    refine kc_i (va_runV (As := [.ref (ad ky)]) (rest := []) ⟨hx, hb, hml, hown, hts⟩ (mX1_noneIsPastLast (va_up I ky row) L ky (rK ea lt le mo no (i + 1) f) (hSi.up h_nd hk18 row) hwf hky (fun i hi => by rw [va_up_self]; exact hrow i hi) (fun d hd => by have q := rK_le hwf (i + 1) d hd; omega)) (cwV 1 hts (kw_V k142 k144 ks2 k3 k145) rfl rfl rfl (by decide +kernel) ⟨Nat.le_of_ble_eq_true rfl, Nat.le_of_ble_eq_true rfl⟩) (kB_preV hE hR hS 1 rfl rfl [.ref (ad ky)]) rfl rfl hl.1 rfl (lv_room (Nat.le_of_ble_eq_true rfl)) dX1_findLeastYears_57 ⟨Nat.le_of_ble_eq_true rfl, Nat.le_of_ble_eq_true rfl⟩) hS (fun r u H locs hw hR hS => ?_)
    obtain ⟨hres, rfl⟩ := hw
    have hR : tR D vwCl base ad (tC (wP n ad cs) (va_up I ky row) L) H := hR
    refine lv_if_eq (tgt := 67) hx hb dX1_findLeastYears_60 (by decide) (fun c2 => ?_) (fun c2 => ?_)
    · have hno : ¬ ∃ z, yS nd no f la ea lt le mo z := by
        rcases hres with ⟨q, -⟩ | ⟨-, q⟩
        · rw [c2] at q; exact absurd q (by decide)
        · exact ls_past hwf q
      refine lv_iconst (v := 0) hx hb dX1_findLeastYears_67 (by decide) ?_
      exact W.zret (v := 0) hx hb hr rfl (fun t ht hW => ⟨⟨_, (va_up I ky row, L), rfl, ⟨row, rfl, Or.inr ⟨rfl, hno⟩⟩, by show tR _ _ _ _ _ t.heap; rw [ht]; exact hR⟩, hS.F ht⟩) hS.2.2 dX1_findLeastYears_68
    · have hyes : ∀ d, d < nd → rK ea lt le mo no (i + 1) f d ≤ la d := by
        rcases hres with ⟨-, q⟩ | ⟨q, -⟩
        · exact q
        · exact absurd q c2
      refine lv_iconst (v := 1) hx hb dX1_findLeastYears_63 (by decide) ?_
      refine lv_goto (tgt := 68) hx hb dX1_findLeastYears_64 (by decide) ?_
      exact W.zret (v := 1) hx hb hr rfl (fun t ht hW => ⟨⟨_, (va_up I ky row, L), rfl, ⟨row, rfl, Or.inl ⟨rfl, _, ls_yes hwf hfx hyes, hrow⟩⟩, by show tR _ _ _ _ _ t.heap; rw [ht]; exact hR⟩, hS.F ht⟩) hS.2.2 dX1_findLeastYears_68
end C5
