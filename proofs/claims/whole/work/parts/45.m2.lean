section M2
variable {l : Launch} {D : va_G} {cs : Nat → ClassId} {base : Nat} {sa : Nat → Nat} {n : Nat} {ad : Nat → Nat}
set_option maxHeartbeats 4000000 in
set_option maxRecDepth 100000 in
theorem lpX3_date {p : Program} {e : Env} {R : Room} {s : State} {m : MethodId} {args : Array Value} {below : List Frame} {meth : Method} {c : Code} {cells slots : Nat} {Q : State → Prop} (S0 : CallFix p m c cX3_date 5 s args wX3_date RX3) (hE : eV D cs base sa s) (hRf : 0 ≤ R.frames) (hRl : 0 ≤ R.locals) (hRc : cells ≤ R.cells) (hRs : slots ≤ R.slots) (I : tI) (L : tL) (nd : Nat) (p0 p1 : Int32) (hnd : I 200 3 = nI nd) (h8 : nd < 8)
    (kx : ∀ (H : Heap) (locs : List Loc) (ls : Array Slot), tR D vwCl base ad (tC (wP n ad cs) (va_up I 203 (rOnM (I 203) (64 * nd) 64)) L) H → va_S (fun q => base ≤ q) s.heap H locs → lv_has ls 5 [(4, .int (nI 64)), (0, .ref (ad 200)), (1, .int p0), (2, .int p1)] → W p l e R s m args below meth c H locs cells slots Q (F0 m 128 ls [])) :
    ∀ (k j : Nat) (H : Heap) (locs : List Loc) (ls : Array Slot), j ≤ 64 → 64 + 1 ≤ j + k → tR D vwCl base ad (tC (wP n ad cs) (va_up I 203 (rOnM (I 203) (64 * nd) j)) L) H → va_S (fun q => base ≤ q) s.heap H locs → lv_has ls 5 [(4, .int (nI j)), (0, .ref (ad 200)), (1, .int p0), (2, .int p1)] → W p l e R s m args below meth c H locs cells slots Q (F0 m 99 ls []) := by
  obtain ⟨hx, hb, hml, hown, hts⟩ := S0
  have hK := hE.K
  intro k
  induction k with
  | zero => intro j  H locs ls h1 h2; exact absurd h2 (by omega)
  | succ k ih =>
    intro j  H locs ls hj hk  hR hS hl
    refine lv_iload hx hb dX3_date_99 (lv_at hl 0 rfl) ?_
    refine lv_bipush (v := nI 64) hx hb dX3_date_101 (by decide) ?_
    refine lv_icmp_ge (tgt := 128) hx hb dX3_date_103 (by decide) (fun c1 => ?_) (fun c1 => ?_)
    · have hjN : j = 64 := by have e9 := (nI_leI (by omega) (by omega)).mp c1; omega
      subst hjN
      exact kx  H locs ls  hR hS (lv_sub hl [0, 1, 2, 3] rfl)
    · have hjN : j < 64 := by
        rcases Nat.lt_or_ge j 64 with q | q
        · exact q
        · exact absurd (nI_le (by omega) (by omega)) c1
      refine lv_aload_n hx hb dX3_date_106 rfl (lv_at hl 1 rfl) ?_
      refine tb_get hx hb hts (fun w h => List.mem_cons_of_mem _ (inX3 w h)) hown hK hR 200 rfl rfl 6 (by decide) (hts _ (List.mem_cons_of_mem _ k484)) (fun _ h => h) rfl dX3_date_107 ?_
      refine lv_bipush (v := nI 64) hx hb dX3_date_110 (by decide) ?_
      refine lv_aload_n hx hb dX3_date_112 rfl (lv_at hl 1 rfl) ?_
      refine tb_get hx hb hts (fun w h => List.mem_cons_of_mem _ (inX3 w h)) hown hK hR 200 rfl rfl 3 (by decide) (hts _ (List.mem_cons_of_mem _ k481)) (fun _ h => h) rfl dX3_date_113 ?_
      rw [show (va_up I 203 (rOnM (I 203) (64 * nd) j)) 200 3 = nI nd from (by rw [va_up_ne _ _ (by omega)]; exact hnd)]
      refine lv_imul hx hb dX3_date_116 ?_
      rw [pk_mul]
      refine lv_iload hx hb dX3_date_117 (lv_at hl 0 rfl) ?_
      refine lv_iadd hx hb dX3_date_119 ?_
      rw [nI_add]
      refine lv_iconst (v := 1) hx hb dX3_date_120 (by decide) ?_
      refine tp_iast hx hb hK hR hS 203 0 (fun _ _ => rfl) rfl (64 * nd + j) rfl (by omega) (by decide) dX3_date_121 (fun H locs hR hS => ?_)
      rw [bx_uu, va_up_self, rOnM_s] at hR
      refine lv_iinc (v := nI (j + 1)) (lv' := [(4, .int (nI (j + 1))), (0, .ref (ad 200)), (1, .int p0), (2, .int p1)]) hx hb dX3_date_122 hl (k := 0) rfl (nI_1 _) (by decide) rfl (fun ls hl => ?_)
      refine lv_goto (tgt := 99) hx hb dX3_date_125 (by decide) ?_
      exact ih (j + 1)  H locs ls (by omega) (by omega)  hR hS (lv_sub hl [0, 1, 2, 3] rfl)
set_option maxHeartbeats 4000000 in
set_option maxRecDepth 100000 in
theorem mX3_date (I : tI) (L : tL) (nd : Nat) (p0 p1 : Int32) (hnd : I 200 3 = nI nd) (h8 : nd ≤ 8) : Met l yX3_date wX3_date ({ frames := 3, cells := 0, slots := 0, locals := 90 }) (va_Pc [.ref (ad 200), .int p0, .int p1] (kB D cs base sa n ad I L)) (va_Qi (fun (r : Int32) (u : tI × tL) => pM I L (¬ dOk p0 p1) (¬ nd < 8) False (fun r u => r = nI nd ∧ u = (gG (gMD (gT I 0) nd p0 p1), L)) r u) (kA D cs base n ad) (fun q => base ≤ q)) 0 0 (fun q => base ≤ q) := by
  refine Met.ofW (cc := cX3_date) (maxL := 5) (ret := (some .int)) (by decide) rfl ?_
  intro p e s m args below meth c s₁ Bd hml hv
  obtain ⟨rfl, hE, hR⟩ := hv
  have hx := Bd.exec
  have hb := Bd.bytes
  have hr := Bd.returns
  have hts := atoms_spec (ws := wX3_date) Bd.pre
  have hown : s.vm.findClass RX3 = some m.cls := findClass_of_methodNamed Bd.named
  have hlocks := Bd.notSynchronized
  have hK := hE.K
  have hS : va_S (fun q => base ≤ q) s.heap s.heap [] := va_S.rf
  have hR : tR D vwCl base ad (tC (wP n ad cs) I L) s.heap := hR
  have hl := lv_entry ([.ref (ad 200), .int p0, .int p1]) (n := 5) (Nat.le_of_ble_eq_true rfl)
  rw [lg_entry_eq]
  generalize (lg_sl ([.ref (ad 200), .int p0, .int p1]) ++ List.replicate (5 - (lg_sl ([.ref (ad 200), .int p0, .int p1])).length) Slot.unset).toArray = ls at hl ⊢
  have hl : lv_has ls 5 [(0, .ref (ad 200)), (1, .int p0), (2, .int p1)] := hl
  refine jnW (P := ¬ dOk p0 p1) 40 (fun x1 => [.int x1]) (fun H locs => tR D vwCl base ad (tC (wP n ad cs) I L) H ∧ va_S (fun q => base ≤ q) s.heap H locs) (fun x1 H locs hx1 hT => ?_) (fun Kx1 => ?_)
  · obtain ⟨hR, hS⟩ := hT
    refine lv_istore_n (lv' := [(3, .int x1), (0, .ref (ad 200)), (1, .int p0), (2, .int p1)]) hx hb dX3_date_40 rfl hl (by decide) rfl (fun ls hl => ?_)
    refine lv_aload_n hx hb dX3_date_41 rfl (lv_at hl 1 rfl) ?_
    refine lv_iload_n hx hb dX3_date_42 rfl (lv_at hl 0 rfl) ?_
    refine jnW (P := ¬ nd < 8) 57 (fun x2 => .int x2 :: [.int x1, .ref (ad 200)]) (fun H locs => tR D vwCl base ad (tC (wP n ad cs) I L) H ∧ va_S (fun q => base ≤ q) s.heap H locs) (fun x2 H locs hx2 hT => ?_) (fun Kx2 => ?_)
    · obtain ⟨hR, hS⟩ := hT
      refine lv_iconst (v := 0) hx hb dX3_date_57 (by decide) ?_
      refine kc_i (va_runV (As := [.int x1, .int x2, .int 0]) (rest := []) ⟨hx, hb, hml, hown, hts⟩ (mX3_throwing I L x1 x2 0 (P1 := (¬ dOk p0 p1)) (P2 := (¬ nd < 8)) (P3 := False) hx1 hx2 (bZ0 (fun z => z))) (cwV 3 hts (kw_V k571 k573 ks25 k5 k574) rfl rfl rfl (by decide +kernel) ⟨Nat.le_of_ble_eq_true rfl, Nat.le_of_ble_eq_true rfl⟩) (kB_preV hE hR hS 200 rfl rfl [.int x1, .int x2, .int 0]) rfl rfl hl.1 rfl (lv_room (Nat.le_of_ble_eq_true rfl)) dX3_date_58 ⟨Nat.le_of_ble_eq_true rfl, Nat.le_of_ble_eq_true rfl⟩) hS (fun r u H locs hw hR hS => ?_)
      rcases hw with ⟨t1, rfl, rfl⟩ | ⟨t1, t2, rfl, rfl⟩ | ⟨t1, t2, t3, rfl, rfl⟩ | ⟨t1, t2, t3, rfl, rfl⟩
      · have hR : tR D vwCl base ad (tC (wP n ad cs) (gT I 1) L) H := hR
        refine lv_if_eq (tgt := 66) hx hb dX3_date_61 (by decide) (fun c9 => absurd c9 (by decide)) (fun c9 => ?_)
        refine lv_iconst (v := 0) hx hb dX3_date_64 (by decide) ?_
        exact W.iret (v := 0) hx hb hr (fun t ht hW => ⟨⟨_, (gT I 1, L), rfl, Or.inl ⟨t1, rfl, rfl⟩, by show tR _ _ _ _ _ t.heap; rw [ht]; exact hR⟩, hS.F ht⟩) hS.2.2 dX3_date_65
      · have hR : tR D vwCl base ad (tC (wP n ad cs) (gT I 2) L) H := hR
        refine lv_if_eq (tgt := 66) hx hb dX3_date_61 (by decide) (fun c9 => absurd c9 (by decide)) (fun c9 => ?_)
        refine lv_iconst (v := 0) hx hb dX3_date_64 (by decide) ?_
        exact W.iret (v := 0) hx hb hr (fun t ht hW => ⟨⟨_, (gT I 2, L), rfl, Or.inr (Or.inl ⟨t1, t2, rfl, rfl⟩), by show tR _ _ _ _ _ t.heap; rw [ht]; exact hR⟩, hS.F ht⟩) hS.2.2 dX3_date_65
      · exact t3.elim
      · have hR : tR D vwCl base ad (tC (wP n ad cs) (gT I 0) L) H := hR
        refine lv_if_eq (tgt := 66) hx hb dX3_date_61 (by decide) (fun c9 => ?_) (fun c9 => absurd rfl c9)
        have hlt : nd < 8 := Classical.byContradiction (fun z => t2 z)
        have hnd : gT I 0 200 3 = nI nd := by rw [gT_i I 0 (by omega)]; exact hnd
        refine lv_aload_n hx hb dX3_date_66 rfl (lv_at hl 1 rfl) ?_
        refine tb_get hx hb hts (fun w h => List.mem_cons_of_mem _ (inX3 w h)) hown hK hR 200 rfl rfl 4 (by decide) (hts _ (List.mem_cons_of_mem _ k482)) (fun _ h => h) rfl dX3_date_67 ?_
        refine lv_aload_n hx hb dX3_date_70 rfl (lv_at hl 1 rfl) ?_
        refine tb_get hx hb hts (fun w h => List.mem_cons_of_mem _ (inX3 w h)) hown hK hR 200 rfl rfl 3 (by decide) (hts _ (List.mem_cons_of_mem _ k481)) (fun _ h => h) rfl dX3_date_71 ?_
        rw [show (gT I 0) 200 3 = nI nd from (by first | exact hnd | (rw [va_up_ne _ _ (by omega)]; exact hnd) | (rw [va_up_ne _ _ (by omega), va_up_ne _ _ (by omega)]; exact hnd) | (rw [va_up_ne _ _ (by omega), gM1_ne _ _ _ _ (by omega)]; exact hnd))]
        refine lv_iload_n hx hb dX3_date_74 rfl (lv_at hl 2 rfl) ?_
        refine tp_iast hx hb hK hR hS 201 0 (fun _ _ => rfl) rfl nd rfl (by omega) (by decide) dX3_date_75 (fun H locs hR hS => ?_)
        refine lv_aload_n hx hb dX3_date_76 rfl (lv_at hl 1 rfl) ?_
        refine tb_get hx hb hts (fun w h => List.mem_cons_of_mem _ (inX3 w h)) hown hK hR 200 rfl rfl 5 (by decide) (hts _ (List.mem_cons_of_mem _ k483)) (fun _ h => h) rfl dX3_date_77 ?_
        refine lv_aload_n hx hb dX3_date_80 rfl (lv_at hl 1 rfl) ?_
        refine tb_get hx hb hts (fun w h => List.mem_cons_of_mem _ (inX3 w h)) hown hK hR 200 rfl rfl 3 (by decide) (hts _ (List.mem_cons_of_mem _ k481)) (fun _ h => h) rfl dX3_date_81 ?_
        rw [show (va_up (gT I 0) 201 (upd ((gT I 0) 201) nd p0)) 200 3 = nI nd from (by first | exact hnd | (rw [va_up_ne _ _ (by omega)]; exact hnd) | (rw [va_up_ne _ _ (by omega), va_up_ne _ _ (by omega)]; exact hnd) | (rw [va_up_ne _ _ (by omega), gM1_ne _ _ _ _ (by omega)]; exact hnd))]
        refine lv_iload_n hx hb dX3_date_84 rfl (lv_at hl 3 rfl) ?_
        refine tp_iast hx hb hK hR hS 202 0 (fun _ _ => rfl) rfl nd rfl (by omega) (by decide) dX3_date_85 (fun H locs hR hS => ?_)
        refine lv_aload_n hx hb dX3_date_86 rfl (lv_at hl 1 rfl) ?_
        refine tb_get hx hb hts (fun w h => List.mem_cons_of_mem _ (inX3 w h)) hown hK hR 200 rfl rfl 7 (by decide) (hts _ (List.mem_cons_of_mem _ k485)) (fun _ h => h) rfl dX3_date_87 ?_
        refine lv_aload_n hx hb dX3_date_90 rfl (lv_at hl 1 rfl) ?_
        refine tb_get hx hb hts (fun w h => List.mem_cons_of_mem _ (inX3 w h)) hown hK hR 200 rfl rfl 3 (by decide) (hts _ (List.mem_cons_of_mem _ k481)) (fun _ h => h) rfl dX3_date_91 ?_
        rw [show (va_up (va_up (gT I 0) 201 (upd ((gT I 0) 201) nd p0)) 202 (upd ((va_up (gT I 0) 201 (upd ((gT I 0) 201) nd p0)) 202) nd p1)) 200 3 = nI nd from (by first | exact hnd | (rw [va_up_ne _ _ (by omega)]; exact hnd) | (rw [va_up_ne _ _ (by omega), va_up_ne _ _ (by omega)]; exact hnd) | (rw [va_up_ne _ _ (by omega), gM1_ne _ _ _ _ (by omega)]; exact hnd))]
        refine lv_iconst (v := -1) hx hb dX3_date_94 (by decide) ?_
        refine tp_iast hx hb hK hR hS 204 0 (fun _ _ => rfl) rfl nd rfl (by omega) (by decide) dX3_date_95 (fun H locs hR hS => ?_)
        have hR : tR D vwCl base ad (tC (wP n ad cs) (gM1 (gT I 0) nd p0 p1) L) H := hR
        refine lv_iconst (v := 0) hx hb dX3_date_96 (by decide) ?_
        rw [show (0 : Int32) = nI 0 from nI_0.symm]
        refine lv_istore (lv' := [(4, .int (nI 0)), (3, .int x1), (0, .ref (ad 200)), (1, .int p0), (2, .int p1)]) hx hb dX3_date_97 hl (by decide) rfl (fun ls hl => ?_)
        have hR : tR D vwCl base ad (tC (wP n ad cs) (va_up (gM1 (gT I 0) nd p0 p1) 203 (rOnM (gM1 (gT I 0) nd p0 p1 203) (64 * nd) 0)) L) H := by rw [rOnM_0, va_up_id]; exact hR
        refine lpX3_date ⟨hx, hb, hml, hown, hts⟩ hE (Nat.zero_le _) (Nat.zero_le _) (Nat.le_of_ble_eq_true rfl) (Nat.le_of_ble_eq_true rfl) (gM1 (gT I 0) nd p0 p1) L nd p0 p1 (by rw [gM1_ne _ _ _ _ (by omega)]; exact hnd) hlt (fun H locs ls hR hS hl => ?_) 65 0 _ _ ls (Nat.zero_le _) (by omega) hR hS (lv_sub hl [0, 2, 3, 4] rfl)
        refine lv_aload_n hx hb dX3_date_128 rfl (lv_at hl 1 rfl) ?_
        refine lv_dup hx hb dX3_date_129 rfl ?_
        refine tb_get hx hb hts (fun w h => List.mem_cons_of_mem _ (inX3 w h)) hown hK hR 200 rfl rfl 3 (by decide) (hts _ (List.mem_cons_of_mem _ k481)) (fun _ h => h) rfl dX3_date_130 ?_
        rw [show (va_up (gM1 (gT I 0) nd p0 p1) 203 (rOnM (gM1 (gT I 0) nd p0 p1 203) (64 * nd) 64)) 200 3 = nI nd from (by first | exact hnd | (rw [va_up_ne _ _ (by omega)]; exact hnd) | (rw [va_up_ne _ _ (by omega), va_up_ne _ _ (by omega)]; exact hnd) | (rw [va_up_ne _ _ (by omega), gM1_ne _ _ _ _ (by omega)]; exact hnd))]
        refine lv_iconst (v := 1) hx hb dX3_date_133 (by decide) ?_
        refine lv_iadd hx hb dX3_date_134 ?_
        rw [nI_1]
        refine tp_put hx hb hts (fun w h => List.mem_cons_of_mem _ (inX3 w h)) tyX3 tyX3_ok nmX3 hown hK hR hS 200 (fun r => [.int (r 0), .int (r 1), .int (r 2), .int (r 3), .ref (ad 201), .ref (ad 202), .ref (ad 203), .ref (ad 204), .int (r 8), .ref (ad 205), .ref (ad 206), .ref (ad 207), .ref (ad 208), .int (r 13), .int (r 14), .int (r 15), .int (r 16), .int (r 17), .ref (ad 209), .ref (ad 210), .ref (ad 211), .int (r 21), .ref (ad 212), .ref (ad 213), .ref (ad 214), .ref (ad 215), .ref (ad 216)]) (fun _ _ => rfl) rfl 3 (by decide) (hts _ (List.mem_cons_of_mem _ k481)) (fun _ h => h) rfl (ty := .int) rfl rfl rfl (by simp) (fun _ => rfl) dX3_date_135 (fun H locs hR hS => ?_)
        have hR : tR D vwCl base ad (tC (wP n ad cs) (gMD (gT I 0) nd p0 p1) L) H := by rw [va_up_ne _ _ (show (200 : Nat) ≠ 203 by omega), gM1_ne _ _ _ _ (by omega), gM1_ne _ _ _ _ (by omega)] at hR; exact hR
        refine lv_aload_n hx hb dX3_date_138 rfl (lv_at hl 1 rfl) ?_
        refine kc_v (va_runV (As := []) (rest := []) ⟨hx, hb, hml, hown, hts⟩ (mX3_gone (gMD (gT I 0) nd p0 p1) L) (cwV 0 hts (kw_V k575 k577 ks26 k5 k578) rfl rfl rfl (by decide +kernel) ⟨Nat.le_of_ble_eq_true rfl, Nat.le_of_ble_eq_true rfl⟩) (kB_preV hE hR hS 200 rfl rfl []) rfl rfl hl.1 rfl (lv_room (Nat.le_of_ble_eq_true rfl)) dX3_date_139 ⟨Nat.le_of_ble_eq_true rfl, Nat.le_of_ble_eq_true rfl⟩) hS (fun u H locs hw hR hS => ?_)
        subst hw
        have hR : tR D vwCl base ad (tC (wP n ad cs) (gG (gMD (gT I 0) nd p0 p1)) L) H := hR
        refine lv_aload_n hx hb dX3_date_142 rfl (lv_at hl 1 rfl) ?_
        refine tb_get hx hb hts (fun w h => List.mem_cons_of_mem _ (inX3 w h)) hown hK hR 200 rfl rfl 3 (by decide) (hts _ (List.mem_cons_of_mem _ k481)) (fun _ h => h) rfl dX3_date_143 ?_
        rw [show (gG (gMD (gT I 0) nd p0 p1)) 200 3 = nI (nd + 1) from (by unfold gG; rw [va_up_self, pk_un (by omega), pk_un (by omega)]; unfold gMD; rw [va_up_self, pk_us])]
        refine lv_iconst (v := 1) hx hb dX3_date_146 (by decide) ?_
        refine lv_isub hx hb dX3_date_147 ?_
        rw [nI_pred]
        exact W.iret (v := nI nd) hx hb hr (fun t ht hW => ⟨⟨_, (gG (gMD (gT I 0) nd p0 p1), L), rfl, Or.inr (Or.inr (Or.inr ⟨t1, t2, t3, rfl, rfl⟩)), by show tR _ _ _ _ _ t.heap; rw [ht]; exact hR⟩, hS.F ht⟩) hS.2.2 dX3_date_148
    · refine lv_aload_n hx hb dX3_date_43 rfl (lv_at hl 1 rfl) ?_
      refine tb_get hx hb hts (fun w h => List.mem_cons_of_mem _ (inX3 w h)) hown hK hR 200 rfl rfl 3 (by decide) (hts _ (List.mem_cons_of_mem _ k481)) (fun _ h => h) rfl dX3_date_44 ?_
      rw [show I 200 3 = nI nd from hnd]
      refine lv_bipush (v := 8) hx hb dX3_date_47 (by decide) ?_
      refine lv_icmp_ne (tgt := 56) hx hb dX3_date_49 (by decide) (fun c1 => ?_) (fun c1 => ?_)
      · refine lv_iconst (v := 0) hx hb dX3_date_56 (by decide) ?_
        exact Kx2 _ _ _ (bZ0 (fun z => z (by have q : ¬ nd = 8 := fun e => c1 (by rw [e]; rfl); omega))) ⟨hR, hS⟩
      · refine lv_iconst (v := 1) hx hb dX3_date_52 (by decide) ?_
        refine lv_goto (tgt := 57) hx hb dX3_date_53 (by decide) ?_
        exact Kx2 _ _ _ (bZ1 (fun z => absurd ((nI_eq (by omega) (by decide)).mp (show nI nd = nI 8 from c1)) (by omega))) ⟨hR, hS⟩
  · refine lv_iload_n hx hb dX3_date_0 rfl (lv_at hl 1 rfl) ?_
    refine lv_iconst (v := 0) hx hb dX3_date_1 (by decide) ?_
    refine lv_sipush (v := 255) hx hb dX3_date_2 (by decide) ?_
    refine kc_i (va_runS (As := [.int p0, .int 0, .int 255]) (rest := []) ⟨hx, hb, hml, hown, hts⟩ (mX3_in I L p0 0 255) (va_cwS 3 hts (kw_S k568 k569 k5 k570) rfl rfl rfl (by decide +kernel) ⟨Nat.le_of_ble_eq_true rfl, Nat.le_of_ble_eq_true rfl⟩) (kB_pre hE hR hS [.int p0, .int 0, .int 255]) rfl rfl hl.1 rfl (lv_room (Nat.le_of_ble_eq_true rfl)) dX3_date_5 ⟨Nat.le_of_ble_eq_true rfl, Nat.le_of_ble_eq_true rfl⟩) hS (fun r u H locs hw hR hS => ?_)
    obtain ⟨q2, rfl⟩ := hw
    have hR : tR D vwCl base ad (tC (wP n ad cs) I L) H := hR
    have q2 : bZ (inN 256 p0) r := q2.iff ((inR_iff (a := 0) (b := 255) (by decide) (by decide)).trans (inRN (N := 256) (by decide)))
    refine lv_if_eq (tgt := 35) hx hb dX3_date_8 (by decide) (fun c3 => ?_) (fun c3 => ?_)
    · refine lv_iconst (v := 1) hx hb dX3_date_35 (by decide) ?_
      refine lv_goto (tgt := 40) hx hb dX3_date_36 (by decide) ?_
      exact Kx1 _ _ _ (bZ1 (fun z => q2.f c3 z.1)) ⟨hR, hS⟩
    · have hp0 := q2.t c3
      refine lv_iload_n hx hb dX3_date_11 rfl (lv_at hl 2 rfl) ?_
      refine lv_iconst (v := 0) hx hb dX3_date_12 (by decide) ?_
      refine lv_sipush (v := 255) hx hb dX3_date_13 (by decide) ?_
      refine kc_i (va_runS (As := [.int p1, .int 0, .int 255]) (rest := []) ⟨hx, hb, hml, hown, hts⟩ (mX3_in I L p1 0 255) (va_cwS 3 hts (kw_S k568 k569 k5 k570) rfl rfl rfl (by decide +kernel) ⟨Nat.le_of_ble_eq_true rfl, Nat.le_of_ble_eq_true rfl⟩) (kB_pre hE hR hS [.int p1, .int 0, .int 255]) rfl rfl hl.1 rfl (lv_room (Nat.le_of_ble_eq_true rfl)) dX3_date_16 ⟨Nat.le_of_ble_eq_true rfl, Nat.le_of_ble_eq_true rfl⟩) hS (fun r u H locs hw hR hS => ?_)
      obtain ⟨q4, rfl⟩ := hw
      have hR : tR D vwCl base ad (tC (wP n ad cs) I L) H := hR
      have q4 : bZ (inN 256 p1) r := q4.iff ((inR_iff (a := 0) (b := 255) (by decide) (by decide)).trans (inRN (N := 256) (by decide)))
      refine lv_if_eq (tgt := 35) hx hb dX3_date_19 (by decide) (fun c5 => ?_) (fun c5 => ?_)
      · refine lv_iconst (v := 1) hx hb dX3_date_35 (by decide) ?_
        refine lv_goto (tgt := 40) hx hb dX3_date_36 (by decide) ?_
        exact Kx1 _ _ _ (bZ1 (fun z => q4.f c5 z.2.1)) ⟨hR, hS⟩
      · have hp1 := q4.t c5
        refine lv_iload_n hx hb dX3_date_22 rfl (lv_at hl 1 rfl) ?_
        refine lv_iload_n hx hb dX3_date_23 rfl (lv_at hl 2 rfl) ?_
        refine lv_icmp_gt (tgt := 35) hx hb dX3_date_24 (by decide) (fun c6 => ?_) (fun c6 => ?_)
        · refine lv_iconst (v := 1) hx hb dX3_date_35 (by decide) ?_
          refine lv_goto (tgt := 40) hx hb dX3_date_36 (by decide) ?_
          exact Kx1 _ _ _ (bZ1 (fun z => i_lt_n c6 z.2.2.1)) ⟨hR, hS⟩
        · refine lv_iload_n hx hb dX3_date_27 rfl (lv_at hl 2 rfl) ?_
          refine lv_iload_n hx hb dX3_date_28 rfl (lv_at hl 1 rfl) ?_
          refine lv_isub hx hb dX3_date_29 ?_
          refine lv_bipush (v := 63) hx hb dX3_date_30 (by decide) ?_
          refine lv_icmp_le (tgt := 39) hx hb dX3_date_32 (by decide) (fun c7 => ?_) (fun c7 => ?_)
          · refine lv_iconst (v := 0) hx hb dX3_date_39 (by decide) ?_
            exact Kx1 _ _ _ (bZ0 (fun z => z ⟨hp0, hp1, i_nlt c6, c7⟩)) ⟨hR, hS⟩
          · refine lv_iconst (v := 1) hx hb dX3_date_35 (by decide) ?_
            refine lv_goto (tgt := 40) hx hb dX3_date_36 (by decide) ?_
            exact Kx1 _ _ _ (bZ1 (fun z => c7 z.2.2.2)) ⟨hR, hS⟩
set_option maxHeartbeats 4000000 in
set_option maxRecDepth 100000 in
theorem mX3_weight (I : tI) (L : tL) {nd no : Nat} {f la : Nat → Nat} {ph : Nat → Int32} {w : Nat → Nat → Nat} {ea lt le mo : Nat → Nat} (p0 p1 p2 : Int32) (hMs : cMs I nd no f la ph w ea lt le mo) (hwf : wfS nd no f la w ea lt le mo) : Met l yX3_weight wX3_weight ({ frames := 3, cells := 0, slots := 0, locals := 90 }) (va_Pc [.ref (ad 200), .int p0, .int p1, .int p2] (kB D cs base sa n ad I L)) (va_Qi (fun (r : Int32) (u : tI × tL) => pM I L (¬ yOk nd f la p0 p1) (¬ inR 1 1000 p2) False (fun r u => ∃ d j, d < nd ∧ p0 = nI d ∧ p1 = nI (f d + j) ∧ f d + j ≤ la d ∧ r = nI (w d j) ∧ u = (gG (va_up (gT I 0) 203 (upd (gT I 0 203) (64 * d + j) p2)), L)) r u) (kA D cs base n ad) (fun q => base ≤ q)) 0 0 (fun q => base ≤ q) := by
  refine Met.ofW (cc := cX3_weight) (maxL := 5) (ret := (some .int)) (by decide) rfl ?_
  intro p e s m args below meth c s₁ Bd hml hv
  obtain ⟨rfl, hE, hR⟩ := hv
  have hx := Bd.exec
  have hb := Bd.bytes
  have hr := Bd.returns
  have hts := atoms_spec (ws := wX3_weight) Bd.pre
  have hown : s.vm.findClass RX3 = some m.cls := findClass_of_methodNamed Bd.named
  have hlocks := Bd.notSynchronized
  have hK := hE.K
  have hS : va_S (fun q => base ≤ q) s.heap s.heap [] := va_S.rf
  have hR : tR D vwCl base ad (tC (wP n ad cs) I L) s.heap := hR
  have hl := lv_entry ([.ref (ad 200), .int p0, .int p1, .int p2]) (n := 5) (Nat.le_of_ble_eq_true rfl)
  rw [lg_entry_eq]
  generalize (lg_sl ([.ref (ad 200), .int p0, .int p1, .int p2]) ++ List.replicate (5 - (lg_sl ([.ref (ad 200), .int p0, .int p1, .int p2])).length) Slot.unset).toArray = ls at hl ⊢
  have hl : lv_has ls 5 [(0, .ref (ad 200)), (1, .int p0), (2, .int p1), (3, .int p2)] := hl
  obtain ⟨h_nd, h_no, h_d, h_o⟩ := id hwf
  refine lv_aload_n hx hb dX3_weight_0 rfl (lv_at hl 0 rfl) ?_
  refine jnW (P := ¬ yOk nd f la p0 p1) 15 (fun x1 => .int x1 :: [.ref (ad 200)]) (fun H locs => tR D vwCl base ad (tC (wP n ad cs) I L) H ∧ va_S (fun q => base ≤ q) s.heap H locs) (fun x1 H locs hx1 hT => ?_) (fun Kx1 => ?_)
  · obtain ⟨hR, hS⟩ := hT
    refine jnW (P := ¬ inR 1 1000 p2) 31 (fun x2 => .int x2 :: [.int x1, .ref (ad 200)]) (fun H locs => tR D vwCl base ad (tC (wP n ad cs) I L) H ∧ va_S (fun q => base ≤ q) s.heap H locs) (fun x2 H locs hx2 hT => ?_) (fun Kx2 => ?_)
    · obtain ⟨hR, hS⟩ := hT
      refine lv_iconst (v := 0) hx hb dX3_weight_31 (by decide) ?_
      refine kc_i (va_runV (As := [.int x1, .int x2, .int 0]) (rest := []) ⟨hx, hb, hml, hown, hts⟩ (mX3_throwing I L x1 x2 0 (P1 := (¬ yOk nd f la p0 p1)) (P2 := (¬ inR 1 1000 p2)) (P3 := False) hx1 hx2 (bZ0 (fun z => z))) (cwV 3 hts (kw_V k571 k573 ks25 k5 k574) rfl rfl rfl (by decide +kernel) ⟨Nat.le_of_ble_eq_true rfl, Nat.le_of_ble_eq_true rfl⟩) (kB_preV hE hR hS 200 rfl rfl [.int x1, .int x2, .int 0]) rfl rfl hl.1 rfl (lv_room (Nat.le_of_ble_eq_true rfl)) dX3_weight_32 ⟨Nat.le_of_ble_eq_true rfl, Nat.le_of_ble_eq_true rfl⟩) hS (fun r u H locs hw hR hS => ?_)
      rcases hw with ⟨t1, rfl, rfl⟩ | ⟨t1, t2, rfl, rfl⟩ | ⟨t1, t2, t3, rfl, rfl⟩ | ⟨t1, t2, t3, rfl, rfl⟩
      · have hR : tR D vwCl base ad (tC (wP n ad cs) (gT I 1) L) H := hR
        refine lv_if_eq (tgt := 40) hx hb dX3_weight_35 (by decide) (fun c9 => absurd c9 (by decide)) (fun c9 => ?_)
        refine lv_iconst (v := 0) hx hb dX3_weight_38 (by decide) ?_
        exact W.iret (v := 0) hx hb hr (fun t ht hW => ⟨⟨_, (gT I 1, L), rfl, Or.inl ⟨t1, rfl, rfl⟩, by show tR _ _ _ _ _ t.heap; rw [ht]; exact hR⟩, hS.F ht⟩) hS.2.2 dX3_weight_39
      · have hR : tR D vwCl base ad (tC (wP n ad cs) (gT I 2) L) H := hR
        refine lv_if_eq (tgt := 40) hx hb dX3_weight_35 (by decide) (fun c9 => absurd c9 (by decide)) (fun c9 => ?_)
        refine lv_iconst (v := 0) hx hb dX3_weight_38 (by decide) ?_
        exact W.iret (v := 0) hx hb hr (fun t ht hW => ⟨⟨_, (gT I 2, L), rfl, Or.inr (Or.inl ⟨t1, t2, rfl, rfl⟩), by show tR _ _ _ _ _ t.heap; rw [ht]; exact hR⟩, hS.F ht⟩) hS.2.2 dX3_weight_39
      · exact t3.elim
      · have hR : tR D vwCl base ad (tC (wP n ad cs) (gT I 0) L) H := hR
        refine lv_if_eq (tgt := 40) hx hb dX3_weight_35 (by decide) (fun c9 => ?_) (fun c9 => absurd rfl c9)
        have hy := Classical.byContradiction (fun z => t1 z)
        obtain ⟨_, d, j, hd, rfl, rfl, hj⟩ := id hy
        obtain ⟨g1, g2, g3, g4⟩ := h_d d hd
        have hMs := hMs.gT 0
        refine lv_aload_n hx hb dX3_weight_40 rfl (lv_at hl 0 rfl) ?_
        refine lv_iload_n hx hb dX3_weight_41 rfl (lv_at hl 1 rfl) ?_
        refine lv_iload_n hx hb dX3_weight_42 rfl (lv_at hl 2 rfl) ?_
        refine kc_i (va_runV (As := [.int (nI d), .int (nI (f d + j))]) (rest := []) ⟨hx, hb, hml, hown, hts⟩ (mX3_weightOf (gT I 0) L d (f d + j) hMs hwf hd (by omega) (by omega)) (cwV 2 hts (kw_V k591 k593 ks29 k5 k594) rfl rfl rfl (by decide +kernel) ⟨Nat.le_of_ble_eq_true rfl, Nat.le_of_ble_eq_true rfl⟩) (kB_preV hE hR hS 200 rfl rfl [.int (nI d), .int (nI (f d + j))]) rfl rfl hl.1 rfl (lv_room (Nat.le_of_ble_eq_true rfl)) dX3_weight_43 ⟨Nat.le_of_ble_eq_true rfl, Nat.le_of_ble_eq_true rfl⟩) hS (fun r u H locs hw hR hS => ?_)
        obtain ⟨rfl, rfl⟩ := hw
        have hR : tR D vwCl base ad (tC (wP n ad cs) (gT I 0) L) H := hR
        rw [show (nI (w d (f d + j - f d))) = nI (w d j) from (by rw [show f d + j - f d = j by omega])]
        refine lv_istore (lv' := [(4, .int (nI (w d j))), (0, .ref (ad 200)), (1, .int (nI d)), (2, .int (nI (f d + j))), (3, .int p2)]) hx hb dX3_weight_46 hl (by decide) rfl (fun ls hl => ?_)
        refine lv_aload_n hx hb dX3_weight_48 rfl (lv_at hl 1 rfl) ?_
        refine tb_get hx hb hts (fun w h => List.mem_cons_of_mem _ (inX3 w h)) hown hK hR 200 rfl rfl 6 (by decide) (hts _ (List.mem_cons_of_mem _ k484)) (fun _ h => h) rfl dX3_weight_49 ?_
        refine lv_bipush (v := nI 64) hx hb dX3_weight_52 (by decide) ?_
        refine lv_iload_n hx hb dX3_weight_54 rfl (lv_at hl 2 rfl) ?_
        refine lv_imul hx hb dX3_weight_55 ?_
        rw [pk_mul]
        refine lv_iload_n hx hb dX3_weight_56 rfl (lv_at hl 3 rfl) ?_
        refine lv_iadd hx hb dX3_weight_57 ?_
        rw [nI_add]
        refine lv_aload_n hx hb dX3_weight_58 rfl (lv_at hl 1 rfl) ?_
        refine tb_get hx hb hts (fun w h => List.mem_cons_of_mem _ (inX3 w h)) hown hK hR 200 rfl rfl 4 (by decide) (hts _ (List.mem_cons_of_mem _ k482)) (fun _ h => h) rfl dX3_weight_59 ?_
        refine lv_iload_n hx hb dX3_weight_62 rfl (lv_at hl 2 rfl) ?_
        refine tp_iald hx hb hK hR 201 0 (fun _ _ => rfl) rfl d rfl (by omega) (by decide) dX3_weight_63 ?_
        rw [show (gT I 0) 201 d = nI (f d) from (hMs.2.2.1 d (by omega)).1]
        refine lv_isub hx hb dX3_weight_64 ?_
        rw [pk_sub (by omega), show 64 * d + (f d + j) - f d = 64 * d + j by omega]
        refine lv_iload_n hx hb dX3_weight_65 rfl (lv_at hl 4 rfl) ?_
        refine tp_iast hx hb hK hR hS 203 0 (fun _ _ => rfl) rfl (64 * d + j) rfl (by omega) (by decide) dX3_weight_66 (fun H locs hR hS => ?_)
        refine lv_aload_n hx hb dX3_weight_67 rfl (lv_at hl 1 rfl) ?_
        refine kc_v (va_runV (As := []) (rest := []) ⟨hx, hb, hml, hown, hts⟩ (mX3_gone (va_up (gT I 0) 203 (upd ((gT I 0) 203) (64 * d + j) p2)) L) (cwV 0 hts (kw_V k575 k577 ks26 k5 k578) rfl rfl rfl (by decide +kernel) ⟨Nat.le_of_ble_eq_true rfl, Nat.le_of_ble_eq_true rfl⟩) (kB_preV hE hR hS 200 rfl rfl []) rfl rfl hl.1 rfl (lv_room (Nat.le_of_ble_eq_true rfl)) dX3_weight_68 ⟨Nat.le_of_ble_eq_true rfl, Nat.le_of_ble_eq_true rfl⟩) hS (fun u H locs hw hR hS => ?_)
        subst hw
        have hR : tR D vwCl base ad (tC (wP n ad cs) (gG (va_up (gT I 0) 203 (upd ((gT I 0) 203) (64 * d + j) p2))) L) H := hR
        refine lv_iload hx hb dX3_weight_71 (lv_at hl 0 rfl) ?_
        exact W.iret (v := nI (w d j)) hx hb hr (fun t ht hW => ⟨⟨_, (gG (va_up (gT I 0) 203 (upd (gT I 0 203) (64 * d + j) p2)), L), rfl, Or.inr (Or.inr (Or.inr ⟨t1, t2, t3, d, j, hd, rfl, rfl, hj, rfl, rfl⟩)), by show tR _ _ _ _ _ t.heap; rw [ht]; exact hR⟩, hS.F ht⟩) hS.2.2 dX3_weight_73
    · refine lv_iload_n hx hb dX3_weight_15 rfl (lv_at hl 3 rfl) ?_
      refine lv_iconst (v := 1) hx hb dX3_weight_16 (by decide) ?_
      refine lv_sipush (v := 1000) hx hb dX3_weight_17 (by decide) ?_
      refine kc_i (va_runS (As := [.int p2, .int 1, .int 1000]) (rest := [.int x1, .ref (ad 200)]) ⟨hx, hb, hml, hown, hts⟩ (mX3_in I L p2 1 1000) (va_cwS 3 hts (kw_S k568 k569 k5 k570) rfl rfl rfl (by decide +kernel) ⟨Nat.le_of_ble_eq_true rfl, Nat.le_of_ble_eq_true rfl⟩) (kB_pre hE hR hS [.int p2, .int 1, .int 1000]) rfl rfl hl.1 rfl (lv_room (Nat.le_of_ble_eq_true rfl)) dX3_weight_20 ⟨Nat.le_of_ble_eq_true rfl, Nat.le_of_ble_eq_true rfl⟩) hS (fun r u H locs hw hR hS => ?_)
      obtain ⟨q1, rfl⟩ := hw
      have hR : tR D vwCl base ad (tC (wP n ad cs) I L) H := hR
      have q1 : bZ (inR 1 1000 p2) r := q1.iff (inR_iff (by decide) (by decide))
      refine lv_if_ne (tgt := 30) hx hb dX3_weight_23 (by decide) (fun c2 => ?_) (fun c2 => ?_)
      · refine lv_iconst (v := 0) hx hb dX3_weight_30 (by decide) ?_
        exact Kx2 _ _ _ (bZ0 (fun z => z (q1.t c2))) ⟨hR, hS⟩
      · refine lv_iconst (v := 1) hx hb dX3_weight_26 (by decide) ?_
        refine lv_goto (tgt := 31) hx hb dX3_weight_27 (by decide) ?_
        exact Kx2 _ _ _ (bZ1 (q1.f c2)) ⟨hR, hS⟩
  · refine lv_aload_n hx hb dX3_weight_1 rfl (lv_at hl 0 rfl) ?_
    refine lv_iload_n hx hb dX3_weight_2 rfl (lv_at hl 1 rfl) ?_
    refine lv_iload_n hx hb dX3_weight_3 rfl (lv_at hl 2 rfl) ?_
    refine kc_i (va_runV (As := [.int p0, .int p1]) (rest := [.ref (ad 200)]) ⟨hx, hb, hml, hown, hts⟩ (mX3_hasYear I L p0 p1 hMs hwf) (cwV 2 hts (kw_V k583 k585 ks27 k5 k586) rfl rfl rfl (by decide +kernel) ⟨Nat.le_of_ble_eq_true rfl, Nat.le_of_ble_eq_true rfl⟩) (kB_preV hE hR hS 200 rfl rfl [.int p0, .int p1]) rfl rfl hl.1 rfl (lv_room (Nat.le_of_ble_eq_true rfl)) dX3_weight_4 ⟨Nat.le_of_ble_eq_true rfl, Nat.le_of_ble_eq_true rfl⟩) hS (fun r u H locs hw hR hS => ?_)
    obtain ⟨hyo, rfl⟩ := hw
    have hR : tR D vwCl base ad (tC (wP n ad cs) I L) H := hR
    refine lv_if_ne (tgt := 14) hx hb dX3_weight_7 (by decide) (fun c3 => ?_) (fun c3 => ?_)
    · refine lv_iconst (v := 0) hx hb dX3_weight_14 (by decide) ?_
      exact Kx1 _ _ _ (bZ0 (fun z => z (hyo.t c3))) ⟨hR, hS⟩
    · refine lv_iconst (v := 1) hx hb dX3_weight_10 (by decide) ?_
      refine lv_goto (tgt := 15) hx hb dX3_weight_11 (by decide) ?_
      exact Kx1 _ _ _ (bZ1 (hyo.f c3)) ⟨hR, hS⟩
set_option maxHeartbeats 4000000 in
set_option maxRecDepth 100000 in
theorem mX3_before (I : tI) (L : tL) (nd no : Nat) (p0 p1 p2 p3 : Int32) (hnd : I 200 3 = nI nd) (h8 : nd ≤ 8) (hno : I 200 8 = nI no) (h24 : no ≤ 24) : Met l yX3_before wX3_before ({ frames := 3, cells := 0, slots := 0, locals := 90 }) (va_Pc [.ref (ad 200), .int p0, .int p1, .int p2, .int p3] (kB D cs base sa n ad I L)) (va_Qi (fun (r : Int32) (u : tI × tL) => pM I L (¬ bOk nd p0 p1) (¬ bOk2 p0 p1 p2 p3) (¬ no < 24) (fun r u => r = nI no ∧ u = (gG (gMO (gT I 0) no p0 p1 p2 p3), L)) r u) (kA D cs base n ad) (fun q => base ≤ q)) 0 0 (fun q => base ≤ q) := by
  refine Met.ofW (cc := cX3_before) (maxL := 6) (ret := (some .int)) (by decide) rfl ?_
  intro p e s m args below meth c s₁ Bd hml hv
  obtain ⟨rfl, hE, hR⟩ := hv
  have hx := Bd.exec
  have hb := Bd.bytes
  have hr := Bd.returns
  have hts := atoms_spec (ws := wX3_before) Bd.pre
  have hown : s.vm.findClass RX3 = some m.cls := findClass_of_methodNamed Bd.named
  have hlocks := Bd.notSynchronized
  have hK := hE.K
  have hS : va_S (fun q => base ≤ q) s.heap s.heap [] := va_S.rf
  have hR : tR D vwCl base ad (tC (wP n ad cs) I L) s.heap := hR
  have hl := lv_entry ([.ref (ad 200), .int p0, .int p1, .int p2, .int p3]) (n := 6) (Nat.le_of_ble_eq_true rfl)
  rw [lg_entry_eq]
  generalize (lg_sl ([.ref (ad 200), .int p0, .int p1, .int p2, .int p3]) ++ List.replicate (6 - (lg_sl ([.ref (ad 200), .int p0, .int p1, .int p2, .int p3])).length) Slot.unset).toArray = ls at hl ⊢
  have hl : lv_has ls 6 [(0, .ref (ad 200)), (1, .int p0), (2, .int p1), (3, .int p2), (4, .int p3)] := hl
  refine jnW (P := ¬ bOk2 p0 p1 p2 p3) 39 (fun x1 => [.int x1]) (fun H locs => tR D vwCl base ad (tC (wP n ad cs) I L) H ∧ va_S (fun q => base ≤ q) s.heap H locs) (fun x1 H locs hx1 hT => ?_) (fun Kx1 => ?_)
  · obtain ⟨hR, hS⟩ := hT
    refine lv_istore (lv' := [(5, .int x1), (0, .ref (ad 200)), (1, .int p0), (2, .int p1), (3, .int p2), (4, .int p3)]) hx hb dX3_before_39 hl (by decide) rfl (fun ls hl => ?_)
    refine lv_aload_n hx hb dX3_before_41 rfl (lv_at hl 1 rfl) ?_
    refine jnW (P := ¬ bOk nd p0 p1) 63 (fun x2 => .int x2 :: [.ref (ad 200)]) (fun H locs => tR D vwCl base ad (tC (wP n ad cs) I L) H ∧ va_S (fun q => base ≤ q) s.heap H locs) (fun x2 H locs hx2 hT => ?_) (fun Kx2 => ?_)
    · obtain ⟨hR, hS⟩ := hT
      refine lv_iload hx hb dX3_before_63 (lv_at hl 0 rfl) ?_
      refine jnW (P := ¬ no < 24) 79 (fun x3 => .int x3 :: [.int x1, .int x2, .ref (ad 200)]) (fun H locs => tR D vwCl base ad (tC (wP n ad cs) I L) H ∧ va_S (fun q => base ≤ q) s.heap H locs) (fun x3 H locs hx3 hT => ?_) (fun Kx3 => ?_)
      · obtain ⟨hR, hS⟩ := hT
        refine kc_i (va_runV (As := [.int x2, .int x1, .int x3]) (rest := []) ⟨hx, hb, hml, hown, hts⟩ (mX3_throwing I L x2 x1 x3 (P1 := (¬ bOk nd p0 p1)) (P2 := (¬ bOk2 p0 p1 p2 p3)) (P3 := (¬ no < 24)) hx2 hx1 hx3) (cwV 3 hts (kw_V k571 k573 ks25 k5 k574) rfl rfl rfl (by decide +kernel) ⟨Nat.le_of_ble_eq_true rfl, Nat.le_of_ble_eq_true rfl⟩) (kB_preV hE hR hS 200 rfl rfl [.int x2, .int x1, .int x3]) rfl rfl hl.1 rfl (lv_room (Nat.le_of_ble_eq_true rfl)) dX3_before_79 ⟨Nat.le_of_ble_eq_true rfl, Nat.le_of_ble_eq_true rfl⟩) hS (fun r u H locs hw hR hS => ?_)
        rcases hw with ⟨t1, rfl, rfl⟩ | ⟨t1, t2, rfl, rfl⟩ | ⟨t1, t2, t3, rfl, rfl⟩ | ⟨t1, t2, t3, rfl, rfl⟩
        · have hR : tR D vwCl base ad (tC (wP n ad cs) (gT I 1) L) H := hR
          refine lv_if_eq (tgt := 87) hx hb dX3_before_82 (by decide) (fun c9 => absurd c9 (by decide)) (fun c9 => ?_)
          refine lv_iconst (v := 0) hx hb dX3_before_85 (by decide) ?_
          exact W.iret (v := 0) hx hb hr (fun t ht hW => ⟨⟨_, (gT I 1, L), rfl, Or.inl ⟨t1, rfl, rfl⟩, by show tR _ _ _ _ _ t.heap; rw [ht]; exact hR⟩, hS.F ht⟩) hS.2.2 dX3_before_86
        · have hR : tR D vwCl base ad (tC (wP n ad cs) (gT I 2) L) H := hR
          refine lv_if_eq (tgt := 87) hx hb dX3_before_82 (by decide) (fun c9 => absurd c9 (by decide)) (fun c9 => ?_)
          refine lv_iconst (v := 0) hx hb dX3_before_85 (by decide) ?_
          exact W.iret (v := 0) hx hb hr (fun t ht hW => ⟨⟨_, (gT I 2, L), rfl, Or.inr (Or.inl ⟨t1, t2, rfl, rfl⟩), by show tR _ _ _ _ _ t.heap; rw [ht]; exact hR⟩, hS.F ht⟩) hS.2.2 dX3_before_86
        · have hR : tR D vwCl base ad (tC (wP n ad cs) (gT I 3) L) H := hR
          refine lv_if_eq (tgt := 87) hx hb dX3_before_82 (by decide) (fun c9 => absurd c9 (by decide)) (fun c9 => ?_)
          refine lv_iconst (v := 0) hx hb dX3_before_85 (by decide) ?_
          exact W.iret (v := 0) hx hb hr (fun t ht hW => ⟨⟨_, (gT I 3, L), rfl, Or.inr (Or.inr (Or.inl ⟨t1, t2, t3, rfl, rfl⟩)), by show tR _ _ _ _ _ t.heap; rw [ht]; exact hR⟩, hS.F ht⟩) hS.2.2 dX3_before_86
        · have hR : tR D vwCl base ad (tC (wP n ad cs) (gT I 0) L) H := hR
          refine lv_if_eq (tgt := 87) hx hb dX3_before_82 (by decide) (fun c9 => ?_) (fun c9 => absurd rfl c9)
          have hlt : no < 24 := Classical.byContradiction (fun z => t3 z)
          have hno : gT I 0 200 8 = nI no := by rw [gT_i I 0 (by omega)]; exact hno
          refine lv_aload_n hx hb dX3_before_87 rfl (lv_at hl 1 rfl) ?_
          refine tb_get hx hb hts (fun w h => List.mem_cons_of_mem _ (inX3 w h)) hown hK hR 200 rfl rfl 9 (by decide) (hts _ (List.mem_cons_of_mem _ k487)) (fun _ h => h) rfl dX3_before_88 ?_
          refine lv_aload_n hx hb dX3_before_91 rfl (lv_at hl 1 rfl) ?_
          refine tb_get hx hb hts (fun w h => List.mem_cons_of_mem _ (inX3 w h)) hown hK hR 200 rfl rfl 8 (by decide) (hts _ (List.mem_cons_of_mem _ k486)) (fun _ h => h) rfl dX3_before_92 ?_
          rw [show (gT I 0) 200 8 = nI no from (by first | exact hno | (rw [va_up_ne _ _ (by omega)]; exact hno) | (rw [va_up_ne _ _ (by omega), va_up_ne _ _ (by omega)]; exact hno) | (rw [va_up_ne _ _ (by omega), va_up_ne _ _ (by omega), va_up_ne _ _ (by omega)]; exact hno) | (rw [va_up_ne _ _ (by omega), va_up_ne _ _ (by omega), va_up_ne _ _ (by omega), va_up_ne _ _ (by omega)]; exact hno))]
          refine lv_iload_n hx hb dX3_before_95 rfl (lv_at hl 2 rfl) ?_
          refine tp_iast hx hb hK hR hS 205 0 (fun _ _ => rfl) rfl no rfl (by omega) (by decide) dX3_before_96 (fun H locs hR hS => ?_)
          refine lv_aload_n hx hb dX3_before_97 rfl (lv_at hl 1 rfl) ?_
          refine tb_get hx hb hts (fun w h => List.mem_cons_of_mem _ (inX3 w h)) hown hK hR 200 rfl rfl 10 (by decide) (hts _ (List.mem_cons_of_mem _ k488)) (fun _ h => h) rfl dX3_before_98 ?_
          refine lv_aload_n hx hb dX3_before_101 rfl (lv_at hl 1 rfl) ?_
          refine tb_get hx hb hts (fun w h => List.mem_cons_of_mem _ (inX3 w h)) hown hK hR 200 rfl rfl 8 (by decide) (hts _ (List.mem_cons_of_mem _ k486)) (fun _ h => h) rfl dX3_before_102 ?_
          rw [show (va_up (gT I 0) 205 (upd ((gT I 0) 205) no p0)) 200 8 = nI no from (by first | exact hno | (rw [va_up_ne _ _ (by omega)]; exact hno) | (rw [va_up_ne _ _ (by omega), va_up_ne _ _ (by omega)]; exact hno) | (rw [va_up_ne _ _ (by omega), va_up_ne _ _ (by omega), va_up_ne _ _ (by omega)]; exact hno) | (rw [va_up_ne _ _ (by omega), va_up_ne _ _ (by omega), va_up_ne _ _ (by omega), va_up_ne _ _ (by omega)]; exact hno))]
          refine lv_iload_n hx hb dX3_before_105 rfl (lv_at hl 3 rfl) ?_
          refine tp_iast hx hb hK hR hS 206 0 (fun _ _ => rfl) rfl no rfl (by omega) (by decide) dX3_before_106 (fun H locs hR hS => ?_)
          refine lv_aload_n hx hb dX3_before_107 rfl (lv_at hl 1 rfl) ?_
          refine tb_get hx hb hts (fun w h => List.mem_cons_of_mem _ (inX3 w h)) hown hK hR 200 rfl rfl 11 (by decide) (hts _ (List.mem_cons_of_mem _ k489)) (fun _ h => h) rfl dX3_before_108 ?_
          refine lv_aload_n hx hb dX3_before_111 rfl (lv_at hl 1 rfl) ?_
          refine tb_get hx hb hts (fun w h => List.mem_cons_of_mem _ (inX3 w h)) hown hK hR 200 rfl rfl 8 (by decide) (hts _ (List.mem_cons_of_mem _ k486)) (fun _ h => h) rfl dX3_before_112 ?_
          rw [show (va_up (va_up (gT I 0) 205 (upd ((gT I 0) 205) no p0)) 206 (upd ((va_up (gT I 0) 205 (upd ((gT I 0) 205) no p0)) 206) no p1)) 200 8 = nI no from (by first | exact hno | (rw [va_up_ne _ _ (by omega)]; exact hno) | (rw [va_up_ne _ _ (by omega), va_up_ne _ _ (by omega)]; exact hno) | (rw [va_up_ne _ _ (by omega), va_up_ne _ _ (by omega), va_up_ne _ _ (by omega)]; exact hno) | (rw [va_up_ne _ _ (by omega), va_up_ne _ _ (by omega), va_up_ne _ _ (by omega), va_up_ne _ _ (by omega)]; exact hno))]
          refine lv_iload_n hx hb dX3_before_115 rfl (lv_at hl 4 rfl) ?_
          refine tp_iast hx hb hK hR hS 207 0 (fun _ _ => rfl) rfl no rfl (by omega) (by decide) dX3_before_116 (fun H locs hR hS => ?_)
          refine lv_aload_n hx hb dX3_before_117 rfl (lv_at hl 1 rfl) ?_
          refine tb_get hx hb hts (fun w h => List.mem_cons_of_mem _ (inX3 w h)) hown hK hR 200 rfl rfl 12 (by decide) (hts _ (List.mem_cons_of_mem _ k490)) (fun _ h => h) rfl dX3_before_118 ?_
          refine lv_aload_n hx hb dX3_before_121 rfl (lv_at hl 1 rfl) ?_
          refine tb_get hx hb hts (fun w h => List.mem_cons_of_mem _ (inX3 w h)) hown hK hR 200 rfl rfl 8 (by decide) (hts _ (List.mem_cons_of_mem _ k486)) (fun _ h => h) rfl dX3_before_122 ?_
          rw [show (va_up (va_up (va_up (gT I 0) 205 (upd ((gT I 0) 205) no p0)) 206 (upd ((va_up (gT I 0) 205 (upd ((gT I 0) 205) no p0)) 206) no p1)) 207 (upd ((va_up (va_up (gT I 0) 205 (upd ((gT I 0) 205) no p0)) 206 (upd ((va_up (gT I 0) 205 (upd ((gT I 0) 205) no p0)) 206) no p1)) 207) no p2)) 200 8 = nI no from (by first | exact hno | (rw [va_up_ne _ _ (by omega)]; exact hno) | (rw [va_up_ne _ _ (by omega), va_up_ne _ _ (by omega)]; exact hno) | (rw [va_up_ne _ _ (by omega), va_up_ne _ _ (by omega), va_up_ne _ _ (by omega)]; exact hno) | (rw [va_up_ne _ _ (by omega), va_up_ne _ _ (by omega), va_up_ne _ _ (by omega), va_up_ne _ _ (by omega)]; exact hno))]
          refine lv_iload hx hb dX3_before_125 (lv_at hl 5 rfl) ?_
          refine tp_iast hx hb hK hR hS 208 0 (fun _ _ => rfl) rfl no rfl (by omega) (by decide) dX3_before_127 (fun H locs hR hS => ?_)
          refine lv_aload_n hx hb dX3_before_128 rfl (lv_at hl 1 rfl) ?_
          refine lv_dup hx hb dX3_before_129 rfl ?_
          refine tb_get hx hb hts (fun w h => List.mem_cons_of_mem _ (inX3 w h)) hown hK hR 200 rfl rfl 8 (by decide) (hts _ (List.mem_cons_of_mem _ k486)) (fun _ h => h) rfl dX3_before_130 ?_
          rw [show (va_up (va_up (va_up (va_up (gT I 0) 205 (upd ((gT I 0) 205) no p0)) 206 (upd ((va_up (gT I 0) 205 (upd ((gT I 0) 205) no p0)) 206) no p1)) 207 (upd ((va_up (va_up (gT I 0) 205 (upd ((gT I 0) 205) no p0)) 206 (upd ((va_up (gT I 0) 205 (upd ((gT I 0) 205) no p0)) 206) no p1)) 207) no p2)) 208 (upd ((va_up (va_up (va_up (gT I 0) 205 (upd ((gT I 0) 205) no p0)) 206 (upd ((va_up (gT I 0) 205 (upd ((gT I 0) 205) no p0)) 206) no p1)) 207 (upd ((va_up (va_up (gT I 0) 205 (upd ((gT I 0) 205) no p0)) 206 (upd ((va_up (gT I 0) 205 (upd ((gT I 0) 205) no p0)) 206) no p1)) 207) no p2)) 208) no p3)) 200 8 = nI no from (by first | exact hno | (rw [va_up_ne _ _ (by omega)]; exact hno) | (rw [va_up_ne _ _ (by omega), va_up_ne _ _ (by omega)]; exact hno) | (rw [va_up_ne _ _ (by omega), va_up_ne _ _ (by omega), va_up_ne _ _ (by omega)]; exact hno) | (rw [va_up_ne _ _ (by omega), va_up_ne _ _ (by omega), va_up_ne _ _ (by omega), va_up_ne _ _ (by omega)]; exact hno))]
          refine lv_iconst (v := 1) hx hb dX3_before_133 (by decide) ?_
          refine lv_iadd hx hb dX3_before_134 ?_
          rw [nI_1]
          refine tp_put hx hb hts (fun w h => List.mem_cons_of_mem _ (inX3 w h)) tyX3 tyX3_ok nmX3 hown hK hR hS 200 (fun r => [.int (r 0), .int (r 1), .int (r 2), .int (r 3), .ref (ad 201), .ref (ad 202), .ref (ad 203), .ref (ad 204), .int (r 8), .ref (ad 205), .ref (ad 206), .ref (ad 207), .ref (ad 208), .int (r 13), .int (r 14), .int (r 15), .int (r 16), .int (r 17), .ref (ad 209), .ref (ad 210), .ref (ad 211), .int (r 21), .ref (ad 212), .ref (ad 213), .ref (ad 214), .ref (ad 215), .ref (ad 216)]) (fun _ _ => rfl) rfl 8 (by decide) (hts _ (List.mem_cons_of_mem _ k486)) (fun _ h => h) rfl (ty := .int) rfl rfl rfl (by simp) (fun _ => rfl) dX3_before_135 (fun H locs hR hS => ?_)
          have hR : tR D vwCl base ad (tC (wP n ad cs) (gMO (gT I 0) no p0 p1 p2 p3) L) H := hR
          refine lv_aload_n hx hb dX3_before_138 rfl (lv_at hl 1 rfl) ?_
          refine kc_v (va_runV (As := []) (rest := []) ⟨hx, hb, hml, hown, hts⟩ (mX3_gone (gMO (gT I 0) no p0 p1 p2 p3) L) (cwV 0 hts (kw_V k575 k577 ks26 k5 k578) rfl rfl rfl (by decide +kernel) ⟨Nat.le_of_ble_eq_true rfl, Nat.le_of_ble_eq_true rfl⟩) (kB_preV hE hR hS 200 rfl rfl []) rfl rfl hl.1 rfl (lv_room (Nat.le_of_ble_eq_true rfl)) dX3_before_139 ⟨Nat.le_of_ble_eq_true rfl, Nat.le_of_ble_eq_true rfl⟩) hS (fun u H locs hw hR hS => ?_)
          subst hw
          have hR : tR D vwCl base ad (tC (wP n ad cs) (gG (gMO (gT I 0) no p0 p1 p2 p3)) L) H := hR
          refine lv_aload_n hx hb dX3_before_142 rfl (lv_at hl 1 rfl) ?_
          refine tb_get hx hb hts (fun w h => List.mem_cons_of_mem _ (inX3 w h)) hown hK hR 200 rfl rfl 8 (by decide) (hts _ (List.mem_cons_of_mem _ k486)) (fun _ h => h) rfl dX3_before_143 ?_
          rw [show (gG (gMO (gT I 0) no p0 p1 p2 p3)) 200 8 = nI (no + 1) from (by unfold gG; rw [va_up_self, pk_un (by omega), pk_un (by omega)]; unfold gMO; rw [va_up_self, pk_us])]
          refine lv_iconst (v := 1) hx hb dX3_before_146 (by decide) ?_
          refine lv_isub hx hb dX3_before_147 ?_
          rw [nI_pred]
          exact W.iret (v := nI no) hx hb hr (fun t ht hW => ⟨⟨_, (gG (gMO (gT I 0) no p0 p1 p2 p3), L), rfl, Or.inr (Or.inr (Or.inr ⟨t1, t2, t3, rfl, rfl⟩)), by show tR _ _ _ _ _ t.heap; rw [ht]; exact hR⟩, hS.F ht⟩) hS.2.2 dX3_before_148
      · refine lv_aload_n hx hb dX3_before_65 rfl (lv_at hl 1 rfl) ?_
        refine tb_get hx hb hts (fun w h => List.mem_cons_of_mem _ (inX3 w h)) hown hK hR 200 rfl rfl 8 (by decide) (hts _ (List.mem_cons_of_mem _ k486)) (fun _ h => h) rfl dX3_before_66 ?_
        rw [show I 200 8 = nI no from hno]
        refine lv_bipush (v := 24) hx hb dX3_before_69 (by decide) ?_
        refine lv_icmp_ne (tgt := 78) hx hb dX3_before_71 (by decide) (fun c1 => ?_) (fun c1 => ?_)
        · refine lv_iconst (v := 0) hx hb dX3_before_78 (by decide) ?_
          exact Kx3 _ _ _ (bZ0 (fun z => z (by have q : ¬ no = 24 := fun e => c1 (by rw [e]; rfl); omega))) ⟨hR, hS⟩
        · refine lv_iconst (v := 1) hx hb dX3_before_74 (by decide) ?_
          refine lv_goto (tgt := 79) hx hb dX3_before_75 (by decide) ?_
          exact Kx3 _ _ _ (bZ1 (fun z => absurd ((nI_eq (by omega) (by decide)).mp (show nI no = nI 24 from c1)) (by omega))) ⟨hR, hS⟩
    · refine lv_aload_n hx hb dX3_before_42 rfl (lv_at hl 1 rfl) ?_
      refine lv_iload_n hx hb dX3_before_43 rfl (lv_at hl 2 rfl) ?_
      refine kc_i (va_runV (As := [.int p0]) (rest := [.ref (ad 200)]) ⟨hx, hb, hml, hown, hts⟩ (mX3_isDate I L nd p0 hnd h8) (cwV 1 hts (kw_V k587 k589 ks28 k5 k590) rfl rfl rfl (by decide +kernel) ⟨Nat.le_of_ble_eq_true rfl, Nat.le_of_ble_eq_true rfl⟩) (kB_preV hE hR hS 200 rfl rfl [.int p0]) rfl rfl hl.1 rfl (lv_room (Nat.le_of_ble_eq_true rfl)) dX3_before_44 ⟨Nat.le_of_ble_eq_true rfl, Nat.le_of_ble_eq_true rfl⟩) hS (fun r u H locs hw hR hS => ?_)
      obtain ⟨hda, rfl⟩ := hw
      have hR : tR D vwCl base ad (tC (wP n ad cs) I L) H := hR
      refine lv_if_eq (tgt := 58) hx hb dX3_before_47 (by decide) (fun c2 => ?_) (fun c2 => ?_)
      · refine lv_iconst (v := 1) hx hb dX3_before_58 (by decide) ?_
        refine lv_goto (tgt := 63) hx hb dX3_before_59 (by decide) ?_
        exact Kx2 _ _ _ (bZ1 (fun z => hda.f c2 z.1)) ⟨hR, hS⟩
      · refine lv_aload_n hx hb dX3_before_50 rfl (lv_at hl 1 rfl) ?_
        refine lv_iload_n hx hb dX3_before_51 rfl (lv_at hl 3 rfl) ?_
        refine kc_i (va_runV (As := [.int p1]) (rest := [.ref (ad 200)]) ⟨hx, hb, hml, hown, hts⟩ (mX3_isDate I L nd p1 hnd h8) (cwV 1 hts (kw_V k587 k589 ks28 k5 k590) rfl rfl rfl (by decide +kernel) ⟨Nat.le_of_ble_eq_true rfl, Nat.le_of_ble_eq_true rfl⟩) (kB_preV hE hR hS 200 rfl rfl [.int p1]) rfl rfl hl.1 rfl (lv_room (Nat.le_of_ble_eq_true rfl)) dX3_before_52 ⟨Nat.le_of_ble_eq_true rfl, Nat.le_of_ble_eq_true rfl⟩) hS (fun r u H locs hw hR hS => ?_)
        obtain ⟨hdb, rfl⟩ := hw
        have hR : tR D vwCl base ad (tC (wP n ad cs) I L) H := hR
        refine lv_if_ne (tgt := 62) hx hb dX3_before_55 (by decide) (fun c3 => ?_) (fun c3 => ?_)
        · refine lv_iconst (v := 0) hx hb dX3_before_62 (by decide) ?_
          exact Kx2 _ _ _ (bZ0 (fun z => z ⟨hda.t c2, hdb.t c3⟩)) ⟨hR, hS⟩
        · refine lv_iconst (v := 1) hx hb dX3_before_58 (by decide) ?_
          refine lv_goto (tgt := 63) hx hb dX3_before_59 (by decide) ?_
          exact Kx2 _ _ _ (bZ1 (fun z => hdb.f c3 z.2)) ⟨hR, hS⟩
  · refine lv_iload_n hx hb dX3_before_0 rfl (lv_at hl 1 rfl) ?_
    refine lv_iload_n hx hb dX3_before_1 rfl (lv_at hl 2 rfl) ?_
    refine lv_icmp_eq (tgt := 34) hx hb dX3_before_2 (by decide) (fun c4 => ?_) (fun c4 => ?_)
    · refine lv_iconst (v := 1) hx hb dX3_before_34 (by decide) ?_
      refine lv_goto (tgt := 39) hx hb dX3_before_35 (by decide) ?_
      exact Kx1 _ _ _ (bZ1 (fun z => z.2.2.1 c4)) ⟨hR, hS⟩
    · refine lv_iload_n hx hb dX3_before_5 rfl (lv_at hl 3 rfl) ?_
      refine lv_iconst (v := 0) hx hb dX3_before_6 (by decide) ?_
      refine lv_sipush (v := 255) hx hb dX3_before_7 (by decide) ?_
      refine kc_i (va_runS (As := [.int p2, .int 0, .int 255]) (rest := []) ⟨hx, hb, hml, hown, hts⟩ (mX3_in I L p2 0 255) (va_cwS 3 hts (kw_S k568 k569 k5 k570) rfl rfl rfl (by decide +kernel) ⟨Nat.le_of_ble_eq_true rfl, Nat.le_of_ble_eq_true rfl⟩) (kB_pre hE hR hS [.int p2, .int 0, .int 255]) rfl rfl hl.1 rfl (lv_room (Nat.le_of_ble_eq_true rfl)) dX3_before_10 ⟨Nat.le_of_ble_eq_true rfl, Nat.le_of_ble_eq_true rfl⟩) hS (fun r u H locs hw hR hS => ?_)
      obtain ⟨q5, rfl⟩ := hw
      have hR : tR D vwCl base ad (tC (wP n ad cs) I L) H := hR
      have q5 : bZ (inN 256 p2) r := q5.iff ((inR_iff (a := 0) (b := 255) (by decide) (by decide)).trans (inRN (N := 256) (by decide)))
      refine lv_if_eq (tgt := 34) hx hb dX3_before_13 (by decide) (fun c6 => ?_) (fun c6 => ?_)
      · refine lv_iconst (v := 1) hx hb dX3_before_34 (by decide) ?_
        refine lv_goto (tgt := 39) hx hb dX3_before_35 (by decide) ?_
        exact Kx1 _ _ _ (bZ1 (fun z => q5.f c6 z.1)) ⟨hR, hS⟩
      · have hp2 := q5.t c6
        refine lv_iload hx hb dX3_before_16 (lv_at hl 4 rfl) ?_
        refine lv_iconst (v := 0) hx hb dX3_before_18 (by decide) ?_
        refine lv_sipush (v := 255) hx hb dX3_before_19 (by decide) ?_
        refine kc_i (va_runS (As := [.int p3, .int 0, .int 255]) (rest := []) ⟨hx, hb, hml, hown, hts⟩ (mX3_in I L p3 0 255) (va_cwS 3 hts (kw_S k568 k569 k5 k570) rfl rfl rfl (by decide +kernel) ⟨Nat.le_of_ble_eq_true rfl, Nat.le_of_ble_eq_true rfl⟩) (kB_pre hE hR hS [.int p3, .int 0, .int 255]) rfl rfl hl.1 rfl (lv_room (Nat.le_of_ble_eq_true rfl)) dX3_before_22 ⟨Nat.le_of_ble_eq_true rfl, Nat.le_of_ble_eq_true rfl⟩) hS (fun r u H locs hw hR hS => ?_)
        obtain ⟨q7, rfl⟩ := hw
        have hR : tR D vwCl base ad (tC (wP n ad cs) I L) H := hR
        have q7 : bZ (inN 256 p3) r := q7.iff ((inR_iff (a := 0) (b := 255) (by decide) (by decide)).trans (inRN (N := 256) (by decide)))
        refine lv_if_eq (tgt := 34) hx hb dX3_before_25 (by decide) (fun c8 => ?_) (fun c8 => ?_)
        · refine lv_iconst (v := 1) hx hb dX3_before_34 (by decide) ?_
          refine lv_goto (tgt := 39) hx hb dX3_before_35 (by decide) ?_
          exact Kx1 _ _ _ (bZ1 (fun z => q7.f c8 z.2.1)) ⟨hR, hS⟩
        · have hp3 := q7.t c8
          refine lv_iload_n hx hb dX3_before_28 rfl (lv_at hl 3 rfl) ?_
          refine lv_iload hx hb dX3_before_29 (lv_at hl 4 rfl) ?_
          refine lv_icmp_le (tgt := 38) hx hb dX3_before_31 (by decide) (fun c9 => ?_) (fun c9 => ?_)
          · refine lv_iconst (v := 0) hx hb dX3_before_38 (by decide) ?_
            exact Kx1 _ _ _ (bZ0 (fun z => z ⟨hp2, hp3, c4, c9⟩)) ⟨hR, hS⟩
          · refine lv_iconst (v := 1) hx hb dX3_before_34 (by decide) ?_
            refine lv_goto (tgt := 39) hx hb dX3_before_35 (by decide) ?_
            exact Kx1 _ _ _ (bZ1 (fun z => c9 z.2.2.2)) ⟨hR, hS⟩
set_option maxHeartbeats 4000000 in
set_option maxRecDepth 100000 in
theorem mX3_member (I : tI) (L : tL) {nd no : Nat} {f la : Nat → Nat} {ph : Nat → Int32} {w : Nat → Nat → Nat} {ea lt le mo : Nat → Nat} (p0 p1 : Int32) (hMs : cMs I nd no f la ph w ea lt le mo) (hwf : wfS nd no f la w ea lt le mo) : Met l yX3_member wX3_member ({ frames := 3, cells := 0, slots := 0, locals := 90 }) (va_Pc [.ref (ad 200), .int p0, .int p1] (kB D cs base sa n ad I L)) (va_Qi (fun (r : Int32) (u : tI × tL) => pM I L (¬ mOk nd p0 p1) False False (fun r u => ∃ d, d < nd ∧ p0 = nI d ∧ r = ph d ∧ u = (va_up (gT I 0) 204 (upd (gT I 0 204) d p1), L)) r u) (kA D cs base n ad) (fun q => base ≤ q)) 0 0 (fun q => base ≤ q) := by
  refine Met.ofW (cc := cX3_member) (maxL := 4) (ret := (some .int)) (by decide) rfl ?_
  intro p e s m args below meth c s₁ Bd hml hv
  obtain ⟨rfl, hE, hR⟩ := hv
  have hx := Bd.exec
  have hb := Bd.bytes
  have hr := Bd.returns
  have hts := atoms_spec (ws := wX3_member) Bd.pre
  have hown : s.vm.findClass RX3 = some m.cls := findClass_of_methodNamed Bd.named
  have hlocks := Bd.notSynchronized
  have hK := hE.K
  have hS : va_S (fun q => base ≤ q) s.heap s.heap [] := va_S.rf
  have hR : tR D vwCl base ad (tC (wP n ad cs) I L) s.heap := hR
  have hl := lv_entry ([.ref (ad 200), .int p0, .int p1]) (n := 4) (Nat.le_of_ble_eq_true rfl)
  rw [lg_entry_eq]
  generalize (lg_sl ([.ref (ad 200), .int p0, .int p1]) ++ List.replicate (4 - (lg_sl ([.ref (ad 200), .int p0, .int p1])).length) Slot.unset).toArray = ls at hl ⊢
  have hl : lv_has ls 4 [(0, .ref (ad 200)), (1, .int p0), (2, .int p1)] := hl
  obtain ⟨h_nd, h_no, h_d, h_o⟩ := id hwf
  refine lv_aload_n hx hb dX3_member_0 rfl (lv_at hl 0 rfl) ?_
  refine jnW (P := ¬ mOk nd p0 p1) 23 (fun x1 => .int x1 :: [.ref (ad 200)]) (fun H locs => tR D vwCl base ad (tC (wP n ad cs) I L) H ∧ va_S (fun q => base ≤ q) s.heap H locs) (fun x1 H locs hx1 hT => ?_) (fun Kx1 => ?_)
  · obtain ⟨hR, hS⟩ := hT
    refine lv_iconst (v := 0) hx hb dX3_member_23 (by decide) ?_
    refine lv_iconst (v := 0) hx hb dX3_member_24 (by decide) ?_
    refine kc_i (va_runV (As := [.int x1, .int 0, .int 0]) (rest := []) ⟨hx, hb, hml, hown, hts⟩ (mX3_throwing I L x1 0 0 (P1 := (¬ mOk nd p0 p1)) (P2 := False) (P3 := False) hx1 (bZ0 (fun z => z)) (bZ0 (fun z => z))) (cwV 3 hts (kw_V k571 k573 ks25 k5 k574) rfl rfl rfl (by decide +kernel) ⟨Nat.le_of_ble_eq_true rfl, Nat.le_of_ble_eq_true rfl⟩) (kB_preV hE hR hS 200 rfl rfl [.int x1, .int 0, .int 0]) rfl rfl hl.1 rfl (lv_room (Nat.le_of_ble_eq_true rfl)) dX3_member_25 ⟨Nat.le_of_ble_eq_true rfl, Nat.le_of_ble_eq_true rfl⟩) hS (fun r u H locs hw hR hS => ?_)
    rcases hw with ⟨t1, rfl, rfl⟩ | ⟨t1, t2, rfl, rfl⟩ | ⟨t1, t2, t3, rfl, rfl⟩ | ⟨t1, t2, t3, rfl, rfl⟩
    · have hR : tR D vwCl base ad (tC (wP n ad cs) (gT I 1) L) H := hR
      refine lv_if_eq (tgt := 33) hx hb dX3_member_28 (by decide) (fun c9 => absurd c9 (by decide)) (fun c9 => ?_)
      refine lv_iconst (v := 0) hx hb dX3_member_31 (by decide) ?_
      exact W.iret (v := 0) hx hb hr (fun t ht hW => ⟨⟨_, (gT I 1, L), rfl, Or.inl ⟨t1, rfl, rfl⟩, by show tR _ _ _ _ _ t.heap; rw [ht]; exact hR⟩, hS.F ht⟩) hS.2.2 dX3_member_32
    · exact t2.elim
    · exact t3.elim
    · have hR : tR D vwCl base ad (tC (wP n ad cs) (gT I 0) L) H := hR
      refine lv_if_eq (tgt := 33) hx hb dX3_member_28 (by decide) (fun c9 => ?_) (fun c9 => absurd rfl c9)
      have hok := Classical.byContradiction (fun z => t1 z)
      obtain ⟨d, hd, rfl⟩ := id hok.1
      have hMs := hMs.gT 0
      refine lv_aload_n hx hb dX3_member_33 rfl (lv_at hl 0 rfl) ?_
      refine tb_get hx hb hts (fun w h => List.mem_cons_of_mem _ (inX3 w h)) hown hK hR 200 rfl rfl 7 (by decide) (hts _ (List.mem_cons_of_mem _ k485)) (fun _ h => h) rfl dX3_member_34 ?_
      refine lv_iload_n hx hb dX3_member_37 rfl (lv_at hl 1 rfl) ?_
      refine tp_iald hx hb hK hR 204 0 (fun _ _ => rfl) rfl d rfl (by omega) (by decide) dX3_member_38 ?_
      rw [show (gT I 0) 204 d = ph d from (hMs.2.2.1 d (by omega)).2.2.1]
      refine lv_istore_n (lv' := [(3, .int (ph d)), (0, .ref (ad 200)), (1, .int (nI d)), (2, .int p1)]) hx hb dX3_member_39 rfl hl (by decide) rfl (fun ls hl => ?_)
      refine lv_aload_n hx hb dX3_member_40 rfl (lv_at hl 1 rfl) ?_
      refine tb_get hx hb hts (fun w h => List.mem_cons_of_mem _ (inX3 w h)) hown hK hR 200 rfl rfl 7 (by decide) (hts _ (List.mem_cons_of_mem _ k485)) (fun _ h => h) rfl dX3_member_41 ?_
      refine lv_iload_n hx hb dX3_member_44 rfl (lv_at hl 2 rfl) ?_
      refine lv_iload_n hx hb dX3_member_45 rfl (lv_at hl 3 rfl) ?_
      refine tp_iast hx hb hK hR hS 204 0 (fun _ _ => rfl) rfl d rfl (by omega) (by decide) dX3_member_46 (fun H locs hR hS => ?_)
      refine lv_iload_n hx hb dX3_member_47 rfl (lv_at hl 0 rfl) ?_
      exact W.iret (v := ph d) hx hb hr (fun t ht hW => ⟨⟨_, (va_up (gT I 0) 204 (upd (gT I 0 204) d p1), L), rfl, Or.inr (Or.inr (Or.inr ⟨t1, t2, t3, d, hd, rfl, rfl, rfl⟩)), by show tR _ _ _ _ _ t.heap; rw [ht]; exact hR⟩, hS.F ht⟩) hS.2.2 dX3_member_48
  · refine lv_aload_n hx hb dX3_member_1 rfl (lv_at hl 0 rfl) ?_
    refine lv_iload_n hx hb dX3_member_2 rfl (lv_at hl 1 rfl) ?_
    refine kc_i (va_runV (As := [.int p0]) (rest := [.ref (ad 200)]) ⟨hx, hb, hml, hown, hts⟩ (mX3_isDate I L nd p0 hMs.1 h_nd) (cwV 1 hts (kw_V k587 k589 ks28 k5 k590) rfl rfl rfl (by decide +kernel) ⟨Nat.le_of_ble_eq_true rfl, Nat.le_of_ble_eq_true rfl⟩) (kB_preV hE hR hS 200 rfl rfl [.int p0]) rfl rfl hl.1 rfl (lv_room (Nat.le_of_ble_eq_true rfl)) dX3_member_3 ⟨Nat.le_of_ble_eq_true rfl, Nat.le_of_ble_eq_true rfl⟩) hS (fun r u H locs hw hR hS => ?_)
    obtain ⟨hda, rfl⟩ := hw
    have hR : tR D vwCl base ad (tC (wP n ad cs) I L) H := hR
    refine lv_if_eq (tgt := 18) hx hb dX3_member_6 (by decide) (fun c1 => ?_) (fun c1 => ?_)
    · refine lv_iconst (v := 1) hx hb dX3_member_18 (by decide) ?_
      refine lv_goto (tgt := 23) hx hb dX3_member_19 (by decide) ?_
      exact Kx1 _ _ _ (bZ1 (fun z => hda.f c1 z.1)) ⟨hR, hS⟩
    · refine lv_iload_n hx hb dX3_member_9 rfl (lv_at hl 2 rfl) ?_
      refine lv_iconst (v := -1) hx hb dX3_member_10 (by decide) ?_
      refine lv_iconst (v := 3) hx hb dX3_member_11 (by decide) ?_
      refine kc_i (va_runS (As := [.int p1, .int (-1), .int 3]) (rest := [.ref (ad 200)]) ⟨hx, hb, hml, hown, hts⟩ (mX3_in I L p1 (-1) 3) (va_cwS 3 hts (kw_S k568 k569 k5 k570) rfl rfl rfl (by decide +kernel) ⟨Nat.le_of_ble_eq_true rfl, Nat.le_of_ble_eq_true rfl⟩) (kB_pre hE hR hS [.int p1, .int (-1), .int 3]) rfl rfl hl.1 rfl (lv_room (Nat.le_of_ble_eq_true rfl)) dX3_member_12 ⟨Nat.le_of_ble_eq_true rfl, Nat.le_of_ble_eq_true rfl⟩) hS (fun r u H locs hw hR hS => ?_)
      obtain ⟨q2, rfl⟩ := hw
      have hR : tR D vwCl base ad (tC (wP n ad cs) I L) H := hR
      have q2 : bZ (p1 = -1 ∨ inN 4 p1) r := q2.iff (in_m1)
      refine lv_if_ne (tgt := 22) hx hb dX3_member_15 (by decide) (fun c3 => ?_) (fun c3 => ?_)
      · refine lv_iconst (v := 0) hx hb dX3_member_22 (by decide) ?_
        exact Kx1 _ _ _ (bZ0 (fun z => z ⟨hda.t c1, q2.t c3⟩)) ⟨hR, hS⟩
      · refine lv_iconst (v := 1) hx hb dX3_member_18 (by decide) ?_
        refine lv_goto (tgt := 23) hx hb dX3_member_19 (by decide) ?_
        exact Kx1 _ _ _ (bZ1 (fun z => q2.f c3 z.2)) ⟨hR, hS⟩
set_option maxHeartbeats 4000000 in
set_option maxRecDepth 100000 in
theorem mX3_burn (I : tI) (L : tL) (p0 : Int32)  : Met l yX3_burn wX3_burn ({ frames := 3, cells := 0, slots := 0, locals := 90 }) (va_Pc [.ref (ad 200), .int p0] (kB D cs base sa n ad I L)) (va_Qi (fun (r : Int32) (u : tI × tL) => pM I L (¬ inR 0 100 p0) False False (fun r u => r = I 200 13 ∧ u = (va_up (gT I 0) 200 (upd (gT I 0 200) 13 p0), L)) r u) (kA D cs base n ad) (fun q => base ≤ q)) 0 0 (fun q => base ≤ q) := by
  refine Met.ofW (cc := cX3_burn) (maxL := 3) (ret := (some .int)) (by decide) rfl ?_
  intro p e s m args below meth c s₁ Bd hml hv
  obtain ⟨rfl, hE, hR⟩ := hv
  have hx := Bd.exec
  have hb := Bd.bytes
  have hr := Bd.returns
  have hts := atoms_spec (ws := wX3_burn) Bd.pre
  have hown : s.vm.findClass RX3 = some m.cls := findClass_of_methodNamed Bd.named
  have hlocks := Bd.notSynchronized
  have hK := hE.K
  have hS : va_S (fun q => base ≤ q) s.heap s.heap [] := va_S.rf
  have hR : tR D vwCl base ad (tC (wP n ad cs) I L) s.heap := hR
  have hl := lv_entry ([.ref (ad 200), .int p0]) (n := 3) (Nat.le_of_ble_eq_true rfl)
  rw [lg_entry_eq]
  generalize (lg_sl ([.ref (ad 200), .int p0]) ++ List.replicate (3 - (lg_sl ([.ref (ad 200), .int p0])).length) Slot.unset).toArray = ls at hl ⊢
  have hl : lv_has ls 3 [(0, .ref (ad 200)), (1, .int p0)] := hl
  refine lv_aload_n hx hb dX3_burn_0 rfl (lv_at hl 0 rfl) ?_
  refine jnW (P := ¬ inR 0 100 p0) 16 (fun x1 => .int x1 :: [.ref (ad 200)]) (fun H locs => tR D vwCl base ad (tC (wP n ad cs) I L) H ∧ va_S (fun q => base ≤ q) s.heap H locs) (fun x1 H locs hx1 hT => ?_) (fun Kx1 => ?_)
  · obtain ⟨hR, hS⟩ := hT
    refine lv_iconst (v := 0) hx hb dX3_burn_16 (by decide) ?_
    refine lv_iconst (v := 0) hx hb dX3_burn_17 (by decide) ?_
    refine kc_i (va_runV (As := [.int x1, .int 0, .int 0]) (rest := []) ⟨hx, hb, hml, hown, hts⟩ (mX3_throwing I L x1 0 0 (P1 := (¬ inR 0 100 p0)) (P2 := False) (P3 := False) hx1 (bZ0 (fun z => z)) (bZ0 (fun z => z))) (cwV 3 hts (kw_V k571 k573 ks25 k5 k574) rfl rfl rfl (by decide +kernel) ⟨Nat.le_of_ble_eq_true rfl, Nat.le_of_ble_eq_true rfl⟩) (kB_preV hE hR hS 200 rfl rfl [.int x1, .int 0, .int 0]) rfl rfl hl.1 rfl (lv_room (Nat.le_of_ble_eq_true rfl)) dX3_burn_18 ⟨Nat.le_of_ble_eq_true rfl, Nat.le_of_ble_eq_true rfl⟩) hS (fun r u H locs hw hR hS => ?_)
    rcases hw with ⟨t1, rfl, rfl⟩ | ⟨t1, t2, rfl, rfl⟩ | ⟨t1, t2, t3, rfl, rfl⟩ | ⟨t1, t2, t3, rfl, rfl⟩
    · have hR : tR D vwCl base ad (tC (wP n ad cs) (gT I 1) L) H := hR
      refine lv_if_eq (tgt := 26) hx hb dX3_burn_21 (by decide) (fun c9 => absurd c9 (by decide)) (fun c9 => ?_)
      refine lv_iconst (v := 0) hx hb dX3_burn_24 (by decide) ?_
      exact W.iret (v := 0) hx hb hr (fun t ht hW => ⟨⟨_, (gT I 1, L), rfl, Or.inl ⟨t1, rfl, rfl⟩, by show tR _ _ _ _ _ t.heap; rw [ht]; exact hR⟩, hS.F ht⟩) hS.2.2 dX3_burn_25
    · exact t2.elim
    · exact t3.elim
    · have hR : tR D vwCl base ad (tC (wP n ad cs) (gT I 0) L) H := hR
      refine lv_if_eq (tgt := 26) hx hb dX3_burn_21 (by decide) (fun c9 => ?_) (fun c9 => absurd rfl c9)
      refine lv_aload_n hx hb dX3_burn_26 rfl (lv_at hl 0 rfl) ?_
      refine tb_get hx hb hts (fun w h => List.mem_cons_of_mem _ (inX3 w h)) hown hK hR 200 rfl rfl 13 (by decide) (hts _ (List.mem_cons_of_mem _ k491)) (fun _ h => h) rfl dX3_burn_27 ?_
      rw [show (gT I 0) 200 13 = I 200 13 from gT_i I 0 (by omega)]
      refine lv_istore_n (lv' := [(2, .int (I 200 13)), (0, .ref (ad 200)), (1, .int p0)]) hx hb dX3_burn_30 rfl hl (by decide) rfl (fun ls hl => ?_)
      refine lv_aload_n hx hb dX3_burn_31 rfl (lv_at hl 1 rfl) ?_
      refine lv_iload_n hx hb dX3_burn_32 rfl (lv_at hl 2 rfl) ?_
      refine tp_put hx hb hts (fun w h => List.mem_cons_of_mem _ (inX3 w h)) tyX3 tyX3_ok nmX3 hown hK hR hS 200 (fun r => [.int (r 0), .int (r 1), .int (r 2), .int (r 3), .ref (ad 201), .ref (ad 202), .ref (ad 203), .ref (ad 204), .int (r 8), .ref (ad 205), .ref (ad 206), .ref (ad 207), .ref (ad 208), .int (r 13), .int (r 14), .int (r 15), .int (r 16), .int (r 17), .ref (ad 209), .ref (ad 210), .ref (ad 211), .int (r 21), .ref (ad 212), .ref (ad 213), .ref (ad 214), .ref (ad 215), .ref (ad 216)]) (fun _ _ => rfl) rfl 13 (by decide) (hts _ (List.mem_cons_of_mem _ k491)) (fun _ h => h) rfl (ty := .int) rfl rfl rfl (by simp) (fun _ => rfl) dX3_burn_33 (fun H locs hR hS => ?_)
      refine lv_iload_n hx hb dX3_burn_36 rfl (lv_at hl 0 rfl) ?_
      exact W.iret (v := I 200 13) hx hb hr (fun t ht hW => ⟨⟨_, (va_up (gT I 0) 200 (upd (gT I 0 200) 13 p0), L), rfl, Or.inr (Or.inr (Or.inr ⟨t1, t2, t3, rfl, rfl⟩)), by show tR _ _ _ _ _ t.heap; rw [ht]; exact hR⟩, hS.F ht⟩) hS.2.2 dX3_burn_37
  · refine lv_iload_n hx hb dX3_burn_1 rfl (lv_at hl 1 rfl) ?_
    refine lv_iconst (v := 0) hx hb dX3_burn_2 (by decide) ?_
    refine lv_bipush (v := 100) hx hb dX3_burn_3 (by decide) ?_
    refine kc_i (va_runS (As := [.int p0, .int 0, .int 100]) (rest := [.ref (ad 200)]) ⟨hx, hb, hml, hown, hts⟩ (mX3_in I L p0 0 100) (va_cwS 3 hts (kw_S k568 k569 k5 k570) rfl rfl rfl (by decide +kernel) ⟨Nat.le_of_ble_eq_true rfl, Nat.le_of_ble_eq_true rfl⟩) (kB_pre hE hR hS [.int p0, .int 0, .int 100]) rfl rfl hl.1 rfl (lv_room (Nat.le_of_ble_eq_true rfl)) dX3_burn_5 ⟨Nat.le_of_ble_eq_true rfl, Nat.le_of_ble_eq_true rfl⟩) hS (fun r u H locs hw hR hS => ?_)
    obtain ⟨q1, rfl⟩ := hw
    have hR : tR D vwCl base ad (tC (wP n ad cs) I L) H := hR
    have q1 : bZ (inR 0 100 p0) r := q1.iff (inR_iff (by decide) (by decide))
    refine lv_if_ne (tgt := 15) hx hb dX3_burn_8 (by decide) (fun c2 => ?_) (fun c2 => ?_)
    · refine lv_iconst (v := 0) hx hb dX3_burn_15 (by decide) ?_
      exact Kx1 _ _ _ (bZ0 (fun z => z (q1.t c2))) ⟨hR, hS⟩
    · refine lv_iconst (v := 1) hx hb dX3_burn_11 (by decide) ?_
      refine lv_goto (tgt := 16) hx hb dX3_burn_12 (by decide) ?_
      exact Kx1 _ _ _ (bZ1 (q1.f c2)) ⟨hR, hS⟩
set_option maxHeartbeats 4000000 in
set_option maxRecDepth 100000 in
theorem mX3_thin (I : tI) (L : tL) (p0 : Int32)  : Met l yX3_thin wX3_thin ({ frames := 3, cells := 0, slots := 0, locals := 90 }) (va_Pc [.ref (ad 200), .int p0] (kB D cs base sa n ad I L)) (va_Qi (fun (r : Int32) (u : tI × tL) => pM I L (¬ inR 1 20 p0) False False (fun r u => r = I 200 14 ∧ u = (va_up (gT I 0) 200 (upd (gT I 0 200) 14 p0), L)) r u) (kA D cs base n ad) (fun q => base ≤ q)) 0 0 (fun q => base ≤ q) := by
  refine Met.ofW (cc := cX3_thin) (maxL := 3) (ret := (some .int)) (by decide) rfl ?_
  intro p e s m args below meth c s₁ Bd hml hv
  obtain ⟨rfl, hE, hR⟩ := hv
  have hx := Bd.exec
  have hb := Bd.bytes
  have hr := Bd.returns
  have hts := atoms_spec (ws := wX3_thin) Bd.pre
  have hown : s.vm.findClass RX3 = some m.cls := findClass_of_methodNamed Bd.named
  have hlocks := Bd.notSynchronized
  have hK := hE.K
  have hS : va_S (fun q => base ≤ q) s.heap s.heap [] := va_S.rf
  have hR : tR D vwCl base ad (tC (wP n ad cs) I L) s.heap := hR
  have hl := lv_entry ([.ref (ad 200), .int p0]) (n := 3) (Nat.le_of_ble_eq_true rfl)
  rw [lg_entry_eq]
  generalize (lg_sl ([.ref (ad 200), .int p0]) ++ List.replicate (3 - (lg_sl ([.ref (ad 200), .int p0])).length) Slot.unset).toArray = ls at hl ⊢
  have hl : lv_has ls 3 [(0, .ref (ad 200)), (1, .int p0)] := hl
  refine lv_aload_n hx hb dX3_thin_0 rfl (lv_at hl 0 rfl) ?_
  refine jnW (P := ¬ inR 1 20 p0) 16 (fun x1 => .int x1 :: [.ref (ad 200)]) (fun H locs => tR D vwCl base ad (tC (wP n ad cs) I L) H ∧ va_S (fun q => base ≤ q) s.heap H locs) (fun x1 H locs hx1 hT => ?_) (fun Kx1 => ?_)
  · obtain ⟨hR, hS⟩ := hT
    refine lv_iconst (v := 0) hx hb dX3_thin_16 (by decide) ?_
    refine lv_iconst (v := 0) hx hb dX3_thin_17 (by decide) ?_
    refine kc_i (va_runV (As := [.int x1, .int 0, .int 0]) (rest := []) ⟨hx, hb, hml, hown, hts⟩ (mX3_throwing I L x1 0 0 (P1 := (¬ inR 1 20 p0)) (P2 := False) (P3 := False) hx1 (bZ0 (fun z => z)) (bZ0 (fun z => z))) (cwV 3 hts (kw_V k571 k573 ks25 k5 k574) rfl rfl rfl (by decide +kernel) ⟨Nat.le_of_ble_eq_true rfl, Nat.le_of_ble_eq_true rfl⟩) (kB_preV hE hR hS 200 rfl rfl [.int x1, .int 0, .int 0]) rfl rfl hl.1 rfl (lv_room (Nat.le_of_ble_eq_true rfl)) dX3_thin_18 ⟨Nat.le_of_ble_eq_true rfl, Nat.le_of_ble_eq_true rfl⟩) hS (fun r u H locs hw hR hS => ?_)
    rcases hw with ⟨t1, rfl, rfl⟩ | ⟨t1, t2, rfl, rfl⟩ | ⟨t1, t2, t3, rfl, rfl⟩ | ⟨t1, t2, t3, rfl, rfl⟩
    · have hR : tR D vwCl base ad (tC (wP n ad cs) (gT I 1) L) H := hR
      refine lv_if_eq (tgt := 26) hx hb dX3_thin_21 (by decide) (fun c9 => absurd c9 (by decide)) (fun c9 => ?_)
      refine lv_iconst (v := 0) hx hb dX3_thin_24 (by decide) ?_
      exact W.iret (v := 0) hx hb hr (fun t ht hW => ⟨⟨_, (gT I 1, L), rfl, Or.inl ⟨t1, rfl, rfl⟩, by show tR _ _ _ _ _ t.heap; rw [ht]; exact hR⟩, hS.F ht⟩) hS.2.2 dX3_thin_25
    · exact t2.elim
    · exact t3.elim
    · have hR : tR D vwCl base ad (tC (wP n ad cs) (gT I 0) L) H := hR
      refine lv_if_eq (tgt := 26) hx hb dX3_thin_21 (by decide) (fun c9 => ?_) (fun c9 => absurd rfl c9)
      refine lv_aload_n hx hb dX3_thin_26 rfl (lv_at hl 0 rfl) ?_
      refine tb_get hx hb hts (fun w h => List.mem_cons_of_mem _ (inX3 w h)) hown hK hR 200 rfl rfl 14 (by decide) (hts _ (List.mem_cons_of_mem _ k492)) (fun _ h => h) rfl dX3_thin_27 ?_
      rw [show (gT I 0) 200 14 = I 200 14 from gT_i I 0 (by omega)]
      refine lv_istore_n (lv' := [(2, .int (I 200 14)), (0, .ref (ad 200)), (1, .int p0)]) hx hb dX3_thin_30 rfl hl (by decide) rfl (fun ls hl => ?_)
      refine lv_aload_n hx hb dX3_thin_31 rfl (lv_at hl 1 rfl) ?_
      refine lv_iload_n hx hb dX3_thin_32 rfl (lv_at hl 2 rfl) ?_
      refine tp_put hx hb hts (fun w h => List.mem_cons_of_mem _ (inX3 w h)) tyX3 tyX3_ok nmX3 hown hK hR hS 200 (fun r => [.int (r 0), .int (r 1), .int (r 2), .int (r 3), .ref (ad 201), .ref (ad 202), .ref (ad 203), .ref (ad 204), .int (r 8), .ref (ad 205), .ref (ad 206), .ref (ad 207), .ref (ad 208), .int (r 13), .int (r 14), .int (r 15), .int (r 16), .int (r 17), .ref (ad 209), .ref (ad 210), .ref (ad 211), .int (r 21), .ref (ad 212), .ref (ad 213), .ref (ad 214), .ref (ad 215), .ref (ad 216)]) (fun _ _ => rfl) rfl 14 (by decide) (hts _ (List.mem_cons_of_mem _ k492)) (fun _ h => h) rfl (ty := .int) rfl rfl rfl (by simp) (fun _ => rfl) dX3_thin_33 (fun H locs hR hS => ?_)
      refine lv_iload_n hx hb dX3_thin_36 rfl (lv_at hl 0 rfl) ?_
      exact W.iret (v := I 200 14) hx hb hr (fun t ht hW => ⟨⟨_, (va_up (gT I 0) 200 (upd (gT I 0 200) 14 p0), L), rfl, Or.inr (Or.inr (Or.inr ⟨t1, t2, t3, rfl, rfl⟩)), by show tR _ _ _ _ _ t.heap; rw [ht]; exact hR⟩, hS.F ht⟩) hS.2.2 dX3_thin_37
  · refine lv_iload_n hx hb dX3_thin_1 rfl (lv_at hl 1 rfl) ?_
    refine lv_iconst (v := 1) hx hb dX3_thin_2 (by decide) ?_
    refine lv_bipush (v := 20) hx hb dX3_thin_3 (by decide) ?_
    refine kc_i (va_runS (As := [.int p0, .int 1, .int 20]) (rest := [.ref (ad 200)]) ⟨hx, hb, hml, hown, hts⟩ (mX3_in I L p0 1 20) (va_cwS 3 hts (kw_S k568 k569 k5 k570) rfl rfl rfl (by decide +kernel) ⟨Nat.le_of_ble_eq_true rfl, Nat.le_of_ble_eq_true rfl⟩) (kB_pre hE hR hS [.int p0, .int 1, .int 20]) rfl rfl hl.1 rfl (lv_room (Nat.le_of_ble_eq_true rfl)) dX3_thin_5 ⟨Nat.le_of_ble_eq_true rfl, Nat.le_of_ble_eq_true rfl⟩) hS (fun r u H locs hw hR hS => ?_)
    obtain ⟨q1, rfl⟩ := hw
    have hR : tR D vwCl base ad (tC (wP n ad cs) I L) H := hR
    have q1 : bZ (inR 1 20 p0) r := q1.iff (inR_iff (by decide) (by decide))
    refine lv_if_ne (tgt := 15) hx hb dX3_thin_8 (by decide) (fun c2 => ?_) (fun c2 => ?_)
    · refine lv_iconst (v := 0) hx hb dX3_thin_15 (by decide) ?_
      exact Kx1 _ _ _ (bZ0 (fun z => z (q1.t c2))) ⟨hR, hS⟩
    · refine lv_iconst (v := 1) hx hb dX3_thin_11 (by decide) ?_
      refine lv_goto (tgt := 16) hx hb dX3_thin_12 (by decide) ?_
      exact Kx1 _ _ _ (bZ1 (q1.f c2)) ⟨hR, hS⟩
end M2
