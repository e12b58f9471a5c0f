section M5
variable {l : Launch} {D : va_G} {cs : Nat → ClassId} {base : Nat} {sa : Nat → Nat} {n : Nat} {ad : Nat → Nat}
set_option maxHeartbeats 4000000 in
set_option maxRecDepth 100000 in
theorem lpX3_step {p : Program} {e : Env} {R : Room} {s : State} {m : MethodId} {args : Array Value} {below : List Frame} {meth : Method} {c : Code} {cells slots : Nat} {Q : State → Prop} (S0 : CallFix p m c cX3_step 3 s args wX3_step RX3) (hE : eV D cs base sa s) (hRf : 3 ≤ R.frames) (hRl : 110 ≤ R.locals) (hRc : cells ≤ R.cells) (hRs : slots ≤ R.slots) (I : tI) (L : tL) {nd no : Nat} {f la : Nat → Nat} {ph : Nat → Int32} {w : Nat → Nat → Nat} {ea lt le mo : Nat → Nat} {Y : Nat → Nat → Nat} {st : Nat → Int64} (c9 : Nat) (hMs : cMs I nd no f la ph w ea lt le mo) (hwf : wfS nd no f la w ea lt le mo) (hc9 : c9 < 4) (hwY : wfY nd no f la ea lt le mo (Y c9))
    (kx : ∀ (y : Nat → Nat) (s9 : Int64) (row : Nat → Int32) (H : Heap) (locs : List Loc) (ls : Array Slot), rwM nd c9 row y → (y, s9) = sC no f la w ea lt le mo nd (Y c9, st c9) → (∀ x, (x < 8 * c9 ∨ 8 * c9 + 8 ≤ x) → row x = I 209 x) → tR D vwCl base ad (tC (wP n ad cs) (va_up I 209 row) (va_up L 210 (vp_updL (L 210) c9 s9))) H → va_S (fun q => base ≤ q) s.heap H locs → lv_has ls 3 [(2, .int (nI nd)), (0, .ref (ad 200)), (1, .int (nI c9))] → W p l e R s m args below meth c H locs cells slots Q (F0 m 42 ls [])) :
    ∀ (k j : Nat) (y : Nat → Nat) (s9 : Int64) (row : Nat → Int32) (H : Heap) (locs : List Loc) (ls : Array Slot), j ≤ nd → nd + 1 ≤ j + k → rwM nd c9 row y → (y, s9) = sC no f la w ea lt le mo j (Y c9, st c9) → (∀ x, (x < 8 * c9 ∨ 8 * c9 + 8 ≤ x) → row x = I 209 x) → tR D vwCl base ad (tC (wP n ad cs) (va_up I 209 row) (va_up L 210 (vp_updL (L 210) c9 s9))) H → va_S (fun q => base ≤ q) s.heap H locs → lv_has ls 3 [(2, .int (nI j)), (0, .ref (ad 200)), (1, .int (nI c9))] → W p l e R s m args below meth c H locs cells slots Q (F0 m 22 ls []) := by
  obtain ⟨hx, hb, hml, hown, hts⟩ := S0
  have hK := hE.K
  obtain ⟨h_nd, h_no, h_d, h_o⟩ := id hwf
  intro k
  induction k with
  | zero => intro j y s9 row H locs ls h1 h2; exact absurd h2 (by omega)
  | succ k ih =>
    intro j y s9 row H locs ls hj hk hrow hys hfr hR hS hl
    refine lv_iload_n hx hb dX3_step_22 rfl (lv_at hl 0 rfl) ?_
    refine lv_aload_n hx hb dX3_step_23 rfl (lv_at hl 1 rfl) ?_
    refine tb_get hx hb hts (fun w h => List.mem_cons_of_mem _ (inX3 w h)) hown hK hR 200 rfl rfl 3 (by decide) (hts _ (List.mem_cons_of_mem _ k481)) (fun _ h => h) rfl dX3_step_24 ?_
    rw [show (va_up I 209 row) 200 3 = nI nd from (by rw [va_up_ne _ _ (by omega)]; exact hMs.1)]
    refine lv_icmp_ge (tgt := 42) hx hb dX3_step_27 (by decide) (fun c1 => ?_) (fun c1 => ?_)
    · have hjN : j = nd := by have e9 := (nI_leI (by omega) (by omega)).mp c1; omega
      subst hjN
      exact kx y s9 row H locs ls hrow hys hfr hR hS (lv_sub hl [0, 1, 2] rfl)
    · have hjN : j < nd := by
        rcases Nat.lt_or_ge j nd with q | q
        · exact q
        · exact absurd (nI_le (by omega) (by omega)) c1
      have hwy : wfY nd no f la ea lt le mo y := by have q := wfY_sC hwf (q := (Y c9, st c9)) hwY (j := j) (by omega); rw [← hys] at q; exact q
      refine lv_aload_n hx hb dX3_step_30 rfl (lv_at hl 1 rfl) ?_
      refine lv_iload_n hx hb dX3_step_31 rfl (lv_at hl 2 rfl) ?_
      refine lv_iload_n hx hb dX3_step_32 rfl (lv_at hl 0 rfl) ?_
      have hMs1 : cMs (va_up I 209 row) nd no f la ph w ea lt le mo := hMs.of (by rw [va_up_ne _ _ (by omega)]) (by rw [va_up_ne _ _ (by omega)]) (fun k _ _ => va_up_ne _ _ (by omega))
      refine kc_v (va_runV (As := [.int (nI c9), .int (nI j)]) (rest := []) ⟨hx, hb, hml, hown, hts⟩ (mX3_draw (va_up I 209 row) (va_up L 210 (vp_updL (L 210) c9 s9)) c9 j y hMs1 hwf hc9 hjN (by rw [va_up_self]; exact hrow) hwy) (cwV 2 hts (kw_V k636 k638 ks34 k5 k639) rfl rfl rfl (by decide +kernel) ⟨Nat.le_trans (Nat.le_of_ble_eq_true rfl) hRf, Nat.le_trans (Nat.le_of_ble_eq_true rfl) hRl⟩) (kB_preV hE hR hS 200 rfl rfl [.int (nI c9), .int (nI j)]) rfl rfl hl.1 rfl (lv_room (Nat.le_of_ble_eq_true rfl)) dX3_step_33 ⟨hRc, hRs⟩) hS (fun u H locs hw hR hS => ?_)
      rw [bx_uu, bx_uu, va_up_self, va_up_self, vp_updL_self, vp_updL_uu] at hw
      subst hw
      have hR : tR D vwCl base ad (tC (wP n ad cs) (va_up I 209 (upd row (8 * c9 + j) (nI (dY no f la w ea lt le mo j y (sX (stN s9)))))) (va_up L 210 (vp_updL (L 210) c9 (stN s9)))) H := hR
      have hrow1 : rwM nd c9 (upd row (8 * c9 + j) (nI (dY no f la w ea lt le mo j y (sX (stN s9))))) (va_up y j (dY no f la w ea lt le mo j y (sX (stN s9)))) := hrow.put _ _ rfl
      have hys1 : (va_up y j (dY no f la w ea lt le mo j y (sX (stN s9))), stN s9) = sC no f la w ea lt le mo (j + 1) (Y c9, st c9) := by simp only [sC]; rw [← hys]
      have hfr1 : ∀ x, (x < 8 * c9 ∨ 8 * c9 + 8 ≤ x) → upd row (8 * c9 + j) (nI (dY no f la w ea lt le mo j y (sX (stN s9)))) x = I 209 x := fun x hx9 => by rw [pk_un (by omega)]; exact hfr x hx9
      refine lv_iinc (v := nI (j + 1)) (lv' := [(2, .int (nI (j + 1))), (0, .ref (ad 200)), (1, .int (nI c9))]) hx hb dX3_step_36 hl (k := 0) rfl (nI_1 _) (by decide) rfl (fun ls hl => ?_)
      refine lv_goto (tgt := 22) hx hb dX3_step_39 (by decide) ?_
      exact ih (j + 1) (va_up y j (dY no f la w ea lt le mo j y (sX (stN s9)))) (stN s9) (upd row (8 * c9 + j) (nI (dY no f la w ea lt le mo j y (sX (stN s9))))) H locs ls (by omega) (by omega) hrow1 hys1 hfr1 hR hS (lv_sub hl [0, 1, 2] rfl)
set_option maxHeartbeats 4000000 in
set_option maxRecDepth 100000 in
theorem lqX3_step {p : Program} {e : Env} {R : Room} {s : State} {m : MethodId} {args : Array Value} {below : List Frame} {meth : Method} {c : Code} {cells slots : Nat} {Q : State → Prop} (S0 : CallFix p m c cX3_step 3 s args wX3_step RX3) (hE : eV D cs base sa s) (hRf : 1 ≤ R.frames) (hRl : 40 ≤ R.locals) (hRc : cells ≤ R.cells) (hRs : slots ≤ R.slots) (I : tI) (L : tL) {nd no : Nat} {f la : Nat → Nat} {ph : Nat → Int32} {w : Nat → Nat → Nat} {ea lt le mo : Nat → Nat} {bu ev sd sv : Nat} {se : Int32} (c9 kp s1 : Nat) (y : Nat → Nat) (hMs : cMs I nd no f la ph w ea lt le mo) (hwf : wfS nd no f la w ea lt le mo) (hMf : cMf I n bu ev sd sv se) (hc9 : c9 < n) (hkp : I 200 17 = nI kp) (hsp : I 200 16 = nI s1) (hs1 : s1 < 2 ^ 20) (hk60 : kp + kN bu ev s1 ≤ 60) (hrow : rwM nd c9 (I 209) y)
    (kx : ∀ (r11 : Nat → Int32) (H : Heap) (locs : List Loc) (ls : Array Slot), (kN bu ev s1 = 1 → ∀ i, i < nd → r11 (8 * (60 * c9 + kp) + i) = nI (y i)) → (∀ x, (kN bu ev s1 = 0 ∨ x < 8 * (60 * c9 + kp) ∨ 8 * (60 * c9 + kp) + 8 ≤ x) → r11 x = I 211 x) → tR D vwCl base ad (tC (wP n ad cs) (va_up I 211 r11) L) H → va_S (fun q => base ≤ q) s.heap H locs → lv_has ls 3 [(0, .ref (ad 200)), (1, .int (nI c9))] → W p l e R s m args below meth c H locs cells slots Q (F0 m 96 ls [])) :
    ∀ (k j : Nat) (r11 : Nat → Int32) (H : Heap) (locs : List Loc) (ls : Array Slot), j ≤ nd → nd + 1 ≤ j + k → (∀ i, i < j → r11 (8 * (60 * c9 + kp) + i) = nI (y i)) → (∀ x, (kN bu ev s1 = 0 ∨ x < 8 * (60 * c9 + kp) ∨ 8 * (60 * c9 + kp) + 8 ≤ x) → r11 x = I 211 x) → tR D vwCl base ad (tC (wP n ad cs) (va_up I 211 r11) L) H → va_S (fun q => base ≤ q) s.heap H locs → lv_has ls 3 [(2, .int (nI j)), (0, .ref (ad 200)), (1, .int (nI c9))] → W p l e R s m args below meth c H locs cells slots Q (F0 m 44 ls []) := by
  obtain ⟨hx, hb, hml, hown, hts⟩ := S0
  have hK := hE.K
  obtain ⟨h_nd, h_no, h_d, h_o⟩ := id hwf
  obtain ⟨h_f1, h_f2, h_f3, h_f4, h_f5, h_f6, h_n1, h_n4, h_bu, h_e1, h_e2, h_s1, h_v4⟩ := id hMf
  intro k
  induction k with
  | zero => intro j r11 H locs ls h1 h2; exact absurd h2 (by omega)
  | succ k ih =>
    intro j r11 H locs ls hj hk hcp hfr hR hS hl
    refine lv_iload_n hx hb dX3_step_44 rfl (lv_at hl 0 rfl) ?_
    refine lv_aload_n hx hb dX3_step_45 rfl (lv_at hl 1 rfl) ?_
    refine tb_get hx hb hts (fun w h => List.mem_cons_of_mem _ (inX3 w h)) hown hK hR 200 rfl rfl 3 (by decide) (hts _ (List.mem_cons_of_mem _ k481)) (fun _ h => h) rfl dX3_step_46 ?_
    rw [show (va_up I 211 r11) 200 3 = nI nd from (by rw [va_up_ne _ _ (by omega)]; exact hMs.1)]
    refine lv_icmp_ge (tgt := 96) hx hb dX3_step_49 (by decide) (fun c1 => ?_) (fun c1 => ?_)
    · have hjN : j = nd := by have e9 := (nI_leI (by omega) (by omega)).mp c1; omega
      subst hjN
      exact kx r11 H locs ls (fun _ => hcp) hfr hR hS (lv_sub hl [1, 2] rfl)
    · have hjN : j < nd := by
        rcases Nat.lt_or_ge j nd with q | q
        · exact q
        · exact absurd (nI_le (by omega) (by omega)) c1
      refine lv_aload_n hx hb dX3_step_52 rfl (lv_at hl 1 rfl) ?_
      refine lv_aload_n hx hb dX3_step_53 rfl (lv_at hl 1 rfl) ?_
      refine tb_get hx hb hts (fun w h => List.mem_cons_of_mem _ (inX3 w h)) hown hK hR 200 rfl rfl 16 (by decide) (hts _ (List.mem_cons_of_mem _ k494)) (fun _ h => h) rfl dX3_step_54 ?_
      rw [show (va_up I 211 r11) 200 16 = nI s1 from (by rw [va_up_ne _ _ (by omega)]; exact hsp)]
      have hMf1 : cMf (va_up I 211 r11) n bu ev sd sv se := hMf.of (fun i _ => by rw [va_up_ne _ _ (by omega)])
      refine kc_i (va_runV (As := [.int (nI s1)]) (rest := []) ⟨hx, hb, hml, hown, hts⟩ (mX3_isKept (va_up I 211 r11) L s1 hMf1 (by omega)) (cwV 1 hts (kw_V k628 k630 ks32 k5 k631) rfl rfl rfl (by decide +kernel) ⟨Nat.le_trans (Nat.le_of_ble_eq_true rfl) hRf, Nat.le_trans (Nat.le_of_ble_eq_true rfl) hRl⟩) (kB_preV hE hR hS 200 rfl rfl [.int (nI s1)]) rfl rfl hl.1 rfl (lv_room (Nat.le_of_ble_eq_true rfl)) dX3_step_57 ⟨hRc, hRs⟩) hS (fun r u H locs hw hR hS => ?_)
      obtain ⟨rfl, rfl⟩ := hw
      have hR : tR D vwCl base ad (tC (wP n ad cs) (va_up I 211 r11) L) H := hR
      refine lv_if_eq (tgt := 96) hx hb dX3_step_60 (by decide) (fun c2 => ?_) (fun c2 => ?_)
      · have hq : kN bu ev s1 = 0 := (nI_z (by have := kN_le bu ev s1; omega)).mp c2
        exact kx r11 H locs ls (fun z => absurd z (by omega)) hfr hR hS (lv_sub hl [1, 2] rfl)
      · have hq : kN bu ev s1 = 1 := by have q1 := kN_le bu ev s1; have q2 : ¬ kN bu ev s1 = 0 := fun z => c2 (by rw [z]; rfl); omega
        refine lv_aload_n hx hb dX3_step_63 rfl (lv_at hl 1 rfl) ?_
        refine tb_get hx hb hts (fun w h => List.mem_cons_of_mem _ (inX3 w h)) hown hK hR 200 rfl rfl 20 (by decide) (hts _ (List.mem_cons_of_mem _ k498)) (fun _ h => h) rfl dX3_step_64 ?_
        refine lv_aload_n hx hb dX3_step_67 rfl (lv_at hl 1 rfl) ?_
        refine lv_iload_n hx hb dX3_step_68 rfl (lv_at hl 2 rfl) ?_
        refine lv_aload_n hx hb dX3_step_69 rfl (lv_at hl 1 rfl) ?_
        refine tb_get hx hb hts (fun w h => List.mem_cons_of_mem _ (inX3 w h)) hown hK hR 200 rfl rfl 17 (by decide) (hts _ (List.mem_cons_of_mem _ k495)) (fun _ h => h) rfl dX3_step_70 ?_
        rw [show (va_up I 211 r11) 200 17 = nI kp from (by rw [va_up_ne _ _ (by omega)]; exact hkp)]
        refine kc_i (va_runV (As := [.int (nI c9), .int (nI kp)]) (rest := [.ref (ad 211)]) ⟨hx, hb, hml, hown, hts⟩ (mX3_rowAt (va_up I 211 r11) L c9 kp) (cwV 2 hts (kw_V k646 k648 ks36 k5 k649) rfl rfl rfl (by decide +kernel) ⟨Nat.le_trans (Nat.le_of_ble_eq_true rfl) hRf, Nat.le_trans (Nat.le_of_ble_eq_true rfl) hRl⟩) (kB_preV hE hR hS 200 rfl rfl [.int (nI c9), .int (nI kp)]) rfl rfl hl.1 rfl (lv_room (Nat.le_of_ble_eq_true rfl)) dX3_step_73 ⟨hRc, hRs⟩) hS (fun r u H locs hw hR hS => ?_)
        obtain ⟨rfl, rfl⟩ := hw
        have hR : tR D vwCl base ad (tC (wP n ad cs) (va_up I 211 r11) L) H := hR
        refine lv_iload_n hx hb dX3_step_76 rfl (lv_at hl 0 rfl) ?_
        refine lv_iadd hx hb dX3_step_77 ?_
        rw [nI_add]
        refine lv_aload_n hx hb dX3_step_78 rfl (lv_at hl 1 rfl) ?_
        refine tb_get hx hb hts (fun w h => List.mem_cons_of_mem _ (inX3 w h)) hown hK hR 200 rfl rfl 18 (by decide) (hts _ (List.mem_cons_of_mem _ k496)) (fun _ h => h) rfl dX3_step_79 ?_
        refine lv_bipush (v := nI 8) hx hb dX3_step_82 (by decide) ?_
        refine lv_iload_n hx hb dX3_step_84 rfl (lv_at hl 2 rfl) ?_
        refine lv_imul hx hb dX3_step_85 ?_
        rw [pk_mul]
        refine lv_iload_n hx hb dX3_step_86 rfl (lv_at hl 0 rfl) ?_
        refine lv_iadd hx hb dX3_step_87 ?_
        rw [nI_add]
        refine tp_iald hx hb hK hR 209 0 (fun _ _ => rfl) rfl (8 * c9 + j) rfl (by omega) (by decide) dX3_step_88 ?_
        rw [show (va_up I 211 r11) 209 (8 * c9 + j) = nI (y j) from (by rw [va_up_ne _ _ (by omega)]; exact hrow j (by omega))]
        refine tp_iast hx hb hK hR hS 211 0 (fun _ _ => rfl) rfl (8 * (60 * c9 + kp) + j) rfl (by omega) (by decide) dX3_step_89 (fun H locs hR hS => ?_)
        rw [bx_uu, va_up_self] at hR
        have hcp1 : ∀ i, i < j + 1 → upd r11 (8 * (60 * c9 + kp) + j) (nI (y j)) (8 * (60 * c9 + kp) + i) = nI (y i) := fun i hi => by
          by_cases e : i = j
          · rw [e, pk_us]
          · rw [pk_un (by omega)]; exact hcp i (by omega)
        have hfr1 : ∀ x, (kN bu ev s1 = 0 ∨ x < 8 * (60 * c9 + kp) ∨ 8 * (60 * c9 + kp) + 8 ≤ x) → upd r11 (8 * (60 * c9 + kp) + j) (nI (y j)) x = I 211 x := fun x hx9 => by rw [pk_un (by omega)]; exact hfr x hx9
        refine lv_iinc (v := nI (j + 1)) (lv' := [(2, .int (nI (j + 1))), (0, .ref (ad 200)), (1, .int (nI c9))]) hx hb dX3_step_90 hl (k := 0) rfl (nI_1 _) (by decide) rfl (fun ls hl => ?_)
        refine lv_goto (tgt := 44) hx hb dX3_step_93 (by decide) ?_
        exact ih (j + 1) (upd r11 (8 * (60 * c9 + kp) + j) (nI (y j))) H locs ls (by omega) (by omega) hcp1 hfr1 hR hS (lv_sub hl [0, 1, 2] rfl)
set_option maxHeartbeats 4000000 in
set_option maxRecDepth 100000 in
theorem lrX3_step {p : Program} {e : Env} {R : Room} {s : State} {m : MethodId} {args : Array Value} {below : List Frame} {meth : Method} {c : Code} {cells slots : Nat} {Q : State → Prop} (S0 : CallFix p m c cX3_step 3 s args wX3_step RX3) (hE : eV D cs base sa s) (hRf : 3 ≤ R.frames) (hRl : 110 ≤ R.locals) (hRc : cells ≤ R.cells) (hRs : slots ≤ R.slots) (I : tI) (L : tL) {nd no : Nat} {f la : Nat → Nat} {ph : Nat → Int32} {w : Nat → Nat → Nat} {ea lt le mo : Nat → Nat} {bu ev sd sv : Nat} {se : Int32} {Y : Nat → Nat → Nat} {st : Nat → Int64} {Rw : Nat → Nat → Nat → Nat} {kp sp : Nat} (hMs : cMs I nd no f la ph w ea lt le mo) (hwf : wfS nd no f la w ea lt le mo) (hMf : cMf I n bu ev sd sv se) (hMo : cMo I L n nd Y st Rw kp sp) (hwY : ∀ c, c < n → wfY nd no f la ea lt le mo (Y c)) (hsp : sp < 2 ^ 19) (hk60 : kp + kN bu ev (sp + 1) ≤ 60)
    (kx : ∀ (J : tI) (K : tL) (H : Heap) (locs : List Loc) (ls : Array Slot), mS n nd no f la w ea lt le mo Y st Rw kp sp bu ev I L n J K → tR D vwCl base ad (tC (wP n ad cs) J K) H → va_S (fun q => base ≤ q) s.heap H locs → lv_has ls 3 [(1, .int (nI n)), (0, .ref (ad 200))] → W p l e R s m args below meth c H locs cells slots Q (F0 m 102 ls [])) :
    ∀ (k j : Nat) (J : tI) (K : tL) (H : Heap) (locs : List Loc) (ls : Array Slot), j ≤ n → n + 1 ≤ j + k → mS n nd no f la w ea lt le mo Y st Rw kp sp bu ev I L j J K → tR D vwCl base ad (tC (wP n ad cs) J K) H → va_S (fun q => base ≤ q) s.heap H locs → lv_has ls 3 [(1, .int (nI j)), (0, .ref (ad 200))] → W p l e R s m args below meth c H locs cells slots Q (F0 m 12 ls []) := by
  obtain ⟨hx, hb, hml, hown, hts⟩ := S0
  have hK := hE.K
  obtain ⟨h_nd, h_no, h_d, h_o⟩ := id hwf
  obtain ⟨h_f1, h_f2, h_f3, h_f4, h_f5, h_f6, h_n1, h_n4, h_bu, h_e1, h_e2, h_s1, h_v4⟩ := id hMf
  intro k
  induction k with
  | zero => intro j J K H locs ls h1 h2; exact absurd h2 (by omega)
  | succ k ih =>
    intro j J K H locs ls hj hk hJ hR hS hl
    have hMsJ : cMs J nd no f la ph w ea lt le mo := hMs.of (by rw [hJ.1.2.1, pk_un (by omega)]) (by rw [hJ.1.2.1, pk_un (by omega)]) (fun k _ _ => hJ.1.1 k (by omega) (by omega) (by omega))
    have hMfJ : cMf J n bu ev sd sv se := hMf.of (fun i _ => by rw [hJ.1.2.1, pk_un (by omega)])
    refine lv_iload_n hx hb dX3_step_12 rfl (lv_at hl 0 rfl) ?_
    refine lv_aload_n hx hb dX3_step_13 rfl (lv_at hl 1 rfl) ?_
    refine tb_get hx hb hts (fun w h => List.mem_cons_of_mem _ (inX3 w h)) hown hK hR 200 rfl rfl 2 (by decide) (hts _ (List.mem_cons_of_mem _ k480)) (fun _ h => h) rfl dX3_step_14 ?_
    rw [show J 200 2 = nI n from hMfJ.2.1]
    refine lv_icmp_ge (tgt := 102) hx hb dX3_step_17 (by decide) (fun c1 => ?_) (fun c1 => ?_)
    · have hjN : j = n := by have e9 := (nI_leI (by omega) (by omega)).mp c1; omega
      subst hjN
      exact kx J K H locs ls hJ hR hS (lv_sub hl [0, 1] rfl)
    · have hjN : j < n := by
        rcases Nat.lt_or_ge j n with q | q
        · exact q
        · exact absurd (nI_le (by omega) (by omega)) c1
      refine lv_iconst (v := 0) hx hb dX3_step_20 (by decide) ?_
      rw [show (0 : Int32) = nI 0 from nI_0.symm]
      refine lv_istore_n (lv' := [(2, .int (nI 0)), (1, .int (nI j)), (0, .ref (ad 200))]) hx hb dX3_step_21 rfl hl (by decide) rfl (fun ls hl => ?_)
      have hR : tR D vwCl base ad (tC (wP n ad cs) (va_up J 209 (J 209)) (va_up K 210 (vp_updL (K 210) j (st j)))) H := by rw [va_up_id, ← ((hJ.2.1 j hjN).2 (Nat.le_refl _)).1, vp_updL_id, va_up_id]; exact hR
      refine lpX3_step ⟨hx, hb, hml, hown, hts⟩ hE (Nat.le_trans (Nat.le_of_ble_eq_true rfl) hRf) (Nat.le_trans (Nat.le_of_ble_eq_true rfl) hRl) hRc hRs J K (Y := Y) (st := st) j hMsJ hwf (by omega) (hwY j hjN) (fun y s9 row H locs ls hrow hys hfr hR hS hl => ?_) (nd + 1) 0 (Y j) (st j) (J 209) _ _ ls (Nat.zero_le _) (by omega) ((hJ.2.1 j hjN).2 (Nat.le_refl _)).2 rfl (fun _ _ => rfl) hR hS (lv_sub hl [0, 2, 1] rfl)
      have e1 : y = nY nd no f la w ea lt le mo Y st j := congrArg Prod.fst hys
      have e2 : s9 = nS nd no f la w ea lt le mo Y st j := congrArg Prod.snd hys
      subst e1
      subst e2
      refine lv_iconst (v := 0) hx hb dX3_step_42 (by decide) ?_
      rw [show (0 : Int32) = nI 0 from nI_0.symm]
      refine lv_istore_n (lv' := [(2, .int (nI 0)), (0, .ref (ad 200)), (1, .int (nI j))]) hx hb dX3_step_43 rfl hl (by decide) rfl (fun ls hl => ?_)
      have hMsR : cMs (va_up J 209 row) nd no f la ph w ea lt le mo := hMsJ.of (by rw [va_up_ne _ _ (by omega)]) (by rw [va_up_ne _ _ (by omega)]) (fun k _ _ => va_up_ne _ _ (by omega))
      have hMfR : cMf (va_up J 209 row) n bu ev sd sv se := hMfJ.of (fun i _ => by rw [va_up_ne _ _ (by omega)])
      have hR : tR D vwCl base ad (tC (wP n ad cs) (va_up (va_up J 209 row) 211 (va_up J 209 row 211)) (va_up K 210 (vp_updL (K 210) j (nS nd no f la w ea lt le mo Y st j)))) H := by rw [va_up_id]; exact hR
      refine lqX3_step ⟨hx, hb, hml, hown, hts⟩ hE (Nat.le_trans (Nat.le_of_ble_eq_true rfl) hRf) (Nat.le_trans (Nat.le_of_ble_eq_true rfl) hRl) hRc hRs (va_up J 209 row) (va_up K 210 (vp_updL (K 210) j (nS nd no f la w ea lt le mo Y st j))) j kp (sp + 1) (nY nd no f la w ea lt le mo Y st j) hMsR hwf hMfR hjN (by rw [va_up_ne _ _ (by omega), hJ.1.2.1, pk_un (by omega)]; exact hMo.1) (by rw [va_up_ne _ _ (by omega), hJ.1.2.1, pk_us]) (by omega) hk60 (by rw [va_up_self]; exact hrow) (fun r11 H locs ls hcp hfr2 hR hS hl => ?_) (nd + 1) 0 _ _ _ ls (Nat.zero_le _) (by omega) (fun i hi => absurd hi (Nat.not_lt_zero _)) (fun _ _ => rfl) hR hS (lv_sub hl [0, 1, 2] rfl)
      have hJ2 := mS_s hJ hjN h_nd hk60 hrow hfr (fun x hx9 => by rw [hfr2 x hx9, va_up_ne _ _ (by omega)]) hcp
      refine lv_iinc (v := nI (j + 1)) (lv' := [(1, .int (nI (j + 1))), (0, .ref (ad 200))]) hx hb dX3_step_96 hl (k := 1) rfl (nI_1 _) (by decide) rfl (fun ls hl => ?_)
      refine lv_goto (tgt := 12) hx hb dX3_step_99 (by decide) ?_
      exact ih (j + 1) (va_up (va_up J 209 row) 211 r11) (va_up K 210 (vp_updL (K 210) j (nS nd no f la w ea lt le mo Y st j))) H locs ls (by omega) (by omega) hJ2 hR hS (lv_sub hl [0, 1] rfl)
set_option maxHeartbeats 4000000 in
set_option maxRecDepth 100000 in
theorem mX3_step (I : tI) (L : tL) {nd no : Nat} {f la : Nat → Nat} {ph : Nat → Int32} {w : Nat → Nat → Nat} {ea lt le mo : Nat → Nat} {bu ev sd sv : Nat} {se : Int32} {Y : Nat → Nat → Nat} {st : Nat → Int64} {Rw : Nat → Nat → Nat → Nat} {kp sp : Nat} (hMs : cMs I nd no f la ph w ea lt le mo) (hwf : wfS nd no f la w ea lt le mo) (hMf : cMf I n bu ev sd sv se) (hMo : cMo I L n nd Y st Rw kp sp) (hwY : ∀ c, c < n → wfY nd no f la ea lt le mo (Y c)) (hsp : sp < 2 ^ 19) (hk60 : kp + kN bu ev (sp + 1) ≤ 60) : Met l yX3_step wX3_step ({ frames := 3, cells := 0, slots := 0, locals := 110 }) (va_Pc [.ref (ad 200)] (kB D cs base sa n ad I L)) (va_Qv (fun (u : tI × tL) => cMo u.1 u.2 n nd (nY nd no f la w ea lt le mo Y st) (nS nd no f la w ea lt le mo Y st) (nR kp (nY nd no f la w ea lt le mo Y st) Rw) (kp + kN bu ev (sp + 1)) (sp + 1) ∧ (∀ k, k ≠ 200 → k ≠ 209 → k ≠ 211 → u.1 k = I k) ∧ (∀ i, i ≠ 16 → i ≠ 17 → u.1 200 i = I 200 i) ∧ ∀ k, k ≠ 210 → u.2 k = L k) (kA D cs base n ad) (fun q => base ≤ q)) 0 0 (fun q => base ≤ q) := by
  refine Met.ofW (cc := cX3_step) (maxL := 3) (ret := none) (by decide) rfl ?_
  intro p e s m args below meth c s₁ Bd hml hv
  obtain ⟨rfl, hE, hR⟩ := hv
  have hx := Bd.exec
  have hb := Bd.bytes
  have hr := Bd.returns
  have hts := atoms_spec (ws := wX3_step) Bd.pre
  have hown : s.vm.findClass RX3 = some m.cls := findClass_of_methodNamed Bd.named
  have hlocks := Bd.notSynchronized
  have hK := hE.K
  have hS : va_S (fun q => base ≤ q) s.heap s.heap [] := va_S.rf
  have hR : tR D vwCl base ad (tC (wP n ad cs) I L) s.heap := hR
  have hl := lv_entry ([.ref (ad 200)]) (n := 3) (Nat.le_of_ble_eq_true rfl)
  rw [lg_entry_eq]
  generalize (lg_sl ([.ref (ad 200)]) ++ List.replicate (3 - (lg_sl ([.ref (ad 200)])).length) Slot.unset).toArray = ls at hl ⊢
  have hl : lv_has ls 3 [(0, .ref (ad 200))] := hl
  obtain ⟨h_nd, h_no, h_d, h_o⟩ := id hwf
  obtain ⟨h_f1, h_f2, h_f3, h_f4, h_f5, h_f6, h_n1, h_n4, h_bu, h_e1, h_e2, h_s1, h_v4⟩ := id hMf
  refine lv_aload_n hx hb dX3_step_0 rfl (lv_at hl 0 rfl) ?_
  refine lv_dup hx hb dX3_step_1 rfl ?_
  refine tb_get hx hb hts (fun w h => List.mem_cons_of_mem _ (inX3 w h)) hown hK hR 200 rfl rfl 16 (by decide) (hts _ (List.mem_cons_of_mem _ k494)) (fun _ h => h) rfl dX3_step_2 ?_
  rw [show I 200 16 = nI sp from hMo.2.1]
  refine lv_iconst (v := 1) hx hb dX3_step_5 (by decide) ?_
  refine lv_iadd hx hb dX3_step_6 ?_
  rw [nI_1]
  refine tp_put hx hb hts (fun w h => List.mem_cons_of_mem _ (inX3 w h)) tyX3 tyX3_ok nmX3 hown hK hR hS 200 (fun r => [.int (r 0), .int (r 1), .int (r 2), .int (r 3), .ref (ad 201), .ref (ad 202), .ref (ad 203), .ref (ad 204), .int (r 8), .ref (ad 205), .ref (ad 206), .ref (ad 207), .ref (ad 208), .int (r 13), .int (r 14), .int (r 15), .int (r 16), .int (r 17), .ref (ad 209), .ref (ad 210), .ref (ad 211), .int (r 21), .ref (ad 212), .ref (ad 213), .ref (ad 214), .ref (ad 215), .ref (ad 216)]) (fun _ _ => rfl) rfl 16 (by decide) (hts _ (List.mem_cons_of_mem _ k494)) (fun _ h => h) rfl (ty := .int) rfl rfl rfl (by simp) (fun _ => rfl) dX3_step_7 (fun H locs hR hS => ?_)
  refine lv_iconst (v := 0) hx hb dX3_step_10 (by decide) ?_
  rw [show (0 : Int32) = nI 0 from nI_0.symm]
  refine lv_istore_n (lv' := [(1, .int (nI 0)), (0, .ref (ad 200))]) hx hb dX3_step_11 rfl hl (by decide) rfl (fun ls hl => ?_)
  refine lrX3_step ⟨hx, hb, hml, hown, hts⟩ hE (Nat.le_of_ble_eq_true rfl) (Nat.le_of_ble_eq_true rfl) (Nat.le_of_ble_eq_true rfl) (Nat.le_of_ble_eq_true rfl) I L hMs hwf hMf hMo hwY hsp hk60 (fun J K H locs ls hJ hR hS hl => ?_) (n + 1) 0 _ _ _ _ ls (Nat.zero_le _) (by omega) (mS_i hMo) hR hS (lv_sub hl [0, 1] rfl)
  have hMsJ : cMs J nd no f la ph w ea lt le mo := hMs.of (by rw [hJ.1.2.1, pk_un (by omega)]) (by rw [hJ.1.2.1, pk_un (by omega)]) (fun k _ _ => hJ.1.1 k (by omega) (by omega) (by omega))
  have hMfJ : cMf J n bu ev sd sv se := hMf.of (fun i _ => by rw [hJ.1.2.1, pk_un (by omega)])
  refine lv_aload_n hx hb dX3_step_102 rfl (lv_at hl 1 rfl) ?_
  refine lv_dup hx hb dX3_step_103 rfl ?_
  refine tb_get hx hb hts (fun w h => List.mem_cons_of_mem _ (inX3 w h)) hown hK hR 200 rfl rfl 17 (by decide) (hts _ (List.mem_cons_of_mem _ k495)) (fun _ h => h) rfl dX3_step_104 ?_
  rw [show J 200 17 = nI kp from (by rw [hJ.1.2.1, pk_un (by omega)]; exact hMo.1)]
  refine lv_aload_n hx hb dX3_step_107 rfl (lv_at hl 1 rfl) ?_
  refine lv_aload_n hx hb dX3_step_108 rfl (lv_at hl 1 rfl) ?_
  refine tb_get hx hb hts (fun w h => List.mem_cons_of_mem _ (inX3 w h)) hown hK hR 200 rfl rfl 16 (by decide) (hts _ (List.mem_cons_of_mem _ k494)) (fun _ h => h) rfl dX3_step_109 ?_
  rw [show J 200 16 = nI (sp + 1) from (by rw [hJ.1.2.1, pk_us])]
  refine kc_i (va_runV (As := [.int (nI (sp + 1))]) (rest := [.int (nI kp), .ref (ad 200)]) ⟨hx, hb, hml, hown, hts⟩ (mX3_isKept J K (sp + 1) hMfJ (by omega)) (cwV 1 hts (kw_V k628 k630 ks32 k5 k631) rfl rfl rfl (by decide +kernel) ⟨Nat.le_of_ble_eq_true rfl, Nat.le_of_ble_eq_true rfl⟩) (kB_preV hE hR hS 200 rfl rfl [.int (nI (sp + 1))]) rfl rfl hl.1 rfl (lv_room (Nat.le_of_ble_eq_true rfl)) dX3_step_112 ⟨Nat.le_of_ble_eq_true rfl, Nat.le_of_ble_eq_true rfl⟩) hS (fun r u H locs hw hR hS => ?_)
  obtain ⟨rfl, rfl⟩ := hw
  have hR : tR D vwCl base ad (tC (wP n ad cs) J K) H := hR
  refine lv_if_eq (tgt := 122) hx hb dX3_step_115 (by decide) (fun c1 => ?_) (fun c1 => ?_)
  · have hq : kN bu ev (sp + 1) = 0 := (nI_z (by have := kN_le bu ev (sp + 1); omega)).mp c1
    refine lv_iconst (v := 0) hx hb dX3_step_122 (by decide) ?_
    refine lv_iadd hx hb dX3_step_123 ?_
    rw [show (0 : Int32) = nI (kN bu ev (sp + 1)) from by rw [hq]; rfl, nI_add]
    refine tp_put hx hb hts (fun w h => List.mem_cons_of_mem _ (inX3 w h)) tyX3 tyX3_ok nmX3 hown hK hR hS 200 (fun r => [.int (r 0), .int (r 1), .int (r 2), .int (r 3), .ref (ad 201), .ref (ad 202), .ref (ad 203), .ref (ad 204), .int (r 8), .ref (ad 205), .ref (ad 206), .ref (ad 207), .ref (ad 208), .int (r 13), .int (r 14), .int (r 15), .int (r 16), .int (r 17), .ref (ad 209), .ref (ad 210), .ref (ad 211), .int (r 21), .ref (ad 212), .ref (ad 213), .ref (ad 214), .ref (ad 215), .ref (ad 216)]) (fun _ _ => rfl) rfl 17 (by decide) (hts _ (List.mem_cons_of_mem _ k495)) (fun _ h => h) rfl (ty := .int) rfl rfl rfl (by simp) (fun _ => rfl) dX3_step_124 (fun H locs hR hS => ?_)
    exact W.vret hx hb hr (fun t ht hW => ⟨⟨(va_up J 200 (upd (J 200) 17 (nI (kp + kN bu ev (sp + 1)))), K), rfl, ⟨mS_e hJ hMo.1, mS_fr hJ⟩, by show tR _ _ _ _ _ t.heap; rw [ht]; exact hR⟩, hS.F ht⟩) hS.2.2 dX3_step_127
  · have hq : kN bu ev (sp + 1) = 1 := by have q1 := kN_le bu ev (sp + 1); have q2 : ¬ kN bu ev (sp + 1) = 0 := fun z => c1 (by rw [z]; rfl); omega
    refine lv_iconst (v := 1) hx hb dX3_step_118 (by decide) ?_
    refine lv_goto (tgt := 123) hx hb dX3_step_119 (by decide) ?_
    refine lv_iadd hx hb dX3_step_123 ?_
    rw [show (1 : Int32) = nI (kN bu ev (sp + 1)) from by rw [hq]; rfl, nI_add]
    refine tp_put hx hb hts (fun w h => List.mem_cons_of_mem _ (inX3 w h)) tyX3 tyX3_ok nmX3 hown hK hR hS 200 (fun r => [.int (r 0), .int (r 1), .int (r 2), .int (r 3), .ref (ad 201), .ref (ad 202), .ref (ad 203), .ref (ad 204), .int (r 8), .ref (ad 205), .ref (ad 206), .ref (ad 207), .ref (ad 208), .int (r 13), .int (r 14), .int (r 15), .int (r 16), .int (r 17), .ref (ad 209), .ref (ad 210), .ref (ad 211), .int (r 21), .ref (ad 212), .ref (ad 213), .ref (ad 214), .ref (ad 215), .ref (ad 216)]) (fun _ _ => rfl) rfl 17 (by decide) (hts _ (List.mem_cons_of_mem _ k495)) (fun _ h => h) rfl (ty := .int) rfl rfl rfl (by simp) (fun _ => rfl) dX3_step_124 (fun H locs hR hS => ?_)
    exact W.vret hx hb hr (fun t ht hW => ⟨⟨(va_up J 200 (upd (J 200) 17 (nI (kp + kN bu ev (sp + 1)))), K), rfl, ⟨mS_e hJ hMo.1, mS_fr hJ⟩, by show tR _ _ _ _ _ t.heap; rw [ht]; exact hR⟩, hS.F ht⟩) hS.2.2 dX3_step_127
set_option maxHeartbeats 4000000 in
set_option maxRecDepth 100000 in
theorem lpX3_run {p : Program} {e : Env} {R : Room} {s : State} {m : MethodId} {args : Array Value} {below : List Frame} {meth : Method} {c : Code} {cells slots : Nat} {Q : State → Prop} (S0 : CallFix p m c cX3_run 5 s args wX3_run RX3) (hE : eV D cs base sa s) (hRf : 1 ≤ R.frames) (hRl : 40 ≤ R.locals) (hRc : cells ≤ R.cells) (hRs : slots ≤ R.slots) (I : tI) (L : tL) {bu ev sd sv : Nat} {se : Int32} (x s0 : Nat) (hMf : cMf I n bu ev sd sv se) (hs0 : I 200 16 = nI s0) (hx100 : x ≤ 100) (hs2 : s0 < 2 ^ 19)
    (kx : ∀ (H : Heap) (locs : List Loc) (ls : Array Slot), 1 ≤ x + 1 → tR D vwCl base ad (tC (wP n ad cs) I L) H → va_S (fun q => base ≤ q) s.heap H locs → lv_has ls 5 [(4, .int (nI (x + 1))), (3, .int (nI (cK bu ev s0 ((x + 1) - 1)))), (2, .int 0), (0, .ref (ad 200)), (1, .int (nI x))] → W p l e R s m args below meth c H locs cells slots Q (F0 m 59 ls [])) :
    ∀ (k j : Nat) (H : Heap) (locs : List Loc) (ls : Array Slot), j ≤ x + 1 → x + 1 + 1 ≤ j + k → 1 ≤ j → tR D vwCl base ad (tC (wP n ad cs) I L) H → va_S (fun q => base ≤ q) s.heap H locs → lv_has ls 5 [(4, .int (nI j)), (3, .int (nI (cK bu ev s0 (j - 1)))), (2, .int 0), (0, .ref (ad 200)), (1, .int (nI x))] → W p l e R s m args below meth c H locs cells slots Q (F0 m 21 ls []) := by
  obtain ⟨hx, hb, hml, hown, hts⟩ := S0
  have hK := hE.K
  obtain ⟨h_f1, h_f2, h_f3, h_f4, h_f5, h_f6, h_n1, h_n4, h_bu, h_e1, h_e2, h_s1, h_v4⟩ := id hMf
  intro k
  induction k with
  | zero => intro j  H locs ls h1 h2; exact absurd h2 (by omega)
  | succ k ih =>
    intro j  H locs ls hj hk hj1 hR hS hl
    refine lv_iload hx hb dX3_run_21 (lv_at hl 0 rfl) ?_
    refine lv_iload_n hx hb dX3_run_23 rfl (lv_at hl 4 rfl) ?_
    refine lv_icmp_gt (tgt := 59) hx hb dX3_run_24 (by decide) (fun c1 => ?_) (fun c1 => ?_)
    · have hjN : j = x + 1 := by have e9 := (nI_ltI (by omega) (by omega)).mp c1; omega
      subst hjN
      exact kx  H locs ls hj1 hR hS (lv_sub hl [0, 1, 2, 3, 4] rfl)
    · have hjN : j < x + 1 := by
        rcases Nat.lt_or_ge j (x + 1) with q | q
        · exact q
        · exact absurd (nI_lt (by omega) (by omega)) c1
      refine lv_iload_n hx hb dX3_run_27 rfl (lv_at hl 2 rfl) ?_
      refine lv_if_ne (tgt := 59) hx hb dX3_run_28 (by decide) (fun c2 => ?_) (fun c2 => ?_)
      · exact absurd rfl c2
      · refine lv_iload_n hx hb dX3_run_31 rfl (lv_at hl 1 rfl) ?_
        refine lv_aload_n hx hb dX3_run_32 rfl (lv_at hl 3 rfl) ?_
        refine lv_aload_n hx hb dX3_run_33 rfl (lv_at hl 3 rfl) ?_
        refine tb_get hx hb hts (fun w h => List.mem_cons_of_mem _ (inX3 w h)) hown hK hR 200 rfl rfl 16 (by decide) (hts _ (List.mem_cons_of_mem _ k494)) (fun _ h => h) rfl dX3_run_34 ?_
        rw [show I 200 16 = nI s0 from hs0]
        refine lv_iload hx hb dX3_run_37 (lv_at hl 0 rfl) ?_
        refine lv_iadd hx hb dX3_run_39 ?_
        rw [nI_add]
        refine kc_i (va_runV (As := [.int (nI (s0 + j))]) (rest := [.int (nI (cK bu ev s0 (j - 1)))]) ⟨hx, hb, hml, hown, hts⟩ (mX3_isKept I L (s0 + j) hMf (by omega)) (cwV 1 hts (kw_V k628 k630 ks32 k5 k631) rfl rfl rfl (by decide +kernel) ⟨Nat.le_trans (Nat.le_of_ble_eq_true rfl) hRf, Nat.le_trans (Nat.le_of_ble_eq_true rfl) hRl⟩) (kB_preV hE hR hS 200 rfl rfl [.int (nI (s0 + j))]) rfl rfl hl.1 rfl (lv_room (Nat.le_of_ble_eq_true rfl)) dX3_run_40 ⟨hRc, hRs⟩) hS (fun r u H locs hw hR hS => ?_)
        obtain ⟨rfl, rfl⟩ := hw
        have hR : tR D vwCl base ad (tC (wP n ad cs) I L) H := hR
        refine lv_if_eq (tgt := 50) hx hb dX3_run_43 (by decide) (fun c3 => ?_) (fun c3 => ?_)
        · have hq : kN bu ev (s0 + j) = 0 := (nI_z (by have := kN_le bu ev (s0 + j); omega)).mp c3
          refine lv_iconst (v := 0) hx hb dX3_run_50 (by decide) ?_
          refine lv_iadd hx hb dX3_run_51 ?_
          rw [show (0 : Int32) = nI (kN bu ev (s0 + j)) from by rw [hq]; rfl, nI_add, ← cK_s hj1]
          refine lv_istore_n (lv' := [(3, .int (nI (cK bu ev s0 (j + 1 - 1)))), (4, .int (nI j)), (2, .int 0), (0, .ref (ad 200)), (1, .int (nI x))]) hx hb dX3_run_52 rfl hl (by decide) rfl (fun ls hl => ?_)
          refine lv_iinc (v := nI (j + 1)) (lv' := [(4, .int (nI (j + 1))), (3, .int (nI (cK bu ev s0 (j + 1 - 1)))), (2, .int 0), (0, .ref (ad 200)), (1, .int (nI x))]) hx hb dX3_run_53 hl (k := 1) rfl (nI_1 _) (by decide) rfl (fun ls hl => ?_)
          refine lv_goto (tgt := 21) hx hb dX3_run_56 (by decide) ?_
          exact ih (j + 1)  H locs ls (by omega) (by omega) (by omega) hR hS (lv_sub hl [0, 1, 2, 3, 4] rfl)
        · have hq : kN bu ev (s0 + j) = 1 := by have q1 := kN_le bu ev (s0 + j); have q2 : ¬ kN bu ev (s0 + j) = 0 := fun z => c3 (by rw [z]; rfl); omega
          refine lv_iconst (v := 1) hx hb dX3_run_46 (by decide) ?_
          refine lv_goto (tgt := 51) hx hb dX3_run_47 (by decide) ?_
          refine lv_iadd hx hb dX3_run_51 ?_
          rw [show (1 : Int32) = nI (kN bu ev (s0 + j)) from by rw [hq]; rfl, nI_add, ← cK_s hj1]
          refine lv_istore_n (lv' := [(3, .int (nI (cK bu ev s0 (j + 1 - 1)))), (4, .int (nI j)), (2, .int 0), (0, .ref (ad 200)), (1, .int (nI x))]) hx hb dX3_run_52 rfl hl (by decide) rfl (fun ls hl => ?_)
          refine lv_iinc (v := nI (j + 1)) (lv' := [(4, .int (nI (j + 1))), (3, .int (nI (cK bu ev s0 (j + 1 - 1)))), (2, .int 0), (0, .ref (ad 200)), (1, .int (nI x))]) hx hb dX3_run_53 hl (k := 1) rfl (nI_1 _) (by decide) rfl (fun ls hl => ?_)
          refine lv_goto (tgt := 21) hx hb dX3_run_56 (by decide) ?_
          exact ih (j + 1)  H locs ls (by omega) (by omega) (by omega) hR hS (lv_sub hl [0, 1, 2, 3, 4] rfl)
set_option maxHeartbeats 4000000 in
set_option maxRecDepth 100000 in
theorem lqX3_run {p : Program} {e : Env} {R : Room} {s : State} {m : MethodId} {args : Array Value} {below : List Frame} {meth : Method} {c : Code} {cells slots : Nat} {Q : State → Prop} (S0 : CallFix p m c cX3_run 5 s args wX3_run RX3) (hE : eV D cs base sa s) (hRf : 4 ≤ R.frames) (hRl : 150 ≤ R.locals) (hRc : cells ≤ R.cells) (hRs : slots ≤ R.slots) (I : tI) (L : tL) {nd no : Nat} {f la : Nat → Nat} {ph : Nat → Int32} {w : Nat → Nat → Nat} {ea lt le mo : Nat → Nat} {bu ev sd sv : Nat} {se : Int32} {Y : Nat → Nat → Nat} {st : Nat → Int64} {Rw : Nat → Nat → Nat → Nat} {kp sp : Nat} (x : Nat) (hMs : cMs I nd no f la ph w ea lt le mo) (hwf : wfS nd no f la w ea lt le mo) (hMf : cMf I n bu ev sd sv se) (hwY : ∀ c, c < n → wfY nd no f la ea lt le mo (Y c)) (hx100 : x ≤ 100) (hsp : sp + 100 < 2 ^ 19) (hk60 : kp + cK bu ev sp x ≤ 60)
    (kx : ∀ (J : tI) (K : tL) (H : Heap) (locs : List Loc) (ls : Array Slot), cMo J K n nd (iY nd no f la w ea lt le mo Y st x).1 (iY nd no f la w ea lt le mo Y st x).2 (iR nd no f la w ea lt le mo Y st Rw kp sp bu ev x) (kp + cK bu ev sp x) (sp + x) → ((∀ k, k ≠ 200 → k ≠ 209 → k ≠ 211 → J k = I k) ∧ (∀ i, i ≠ 16 → i ≠ 17 → J 200 i = I 200 i) ∧ ∀ k, k ≠ 210 → K k = L k) → tR D vwCl base ad (tC (wP n ad cs) J K) H → va_S (fun q => base ≤ q) s.heap H locs → lv_has ls 5 [(4, .int (nI x)), (0, .ref (ad 200)), (1, .int (nI x))] → W p l e R s m args below meth c H locs cells slots Q (F0 m 112 ls [])) :
    ∀ (k j : Nat) (J : tI) (K : tL) (H : Heap) (locs : List Loc) (ls : Array Slot), j ≤ x → x + 1 ≤ j + k → cMo J K n nd (iY nd no f la w ea lt le mo Y st j).1 (iY nd no f la w ea lt le mo Y st j).2 (iR nd no f la w ea lt le mo Y st Rw kp sp bu ev j) (kp + cK bu ev sp j) (sp + j) → ((∀ k, k ≠ 200 → k ≠ 209 → k ≠ 211 → J k = I k) ∧ (∀ i, i ≠ 16 → i ≠ 17 → J 200 i = I 200 i) ∧ ∀ k, k ≠ 210 → K k = L k) → tR D vwCl base ad (tC (wP n ad cs) J K) H → va_S (fun q => base ≤ q) s.heap H locs → lv_has ls 5 [(4, .int (nI j)), (0, .ref (ad 200)), (1, .int (nI x))] → W p l e R s m args below meth c H locs cells slots Q (F0 m 96 ls []) := by
  obtain ⟨hx, hb, hml, hown, hts⟩ := S0
  have hK := hE.K
  obtain ⟨h_nd, h_no, h_d, h_o⟩ := id hwf
  obtain ⟨h_f1, h_f2, h_f3, h_f4, h_f5, h_f6, h_n1, h_n4, h_bu, h_e1, h_e2, h_s1, h_v4⟩ := id hMf
  intro k
  induction k with
  | zero => intro j J K H locs ls h1 h2; exact absurd h2 (by omega)
  | succ k ih =>
    intro j J K H locs ls hj hk hJ hF hR hS hl
    refine lv_iload hx hb dX3_run_96 (lv_at hl 0 rfl) ?_
    refine lv_iload_n hx hb dX3_run_98 rfl (lv_at hl 2 rfl) ?_
    refine lv_icmp_ge (tgt := 112) hx hb dX3_run_99 (by decide) (fun c1 => ?_) (fun c1 => ?_)
    · have hjN : j = x := by have e9 := (nI_leI (by omega) (by omega)).mp c1; omega
      subst hjN
      exact kx J K H locs ls hJ hF hR hS (lv_sub hl [0, 1, 2] rfl)
    · have hjN : j < x := by
        rcases Nat.lt_or_ge j x with q | q
        · exact q
        · exact absurd (nI_le (by omega) (by omega)) c1
      refine lv_aload_n hx hb dX3_run_102 rfl (lv_at hl 1 rfl) ?_
      have e9 : kp + cK bu ev sp j + kN bu ev (sp + j + 1) = kp + cK bu ev sp (j + 1) := Nat.add_assoc _ _ _
      have hMsJ : cMs J nd no f la ph w ea lt le mo := hMs.of (hF.2.1 3 (by omega) (by omega)) (hF.2.1 8 (by omega) (by omega)) (fun k _ _ => hF.1 k (by omega) (by omega) (by omega))
      have hMfJ : cMf J n bu ev sd sv se := hMf.of (fun i _ => hF.2.1 i (by omega) (by omega))
      refine kc_v (va_runV (As := []) (rest := []) ⟨hx, hb, hml, hown, hts⟩ (mX3_step J K hMsJ hwf hMfJ hJ (iY_wf hwf hwY j) (by omega) (by have := cK_mono bu ev sp (show j + 1 ≤ x by omega); rw [e9]; exact Nat.le_trans (Nat.add_le_add_left this kp) hk60)) (cwV 0 hts (kw_V k632 k634 ks33 k5 k635) rfl rfl rfl (by decide +kernel) ⟨Nat.le_trans (Nat.le_of_ble_eq_true rfl) hRf, Nat.le_trans (Nat.le_of_ble_eq_true rfl) hRl⟩) (kB_preV hE hR hS 200 rfl rfl []) rfl rfl hl.1 rfl (lv_room (Nat.le_of_ble_eq_true rfl)) dX3_run_103 ⟨hRc, hRs⟩) hS (fun u H locs hw hR hS => ?_)
      obtain ⟨q1, q2, q3, q4⟩ := hw
      rw [e9] at q1
      refine lv_iinc (v := nI (j + 1)) (lv' := [(4, .int (nI (j + 1))), (0, .ref (ad 200)), (1, .int (nI x))]) hx hb dX3_run_106 hl (k := 0) rfl (nI_1 _) (by decide) rfl (fun ls hl => ?_)
      refine lv_goto (tgt := 96) hx hb dX3_run_109 (by decide) ?_
      exact ih (j + 1) u.1 u.2 H locs ls (by omega) (by omega) q1 ⟨fun k k1 k2 k3 => (q2 k k1 k2 k3).trans (hF.1 k k1 k2 k3), fun i i1 i2 => (q3 i i1 i2).trans (hF.2.1 i i1 i2), fun k hk => (q4 k hk).trans (hF.2.2 k hk)⟩ hR hS (lv_sub hl [0, 1, 2] rfl)
set_option maxHeartbeats 4000000 in
set_option maxRecDepth 100000 in
theorem mX3_run (I : tI) (L : tL) {nd no : Nat} {f la : Nat → Nat} {ph : Nat → Int32} {w : Nat → Nat → Nat} {ea lt le mo : Nat → Nat} {bu ev sd sv : Nat} {se : Int32} {Y : Nat → Nat → Nat} {st : Nat → Int64} {Rw : Nat → Nat → Nat → Nat} {kp sp : Nat} (B s0 : Nat) (p0 : Int32) (hMs : cMs I nd no f la ph w ea lt le mo) (hwf : wfS nd no f la w ea lt le mo) (hMf : cMf I n bu ev sd sv se) (hs0 : I 200 16 = nI s0) (hs0B : s0 ≤ B) (hC : sd = 1 → cMo I L n nd Y st Rw kp sp ∧ wCo n nd no f la ea lt le mo B Y Rw kp sp) (hB : B + 100 < 2 ^ 19) : Met l yX3_run wX3_run ({ frames := 5, cells := 0, slots := 0, locals := 190 }) (va_Pc [.ref (ad 200), .int p0] (kB D cs base sa n ad I L)) (va_Qi (fun (r : Int32) (u : tI × tL) => pM I L (¬ inN 101 p0) (¬ rOk sd kp bu ev sp p0) False (fun r u => ∃ x, x ≤ 100 ∧ p0 = nI x ∧ r = nI (kp + cK bu ev sp x) ∧ cMo u.1 u.2 n nd (iY nd no f la w ea lt le mo Y st x).1 (iY nd no f la w ea lt le mo Y st x).2 (iR nd no f la w ea lt le mo Y st Rw kp sp bu ev x) (kp + cK bu ev sp x) (sp + x) ∧ u.1 200 0 = 0 ∧ (∀ k, k ≠ 200 → k ≠ 209 → k ≠ 211 → u.1 k = I k) ∧ (∀ i, i ≠ 0 → i ≠ 16 → i ≠ 17 → u.1 200 i = I 200 i) ∧ ∀ k, k ≠ 210 → u.2 k = L k) r u) (kA D cs base n ad) (fun q => base ≤ q)) 0 0 (fun q => base ≤ q) := by
  refine Met.ofW (cc := cX3_run) (maxL := 5) (ret := (some .int)) (by decide) rfl ?_
  intro p e s m args below meth c s₁ Bd hml hv
  obtain ⟨rfl, hE, hR⟩ := hv
  have hx := Bd.exec
  have hb := Bd.bytes
  have hr := Bd.returns
  have hts := atoms_spec (ws := wX3_run) Bd.pre
  have hown : s.vm.findClass RX3 = some m.cls := findClass_of_methodNamed Bd.named
  have hlocks := Bd.notSynchronized
  have hK := hE.K
  have hS : va_S (fun q => base ≤ q) s.heap s.heap [] := va_S.rf
  have hR : tR D vwCl base ad (tC (wP n ad cs) I L) s.heap := hR
  have hl := lv_entry ([.ref (ad 200), .int p0]) (n := 5) (Nat.le_of_ble_eq_true rfl)
  rw [lg_entry_eq]
  generalize (lg_sl ([.ref (ad 200), .int p0]) ++ List.replicate (5 - (lg_sl ([.ref (ad 200), .int p0])).length) Slot.unset).toArray = ls at hl ⊢
  have hl : lv_has ls 5 [(0, .ref (ad 200)), (1, .int p0)] := hl
  obtain ⟨h_nd, h_no, h_d, h_o⟩ := id hwf
  obtain ⟨h_f1, h_f2, h_f3, h_f4, h_f5, h_f6, h_n1, h_n4, h_bu, h_e1, h_e2, h_s1, h_v4⟩ := id hMf
  refine jnW (P := ¬ inN 101 p0) 15 (fun x1 => [.int x1]) (fun H locs => tR D vwCl base ad (tC (wP n ad cs) I L) H ∧ va_S (fun q => base ≤ q) s.heap H locs) (fun x1 H locs hx1 hT => ?_) (fun Kx1 => ?_)
  · obtain ⟨hR, hS⟩ := hT
    rcases hx1 with ⟨rfl, hbad⟩ | ⟨rfl, hgood⟩
    · refine lv_istore_n (lv' := [(2, .int 1), (0, .ref (ad 200)), (1, .int p0)]) hx hb dX3_run_15 rfl hl (by decide) rfl (fun ls hl => ?_)
      refine lv_iconst (v := 0) hx hb dX3_run_16 (by decide) ?_
      refine lv_istore_n (lv' := [(3, .int 0), (2, .int 1), (0, .ref (ad 200)), (1, .int p0)]) hx hb dX3_run_17 rfl hl (by decide) rfl (fun ls hl => ?_)
      refine lv_iconst (v := 1) hx hb dX3_run_18 (by decide) ?_
      refine lv_istore (lv' := [(4, .int 1), (3, .int 0), (2, .int 1), (0, .ref (ad 200)), (1, .int p0)]) hx hb dX3_run_19 hl (by decide) rfl (fun ls hl => ?_)
      refine lv_iload hx hb dX3_run_21 (lv_at hl 0 rfl) ?_
      refine lv_iload_n hx hb dX3_run_23 rfl (lv_at hl 4 rfl) ?_
      refine lv_icmp_gt (tgt := 59) hx hb dX3_run_24 (by decide) (fun c1 => ?_) (fun c1 => ?_)
      · refine lv_aload_n hx hb dX3_run_59 rfl (lv_at hl 3 rfl) ?_
        refine lv_iload_n hx hb dX3_run_60 rfl (lv_at hl 2 rfl) ?_
        refine lv_aload_n hx hb dX3_run_61 rfl (lv_at hl 3 rfl) ?_
        refine tb_get hx hb hts (fun w h => List.mem_cons_of_mem _ (inX3 w h)) hown hK hR 200 rfl rfl 15 (by decide) (hts _ (List.mem_cons_of_mem _ k493)) (fun _ h => h) rfl dX3_run_62 ?_
        rw [show I 200 15 = nI sd from hMf.2.2.2.2.1]
        refine lv_if_eq (tgt := 79) hx hb dX3_run_65 (by decide) (fun c2 => ?_) (fun c2 => ?_)
        · refine lv_iconst (v := 1) hx hb dX3_run_79 (by decide) ?_
          refine lv_goto (tgt := 84) hx hb dX3_run_80 (by decide) ?_
          refine lv_iconst (v := 0) hx hb dX3_run_84 (by decide) ?_
          refine kc_i (va_runV (As := [.int 1, .int 1, .int 0]) (rest := []) ⟨hx, hb, hml, hown, hts⟩ (mX3_throwing I L 1 1 0 (P1 := ¬ inN 101 p0) (P2 := True) (P3 := False) (bZ1 hbad) (bZ1 trivial) (bZ0 (fun z => z))) (cwV 3 hts (kw_V k571 k573 ks25 k5 k574) rfl rfl rfl (by decide +kernel) ⟨Nat.le_of_ble_eq_true rfl, Nat.le_of_ble_eq_true rfl⟩) (kB_preV hE hR hS 200 rfl rfl [.int 1, .int 1, .int 0]) rfl rfl hl.1 rfl (lv_room (Nat.le_of_ble_eq_true rfl)) dX3_run_85 ⟨Nat.le_of_ble_eq_true rfl, Nat.le_of_ble_eq_true rfl⟩) hS (fun r u H locs hw hR hS => ?_)
          rcases hw with ⟨t1, rfl, rfl⟩ | ⟨t1, _⟩ | ⟨t1, _⟩ | ⟨t1, _⟩
          · have hR : tR D vwCl base ad (tC (wP n ad cs) (gT I 1) L) H := hR
            refine lv_if_eq (tgt := 93) hx hb dX3_run_88 (by decide) (fun c9 => absurd c9 (by decide)) (fun c9 => ?_)
            refine lv_iconst (v := 0) hx hb dX3_run_91 (by decide) ?_
            exact W.iret (v := 0) hx hb hr (fun t ht hW => ⟨⟨_, (gT I 1, L), rfl, Or.inl ⟨t1, rfl, rfl⟩, by show tR _ _ _ _ _ t.heap; rw [ht]; exact hR⟩, hS.F ht⟩) hS.2.2 dX3_run_92
          · exact absurd hbad t1
          · exact absurd hbad t1
          · exact absurd hbad t1
        · refine lv_aload_n hx hb dX3_run_68 rfl (lv_at hl 3 rfl) ?_
          refine tb_get hx hb hts (fun w h => List.mem_cons_of_mem _ (inX3 w h)) hown hK hR 200 rfl rfl 17 (by decide) (hts _ (List.mem_cons_of_mem _ k495)) (fun _ h => h) rfl dX3_run_69 ?_
          refine lv_iload_n hx hb dX3_run_72 rfl (lv_at hl 1 rfl) ?_
          refine lv_iadd hx hb dX3_run_73 ?_
          refine lv_bipush (v := 60) hx hb dX3_run_74 (by decide) ?_
          refine lv_icmp_le (tgt := 83) hx hb dX3_run_76 (by decide) (fun c3 => ?_) (fun c3 => ?_)
          · refine lv_iconst (v := 0) hx hb dX3_run_83 (by decide) ?_
            refine lv_iconst (v := 0) hx hb dX3_run_84 (by decide) ?_
            refine kc_i (va_runV (As := [.int 1, .int 0, .int 0]) (rest := []) ⟨hx, hb, hml, hown, hts⟩ (mX3_throwing I L 1 0 0 (P1 := ¬ inN 101 p0) (P2 := False) (P3 := False) (bZ1 hbad) (bZ0 (fun z => z)) (bZ0 (fun z => z))) (cwV 3 hts (kw_V k571 k573 ks25 k5 k574) rfl rfl rfl (by decide +kernel) ⟨Nat.le_of_ble_eq_true rfl, Nat.le_of_ble_eq_true rfl⟩) (kB_preV hE hR hS 200 rfl rfl [.int 1, .int 0, .int 0]) rfl rfl hl.1 rfl (lv_room (Nat.le_of_ble_eq_true rfl)) dX3_run_85 ⟨Nat.le_of_ble_eq_true rfl, Nat.le_of_ble_eq_true rfl⟩) hS (fun r u H locs hw hR hS => ?_)
            rcases hw with ⟨t1, rfl, rfl⟩ | ⟨t1, _⟩ | ⟨t1, _⟩ | ⟨t1, _⟩
            · have hR : tR D vwCl base ad (tC (wP n ad cs) (gT I 1) L) H := hR
              refine lv_if_eq (tgt := 93) hx hb dX3_run_88 (by decide) (fun c9 => absurd c9 (by decide)) (fun c9 => ?_)
              refine lv_iconst (v := 0) hx hb dX3_run_91 (by decide) ?_
              exact W.iret (v := 0) hx hb hr (fun t ht hW => ⟨⟨_, (gT I 1, L), rfl, Or.inl ⟨t1, rfl, rfl⟩, by show tR _ _ _ _ _ t.heap; rw [ht]; exact hR⟩, hS.F ht⟩) hS.2.2 dX3_run_92
            · exact absurd hbad t1
            · exact absurd hbad t1
            · exact absurd hbad t1
          · refine lv_iconst (v := 1) hx hb dX3_run_79 (by decide) ?_
            refine lv_goto (tgt := 84) hx hb dX3_run_80 (by decide) ?_
            refine lv_iconst (v := 0) hx hb dX3_run_84 (by decide) ?_
            refine kc_i (va_runV (As := [.int 1, .int 1, .int 0]) (rest := []) ⟨hx, hb, hml, hown, hts⟩ (mX3_throwing I L 1 1 0 (P1 := ¬ inN 101 p0) (P2 := True) (P3 := False) (bZ1 hbad) (bZ1 trivial) (bZ0 (fun z => z))) (cwV 3 hts (kw_V k571 k573 ks25 k5 k574) rfl rfl rfl (by decide +kernel) ⟨Nat.le_of_ble_eq_true rfl, Nat.le_of_ble_eq_true rfl⟩) (kB_preV hE hR hS 200 rfl rfl [.int 1, .int 1, .int 0]) rfl rfl hl.1 rfl (lv_room (Nat.le_of_ble_eq_true rfl)) dX3_run_85 ⟨Nat.le_of_ble_eq_true rfl, Nat.le_of_ble_eq_true rfl⟩) hS (fun r u H locs hw hR hS => ?_)
            rcases hw with ⟨t1, rfl, rfl⟩ | ⟨t1, _⟩ | ⟨t1, _⟩ | ⟨t1, _⟩
            · have hR : tR D vwCl base ad (tC (wP n ad cs) (gT I 1) L) H := hR
              refine lv_if_eq (tgt := 93) hx hb dX3_run_88 (by decide) (fun c9 => absurd c9 (by decide)) (fun c9 => ?_)
              refine lv_iconst (v := 0) hx hb dX3_run_91 (by decide) ?_
              exact W.iret (v := 0) hx hb hr (fun t ht hW => ⟨⟨_, (gT I 1, L), rfl, Or.inl ⟨t1, rfl, rfl⟩, by show tR _ _ _ _ _ t.heap; rw [ht]; exact hR⟩, hS.F ht⟩) hS.2.2 dX3_run_92
            · exact absurd hbad t1
            · exact absurd hbad t1
            · exact absurd hbad t1
      · refine lv_iload_n hx hb dX3_run_27 rfl (lv_at hl 2 rfl) ?_
        refine lv_if_ne (tgt := 59) hx hb dX3_run_28 (by decide) (fun c4 => ?_) (fun c4 => ?_)
        · refine lv_aload_n hx hb dX3_run_59 rfl (lv_at hl 3 rfl) ?_
          refine lv_iload_n hx hb dX3_run_60 rfl (lv_at hl 2 rfl) ?_
          refine lv_aload_n hx hb dX3_run_61 rfl (lv_at hl 3 rfl) ?_
          refine tb_get hx hb hts (fun w h => List.mem_cons_of_mem _ (inX3 w h)) hown hK hR 200 rfl rfl 15 (by decide) (hts _ (List.mem_cons_of_mem _ k493)) (fun _ h => h) rfl dX3_run_62 ?_
          rw [show I 200 15 = nI sd from hMf.2.2.2.2.1]
          refine lv_if_eq (tgt := 79) hx hb dX3_run_65 (by decide) (fun c5 => ?_) (fun c5 => ?_)
          · refine lv_iconst (v := 1) hx hb dX3_run_79 (by decide) ?_
            refine lv_goto (tgt := 84) hx hb dX3_run_80 (by decide) ?_
            refine lv_iconst (v := 0) hx hb dX3_run_84 (by decide) ?_
            refine kc_i (va_runV (As := [.int 1, .int 1, .int 0]) (rest := []) ⟨hx, hb, hml, hown, hts⟩ (mX3_throwing I L 1 1 0 (P1 := ¬ inN 101 p0) (P2 := True) (P3 := False) (bZ1 hbad) (bZ1 trivial) (bZ0 (fun z => z))) (cwV 3 hts (kw_V k571 k573 ks25 k5 k574) rfl rfl rfl (by decide +kernel) ⟨Nat.le_of_ble_eq_true rfl, Nat.le_of_ble_eq_true rfl⟩) (kB_preV hE hR hS 200 rfl rfl [.int 1, .int 1, .int 0]) rfl rfl hl.1 rfl (lv_room (Nat.le_of_ble_eq_true rfl)) dX3_run_85 ⟨Nat.le_of_ble_eq_true rfl, Nat.le_of_ble_eq_true rfl⟩) hS (fun r u H locs hw hR hS => ?_)
            rcases hw with ⟨t1, rfl, rfl⟩ | ⟨t1, _⟩ | ⟨t1, _⟩ | ⟨t1, _⟩
            · have hR : tR D vwCl base ad (tC (wP n ad cs) (gT I 1) L) H := hR
              refine lv_if_eq (tgt := 93) hx hb dX3_run_88 (by decide) (fun c9 => absurd c9 (by decide)) (fun c9 => ?_)
              refine lv_iconst (v := 0) hx hb dX3_run_91 (by decide) ?_
              exact W.iret (v := 0) hx hb hr (fun t ht hW => ⟨⟨_, (gT I 1, L), rfl, Or.inl ⟨t1, rfl, rfl⟩, by show tR _ _ _ _ _ t.heap; rw [ht]; exact hR⟩, hS.F ht⟩) hS.2.2 dX3_run_92
            · exact absurd hbad t1
            · exact absurd hbad t1
            · exact absurd hbad t1
          · refine lv_aload_n hx hb dX3_run_68 rfl (lv_at hl 3 rfl) ?_
            refine tb_get hx hb hts (fun w h => List.mem_cons_of_mem _ (inX3 w h)) hown hK hR 200 rfl rfl 17 (by decide) (hts _ (List.mem_cons_of_mem _ k495)) (fun _ h => h) rfl dX3_run_69 ?_
            refine lv_iload_n hx hb dX3_run_72 rfl (lv_at hl 1 rfl) ?_
            refine lv_iadd hx hb dX3_run_73 ?_
            refine lv_bipush (v := 60) hx hb dX3_run_74 (by decide) ?_
            refine lv_icmp_le (tgt := 83) hx hb dX3_run_76 (by decide) (fun c6 => ?_) (fun c6 => ?_)
            · refine lv_iconst (v := 0) hx hb dX3_run_83 (by decide) ?_
              refine lv_iconst (v := 0) hx hb dX3_run_84 (by decide) ?_
              refine kc_i (va_runV (As := [.int 1, .int 0, .int 0]) (rest := []) ⟨hx, hb, hml, hown, hts⟩ (mX3_throwing I L 1 0 0 (P1 := ¬ inN 101 p0) (P2 := False) (P3 := False) (bZ1 hbad) (bZ0 (fun z => z)) (bZ0 (fun z => z))) (cwV 3 hts (kw_V k571 k573 ks25 k5 k574) rfl rfl rfl (by decide +kernel) ⟨Nat.le_of_ble_eq_true rfl, Nat.le_of_ble_eq_true rfl⟩) (kB_preV hE hR hS 200 rfl rfl [.int 1, .int 0, .int 0]) rfl rfl hl.1 rfl (lv_room (Nat.le_of_ble_eq_true rfl)) dX3_run_85 ⟨Nat.le_of_ble_eq_true rfl, Nat.le_of_ble_eq_true rfl⟩) hS (fun r u H locs hw hR hS => ?_)
              rcases hw with ⟨t1, rfl, rfl⟩ | ⟨t1, _⟩ | ⟨t1, _⟩ | ⟨t1, _⟩
              · have hR : tR D vwCl base ad (tC (wP n ad cs) (gT I 1) L) H := hR
                refine lv_if_eq (tgt := 93) hx hb dX3_run_88 (by decide) (fun c9 => absurd c9 (by decide)) (fun c9 => ?_)
                refine lv_iconst (v := 0) hx hb dX3_run_91 (by decide) ?_
                exact W.iret (v := 0) hx hb hr (fun t ht hW => ⟨⟨_, (gT I 1, L), rfl, Or.inl ⟨t1, rfl, rfl⟩, by show tR _ _ _ _ _ t.heap; rw [ht]; exact hR⟩, hS.F ht⟩) hS.2.2 dX3_run_92
              · exact absurd hbad t1
              · exact absurd hbad t1
              · exact absurd hbad t1
            · refine lv_iconst (v := 1) hx hb dX3_run_79 (by decide) ?_
              refine lv_goto (tgt := 84) hx hb dX3_run_80 (by decide) ?_
              refine lv_iconst (v := 0) hx hb dX3_run_84 (by decide) ?_
              refine kc_i (va_runV (As := [.int 1, .int 1, .int 0]) (rest := []) ⟨hx, hb, hml, hown, hts⟩ (mX3_throwing I L 1 1 0 (P1 := ¬ inN 101 p0) (P2 := True) (P3 := False) (bZ1 hbad) (bZ1 trivial) (bZ0 (fun z => z))) (cwV 3 hts (kw_V k571 k573 ks25 k5 k574) rfl rfl rfl (by decide +kernel) ⟨Nat.le_of_ble_eq_true rfl, Nat.le_of_ble_eq_true rfl⟩) (kB_preV hE hR hS 200 rfl rfl [.int 1, .int 1, .int 0]) rfl rfl hl.1 rfl (lv_room (Nat.le_of_ble_eq_true rfl)) dX3_run_85 ⟨Nat.le_of_ble_eq_true rfl, Nat.le_of_ble_eq_true rfl⟩) hS (fun r u H locs hw hR hS => ?_)
              rcases hw with ⟨t1, rfl, rfl⟩ | ⟨t1, _⟩ | ⟨t1, _⟩ | ⟨t1, _⟩
              · have hR : tR D vwCl base ad (tC (wP n ad cs) (gT I 1) L) H := hR
                refine lv_if_eq (tgt := 93) hx hb dX3_run_88 (by decide) (fun c9 => absurd c9 (by decide)) (fun c9 => ?_)
                refine lv_iconst (v := 0) hx hb dX3_run_91 (by decide) ?_
                exact W.iret (v := 0) hx hb hr (fun t ht hW => ⟨⟨_, (gT I 1, L), rfl, Or.inl ⟨t1, rfl, rfl⟩, by show tR _ _ _ _ _ t.heap; rw [ht]; exact hR⟩, hS.F ht⟩) hS.2.2 dX3_run_92
              · exact absurd hbad t1
              · exact absurd hbad t1
              · exact absurd hbad t1
        · exact absurd c4 (by decide)
    · have hin := Classical.byContradiction (fun z => hgood z)
      obtain ⟨x, hx101, rfl⟩ := id hin
      have hx100 : x ≤ 100 := by omega
      refine lv_istore_n (lv' := [(2, .int 0), (0, .ref (ad 200)), (1, .int (nI x))]) hx hb dX3_run_15 rfl hl (by decide) rfl (fun ls hl => ?_)
      refine lv_iconst (v := 0) hx hb dX3_run_16 (by decide) ?_
      rw [show (0 : Int32) = nI (cK bu ev s0 (1 - 1)) from rfl]
      refine lv_istore_n (lv' := [(3, .int (nI (cK bu ev s0 (1 - 1)))), (2, .int 0), (0, .ref (ad 200)), (1, .int (nI x))]) hx hb dX3_run_17 rfl hl (by decide) rfl (fun ls hl => ?_)
      refine lv_iconst (v := 1) hx hb dX3_run_18 (by decide) ?_
      rw [show (1 : Int32) = nI 1 from rfl]
      refine lv_istore (lv' := [(4, .int (nI 1)), (3, .int (nI (cK bu ev s0 (1 - 1)))), (2, .int 0), (0, .ref (ad 200)), (1, .int (nI x))]) hx hb dX3_run_19 hl (by decide) rfl (fun ls hl => ?_)
      refine lpX3_run ⟨hx, hb, hml, hown, hts⟩ hE (Nat.le_of_ble_eq_true rfl) (Nat.le_of_ble_eq_true rfl) (Nat.le_of_ble_eq_true rfl) (Nat.le_of_ble_eq_true rfl) I L x s0 hMf hs0 hx100 (by omega) (fun H locs ls _ hR hS hl => ?_) (x + 1) 1 _ _ ls (by omega) (by omega) (Nat.le_refl _) hR hS (lv_sub hl [0, 1, 2, 3, 4] rfl)
      refine lv_aload_n hx hb dX3_run_59 rfl (lv_at hl 3 rfl) ?_
      refine lv_iload_n hx hb dX3_run_60 rfl (lv_at hl 2 rfl) ?_
      refine jnW (P := ¬ rOk sd kp bu ev sp (nI x)) 84 (fun x2 => .int x2 :: [.int 0, .ref (ad 200)]) (fun H locs => tR D vwCl base ad (tC (wP n ad cs) I L) H ∧ va_S (fun q => base ≤ q) s.heap H locs) (fun x2 H locs hx2 hT => ?_) (fun Kx2 => ?_)
      · obtain ⟨hR, hS⟩ := hT
        refine lv_iconst (v := 0) hx hb dX3_run_84 (by decide) ?_
        refine kc_i (va_runV (As := [.int 0, .int x2, .int 0]) (rest := []) ⟨hx, hb, hml, hown, hts⟩ (mX3_throwing I L 0 x2 0 (P1 := (¬ inN 101 (nI x))) (P2 := (¬ rOk sd kp bu ev sp (nI x))) (P3 := False) (bZ0 hgood) hx2 (bZ0 (fun z => z))) (cwV 3 hts (kw_V k571 k573 ks25 k5 k574) rfl rfl rfl (by decide +kernel) ⟨Nat.le_of_ble_eq_true rfl, Nat.le_of_ble_eq_true rfl⟩) (kB_preV hE hR hS 200 rfl rfl [.int 0, .int x2, .int 0]) rfl rfl hl.1 rfl (lv_room (Nat.le_of_ble_eq_true rfl)) dX3_run_85 ⟨Nat.le_of_ble_eq_true rfl, Nat.le_of_ble_eq_true rfl⟩) hS (fun r u H locs hw hR hS => ?_)
        rcases hw with ⟨t1, rfl, rfl⟩ | ⟨t1, t2, rfl, rfl⟩ | ⟨t1, t2, t3, rfl, rfl⟩ | ⟨t1, t2, t3, rfl, rfl⟩
        · have hR : tR D vwCl base ad (tC (wP n ad cs) (gT I 1) L) H := hR
          refine lv_if_eq (tgt := 93) hx hb dX3_run_88 (by decide) (fun c9 => absurd c9 (by decide)) (fun c9 => ?_)
          refine lv_iconst (v := 0) hx hb dX3_run_91 (by decide) ?_
          exact W.iret (v := 0) hx hb hr (fun t ht hW => ⟨⟨_, (gT I 1, L), rfl, Or.inl ⟨t1, rfl, rfl⟩, by show tR _ _ _ _ _ t.heap; rw [ht]; exact hR⟩, hS.F ht⟩) hS.2.2 dX3_run_92
        · have hR : tR D vwCl base ad (tC (wP n ad cs) (gT I 2) L) H := hR
          refine lv_if_eq (tgt := 93) hx hb dX3_run_88 (by decide) (fun c9 => absurd c9 (by decide)) (fun c9 => ?_)
          refine lv_iconst (v := 0) hx hb dX3_run_91 (by decide) ?_
          exact W.iret (v := 0) hx hb hr (fun t ht hW => ⟨⟨_, (gT I 2, L), rfl, Or.inr (Or.inl ⟨t1, t2, rfl, rfl⟩), by show tR _ _ _ _ _ t.heap; rw [ht]; exact hR⟩, hS.F ht⟩) hS.2.2 dX3_run_92
        · exact t3.elim
        · have hR : tR D vwCl base ad (tC (wP n ad cs) (gT I 0) L) H := hR
          refine lv_if_eq (tgt := 93) hx hb dX3_run_88 (by decide) (fun c9 => ?_) (fun c9 => absurd rfl c9)
          have hro := Classical.byContradiction (fun z => t2 z)
          have hle := hro.2 x hx100 rfl
          obtain ⟨hMo, hwY, hk60, hspB, hRb⟩ := hC hro.1
          have hMs0 := hMs.gT 0
          have hMf0 := hMf.gT 0
          have hMo0 := hMo.gT 0
          refine lv_iconst (v := 0) hx hb dX3_run_93 (by decide) ?_
          rw [show (0 : Int32) = nI 0 from nI_0.symm]
          refine lv_istore (lv' := [(4, .int (nI 0)), (3, .int (nI (cK bu ev s0 ((x + 1) - 1)))), (2, .int 0), (0, .ref (ad 200)), (1, .int (nI x))]) hx hb dX3_run_94 hl (by decide) rfl (fun ls hl => ?_)
          refine lqX3_run ⟨hx, hb, hml, hown, hts⟩ hE (Nat.le_of_ble_eq_true rfl) (Nat.le_of_ble_eq_true rfl) (Nat.le_of_ble_eq_true rfl) (Nat.le_of_ble_eq_true rfl) (gT I 0) L x hMs0 hwf hMf0 hwY hx100 (by omega) hle (fun J K H locs ls hJ hF hR hS hl => ?_) (x + 1) 0 (gT I 0) L _ _ ls (Nat.zero_le _) (by omega) hMo0 ⟨fun _ _ _ _ => rfl, fun _ _ _ => rfl, fun _ _ => rfl⟩ hR hS (lv_sub hl [0, 3, 4] rfl)
          refine lv_aload_n hx hb dX3_run_112 rfl (lv_at hl 1 rfl) ?_
          refine tb_get hx hb hts (fun w h => List.mem_cons_of_mem _ (inX3 w h)) hown hK hR 200 rfl rfl 17 (by decide) (hts _ (List.mem_cons_of_mem _ k495)) (fun _ h => h) rfl dX3_run_113 ?_
          rw [show J 200 17 = nI (kp + cK bu ev sp x) from hJ.1]
          exact W.iret (v := nI (kp + cK bu ev sp x)) hx hb hr (fun t ht hW => ⟨⟨_, (J, K), rfl, Or.inr (Or.inr (Or.inr ⟨t1, t2, t3, x, hx100, rfl, rfl, hJ, by show J 200 0 = 0; rw [hF.2.1 0 (by omega) (by omega), gT_0], fun k k1 k2 k3 => (hF.1 k k1 k2 k3).trans (gT_ne I 0 k1), fun i i0 i1 i2 => (hF.2.1 i i1 i2).trans (gT_i I 0 i0), hF.2.2⟩)), by show tR _ _ _ _ _ t.heap; rw [ht]; exact hR⟩, hS.F ht⟩) hS.2.2 dX3_run_116
      · refine lv_aload_n hx hb dX3_run_61 rfl (lv_at hl 3 rfl) ?_
        refine tb_get hx hb hts (fun w h => List.mem_cons_of_mem _ (inX3 w h)) hown hK hR 200 rfl rfl 15 (by decide) (hts _ (List.mem_cons_of_mem _ k493)) (fun _ h => h) rfl dX3_run_62 ?_
        rw [show I 200 15 = nI sd from hMf.2.2.2.2.1]
        refine lv_if_eq (tgt := 79) hx hb dX3_run_65 (by decide) (fun c7 => ?_) (fun c7 => ?_)
        · refine lv_iconst (v := 1) hx hb dX3_run_79 (by decide) ?_
          refine lv_goto (tgt := 84) hx hb dX3_run_80 (by decide) ?_
          exact Kx2 _ _ _ (bZ1 (fun z => absurd c7 (by rw [z.1]; decide))) ⟨hR, hS⟩
        · have hs : sd = 1 := by have q : ¬ sd = 0 := fun z => c7 (by rw [z]; rfl); omega
          obtain ⟨hMo, hwY, hk60, hspB, hRb⟩ := hC hs
          have e0 : sp = s0 := (nI_eq (by omega) (by omega)).mp (hMo.2.1.symm.trans hs0)
          subst e0
          have h_ck := cK_le bu ev sp x
          refine lv_aload_n hx hb dX3_run_68 rfl (lv_at hl 3 rfl) ?_
          refine tb_get hx hb hts (fun w h => List.mem_cons_of_mem _ (inX3 w h)) hown hK hR 200 rfl rfl 17 (by decide) (hts _ (List.mem_cons_of_mem _ k495)) (fun _ h => h) rfl dX3_run_69 ?_
          rw [show I 200 17 = nI kp from hMo.1]
          refine lv_iload_n hx hb dX3_run_72 rfl (lv_at hl 1 rfl) ?_
          refine lv_iadd hx hb dX3_run_73 ?_
          rw [nI_add]
          refine lv_bipush (v := 60) hx hb dX3_run_74 (by decide) ?_
          refine lv_icmp_le (tgt := 83) hx hb dX3_run_76 (by decide) (fun c8 => ?_) (fun c8 => ?_)
          · refine lv_iconst (v := 0) hx hb dX3_run_83 (by decide) ?_
            exact Kx2 _ _ _ (bZ0 (fun z => z ⟨hs, fun y9 hy9 e9 => by rw [← (nI_eq (by omega) (by omega)).mp e9]; exact (nI_leI (by omega) (by decide)).mp (show nI (kp + cK bu ev sp (x + 1 - 1)) ≤ nI 60 from c8)⟩)) ⟨hR, hS⟩
          · refine lv_iconst (v := 1) hx hb dX3_run_79 (by decide) ?_
            refine lv_goto (tgt := 84) hx hb dX3_run_80 (by decide) ?_
            exact Kx2 _ _ _ (bZ1 (fun z => c8 (show nI (kp + cK bu ev sp (x + 1 - 1)) ≤ nI 60 from nI_le (z.2 x hx100 rfl) (by decide)))) ⟨hR, hS⟩
  · refine lv_iload_n hx hb dX3_run_0 rfl (lv_at hl 1 rfl) ?_
    refine lv_iconst (v := 0) hx hb dX3_run_1 (by decide) ?_
    refine lv_bipush (v := 100) hx hb dX3_run_2 (by decide) ?_
    refine kc_i (va_runS (As := [.int p0, .int 0, .int 100]) (rest := []) ⟨hx, hb, hml, hown, hts⟩ (mX3_in I L p0 0 100) (va_cwS 3 hts (kw_S k568 k569 k5 k570) rfl rfl rfl (by decide +kernel) ⟨Nat.le_of_ble_eq_true rfl, Nat.le_of_ble_eq_true rfl⟩) (kB_pre hE hR hS [.int p0, .int 0, .int 100]) rfl rfl hl.1 rfl (lv_room (Nat.le_of_ble_eq_true rfl)) dX3_run_4 ⟨Nat.le_of_ble_eq_true rfl, Nat.le_of_ble_eq_true rfl⟩) hS (fun r u H locs hw hR hS => ?_)
    obtain ⟨q9, rfl⟩ := hw
    have hR : tR D vwCl base ad (tC (wP n ad cs) I L) H := hR
    have q9 : bZ (inN 101 p0) r := q9.iff ((inR_iff (a := 0) (b := 100) (by decide) (by decide)).trans (inRN (N := 101) (by decide)))
    refine lv_if_ne (tgt := 14) hx hb dX3_run_7 (by decide) (fun c10 => ?_) (fun c10 => ?_)
    · refine lv_iconst (v := 0) hx hb dX3_run_14 (by decide) ?_
      exact Kx1 _ _ _ (bZ0 (fun z => z (q9.t c10))) ⟨hR, hS⟩
    · refine lv_iconst (v := 1) hx hb dX3_run_10 (by decide) ?_
      refine lv_goto (tgt := 15) hx hb dX3_run_11 (by decide) ?_
      exact Kx1 _ _ _ (bZ1 (q9.f c10)) ⟨hR, hS⟩
end M5
