section M6
variable {l : Launch} {D : va_G} {cs : Nat → ClassId} {base : Nat} {sa : Nat → Nat} {n : Nat} {ad : Nat → Nat}
set_option maxHeartbeats 4000000 in
set_option maxRecDepth 100000 in
theorem mX3_at (I : tI) (L : tL) {nd no : Nat} {f la : Nat → Nat} {ph : Nat → Int32} {w : Nat → Nat → Nat} {ea lt le mo : Nat → Nat} {bu ev sd sv : Nat} {se : Int32} {Y : Nat → Nat → Nat} {st : Nat → Int64} {Rw : Nat → Nat → Nat → Nat} {kp sp : Nat} (B : Nat) (p0 p1 p2 : Int32) (hMs : cMs I nd no f la ph w ea lt le mo) (hwf : wfS nd no f la w ea lt le mo) (hMf : cMf I n bu ev sd sv se) (hC : sd = 1 → cMo I L n nd Y st Rw kp sp ∧ wCo n nd no f la ea lt le mo B Y Rw kp sp) : Met l yX3_at wX3_at ({ frames := 3, cells := 0, slots := 0, locals := 90 }) (va_Pc [.ref (ad 200), .int p0, .int p1, .int p2] (kB D cs base sa n ad I L)) (va_Qi (fun (r : Int32) (u : tI × tL) => pM I L (¬ aOk n nd sd kp p0 p1 p2) (¬ sd = 1) False (fun r u => u = (gT I 0, L) ∧ ∃ c d, c < n ∧ d < nd ∧ p0 = nI c ∧ p2 = nI d ∧ ((p1 = -1 ∧ r = nI (Y c d)) ∨ ∃ k, k < kp ∧ p1 = nI k ∧ r = nI (Rw c k d))) r u) (kA D cs base n ad) (fun q => base ≤ q)) 0 0 (fun q => base ≤ q) := by
  refine Met.ofW (cc := cX3_at) (maxL := 5) (ret := (some .int)) (by decide) rfl ?_
  intro p e s m args below meth c s₁ Bd hml hv
  obtain ⟨rfl, hE, hR⟩ := hv
  have hx := Bd.exec
  have hb := Bd.bytes
  have hr := Bd.returns
  have hts := atoms_spec (ws := wX3_at) Bd.pre
  have hown : s.vm.findClass RX3 = some m.cls := findClass_of_methodNamed Bd.named
  have hlocks := Bd.notSynchronized
  have hK := hE.K
  have hS : va_S (fun q => base ≤ q) s.heap s.heap [] := va_S.rf
  have hR : tR D vwCl base ad (tC (wP n ad cs) I L) s.heap := hR
  have hl := lv_entry ([.ref (ad 200), .int p0, .int p1, .int p2]) (n := 5) (Nat.le_of_ble_eq_true rfl)
  rw [lg_entry_eq]
  generalize (lg_sl ([.ref (ad 200), .int p0, .int p1, .int p2]) ++ List.replicate (5 - (lg_sl ([.ref (ad 200), .int p0, .int p1, .int p2])).length) Slot.unset).toArray = ls at hl ⊢
  have hl : lv_has ls 5 [(0, .ref (ad 200)), (1, .int p0), (2, .int p1), (3, .int p2)] := hl
  obtain ⟨h_nd, h_no, h_d, h_o⟩ := id hwf
  obtain ⟨h_f1, h_f2, h_f3, h_f4, h_f5, h_f6, h_n1, h_n4, h_bu, h_e1, h_e2, h_s1, h_v4⟩ := id hMf
  refine jnW (P := ¬ aOk n nd sd kp p0 p1 p2) 47 (fun x1 => [.int x1]) (fun H locs => tR D vwCl base ad (tC (wP n ad cs) I L) H ∧ va_S (fun q => base ≤ q) s.heap H locs) (fun x1 H locs hx1 hT => ?_) (fun Kx1 => ?_)
  · obtain ⟨hR, hS⟩ := hT
    refine lv_istore (lv' := [(4, .int x1), (0, .ref (ad 200)), (1, .int p0), (2, .int p1), (3, .int p2)]) hx hb dX3_at_47 hl (by decide) rfl (fun ls hl => ?_)
    refine lv_aload_n hx hb dX3_at_49 rfl (lv_at hl 1 rfl) ?_
    refine lv_iload hx hb dX3_at_50 (lv_at hl 0 rfl) ?_
    refine jnW (P := ¬ sd = 1) 64 (fun x2 => .int x2 :: [.int x1, .ref (ad 200)]) (fun H locs => tR D vwCl base ad (tC (wP n ad cs) I L) H ∧ va_S (fun q => base ≤ q) s.heap H locs) (fun x2 H locs hx2 hT => ?_) (fun Kx2 => ?_)
    · obtain ⟨hR, hS⟩ := hT
      refine lv_iconst (v := 0) hx hb dX3_at_64 (by decide) ?_
      refine kc_i (va_runV (As := [.int x1, .int x2, .int 0]) (rest := []) ⟨hx, hb, hml, hown, hts⟩ (mX3_throwing I L x1 x2 0 (P1 := (¬ aOk n nd sd kp p0 p1 p2)) (P2 := (¬ sd = 1)) (P3 := False) hx1 hx2 (bZ0 (fun z => z))) (cwV 3 hts (kw_V k571 k573 ks25 k5 k574) rfl rfl rfl (by decide +kernel) ⟨Nat.le_of_ble_eq_true rfl, Nat.le_of_ble_eq_true rfl⟩) (kB_preV hE hR hS 200 rfl rfl [.int x1, .int x2, .int 0]) rfl rfl hl.1 rfl (lv_room (Nat.le_of_ble_eq_true rfl)) dX3_at_65 ⟨Nat.le_of_ble_eq_true rfl, Nat.le_of_ble_eq_true rfl⟩) hS (fun r u H locs hw hR hS => ?_)
      rcases hw with ⟨t1, rfl, rfl⟩ | ⟨t1, t2, rfl, rfl⟩ | ⟨t1, t2, t3, rfl, rfl⟩ | ⟨t1, t2, t3, rfl, rfl⟩
      · have hR : tR D vwCl base ad (tC (wP n ad cs) (gT I 1) L) H := hR
        refine lv_if_eq (tgt := 73) hx hb dX3_at_68 (by decide) (fun c9 => absurd c9 (by decide)) (fun c9 => ?_)
        refine lv_iconst (v := 0) hx hb dX3_at_71 (by decide) ?_
        exact W.iret (v := 0) hx hb hr (fun t ht hW => ⟨⟨_, (gT I 1, L), rfl, Or.inl ⟨t1, rfl, rfl⟩, by show tR _ _ _ _ _ t.heap; rw [ht]; exact hR⟩, hS.F ht⟩) hS.2.2 dX3_at_72
      · have hR : tR D vwCl base ad (tC (wP n ad cs) (gT I 2) L) H := hR
        refine lv_if_eq (tgt := 73) hx hb dX3_at_68 (by decide) (fun c9 => absurd c9 (by decide)) (fun c9 => ?_)
        refine lv_iconst (v := 0) hx hb dX3_at_71 (by decide) ?_
        exact W.iret (v := 0) hx hb hr (fun t ht hW => ⟨⟨_, (gT I 2, L), rfl, Or.inr (Or.inl ⟨t1, t2, rfl, rfl⟩), by show tR _ _ _ _ _ t.heap; rw [ht]; exact hR⟩, hS.F ht⟩) hS.2.2 dX3_at_72
      · exact t3.elim
      · have hR : tR D vwCl base ad (tC (wP n ad cs) (gT I 0) L) H := hR
        refine lv_if_eq (tgt := 73) hx hb dX3_at_68 (by decide) (fun c9 => ?_) (fun c9 => absurd rfl c9)
        have hs : sd = 1 := Classical.byContradiction (fun z => t2 z)
        obtain ⟨hMo, hwY, hk60, hspB, hRb⟩ := hC hs
        have hMs := hMs.gT 0
        have hMf := hMf.gT 0
        have hMo := hMo.gT 0
        obtain ⟨hp0, hp2, hp1, hpk⟩ := Classical.byContradiction (fun z => t1 z)
        have hpk := hpk hs
        obtain ⟨ch, hch, rfl⟩ := id hp0
        obtain ⟨d, hd, rfl⟩ := id hp2
        refine lv_iload_n hx hb dX3_at_73 rfl (lv_at hl 3 rfl) ?_
        refine lv_iconst (v := -1) hx hb dX3_at_74 (by decide) ?_
        refine lv_icmp_ne (tgt := 92) hx hb dX3_at_75 (by decide) (fun c1 => ?_) (fun c1 => ?_)
        · obtain ⟨k, hk31, rfl⟩ := nI_of (i_m1k hp1 c1)
          have hk : k < kp := (nI_ltI hk31 (by omega)).mp hpk
          refine lv_aload_n hx hb dX3_at_92 rfl (lv_at hl 1 rfl) ?_
          refine tb_get hx hb hts (fun w h => List.mem_cons_of_mem _ (inX3 w h)) hown hK hR 200 rfl rfl 20 (by decide) (hts _ (List.mem_cons_of_mem _ k498)) (fun _ h => h) rfl dX3_at_93 ?_
          refine lv_aload_n hx hb dX3_at_96 rfl (lv_at hl 1 rfl) ?_
          refine lv_iload_n hx hb dX3_at_97 rfl (lv_at hl 2 rfl) ?_
          refine lv_iload_n hx hb dX3_at_98 rfl (lv_at hl 3 rfl) ?_
          refine kc_i (va_runV (As := [.int (nI ch), .int (nI k)]) (rest := [.ref (ad 211)]) ⟨hx, hb, hml, hown, hts⟩ (mX3_rowAt (gT I 0) L ch k) (cwV 2 hts (kw_V k646 k648 ks36 k5 k649) rfl rfl rfl (by decide +kernel) ⟨Nat.le_of_ble_eq_true rfl, Nat.le_of_ble_eq_true rfl⟩) (kB_preV hE hR hS 200 rfl rfl [.int (nI ch), .int (nI k)]) rfl rfl hl.1 rfl (lv_room (Nat.le_of_ble_eq_true rfl)) dX3_at_99 ⟨Nat.le_of_ble_eq_true rfl, Nat.le_of_ble_eq_true rfl⟩) hS (fun r u H locs hw hR hS => ?_)
          obtain ⟨rfl, rfl⟩ := hw
          have hR : tR D vwCl base ad (tC (wP n ad cs) (gT I 0) L) H := hR
          refine lv_iload_n hx hb dX3_at_102 rfl (lv_at hl 4 rfl) ?_
          refine lv_iadd hx hb dX3_at_103 ?_
          rw [nI_add]
          refine tp_iald hx hb hK hR 211 0 (fun _ _ => rfl) rfl (8 * (60 * ch + k) + d) rfl (by omega) (by decide) dX3_at_104 ?_
          rw [show (gT I 0) 211 (8 * (60 * ch + k) + d) = nI (Rw ch k d) from (hMo.2.2 ch (by omega)).2.2 k (by omega) d (by omega)]
          exact W.iret (v := nI (Rw ch k d)) hx hb hr (fun t ht hW => ⟨⟨_, (gT I 0, L), rfl, Or.inr (Or.inr (Or.inr ⟨t1, t2, t3, rfl, ch, d, hch, hd, rfl, rfl, Or.inr ⟨k, hk, rfl, rfl⟩⟩)), by show tR _ _ _ _ _ t.heap; rw [ht]; exact hR⟩, hS.F ht⟩) hS.2.2 dX3_at_105
        · have hm1 : p1 = -1 := c1
          refine lv_aload_n hx hb dX3_at_78 rfl (lv_at hl 1 rfl) ?_
          refine tb_get hx hb hts (fun w h => List.mem_cons_of_mem _ (inX3 w h)) hown hK hR 200 rfl rfl 18 (by decide) (hts _ (List.mem_cons_of_mem _ k496)) (fun _ h => h) rfl dX3_at_79 ?_
          refine lv_bipush (v := nI 8) hx hb dX3_at_82 (by decide) ?_
          refine lv_iload_n hx hb dX3_at_84 rfl (lv_at hl 2 rfl) ?_
          refine lv_imul hx hb dX3_at_85 ?_
          rw [pk_mul]
          refine lv_iload_n hx hb dX3_at_86 rfl (lv_at hl 4 rfl) ?_
          refine lv_iadd hx hb dX3_at_87 ?_
          rw [nI_add]
          refine tp_iald hx hb hK hR 209 0 (fun _ _ => rfl) rfl (8 * ch + d) rfl (by omega) (by decide) dX3_at_88 ?_
          rw [show (gT I 0) 209 (8 * ch + d) = nI (Y ch d) from (hMo.2.2 ch (by omega)).2.1 d (by omega)]
          refine lv_goto (tgt := 105) hx hb dX3_at_89 (by decide) ?_
          exact W.iret (v := nI (Y ch d)) hx hb hr (fun t ht hW => ⟨⟨_, (gT I 0, L), rfl, Or.inr (Or.inr (Or.inr ⟨t1, t2, t3, rfl, ch, d, hch, hd, rfl, rfl, Or.inl ⟨hm1, rfl⟩⟩)), by show tR _ _ _ _ _ t.heap; rw [ht]; exact hR⟩, hS.F ht⟩) hS.2.2 dX3_at_105
    · refine lv_aload_n hx hb dX3_at_52 rfl (lv_at hl 1 rfl) ?_
      refine tb_get hx hb hts (fun w h => List.mem_cons_of_mem _ (inX3 w h)) hown hK hR 200 rfl rfl 15 (by decide) (hts _ (List.mem_cons_of_mem _ k493)) (fun _ h => h) rfl dX3_at_53 ?_
      rw [show I 200 15 = nI sd from hMf.2.2.2.2.1]
      refine lv_if_ne (tgt := 63) hx hb dX3_at_56 (by decide) (fun c2 => ?_) (fun c2 => ?_)
      · refine lv_iconst (v := 0) hx hb dX3_at_63 (by decide) ?_
        exact Kx2 _ _ _ (bZ0 (fun z => z (by have q : ¬ sd = 0 := fun z => c2 (by rw [z]; rfl); omega))) ⟨hR, hS⟩
      · refine lv_iconst (v := 1) hx hb dX3_at_59 (by decide) ?_
        refine lv_goto (tgt := 64) hx hb dX3_at_60 (by decide) ?_
        exact Kx2 _ _ _ (bZ1 (fun z => absurd c2 (by rw [z]; decide))) ⟨hR, hS⟩
  · refine lv_iload_n hx hb dX3_at_0 rfl (lv_at hl 1 rfl) ?_
    refine lv_iconst (v := 0) hx hb dX3_at_1 (by decide) ?_
    refine lv_aload_n hx hb dX3_at_2 rfl (lv_at hl 0 rfl) ?_
    refine tb_get hx hb hts (fun w h => List.mem_cons_of_mem _ (inX3 w h)) hown hK hR 200 rfl rfl 2 (by decide) (hts _ (List.mem_cons_of_mem _ k480)) (fun _ h => h) rfl dX3_at_3 ?_
    rw [show I 200 2 = nI n from hMf.2.1]
    refine lv_iconst (v := 1) hx hb dX3_at_6 (by decide) ?_
    refine lv_isub hx hb dX3_at_7 ?_
    refine kc_i (va_runS (As := [.int p0, .int 0, .int ((nI n) - 1)]) (rest := []) ⟨hx, hb, hml, hown, hts⟩ (mX3_in I L p0 0 ((nI n) - 1)) (va_cwS 3 hts (kw_S k568 k569 k5 k570) rfl rfl rfl (by decide +kernel) ⟨Nat.le_of_ble_eq_true rfl, Nat.le_of_ble_eq_true rfl⟩) (kB_pre hE hR hS [.int p0, .int 0, .int ((nI n) - 1)]) rfl rfl hl.1 rfl (lv_room (Nat.le_of_ble_eq_true rfl)) dX3_at_8 ⟨Nat.le_of_ble_eq_true rfl, Nat.le_of_ble_eq_true rfl⟩) hS (fun r u H locs hw hR hS => ?_)
    obtain ⟨q3, rfl⟩ := hw
    have hR : tR D vwCl base ad (tC (wP n ad cs) I L) H := hR
    have q3 : bZ (inN n p0) r := q3.iff (inN_iff (by omega))
    refine lv_if_eq (tgt := 42) hx hb dX3_at_11 (by decide) (fun c4 => ?_) (fun c4 => ?_)
    · refine lv_iconst (v := 1) hx hb dX3_at_42 (by decide) ?_
      refine lv_goto (tgt := 47) hx hb dX3_at_43 (by decide) ?_
      exact Kx1 _ _ _ (bZ1 (fun z => q3.f c4 z.1)) ⟨hR, hS⟩
    · have hp0 := q3.t c4
      refine lv_iload_n hx hb dX3_at_14 rfl (lv_at hl 2 rfl) ?_
      refine lv_iconst (v := -1) hx hb dX3_at_15 (by decide) ?_
      refine lv_icmp_lt (tgt := 42) hx hb dX3_at_16 (by decide) (fun c5 => ?_) (fun c5 => ?_)
      · refine lv_iconst (v := 1) hx hb dX3_at_42 (by decide) ?_
        refine lv_goto (tgt := 47) hx hb dX3_at_43 (by decide) ?_
        exact Kx1 _ _ _ (bZ1 (fun z => z.2.2.1 c5)) ⟨hR, hS⟩
      · refine lv_aload_n hx hb dX3_at_19 rfl (lv_at hl 0 rfl) ?_
        refine tb_get hx hb hts (fun w h => List.mem_cons_of_mem _ (inX3 w h)) hown hK hR 200 rfl rfl 15 (by decide) (hts _ (List.mem_cons_of_mem _ k493)) (fun _ h => h) rfl dX3_at_20 ?_
        rw [show I 200 15 = nI sd from hMf.2.2.2.2.1]
        refine lv_if_eq (tgt := 34) hx hb dX3_at_23 (by decide) (fun c6 => ?_) (fun c6 => ?_)
        · refine lv_aload_n hx hb dX3_at_34 rfl (lv_at hl 0 rfl) ?_
          refine lv_iload_n hx hb dX3_at_35 rfl (lv_at hl 3 rfl) ?_
          refine kc_i (va_runV (As := [.int p2]) (rest := []) ⟨hx, hb, hml, hown, hts⟩ (mX3_isDate I L nd p2 hMs.1 h_nd) (cwV 1 hts (kw_V k587 k589 ks28 k5 k590) rfl rfl rfl (by decide +kernel) ⟨Nat.le_of_ble_eq_true rfl, Nat.le_of_ble_eq_true rfl⟩) (kB_preV hE hR hS 200 rfl rfl [.int p2]) rfl rfl hl.1 rfl (lv_room (Nat.le_of_ble_eq_true rfl)) dX3_at_36 ⟨Nat.le_of_ble_eq_true rfl, Nat.le_of_ble_eq_true rfl⟩) hS (fun r u H locs hw hR hS => ?_)
          obtain ⟨hdt, rfl⟩ := hw
          have hR : tR D vwCl base ad (tC (wP n ad cs) I L) H := hR
          refine lv_if_ne (tgt := 46) hx hb dX3_at_39 (by decide) (fun c7 => ?_) (fun c7 => ?_)
          · refine lv_iconst (v := 0) hx hb dX3_at_46 (by decide) ?_
            exact Kx1 _ _ _ (bZ0 (fun z => z ⟨hp0, hdt.t c7, c5, (fun z => absurd c6 (by rw [z]; decide))⟩)) ⟨hR, hS⟩
          · refine lv_iconst (v := 1) hx hb dX3_at_42 (by decide) ?_
            refine lv_goto (tgt := 47) hx hb dX3_at_43 (by decide) ?_
            exact Kx1 _ _ _ (bZ1 (fun z => hdt.f c7 z.2.1)) ⟨hR, hS⟩
        · have hs : sd = 1 := by have q : ¬ sd = 0 := fun z => c6 (by rw [z]; rfl); omega
          obtain ⟨hMo, hwY, hk60, hspB, hRb⟩ := hC hs
          refine lv_iload_n hx hb dX3_at_26 rfl (lv_at hl 2 rfl) ?_
          refine lv_aload_n hx hb dX3_at_27 rfl (lv_at hl 0 rfl) ?_
          refine tb_get hx hb hts (fun w h => List.mem_cons_of_mem _ (inX3 w h)) hown hK hR 200 rfl rfl 17 (by decide) (hts _ (List.mem_cons_of_mem _ k495)) (fun _ h => h) rfl dX3_at_28 ?_
          rw [show I 200 17 = nI kp from hMo.1]
          refine lv_icmp_ge (tgt := 42) hx hb dX3_at_31 (by decide) (fun c8 => ?_) (fun c8 => ?_)
          · refine lv_iconst (v := 1) hx hb dX3_at_42 (by decide) ?_
            refine lv_goto (tgt := 47) hx hb dX3_at_43 (by decide) ?_
            exact Kx1 _ _ _ (bZ1 (fun z => i_lt_n (z.2.2.2 hs) c8)) ⟨hR, hS⟩
          · refine lv_aload_n hx hb dX3_at_34 rfl (lv_at hl 0 rfl) ?_
            refine lv_iload_n hx hb dX3_at_35 rfl (lv_at hl 3 rfl) ?_
            refine kc_i (va_runV (As := [.int p2]) (rest := []) ⟨hx, hb, hml, hown, hts⟩ (mX3_isDate I L nd p2 hMs.1 h_nd) (cwV 1 hts (kw_V k587 k589 ks28 k5 k590) rfl rfl rfl (by decide +kernel) ⟨Nat.le_of_ble_eq_true rfl, Nat.le_of_ble_eq_true rfl⟩) (kB_preV hE hR hS 200 rfl rfl [.int p2]) rfl rfl hl.1 rfl (lv_room (Nat.le_of_ble_eq_true rfl)) dX3_at_36 ⟨Nat.le_of_ble_eq_true rfl, Nat.le_of_ble_eq_true rfl⟩) hS (fun r u H locs hw hR hS => ?_)
            obtain ⟨hdt, rfl⟩ := hw
            have hR : tR D vwCl base ad (tC (wP n ad cs) I L) H := hR
            refine lv_if_ne (tgt := 46) hx hb dX3_at_39 (by decide) (fun c9 => ?_) (fun c9 => ?_)
            · refine lv_iconst (v := 0) hx hb dX3_at_46 (by decide) ?_
              exact Kx1 _ _ _ (bZ0 (fun z => z ⟨hp0, hdt.t c9, c5, (fun _ => i_nle c8)⟩)) ⟨hR, hS⟩
            · refine lv_iconst (v := 1) hx hb dX3_at_42 (by decide) ?_
              refine lv_goto (tgt := 47) hx hb dX3_at_43 (by decide) ?_
              exact Kx1 _ _ _ (bZ1 (fun z => hdt.f c9 z.2.1)) ⟨hR, hS⟩
set_option maxHeartbeats 4000000 in
set_option maxRecDepth 100000 in
theorem lpX3_counted {p : Program} {e : Env} {R : Room} {s : State} {m : MethodId} {args : Array Value} {below : List Frame} {meth : Method} {c : Code} {cells slots : Nat} {Q : State → Prop} (S0 : CallFix p m c cX3_counted 5 s args wX3_counted RX3) (hE : eV D cs base sa s) (hRf : 1 ≤ R.frames) (hRl : 40 ≤ R.locals) (hRc : cells ≤ R.cells) (hRs : slots ≤ R.slots) (I : tI) (L : tL) {nd no : Nat} {f la : Nat → Nat} {ph : Nat → Int32} {w : Nat → Nat → Nat} {ea lt le mo : Nat → Nat} {bu ev sd sv : Nat} {se : Int32} {Y : Nat → Nat → Nat} {st : Nat → Int64} {Rw : Nat → Nat → Nat → Nat} {kp sp : Nat} (d i9 : Nat) (hMs : cMs I nd no f la ph w ea lt le mo) (hwf : wfS nd no f la w ea lt le mo) (hMf : cMf I n bu ev sd sv se) (hMo : cMo I L n nd Y st Rw kp sp) (hk60 : kp ≤ 60) (hd : d < nd) (hi9 : f d + i9 ≤ la d) (hRb : ∀ c, c < n → ∀ k, k < kp → ∀ d, d < nd → f d ≤ Rw c k d ∧ Rw c k d ≤ la d)
    (kx : ∀ (H : Heap) (locs : List Loc) (ls : Array Slot), tR D vwCl base ad (tC (wP n ad cs) I L) H → va_S (fun q => base ≤ q) s.heap H locs → lv_has ls 5 [(4, .int (nI (n * kp))), (3, .int (nI (sS (fun i => (fun c k => if Rw c k d = f d + i9 then 1 else 0) (i / kp) (i % kp)) (n * kp)))), (0, .ref (ad 200)), (1, .int (nI d)), (2, .int (nI (f d + i9)))] → W p l e R s m args below meth c H locs cells slots Q (F0 m 98 ls [])) :
    ∀ (k j : Nat) (H : Heap) (locs : List Loc) (ls : Array Slot), j ≤ n * kp → n * kp + 1 ≤ j + k → tR D vwCl base ad (tC (wP n ad cs) I L) H → va_S (fun q => base ≤ q) s.heap H locs → lv_has ls 5 [(4, .int (nI j)), (3, .int (nI (sS (fun i => (fun c k => if Rw c k d = f d + i9 then 1 else 0) (i / kp) (i % kp)) j))), (0, .ref (ad 200)), (1, .int (nI d)), (2, .int (nI (f d + i9)))] → W p l e R s m args below meth c H locs cells slots Q (F0 m 41 ls []) := by
  obtain ⟨hx, hb, hml, hown, hts⟩ := S0
  have hK := hE.K
  obtain ⟨h_nd, h_no, h_d, h_o⟩ := id hwf
  obtain ⟨h_f1, h_f2, h_f3, h_f4, h_f5, h_f6, h_n1, h_n4, h_bu, h_e1, h_e2, h_s1, h_v4⟩ := id hMf
  have h_nk : n * kp ≤ 240 := Nat.mul_le_mul h_n4 hk60
  intro k
  induction k with
  | zero => intro j  H locs ls h1 h2; exact absurd h2 (by omega)
  | succ k ih =>
    intro j  H locs ls hj hk  hR hS hl
    refine lv_iload hx hb dX3_counted_41 (lv_at hl 0 rfl) ?_
    refine lv_aload_n hx hb dX3_counted_43 rfl (lv_at hl 2 rfl) ?_
    refine tb_get hx hb hts (fun w h => List.mem_cons_of_mem _ (inX3 w h)) hown hK hR 200 rfl rfl 2 (by decide) (hts _ (List.mem_cons_of_mem _ k480)) (fun _ h => h) rfl dX3_counted_44 ?_
    rw [show I 200 2 = nI n from hMf.2.1]
    refine lv_aload_n hx hb dX3_counted_47 rfl (lv_at hl 2 rfl) ?_
    refine tb_get hx hb hts (fun w h => List.mem_cons_of_mem _ (inX3 w h)) hown hK hR 200 rfl rfl 17 (by decide) (hts _ (List.mem_cons_of_mem _ k495)) (fun _ h => h) rfl dX3_counted_48 ?_
    rw [show I 200 17 = nI kp from hMo.1]
    refine lv_imul hx hb dX3_counted_51 ?_
    rw [pk_mul]
    refine lv_icmp_ge (tgt := 98) hx hb dX3_counted_52 (by decide) (fun c1 => ?_) (fun c1 => ?_)
    · have hjN : j = n * kp := by have e9 := (nI_leI (by omega) (by omega)).mp c1; omega
      subst hjN
      exact kx  H locs ls  hR hS (lv_sub hl [0, 1, 2, 3, 4] rfl)
    · have hjN : j < n * kp := by
        rcases Nat.lt_or_ge j (n * kp) with q | q
        · exact q
        · exact absurd (nI_le (by omega) (by omega)) c1
      have hkp0 : 0 < kp := Nat.pos_of_ne_zero (fun z => by rw [z, Nat.mul_zero] at hjN; omega)
      have hjc : j / kp < n := (Nat.div_lt_iff_lt_mul hkp0).mpr hjN
      have hjk : j % kp < kp := Nat.mod_lt _ hkp0
      obtain ⟨g1, g2, g3, g4⟩ := h_d d hd
      refine lv_iload_n hx hb dX3_counted_55 rfl (lv_at hl 1 rfl) ?_
      refine lv_aload_n hx hb dX3_counted_56 rfl (lv_at hl 2 rfl) ?_
      refine tb_get hx hb hts (fun w h => List.mem_cons_of_mem _ (inX3 w h)) hown hK hR 200 rfl rfl 20 (by decide) (hts _ (List.mem_cons_of_mem _ k498)) (fun _ h => h) rfl dX3_counted_57 ?_
      refine lv_aload_n hx hb dX3_counted_60 rfl (lv_at hl 2 rfl) ?_
      refine lv_iload hx hb dX3_counted_61 (lv_at hl 0 rfl) ?_
      refine lv_aload_n hx hb dX3_counted_63 rfl (lv_at hl 2 rfl) ?_
      refine tb_get hx hb hts (fun w h => List.mem_cons_of_mem _ (inX3 w h)) hown hK hR 200 rfl rfl 17 (by decide) (hts _ (List.mem_cons_of_mem _ k495)) (fun _ h => h) rfl dX3_counted_64 ?_
      rw [show I 200 17 = nI kp from hMo.1]
      refine lv_idiv hx hb dX3_counted_67 (nI_ne0 hkp0 (by omega)) ?_
      rw [pk_div (by omega) hkp0 (by omega)]
      refine lv_iload hx hb dX3_counted_68 (lv_at hl 0 rfl) ?_
      refine lv_aload_n hx hb dX3_counted_70 rfl (lv_at hl 2 rfl) ?_
      refine tb_get hx hb hts (fun w h => List.mem_cons_of_mem _ (inX3 w h)) hown hK hR 200 rfl rfl 17 (by decide) (hts _ (List.mem_cons_of_mem _ k495)) (fun _ h => h) rfl dX3_counted_71 ?_
      rw [show I 200 17 = nI kp from hMo.1]
      refine lv_irem hx hb dX3_counted_74 (nI_ne0 hkp0 (by omega)) ?_
      rw [pk_rem (by omega) hkp0 (by omega)]
      refine kc_i (va_runV (As := [.int (nI (j / kp)), .int (nI (j % kp))]) (rest := [.ref (ad 211), .int (nI (sS (fun i => (fun c k => if Rw c k d = f d + i9 then 1 else 0) (i / kp) (i % kp)) j))]) ⟨hx, hb, hml, hown, hts⟩ (mX3_rowAt I L (j / kp) (j % kp)) (cwV 2 hts (kw_V k646 k648 ks36 k5 k649) rfl rfl rfl (by decide +kernel) ⟨Nat.le_trans (Nat.le_of_ble_eq_true rfl) hRf, Nat.le_trans (Nat.le_of_ble_eq_true rfl) hRl⟩) (kB_preV hE hR hS 200 rfl rfl [.int (nI (j / kp)), .int (nI (j % kp))]) rfl rfl hl.1 rfl (lv_room (Nat.le_of_ble_eq_true rfl)) dX3_counted_75 ⟨hRc, hRs⟩) hS (fun r u H locs hw hR hS => ?_)
      obtain ⟨rfl, rfl⟩ := hw
      have hR : tR D vwCl base ad (tC (wP n ad cs) I L) H := hR
      refine lv_iload_n hx hb dX3_counted_78 rfl (lv_at hl 3 rfl) ?_
      refine lv_iadd hx hb dX3_counted_79 ?_
      rw [nI_add]
      refine tp_iald hx hb hK hR 211 0 (fun _ _ => rfl) rfl (8 * (60 * (j / kp) + (j % kp)) + d) rfl (by omega) (by decide) dX3_counted_80 ?_
      rw [show I 211 (8 * (60 * (j / kp) + (j % kp)) + d) = nI (Rw (j / kp) (j % kp) d) from (hMo.2.2 (j / kp) hjc).2.2 (j % kp) hjk d hd]
      refine lv_iload_n hx hb dX3_counted_81 rfl (lv_at hl 4 rfl) ?_
      refine lv_icmp_ne (tgt := 89) hx hb dX3_counted_82 (by decide) (fun c2 => ?_) (fun c2 => ?_)
      · have hg : (fun i => (fun c k => if Rw c k d = f d + i9 then 1 else 0) (i / kp) (i % kp)) j = 0 := if_neg (fun z => c2 (by rw [z]))
        refine lv_iconst (v := 0) hx hb dX3_counted_89 (by decide) ?_
        refine lv_iadd hx hb dX3_counted_90 ?_
        rw [show (0 : Int32) = nI ((fun i => (fun c k => if Rw c k d = f d + i9 then 1 else 0) (i / kp) (i % kp)) j) from by rw [hg]; rfl, nI_add, show sS (fun i => (fun c k => if Rw c k d = f d + i9 then 1 else 0) (i / kp) (i % kp)) j + (fun i => (fun c k => if Rw c k d = f d + i9 then 1 else 0) (i / kp) (i % kp)) j = sS (fun i => (fun c k => if Rw c k d = f d + i9 then 1 else 0) (i / kp) (i % kp)) (j + 1) from rfl]
        refine lv_istore_n (lv' := [(3, .int (nI (sS (fun i => (fun c k => if Rw c k d = f d + i9 then 1 else 0) (i / kp) (i % kp)) (j + 1)))), (4, .int (nI j)), (0, .ref (ad 200)), (1, .int (nI d)), (2, .int (nI (f d + i9)))]) hx hb dX3_counted_91 rfl hl (by decide) rfl (fun ls hl => ?_)
        refine lv_iinc (v := nI (j + 1)) (lv' := [(4, .int (nI (j + 1))), (3, .int (nI (sS (fun i => (fun c k => if Rw c k d = f d + i9 then 1 else 0) (i / kp) (i % kp)) (j + 1)))), (0, .ref (ad 200)), (1, .int (nI d)), (2, .int (nI (f d + i9)))]) hx hb dX3_counted_92 hl (k := 1) rfl (nI_1 _) (by decide) rfl (fun ls hl => ?_)
        refine lv_goto (tgt := 41) hx hb dX3_counted_95 (by decide) ?_
        exact ih (j + 1)  H locs ls (by omega) (by omega)  hR hS (lv_sub hl [0, 1, 2, 3, 4] rfl)
      · have hg : (fun i => (fun c k => if Rw c k d = f d + i9 then 1 else 0) (i / kp) (i % kp)) j = 1 := if_pos ((nI_eq (by have := hRb _ hjc _ hjk d hd; omega) (by omega)).mp c2)
        refine lv_iconst (v := 1) hx hb dX3_counted_85 (by decide) ?_
        refine lv_goto (tgt := 90) hx hb dX3_counted_86 (by decide) ?_
        refine lv_iadd hx hb dX3_counted_90 ?_
        rw [show (1 : Int32) = nI ((fun i => (fun c k => if Rw c k d = f d + i9 then 1 else 0) (i / kp) (i % kp)) j) from by rw [hg]; rfl, nI_add, show sS (fun i => (fun c k => if Rw c k d = f d + i9 then 1 else 0) (i / kp) (i % kp)) j + (fun i => (fun c k => if Rw c k d = f d + i9 then 1 else 0) (i / kp) (i % kp)) j = sS (fun i => (fun c k => if Rw c k d = f d + i9 then 1 else 0) (i / kp) (i % kp)) (j + 1) from rfl]
        refine lv_istore_n (lv' := [(3, .int (nI (sS (fun i => (fun c k => if Rw c k d = f d + i9 then 1 else 0) (i / kp) (i % kp)) (j + 1)))), (4, .int (nI j)), (0, .ref (ad 200)), (1, .int (nI d)), (2, .int (nI (f d + i9)))]) hx hb dX3_counted_91 rfl hl (by decide) rfl (fun ls hl => ?_)
        refine lv_iinc (v := nI (j + 1)) (lv' := [(4, .int (nI (j + 1))), (3, .int (nI (sS (fun i => (fun c k => if Rw c k d = f d + i9 then 1 else 0) (i / kp) (i % kp)) (j + 1)))), (0, .ref (ad 200)), (1, .int (nI d)), (2, .int (nI (f d + i9)))]) hx hb dX3_counted_92 hl (k := 1) rfl (nI_1 _) (by decide) rfl (fun ls hl => ?_)
        refine lv_goto (tgt := 41) hx hb dX3_counted_95 (by decide) ?_
        exact ih (j + 1)  H locs ls (by omega) (by omega)  hR hS (lv_sub hl [0, 1, 2, 3, 4] rfl)
set_option maxHeartbeats 4000000 in
set_option maxRecDepth 100000 in
theorem mX3_counted (I : tI) (L : tL) {nd no : Nat} {f la : Nat → Nat} {ph : Nat → Int32} {w : Nat → Nat → Nat} {ea lt le mo : Nat → Nat} {bu ev sd sv : Nat} {se : Int32} {Y : Nat → Nat → Nat} {st : Nat → Int64} {Rw : Nat → Nat → Nat → Nat} {kp sp : Nat} (B : Nat) (p0 p1 : Int32) (hMs : cMs I nd no f la ph w ea lt le mo) (hwf : wfS nd no f la w ea lt le mo) (hMf : cMf I n bu ev sd sv se) (hC : sd = 1 → cMo I L n nd Y st Rw kp sp ∧ wCo n nd no f la ea lt le mo B Y Rw kp sp) : Met l yX3_counted wX3_counted ({ frames := 3, cells := 0, slots := 0, locals := 90 }) (va_Pc [.ref (ad 200), .int p0, .int p1] (kB D cs base sa n ad I L)) (va_Qi (fun (r : Int32) (u : tI × tL) => pM I L (¬ yOk nd f la p0 p1) (¬ sd = 1) False (fun r u => u = (gT I 0, L) ∧ ∃ d i9, d < nd ∧ p0 = nI d ∧ p1 = nI (f d + i9) ∧ f d + i9 ≤ la d ∧ r = nI (s2 (fun c k => if Rw c k d = f d + i9 then 1 else 0) kp n)) r u) (kA D cs base n ad) (fun q => base ≤ q)) 0 0 (fun q => base ≤ q) := by
  refine Met.ofW (cc := cX3_counted) (maxL := 5) (ret := (some .int)) (by decide) rfl ?_
  intro p e s m args below meth c s₁ Bd hml hv
  obtain ⟨rfl, hE, hR⟩ := hv
  have hx := Bd.exec
  have hb := Bd.bytes
  have hr := Bd.returns
  have hts := atoms_spec (ws := wX3_counted) Bd.pre
  have hown : s.vm.findClass RX3 = some m.cls := findClass_of_methodNamed Bd.named
  have hlocks := Bd.notSynchronized
  have hK := hE.K
  have hS : va_S (fun q => base ≤ q) s.heap s.heap [] := va_S.rf
  have hR : tR D vwCl base ad (tC (wP n ad cs) I L) s.heap := hR
  have hl := lv_entry ([.ref (ad 200), .int p0, .int p1]) (n := 5) (Nat.le_of_ble_eq_true rfl)
  rw [lg_entry_eq]
  generalize (lg_sl ([.ref (ad 200), .int p0, .int p1]) ++ List.replicate (5 - (lg_sl ([.ref (ad 200), .int p0, .int p1])).length) Slot.unset).toArray = ls at hl ⊢
  have hl : lv_has ls 5 [(0, .ref (ad 200)), (1, .int p0), (2, .int p1)] := hl
  obtain ⟨h_nd, h_no, h_d, h_o⟩ := id hwf
  obtain ⟨h_f1, h_f2, h_f3, h_f4, h_f5, h_f6, h_n1, h_n4, h_bu, h_e1, h_e2, h_s1, h_v4⟩ := id hMf
  refine lv_aload_n hx hb dX3_counted_0 rfl (lv_at hl 0 rfl) ?_
  refine jnW (P := ¬ yOk nd f la p0 p1) 15 (fun x1 => .int x1 :: [.ref (ad 200)]) (fun H locs => tR D vwCl base ad (tC (wP n ad cs) I L) H ∧ va_S (fun q => base ≤ q) s.heap H locs) (fun x1 H locs hx1 hT => ?_) (fun Kx1 => ?_)
  · obtain ⟨hR, hS⟩ := hT
    refine jnW (P := ¬ sd = 1) 27 (fun x2 => .int x2 :: [.int x1, .ref (ad 200)]) (fun H locs => tR D vwCl base ad (tC (wP n ad cs) I L) H ∧ va_S (fun q => base ≤ q) s.heap H locs) (fun x2 H locs hx2 hT => ?_) (fun Kx2 => ?_)
    · obtain ⟨hR, hS⟩ := hT
      refine lv_iconst (v := 0) hx hb dX3_counted_27 (by decide) ?_
      refine kc_i (va_runV (As := [.int x1, .int x2, .int 0]) (rest := []) ⟨hx, hb, hml, hown, hts⟩ (mX3_throwing I L x1 x2 0 (P1 := (¬ yOk nd f la p0 p1)) (P2 := (¬ sd = 1)) (P3 := False) hx1 hx2 (bZ0 (fun z => z))) (cwV 3 hts (kw_V k571 k573 ks25 k5 k574) rfl rfl rfl (by decide +kernel) ⟨Nat.le_of_ble_eq_true rfl, Nat.le_of_ble_eq_true rfl⟩) (kB_preV hE hR hS 200 rfl rfl [.int x1, .int x2, .int 0]) rfl rfl hl.1 rfl (lv_room (Nat.le_of_ble_eq_true rfl)) dX3_counted_28 ⟨Nat.le_of_ble_eq_true rfl, Nat.le_of_ble_eq_true rfl⟩) hS (fun r u H locs hw hR hS => ?_)
      rcases hw with ⟨t1, rfl, rfl⟩ | ⟨t1, t2, rfl, rfl⟩ | ⟨t1, t2, t3, rfl, rfl⟩ | ⟨t1, t2, t3, rfl, rfl⟩
      · have hR : tR D vwCl base ad (tC (wP n ad cs) (gT I 1) L) H := hR
        refine lv_if_eq (tgt := 36) hx hb dX3_counted_31 (by decide) (fun c9 => absurd c9 (by decide)) (fun c9 => ?_)
        refine lv_iconst (v := 0) hx hb dX3_counted_34 (by decide) ?_
        exact W.iret (v := 0) hx hb hr (fun t ht hW => ⟨⟨_, (gT I 1, L), rfl, Or.inl ⟨t1, rfl, rfl⟩, by show tR _ _ _ _ _ t.heap; rw [ht]; exact hR⟩, hS.F ht⟩) hS.2.2 dX3_counted_35
      · have hR : tR D vwCl base ad (tC (wP n ad cs) (gT I 2) L) H := hR
        refine lv_if_eq (tgt := 36) hx hb dX3_counted_31 (by decide) (fun c9 => absurd c9 (by decide)) (fun c9 => ?_)
        refine lv_iconst (v := 0) hx hb dX3_counted_34 (by decide) ?_
        exact W.iret (v := 0) hx hb hr (fun t ht hW => ⟨⟨_, (gT I 2, L), rfl, Or.inr (Or.inl ⟨t1, t2, rfl, rfl⟩), by show tR _ _ _ _ _ t.heap; rw [ht]; exact hR⟩, hS.F ht⟩) hS.2.2 dX3_counted_35
      · exact t3.elim
      · have hR : tR D vwCl base ad (tC (wP n ad cs) (gT I 0) L) H := hR
        refine lv_if_eq (tgt := 36) hx hb dX3_counted_31 (by decide) (fun c9 => ?_) (fun c9 => absurd rfl c9)
        have hs : sd = 1 := Classical.byContradiction (fun z => t2 z)
        obtain ⟨hMo, hwY, hk60, hspB, hRb⟩ := hC hs
        have hMs := hMs.gT 0
        have hMf := hMf.gT 0
        have hMo := hMo.gT 0
        have hy := Classical.byContradiction (fun z => t1 z)
        obtain ⟨_, d, i9, hd, rfl, rfl, hi9⟩ := id hy
        refine lv_iconst (v := 0) hx hb dX3_counted_36 (by decide) ?_
        rw [show (0 : Int32) = nI (sS (fun i => (fun c k => if Rw c k d = f d + i9 then 1 else 0) (i / kp) (i % kp)) 0) from rfl]
        refine lv_istore_n (lv' := [(3, .int (nI (sS (fun i => (fun c k => if Rw c k d = f d + i9 then 1 else 0) (i / kp) (i % kp)) 0))), (0, .ref (ad 200)), (1, .int (nI d)), (2, .int (nI (f d + i9)))]) hx hb dX3_counted_37 rfl hl (by decide) rfl (fun ls hl => ?_)
        refine lv_iconst (v := 0) hx hb dX3_counted_38 (by decide) ?_
        rw [show (0 : Int32) = nI 0 from nI_0.symm]
        refine lv_istore (lv' := [(4, .int (nI 0)), (3, .int (nI (sS (fun i => (fun c k => if Rw c k d = f d + i9 then 1 else 0) (i / kp) (i % kp)) 0))), (0, .ref (ad 200)), (1, .int (nI d)), (2, .int (nI (f d + i9)))]) hx hb dX3_counted_39 hl (by decide) rfl (fun ls hl => ?_)
        refine lpX3_counted ⟨hx, hb, hml, hown, hts⟩ hE (Nat.le_of_ble_eq_true rfl) (Nat.le_of_ble_eq_true rfl) (Nat.le_of_ble_eq_true rfl) (Nat.le_of_ble_eq_true rfl) (gT I 0) L d i9 hMs hwf hMf hMo hk60 hd hi9 hRb (fun H locs ls hR hS hl => ?_) (n * kp + 1) 0 _ _ ls (Nat.zero_le _) (by omega) hR hS (lv_sub hl [0, 1, 2, 3, 4] rfl)
        have h_se : sS (fun i => (fun c k => if Rw c k d = f d + i9 then 1 else 0) (i / kp) (i % kp)) (n * kp) = s2 (fun c k => if Rw c k d = f d + i9 then 1 else 0) kp n := by
          rcases Nat.eq_zero_or_pos kp with q | q
          · subst q; rw [Nat.mul_zero, s2_k0]; rfl
          · exact sS_s2 (fun c k => if Rw c k d = f d + i9 then 1 else 0) q n
        refine lv_iload_n hx hb dX3_counted_98 rfl (lv_at hl 1 rfl) ?_
        exact W.iret (v := nI (sS (fun i => (fun c k => if Rw c k d = f d + i9 then 1 else 0) (i / kp) (i % kp)) (n * kp))) hx hb hr (fun t ht hW => ⟨⟨_, (gT I 0, L), rfl, Or.inr (Or.inr (Or.inr ⟨t1, t2, t3, rfl, d, i9, hd, rfl, rfl, hi9, by rw [h_se]⟩)), by show tR _ _ _ _ _ t.heap; rw [ht]; exact hR⟩, hS.F ht⟩) hS.2.2 dX3_counted_99
    · refine lv_aload_n hx hb dX3_counted_15 rfl (lv_at hl 0 rfl) ?_
      refine tb_get hx hb hts (fun w h => List.mem_cons_of_mem _ (inX3 w h)) hown hK hR 200 rfl rfl 15 (by decide) (hts _ (List.mem_cons_of_mem _ k493)) (fun _ h => h) rfl dX3_counted_16 ?_
      rw [show I 200 15 = nI sd from hMf.2.2.2.2.1]
      refine lv_if_ne (tgt := 26) hx hb dX3_counted_19 (by decide) (fun c1 => ?_) (fun c1 => ?_)
      · refine lv_iconst (v := 0) hx hb dX3_counted_26 (by decide) ?_
        exact Kx2 _ _ _ (bZ0 (fun z => z (by have q : ¬ sd = 0 := fun z => c1 (by rw [z]; rfl); omega))) ⟨hR, hS⟩
      · refine lv_iconst (v := 1) hx hb dX3_counted_22 (by decide) ?_
        refine lv_goto (tgt := 27) hx hb dX3_counted_23 (by decide) ?_
        exact Kx2 _ _ _ (bZ1 (fun z => absurd c1 (by rw [z]; decide))) ⟨hR, hS⟩
  · refine lv_aload_n hx hb dX3_counted_1 rfl (lv_at hl 0 rfl) ?_
    refine lv_iload_n hx hb dX3_counted_2 rfl (lv_at hl 1 rfl) ?_
    refine lv_iload_n hx hb dX3_counted_3 rfl (lv_at hl 2 rfl) ?_
    refine kc_i (va_runV (As := [.int p0, .int p1]) (rest := [.ref (ad 200)]) ⟨hx, hb, hml, hown, hts⟩ (mX3_hasYear I L p0 p1 hMs hwf) (cwV 2 hts (kw_V k583 k585 ks27 k5 k586) rfl rfl rfl (by decide +kernel) ⟨Nat.le_of_ble_eq_true rfl, Nat.le_of_ble_eq_true rfl⟩) (kB_preV hE hR hS 200 rfl rfl [.int p0, .int p1]) rfl rfl hl.1 rfl (lv_room (Nat.le_of_ble_eq_true rfl)) dX3_counted_4 ⟨Nat.le_of_ble_eq_true rfl, Nat.le_of_ble_eq_true rfl⟩) hS (fun r u H locs hw hR hS => ?_)
    obtain ⟨hyo, rfl⟩ := hw
    have hR : tR D vwCl base ad (tC (wP n ad cs) I L) H := hR
    refine lv_if_ne (tgt := 14) hx hb dX3_counted_7 (by decide) (fun c2 => ?_) (fun c2 => ?_)
    · refine lv_iconst (v := 0) hx hb dX3_counted_14 (by decide) ?_
      exact Kx1 _ _ _ (bZ0 (fun z => z (hyo.t c2))) ⟨hR, hS⟩
    · refine lv_iconst (v := 1) hx hb dX3_counted_10 (by decide) ?_
      refine lv_goto (tgt := 15) hx hb dX3_counted_11 (by decide) ?_
      exact Kx1 _ _ _ (bZ1 (hyo.f c2)) ⟨hR, hS⟩
set_option maxHeartbeats 4000000 in
set_option maxRecDepth 100000 in
theorem lqX3_apart {p : Program} {e : Env} {R : Room} {s : State} {m : MethodId} {args : Array Value} {below : List Frame} {meth : Method} {c : Code} {cells slots : Nat} {Q : State → Prop} (S0 : CallFix p m c cX3_apart 7 s args wX3_apart RX3) (hE : eV D cs base sa s) (hRf : 1 ≤ R.frames) (hRl : 40 ≤ R.locals) (hRc : cells ≤ R.cells) (hRs : slots ≤ R.slots) (I : tI) (L : tL) {nd no : Nat} {f la : Nat → Nat} {ph : Nat → Int32} {w : Nat → Nat → Nat} {ea lt le mo : Nat → Nat} {bu ev sd sv : Nat} {se : Int32} {Y : Nat → Nat → Nat} {st : Nat → Int64} {Rw : Nat → Nat → Nat → Nat} {kp sp : Nat} (d c9 : Nat) (h2 h3 : Int32) (hMs : cMs I nd no f la ph w ea lt le mo) (hwf : wfS nd no f la w ea lt le mo) (hMf : cMf I n bu ev sd sv se) (hMo : cMo I L n nd Y st Rw kp sp) (hk60 : kp ≤ 60) (hd : d < nd) (hRb : ∀ c, c < n → ∀ k, k < kp → ∀ d, d < nd → f d ≤ Rw c k d ∧ Rw c k d ≤ la d) (hc9 : c9 < n)
    (kx : ∀ (H : Heap) (locs : List Loc) (ls : Array Slot), tR D vwCl base ad (tC (wP n ad cs) I L) H → va_S (fun q => base ≤ q) s.heap H locs → lv_has ls 7 [(6, .int (nI kp)), (5, .int (nI (sS (fun k => Rw c9 k d) kp))), (4, .int (nI c9)), (3, .int h3), (2, .int h2), (0, .ref (ad 200)), (1, .int (nI d))] → W p l e R s m args below meth c H locs cells slots Q (F0 m 92 ls [])) :
    ∀ (k j : Nat) (H : Heap) (locs : List Loc) (ls : Array Slot), j ≤ kp → kp + 1 ≤ j + k → tR D vwCl base ad (tC (wP n ad cs) I L) H → va_S (fun q => base ≤ q) s.heap H locs → lv_has ls 7 [(6, .int (nI j)), (5, .int (nI (sS (fun k => Rw c9 k d) j))), (4, .int (nI c9)), (3, .int h3), (2, .int h2), (0, .ref (ad 200)), (1, .int (nI d))] → W p l e R s m args below meth c H locs cells slots Q (F0 m 57 ls []) := by
  obtain ⟨hx, hb, hml, hown, hts⟩ := S0
  have hK := hE.K
  obtain ⟨h_nd, h_no, h_d, h_o⟩ := id hwf
  obtain ⟨h_f1, h_f2, h_f3, h_f4, h_f5, h_f6, h_n1, h_n4, h_bu, h_e1, h_e2, h_s1, h_v4⟩ := id hMf
  intro k
  induction k with
  | zero => intro j  H locs ls h1 h2; exact absurd h2 (by omega)
  | succ k ih =>
    intro j  H locs ls hj hk  hR hS hl
    refine lv_iload hx hb dX3_apart_57 (lv_at hl 0 rfl) ?_
    refine lv_aload_n hx hb dX3_apart_59 rfl (lv_at hl 5 rfl) ?_
    refine tb_get hx hb hts (fun w h => List.mem_cons_of_mem _ (inX3 w h)) hown hK hR 200 rfl rfl 17 (by decide) (hts _ (List.mem_cons_of_mem _ k495)) (fun _ h => h) rfl dX3_apart_60 ?_
    rw [show I 200 17 = nI kp from hMo.1]
    refine lv_icmp_ge (tgt := 92) hx hb dX3_apart_63 (by decide) (fun c1 => ?_) (fun c1 => ?_)
    · have hjN : j = kp := by have e9 := (nI_leI (by omega) (by omega)).mp c1; omega
      subst hjN
      exact kx  H locs ls  hR hS (lv_sub hl [0, 1, 2, 3, 4, 5, 6] rfl)
    · have hjN : j < kp := by
        rcases Nat.lt_or_ge j kp with q | q
        · exact q
        · exact absurd (nI_le (by omega) (by omega)) c1
      refine lv_iload hx hb dX3_apart_66 (lv_at hl 1 rfl) ?_
      refine lv_aload_n hx hb dX3_apart_68 rfl (lv_at hl 5 rfl) ?_
      refine tb_get hx hb hts (fun w h => List.mem_cons_of_mem _ (inX3 w h)) hown hK hR 200 rfl rfl 20 (by decide) (hts _ (List.mem_cons_of_mem _ k498)) (fun _ h => h) rfl dX3_apart_69 ?_
      refine lv_aload_n hx hb dX3_apart_72 rfl (lv_at hl 5 rfl) ?_
      refine lv_iload hx hb dX3_apart_73 (lv_at hl 2 rfl) ?_
      refine lv_iload hx hb dX3_apart_75 (lv_at hl 0 rfl) ?_
      refine kc_i (va_runV (As := [.int (nI c9), .int (nI j)]) (rest := [.ref (ad 211), .int (nI (sS (fun k => Rw c9 k d) j))]) ⟨hx, hb, hml, hown, hts⟩ (mX3_rowAt I L c9 j) (cwV 2 hts (kw_V k646 k648 ks36 k5 k649) rfl rfl rfl (by decide +kernel) ⟨Nat.le_trans (Nat.le_of_ble_eq_true rfl) hRf, Nat.le_trans (Nat.le_of_ble_eq_true rfl) hRl⟩) (kB_preV hE hR hS 200 rfl rfl [.int (nI c9), .int (nI j)]) rfl rfl hl.1 rfl (lv_room (Nat.le_of_ble_eq_true rfl)) dX3_apart_77 ⟨hRc, hRs⟩) hS (fun r u H locs hw hR hS => ?_)
      obtain ⟨rfl, rfl⟩ := hw
      have hR : tR D vwCl base ad (tC (wP n ad cs) I L) H := hR
      refine lv_iload_n hx hb dX3_apart_80 rfl (lv_at hl 6 rfl) ?_
      refine lv_iadd hx hb dX3_apart_81 ?_
      rw [nI_add]
      refine tp_iald hx hb hK hR 211 0 (fun _ _ => rfl) rfl (8 * (60 * c9 + j) + d) rfl (by omega) (by decide) dX3_apart_82 ?_
      rw [show I 211 (8 * (60 * c9 + j) + d) = nI (Rw c9 j d) from (hMo.2.2 c9 hc9).2.2 j hjN d hd]
      refine lv_iadd hx hb dX3_apart_83 ?_
      rw [nI_add, show sS (fun k => Rw c9 k d) j + Rw c9 j d = sS (fun k => Rw c9 k d) (j + 1) from rfl]
      refine lv_istore (lv' := [(5, .int (nI (sS (fun k => Rw c9 k d) (j + 1)))), (6, .int (nI j)), (4, .int (nI c9)), (3, .int h3), (2, .int h2), (0, .ref (ad 200)), (1, .int (nI d))]) hx hb dX3_apart_84 hl (by decide) rfl (fun ls hl => ?_)
      refine lv_iinc (v := nI (j + 1)) (lv' := [(6, .int (nI (j + 1))), (5, .int (nI (sS (fun k => Rw c9 k d) (j + 1)))), (4, .int (nI c9)), (3, .int h3), (2, .int h2), (0, .ref (ad 200)), (1, .int (nI d))]) hx hb dX3_apart_86 hl (k := 1) rfl (nI_1 _) (by decide) rfl (fun ls hl => ?_)
      refine lv_goto (tgt := 57) hx hb dX3_apart_89 (by decide) ?_
      exact ih (j + 1)  H locs ls (by omega) (by omega)  hR hS (lv_sub hl [0, 1, 2, 3, 4, 5, 6] rfl)
set_option maxHeartbeats 4000000 in
set_option maxRecDepth 100000 in
theorem lpX3_apart {p : Program} {e : Env} {R : Room} {s : State} {m : MethodId} {args : Array Value} {below : List Frame} {meth : Method} {c : Code} {cells slots : Nat} {Q : State → Prop} (S0 : CallFix p m c cX3_apart 7 s args wX3_apart RX3) (hE : eV D cs base sa s) (hRf : 1 ≤ R.frames) (hRl : 40 ≤ R.locals) (hRc : cells ≤ R.cells) (hRs : slots ≤ R.slots) (I : tI) (L : tL) {nd no : Nat} {f la : Nat → Nat} {ph : Nat → Int32} {w : Nat → Nat → Nat} {ea lt le mo : Nat → Nat} {bu ev sd sv : Nat} {se : Int32} {Y : Nat → Nat → Nat} {st : Nat → Int64} {Rw : Nat → Nat → Nat → Nat} {kp sp : Nat} (d : Nat) (G9 : Nat → Nat) (hMs : cMs I nd no f la ph w ea lt le mo) (hwf : wfS nd no f la w ea lt le mo) (hMf : cMf I n bu ev sd sv se) (hMo : cMo I L n nd Y st Rw kp sp) (hk60 : kp ≤ 60) (hd : d < nd) (hRb : ∀ c, c < n → ∀ k, k < kp → ∀ d, d < nd → f d ≤ Rw c k d ∧ Rw c k d ≤ la d) (hG9 : ∀ c, G9 c = sS (fun k => Rw c k d) kp)
    (kx : ∀ (H : Heap) (locs : List Loc) (ls : Array Slot), tR D vwCl base ad (tC (wP n ad cs) I L) H → va_S (fun q => base ≤ q) s.heap H locs → lv_has ls 7 [(4, .int (nI n)), (3, .int (nI (hgF G9 n))), (2, .int (nI (lwF G9 n))), (0, .ref (ad 200)), (1, .int (nI d))] → W p l e R s m args below meth c H locs cells slots Q (F0 m 134 ls [])) :
    ∀ (k j : Nat) (H : Heap) (locs : List Loc) (ls : Array Slot), j ≤ n → n + 1 ≤ j + k → tR D vwCl base ad (tC (wP n ad cs) I L) H → va_S (fun q => base ≤ q) s.heap H locs → lv_has ls 7 [(4, .int (nI j)), (3, .int (nI (hgF G9 j))), (2, .int (nI (lwF G9 j))), (0, .ref (ad 200)), (1, .int (nI d))] → W p l e R s m args below meth c H locs cells slots Q (F0 m 42 ls []) := by
  obtain ⟨hx, hb, hml, hown, hts⟩ := S0
  have hK := hE.K
  obtain ⟨h_nd, h_no, h_d, h_o⟩ := id hwf
  obtain ⟨h_f1, h_f2, h_f3, h_f4, h_f5, h_f6, h_n1, h_n4, h_bu, h_e1, h_e2, h_s1, h_v4⟩ := id hMf
  have hgb : ∀ c, c < n → G9 c ≤ 15300 := fun c hc => by rw [hG9]; exact Nat.le_trans (sS_le (B := 255) (fun k hk => by have := hRb c hc k hk d hd; have := (h_d d hd).2.1; omega)) (by omega)
  intro k
  induction k with
  | zero => intro j  H locs ls h1 h2; exact absurd h2 (by omega)
  | succ k ih =>
    intro j  H locs ls hj hk  hR hS hl
    refine lv_iload hx hb dX3_apart_42 (lv_at hl 0 rfl) ?_
    refine lv_aload_n hx hb dX3_apart_44 rfl (lv_at hl 3 rfl) ?_
    refine tb_get hx hb hts (fun w h => List.mem_cons_of_mem _ (inX3 w h)) hown hK hR 200 rfl rfl 2 (by decide) (hts _ (List.mem_cons_of_mem _ k480)) (fun _ h => h) rfl dX3_apart_45 ?_
    rw [show I 200 2 = nI n from hMf.2.1]
    refine lv_icmp_ge (tgt := 134) hx hb dX3_apart_48 (by decide) (fun c1 => ?_) (fun c1 => ?_)
    · have hjN : j = n := by have e9 := (nI_leI (by omega) (by omega)).mp c1; omega
      subst hjN
      exact kx  H locs ls  hR hS (lv_sub hl [0, 1, 2, 3, 4] rfl)
    · have hjN : j < n := by
        rcases Nat.lt_or_ge j n with q | q
        · exact q
        · exact absurd (nI_le (by omega) (by omega)) c1
      have h_g := hgb j hjN
      have h_lw := lwF_le (g := G9) (m := j) (B := 15300) (fun i hi => hgb i (by omega))
      have h_hg := hgF_le (g := G9) (m := j) (B := 15300) (fun i hi => hgb i (by omega))
      refine lv_iconst (v := 0) hx hb dX3_apart_51 (by decide) ?_
      refine lv_istore (lv' := [(5, .int 0), (4, .int (nI j)), (3, .int (nI (hgF G9 j))), (2, .int (nI (lwF G9 j))), (0, .ref (ad 200)), (1, .int (nI d))]) hx hb dX3_apart_52 hl (by decide) rfl (fun ls hl => ?_)
      refine lv_iconst (v := 0) hx hb dX3_apart_54 (by decide) ?_
      refine lv_istore (lv' := [(6, .int 0), (5, .int 0), (4, .int (nI j)), (3, .int (nI (hgF G9 j))), (2, .int (nI (lwF G9 j))), (0, .ref (ad 200)), (1, .int (nI d))]) hx hb dX3_apart_55 hl (by decide) rfl (fun ls hl => ?_)
      have hl : lv_has ls 7 [(6, .int (nI 0)), (5, .int (nI (sS (fun k => Rw j k d) 0))), (4, .int (nI j)), (3, .int (nI (hgF G9 j))), (2, .int (nI (lwF G9 j))), (0, .ref (ad 200)), (1, .int (nI d))] := hl
      refine lqX3_apart ⟨hx, hb, hml, hown, hts⟩ hE hRf hRl hRc hRs I L d j _ _ hMs hwf hMf hMo hk60 hd hRb hjN (fun H locs ls hR hS hl => ?_) (kp + 1) 0 _ _ ls (Nat.zero_le _) (by omega) hR hS (lv_sub hl [0, 1, 2, 3, 4, 5, 6] rfl)
      rw [← hG9 j] at hl
      refine lv_iload hx hb dX3_apart_92 (lv_at hl 2 rfl) ?_
      refine lv_if_eq (tgt := 103) hx hb dX3_apart_94 (by decide) (fun c2 => ?_) (fun c2 => ?_)
      · have h0 : j = 0 := (nI_z (by omega)).mp c2
        refine lv_iload hx hb dX3_apart_103 (lv_at hl 1 rfl) ?_
        refine lv_goto (tgt := 109) hx hb dX3_apart_105 (by decide) ?_
        rw [lwF_t G9 (Or.inl h0)]
        refine lv_istore_n (lv' := [(2, .int (nI (lwF G9 (j + 1)))), (6, .int (nI kp)), (5, .int (nI (G9 j))), (4, .int (nI j)), (3, .int (nI (hgF G9 j))), (0, .ref (ad 200)), (1, .int (nI d))]) hx hb dX3_apart_109 rfl hl (by decide) rfl (fun ls hl => ?_)
        refine lv_iload hx hb dX3_apart_110 (lv_at hl 3 rfl) ?_
        refine lv_if_eq (tgt := 121) hx hb dX3_apart_112 (by decide) (fun c3 => ?_) (fun c3 => ?_)
        · have h0 : j = 0 := (nI_z (by omega)).mp c3
          refine lv_iload hx hb dX3_apart_121 (lv_at hl 2 rfl) ?_
          refine lv_goto (tgt := 127) hx hb dX3_apart_123 (by decide) ?_
          rw [hgF_t G9 (Or.inl h0)]
          refine lv_istore_n (lv' := [(3, .int (nI (hgF G9 (j + 1)))), (2, .int (nI (lwF G9 (j + 1)))), (6, .int (nI kp)), (5, .int (nI (G9 j))), (4, .int (nI j)), (0, .ref (ad 200)), (1, .int (nI d))]) hx hb dX3_apart_127 rfl hl (by decide) rfl (fun ls hl => ?_)
          refine lv_iinc (v := nI (j + 1)) (lv' := [(4, .int (nI (j + 1))), (3, .int (nI (hgF G9 (j + 1)))), (2, .int (nI (lwF G9 (j + 1)))), (6, .int (nI kp)), (5, .int (nI (G9 j))), (0, .ref (ad 200)), (1, .int (nI d))]) hx hb dX3_apart_128 hl (k := 4) rfl (nI_1 _) (by decide) rfl (fun ls hl => ?_)
          refine lv_goto (tgt := 42) hx hb dX3_apart_131 (by decide) ?_
          exact ih (j + 1)  H locs ls (by omega) (by omega)  hR hS (lv_sub hl [0, 1, 2, 5, 6] rfl)
        · have h0 : ¬ j = 0 := fun z => c3 (by rw [z]; rfl)
          refine lv_iload hx hb dX3_apart_115 (lv_at hl 2 rfl) ?_
          refine lv_iload_n hx hb dX3_apart_117 rfl (lv_at hl 4 rfl) ?_
          refine lv_icmp_le (tgt := 126) hx hb dX3_apart_118 (by decide) (fun c4 => ?_) (fun c4 => ?_)
          · have hq : hgF G9 j = hgF G9 (j + 1) := hgF_f _ h0 (Nat.not_lt.mpr ((nI_leI (by omega) (by omega)).mp c4))
            refine lv_iload_n hx hb dX3_apart_126 rfl (lv_at hl 4 rfl) ?_
            rw [hq]
            refine lv_istore_n (lv' := [(3, .int (nI (hgF G9 (j + 1)))), (2, .int (nI (lwF G9 (j + 1)))), (6, .int (nI kp)), (5, .int (nI (G9 j))), (4, .int (nI j)), (0, .ref (ad 200)), (1, .int (nI d))]) hx hb dX3_apart_127 rfl hl (by decide) rfl (fun ls hl => ?_)
            refine lv_iinc (v := nI (j + 1)) (lv' := [(4, .int (nI (j + 1))), (3, .int (nI (hgF G9 (j + 1)))), (2, .int (nI (lwF G9 (j + 1)))), (6, .int (nI kp)), (5, .int (nI (G9 j))), (0, .ref (ad 200)), (1, .int (nI d))]) hx hb dX3_apart_128 hl (k := 4) rfl (nI_1 _) (by decide) rfl (fun ls hl => ?_)
            refine lv_goto (tgt := 42) hx hb dX3_apart_131 (by decide) ?_
            exact ih (j + 1)  H locs ls (by omega) (by omega)  hR hS (lv_sub hl [0, 1, 2, 5, 6] rfl)
          · refine lv_iload hx hb dX3_apart_121 (lv_at hl 2 rfl) ?_
            refine lv_goto (tgt := 127) hx hb dX3_apart_123 (by decide) ?_
            rw [hgF_t G9 (Or.inr (Nat.lt_of_not_le (fun q => c4 (nI_le q (by omega)))))]
            refine lv_istore_n (lv' := [(3, .int (nI (hgF G9 (j + 1)))), (2, .int (nI (lwF G9 (j + 1)))), (6, .int (nI kp)), (5, .int (nI (G9 j))), (4, .int (nI j)), (0, .ref (ad 200)), (1, .int (nI d))]) hx hb dX3_apart_127 rfl hl (by decide) rfl (fun ls hl => ?_)
            refine lv_iinc (v := nI (j + 1)) (lv' := [(4, .int (nI (j + 1))), (3, .int (nI (hgF G9 (j + 1)))), (2, .int (nI (lwF G9 (j + 1)))), (6, .int (nI kp)), (5, .int (nI (G9 j))), (0, .ref (ad 200)), (1, .int (nI d))]) hx hb dX3_apart_128 hl (k := 4) rfl (nI_1 _) (by decide) rfl (fun ls hl => ?_)
            refine lv_goto (tgt := 42) hx hb dX3_apart_131 (by decide) ?_
            exact ih (j + 1)  H locs ls (by omega) (by omega)  hR hS (lv_sub hl [0, 1, 2, 5, 6] rfl)
      · have h0 : ¬ j = 0 := fun z => c2 (by rw [z]; rfl)
        refine lv_iload hx hb dX3_apart_97 (lv_at hl 1 rfl) ?_
        refine lv_iload_n hx hb dX3_apart_99 rfl (lv_at hl 4 rfl) ?_
        refine lv_icmp_ge (tgt := 108) hx hb dX3_apart_100 (by decide) (fun c5 => ?_) (fun c5 => ?_)
        · have hq : lwF G9 j = lwF G9 (j + 1) := lwF_f _ h0 (Nat.not_lt.mpr ((nI_leI (by omega) (by omega)).mp c5))
          refine lv_iload_n hx hb dX3_apart_108 rfl (lv_at hl 4 rfl) ?_
          rw [hq]
          refine lv_istore_n (lv' := [(2, .int (nI (lwF G9 (j + 1)))), (6, .int (nI kp)), (5, .int (nI (G9 j))), (4, .int (nI j)), (3, .int (nI (hgF G9 j))), (0, .ref (ad 200)), (1, .int (nI d))]) hx hb dX3_apart_109 rfl hl (by decide) rfl (fun ls hl => ?_)
          refine lv_iload hx hb dX3_apart_110 (lv_at hl 3 rfl) ?_
          refine lv_if_eq (tgt := 121) hx hb dX3_apart_112 (by decide) (fun c6 => ?_) (fun c6 => ?_)
          · have h0 : j = 0 := (nI_z (by omega)).mp c6
            refine lv_iload hx hb dX3_apart_121 (lv_at hl 2 rfl) ?_
            refine lv_goto (tgt := 127) hx hb dX3_apart_123 (by decide) ?_
            rw [hgF_t G9 (Or.inl h0)]
            refine lv_istore_n (lv' := [(3, .int (nI (hgF G9 (j + 1)))), (2, .int (nI (lwF G9 (j + 1)))), (6, .int (nI kp)), (5, .int (nI (G9 j))), (4, .int (nI j)), (0, .ref (ad 200)), (1, .int (nI d))]) hx hb dX3_apart_127 rfl hl (by decide) rfl (fun ls hl => ?_)
            refine lv_iinc (v := nI (j + 1)) (lv' := [(4, .int (nI (j + 1))), (3, .int (nI (hgF G9 (j + 1)))), (2, .int (nI (lwF G9 (j + 1)))), (6, .int (nI kp)), (5, .int (nI (G9 j))), (0, .ref (ad 200)), (1, .int (nI d))]) hx hb dX3_apart_128 hl (k := 4) rfl (nI_1 _) (by decide) rfl (fun ls hl => ?_)
            refine lv_goto (tgt := 42) hx hb dX3_apart_131 (by decide) ?_
            exact ih (j + 1)  H locs ls (by omega) (by omega)  hR hS (lv_sub hl [0, 1, 2, 5, 6] rfl)
          · have h0 : ¬ j = 0 := fun z => c6 (by rw [z]; rfl)
            refine lv_iload hx hb dX3_apart_115 (lv_at hl 2 rfl) ?_
            refine lv_iload_n hx hb dX3_apart_117 rfl (lv_at hl 4 rfl) ?_
            refine lv_icmp_le (tgt := 126) hx hb dX3_apart_118 (by decide) (fun c7 => ?_) (fun c7 => ?_)
            · have hq : hgF G9 j = hgF G9 (j + 1) := hgF_f _ h0 (Nat.not_lt.mpr ((nI_leI (by omega) (by omega)).mp c7))
              refine lv_iload_n hx hb dX3_apart_126 rfl (lv_at hl 4 rfl) ?_
              rw [hq]
              refine lv_istore_n (lv' := [(3, .int (nI (hgF G9 (j + 1)))), (2, .int (nI (lwF G9 (j + 1)))), (6, .int (nI kp)), (5, .int (nI (G9 j))), (4, .int (nI j)), (0, .ref (ad 200)), (1, .int (nI d))]) hx hb dX3_apart_127 rfl hl (by decide) rfl (fun ls hl => ?_)
              refine lv_iinc (v := nI (j + 1)) (lv' := [(4, .int (nI (j + 1))), (3, .int (nI (hgF G9 (j + 1)))), (2, .int (nI (lwF G9 (j + 1)))), (6, .int (nI kp)), (5, .int (nI (G9 j))), (0, .ref (ad 200)), (1, .int (nI d))]) hx hb dX3_apart_128 hl (k := 4) rfl (nI_1 _) (by decide) rfl (fun ls hl => ?_)
              refine lv_goto (tgt := 42) hx hb dX3_apart_131 (by decide) ?_
              exact ih (j + 1)  H locs ls (by omega) (by omega)  hR hS (lv_sub hl [0, 1, 2, 5, 6] rfl)
            · refine lv_iload hx hb dX3_apart_121 (lv_at hl 2 rfl) ?_
              refine lv_goto (tgt := 127) hx hb dX3_apart_123 (by decide) ?_
              rw [hgF_t G9 (Or.inr (Nat.lt_of_not_le (fun q => c7 (nI_le q (by omega)))))]
              refine lv_istore_n (lv' := [(3, .int (nI (hgF G9 (j + 1)))), (2, .int (nI (lwF G9 (j + 1)))), (6, .int (nI kp)), (5, .int (nI (G9 j))), (4, .int (nI j)), (0, .ref (ad 200)), (1, .int (nI d))]) hx hb dX3_apart_127 rfl hl (by decide) rfl (fun ls hl => ?_)
              refine lv_iinc (v := nI (j + 1)) (lv' := [(4, .int (nI (j + 1))), (3, .int (nI (hgF G9 (j + 1)))), (2, .int (nI (lwF G9 (j + 1)))), (6, .int (nI kp)), (5, .int (nI (G9 j))), (0, .ref (ad 200)), (1, .int (nI d))]) hx hb dX3_apart_128 hl (k := 4) rfl (nI_1 _) (by decide) rfl (fun ls hl => ?_)
              refine lv_goto (tgt := 42) hx hb dX3_apart_131 (by decide) ?_
              exact ih (j + 1)  H locs ls (by omega) (by omega)  hR hS (lv_sub hl [0, 1, 2, 5, 6] rfl)
        · refine lv_iload hx hb dX3_apart_103 (lv_at hl 1 rfl) ?_
          refine lv_goto (tgt := 109) hx hb dX3_apart_105 (by decide) ?_
          rw [lwF_t G9 (Or.inr (Nat.lt_of_not_le (fun q => c5 (nI_le q (by omega)))))]
          refine lv_istore_n (lv' := [(2, .int (nI (lwF G9 (j + 1)))), (6, .int (nI kp)), (5, .int (nI (G9 j))), (4, .int (nI j)), (3, .int (nI (hgF G9 j))), (0, .ref (ad 200)), (1, .int (nI d))]) hx hb dX3_apart_109 rfl hl (by decide) rfl (fun ls hl => ?_)
          refine lv_iload hx hb dX3_apart_110 (lv_at hl 3 rfl) ?_
          refine lv_if_eq (tgt := 121) hx hb dX3_apart_112 (by decide) (fun c8 => ?_) (fun c8 => ?_)
          · have h0 : j = 0 := (nI_z (by omega)).mp c8
            refine lv_iload hx hb dX3_apart_121 (lv_at hl 2 rfl) ?_
            refine lv_goto (tgt := 127) hx hb dX3_apart_123 (by decide) ?_
            rw [hgF_t G9 (Or.inl h0)]
            refine lv_istore_n (lv' := [(3, .int (nI (hgF G9 (j + 1)))), (2, .int (nI (lwF G9 (j + 1)))), (6, .int (nI kp)), (5, .int (nI (G9 j))), (4, .int (nI j)), (0, .ref (ad 200)), (1, .int (nI d))]) hx hb dX3_apart_127 rfl hl (by decide) rfl (fun ls hl => ?_)
            refine lv_iinc (v := nI (j + 1)) (lv' := [(4, .int (nI (j + 1))), (3, .int (nI (hgF G9 (j + 1)))), (2, .int (nI (lwF G9 (j + 1)))), (6, .int (nI kp)), (5, .int (nI (G9 j))), (0, .ref (ad 200)), (1, .int (nI d))]) hx hb dX3_apart_128 hl (k := 4) rfl (nI_1 _) (by decide) rfl (fun ls hl => ?_)
            refine lv_goto (tgt := 42) hx hb dX3_apart_131 (by decide) ?_
            exact ih (j + 1)  H locs ls (by omega) (by omega)  hR hS (lv_sub hl [0, 1, 2, 5, 6] rfl)
          · have h0 : ¬ j = 0 := fun z => c8 (by rw [z]; rfl)
            refine lv_iload hx hb dX3_apart_115 (lv_at hl 2 rfl) ?_
            refine lv_iload_n hx hb dX3_apart_117 rfl (lv_at hl 4 rfl) ?_
            refine lv_icmp_le (tgt := 126) hx hb dX3_apart_118 (by decide) (fun c9 => ?_) (fun c9 => ?_)
            · have hq : hgF G9 j = hgF G9 (j + 1) := hgF_f _ h0 (Nat.not_lt.mpr ((nI_leI (by omega) (by omega)).mp c9))
              refine lv_iload_n hx hb dX3_apart_126 rfl (lv_at hl 4 rfl) ?_
              rw [hq]
              refine lv_istore_n (lv' := [(3, .int (nI (hgF G9 (j + 1)))), (2, .int (nI (lwF G9 (j + 1)))), (6, .int (nI kp)), (5, .int (nI (G9 j))), (4, .int (nI j)), (0, .ref (ad 200)), (1, .int (nI d))]) hx hb dX3_apart_127 rfl hl (by decide) rfl (fun ls hl => ?_)
              refine lv_iinc (v := nI (j + 1)) (lv' := [(4, .int (nI (j + 1))), (3, .int (nI (hgF G9 (j + 1)))), (2, .int (nI (lwF G9 (j + 1)))), (6, .int (nI kp)), (5, .int (nI (G9 j))), (0, .ref (ad 200)), (1, .int (nI d))]) hx hb dX3_apart_128 hl (k := 4) rfl (nI_1 _) (by decide) rfl (fun ls hl => ?_)
              refine lv_goto (tgt := 42) hx hb dX3_apart_131 (by decide) ?_
              exact ih (j + 1)  H locs ls (by omega) (by omega)  hR hS (lv_sub hl [0, 1, 2, 5, 6] rfl)
            · refine lv_iload hx hb dX3_apart_121 (lv_at hl 2 rfl) ?_
              refine lv_goto (tgt := 127) hx hb dX3_apart_123 (by decide) ?_
              rw [hgF_t G9 (Or.inr (Nat.lt_of_not_le (fun q => c9 (nI_le q (by omega)))))]
              refine lv_istore_n (lv' := [(3, .int (nI (hgF G9 (j + 1)))), (2, .int (nI (lwF G9 (j + 1)))), (6, .int (nI kp)), (5, .int (nI (G9 j))), (4, .int (nI j)), (0, .ref (ad 200)), (1, .int (nI d))]) hx hb dX3_apart_127 rfl hl (by decide) rfl (fun ls hl => ?_)
              refine lv_iinc (v := nI (j + 1)) (lv' := [(4, .int (nI (j + 1))), (3, .int (nI (hgF G9 (j + 1)))), (2, .int (nI (lwF G9 (j + 1)))), (6, .int (nI kp)), (5, .int (nI (G9 j))), (0, .ref (ad 200)), (1, .int (nI d))]) hx hb dX3_apart_128 hl (k := 4) rfl (nI_1 _) (by decide) rfl (fun ls hl => ?_)
              refine lv_goto (tgt := 42) hx hb dX3_apart_131 (by decide) ?_
              exact ih (j + 1)  H locs ls (by omega) (by omega)  hR hS (lv_sub hl [0, 1, 2, 5, 6] rfl)
set_option maxHeartbeats 4000000 in
set_option maxRecDepth 100000 in
theorem mX3_apart (I : tI) (L : tL) {nd no : Nat} {f la : Nat → Nat} {ph : Nat → Int32} {w : Nat → Nat → Nat} {ea lt le mo : Nat → Nat} {bu ev sd sv : Nat} {se : Int32} {Y : Nat → Nat → Nat} {st : Nat → Int64} {Rw : Nat → Nat → Nat → Nat} {kp sp : Nat} (B : Nat) (p0 : Int32) (hMs : cMs I nd no f la ph w ea lt le mo) (hwf : wfS nd no f la w ea lt le mo) (hMf : cMf I n bu ev sd sv se) (hC : sd = 1 → cMo I L n nd Y st Rw kp sp ∧ wCo n nd no f la ea lt le mo B Y Rw kp sp) : Met l yX3_apart wX3_apart ({ frames := 3, cells := 0, slots := 0, locals := 90 }) (va_Pc [.ref (ad 200), .int p0] (kB D cs base sa n ad I L)) (va_Qi (fun (r : Int32) (u : tI × tL) => pM I L (¬ inN nd p0) (¬ sd = 1) False (fun r u => u = (gT I 0, L) ∧ ∃ d, d < nd ∧ p0 = nI d ∧ r = nI (mxF (fun c => sS (fun k => Rw c k d) kp) (n - 1) - mnF (fun c => sS (fun k => Rw c k d) kp) (n - 1))) r u) (kA D cs base n ad) (fun q => base ≤ q)) 0 0 (fun q => base ≤ q) := by
  refine Met.ofW (cc := cX3_apart) (maxL := 7) (ret := (some .int)) (by decide) rfl ?_
  intro p e s m args below meth c s₁ Bd hml hv
  obtain ⟨rfl, hE, hR⟩ := hv
  have hx := Bd.exec
  have hb := Bd.bytes
  have hr := Bd.returns
  have hts := atoms_spec (ws := wX3_apart) Bd.pre
  have hown : s.vm.findClass RX3 = some m.cls := findClass_of_methodNamed Bd.named
  have hlocks := Bd.notSynchronized
  have hK := hE.K
  have hS : va_S (fun q => base ≤ q) s.heap s.heap [] := va_S.rf
  have hR : tR D vwCl base ad (tC (wP n ad cs) I L) s.heap := hR
  have hl := lv_entry ([.ref (ad 200), .int p0]) (n := 7) (Nat.le_of_ble_eq_true rfl)
  rw [lg_entry_eq]
  generalize (lg_sl ([.ref (ad 200), .int p0]) ++ List.replicate (7 - (lg_sl ([.ref (ad 200), .int p0])).length) Slot.unset).toArray = ls at hl ⊢
  have hl : lv_has ls 7 [(0, .ref (ad 200)), (1, .int p0)] := hl
  obtain ⟨h_nd, h_no, h_d, h_o⟩ := id hwf
  obtain ⟨h_f1, h_f2, h_f3, h_f4, h_f5, h_f6, h_n1, h_n4, h_bu, h_e1, h_e2, h_s1, h_v4⟩ := id hMf
  refine lv_aload_n hx hb dX3_apart_0 rfl (lv_at hl 0 rfl) ?_
  refine jnW (P := ¬ inN nd p0) 14 (fun x1 => .int x1 :: [.ref (ad 200)]) (fun H locs => tR D vwCl base ad (tC (wP n ad cs) I L) H ∧ va_S (fun q => base ≤ q) s.heap H locs) (fun x1 H locs hx1 hT => ?_) (fun Kx1 => ?_)
  · obtain ⟨hR, hS⟩ := hT
    refine jnW (P := ¬ sd = 1) 26 (fun x2 => .int x2 :: [.int x1, .ref (ad 200)]) (fun H locs => tR D vwCl base ad (tC (wP n ad cs) I L) H ∧ va_S (fun q => base ≤ q) s.heap H locs) (fun x2 H locs hx2 hT => ?_) (fun Kx2 => ?_)
    · obtain ⟨hR, hS⟩ := hT
      refine lv_iconst (v := 0) hx hb dX3_apart_26 (by decide) ?_
      refine kc_i (va_runV (As := [.int x1, .int x2, .int 0]) (rest := []) ⟨hx, hb, hml, hown, hts⟩ (mX3_throwing I L x1 x2 0 (P1 := (¬ inN nd p0)) (P2 := (¬ sd = 1)) (P3 := False) hx1 hx2 (bZ0 (fun z => z))) (cwV 3 hts (kw_V k571 k573 ks25 k5 k574) rfl rfl rfl (by decide +kernel) ⟨Nat.le_of_ble_eq_true rfl, Nat.le_of_ble_eq_true rfl⟩) (kB_preV hE hR hS 200 rfl rfl [.int x1, .int x2, .int 0]) rfl rfl hl.1 rfl (lv_room (Nat.le_of_ble_eq_true rfl)) dX3_apart_27 ⟨Nat.le_of_ble_eq_true rfl, Nat.le_of_ble_eq_true rfl⟩) hS (fun r u H locs hw hR hS => ?_)
      rcases hw with ⟨t1, rfl, rfl⟩ | ⟨t1, t2, rfl, rfl⟩ | ⟨t1, t2, t3, rfl, rfl⟩ | ⟨t1, t2, t3, rfl, rfl⟩
      · have hR : tR D vwCl base ad (tC (wP n ad cs) (gT I 1) L) H := hR
        refine lv_if_eq (tgt := 35) hx hb dX3_apart_30 (by decide) (fun c9 => absurd c9 (by decide)) (fun c9 => ?_)
        refine lv_iconst (v := 0) hx hb dX3_apart_33 (by decide) ?_
        exact W.iret (v := 0) hx hb hr (fun t ht hW => ⟨⟨_, (gT I 1, L), rfl, Or.inl ⟨t1, rfl, rfl⟩, by show tR _ _ _ _ _ t.heap; rw [ht]; exact hR⟩, hS.F ht⟩) hS.2.2 dX3_apart_34
      · have hR : tR D vwCl base ad (tC (wP n ad cs) (gT I 2) L) H := hR
        refine lv_if_eq (tgt := 35) hx hb dX3_apart_30 (by decide) (fun c9 => absurd c9 (by decide)) (fun c9 => ?_)
        refine lv_iconst (v := 0) hx hb dX3_apart_33 (by decide) ?_
        exact W.iret (v := 0) hx hb hr (fun t ht hW => ⟨⟨_, (gT I 2, L), rfl, Or.inr (Or.inl ⟨t1, t2, rfl, rfl⟩), by show tR _ _ _ _ _ t.heap; rw [ht]; exact hR⟩, hS.F ht⟩) hS.2.2 dX3_apart_34
      · exact t3.elim
      · have hR : tR D vwCl base ad (tC (wP n ad cs) (gT I 0) L) H := hR
        refine lv_if_eq (tgt := 35) hx hb dX3_apart_30 (by decide) (fun c9 => ?_) (fun c9 => absurd rfl c9)
        have hs : sd = 1 := Classical.byContradiction (fun z => t2 z)
        obtain ⟨hMo, hwY, hk60, hspB, hRb⟩ := hC hs
        have hMs := hMs.gT 0
        have hMf := hMf.gT 0
        have hMo := hMo.gT 0
        have hp0 := Classical.byContradiction (fun z => t1 z)
        obtain ⟨d, hd, rfl⟩ := id hp0
        refine lv_iconst (v := 0) hx hb dX3_apart_35 (by decide) ?_
        rw [show (0 : Int32) = nI (lwF (fun c => sS (fun k => Rw c k d) kp) 0) from rfl]
        refine lv_istore_n (lv' := [(2, .int (nI (lwF (fun c => sS (fun k => Rw c k d) kp) 0))), (0, .ref (ad 200)), (1, .int (nI d))]) hx hb dX3_apart_36 rfl hl (by decide) rfl (fun ls hl => ?_)
        refine lv_iconst (v := 0) hx hb dX3_apart_37 (by decide) ?_
        rw [show (0 : Int32) = nI (hgF (fun c => sS (fun k => Rw c k d) kp) 0) from rfl]
        refine lv_istore_n (lv' := [(3, .int (nI (hgF (fun c => sS (fun k => Rw c k d) kp) 0))), (2, .int (nI (lwF (fun c => sS (fun k => Rw c k d) kp) 0))), (0, .ref (ad 200)), (1, .int (nI d))]) hx hb dX3_apart_38 rfl hl (by decide) rfl (fun ls hl => ?_)
        refine lv_iconst (v := 0) hx hb dX3_apart_39 (by decide) ?_
        rw [show (0 : Int32) = nI 0 from nI_0.symm]
        refine lv_istore (lv' := [(4, .int (nI 0)), (3, .int (nI (hgF (fun c => sS (fun k => Rw c k d) kp) 0))), (2, .int (nI (lwF (fun c => sS (fun k => Rw c k d) kp) 0))), (0, .ref (ad 200)), (1, .int (nI d))]) hx hb dX3_apart_40 hl (by decide) rfl (fun ls hl => ?_)
        refine lpX3_apart ⟨hx, hb, hml, hown, hts⟩ hE (Nat.le_of_ble_eq_true rfl) (Nat.le_of_ble_eq_true rfl) (Nat.le_of_ble_eq_true rfl) (Nat.le_of_ble_eq_true rfl) (gT I 0) L d (fun c => sS (fun k => Rw c k d) kp) hMs hwf hMf hMo hk60 hd hRb (fun _ => rfl) (fun H locs ls hR hS hl => ?_) (n + 1) 0 _ _ ls (Nat.zero_le _) (by omega) hR hS (lv_sub hl [0, 1, 2, 3, 4] rfl)
        rw [hgF_n _ h_n1, lwF_n _ h_n1] at hl
        refine lv_iload_n hx hb dX3_apart_134 rfl (lv_at hl 1 rfl) ?_
        refine lv_iload_n hx hb dX3_apart_135 rfl (lv_at hl 2 rfl) ?_
        refine lv_isub hx hb dX3_apart_136 ?_
        rw [pk_sub (mn_mx _ _)]
        exact W.iret (v := nI (mxF (fun c => sS (fun k => Rw c k d) kp) (n - 1) - mnF (fun c => sS (fun k => Rw c k d) kp) (n - 1))) hx hb hr (fun t ht hW => ⟨⟨_, (gT I 0, L), rfl, Or.inr (Or.inr (Or.inr ⟨t1, t2, t3, rfl, d, hd, rfl, rfl⟩)), by show tR _ _ _ _ _ t.heap; rw [ht]; exact hR⟩, hS.F ht⟩) hS.2.2 dX3_apart_137
    · refine lv_aload_n hx hb dX3_apart_14 rfl (lv_at hl 0 rfl) ?_
      refine tb_get hx hb hts (fun w h => List.mem_cons_of_mem _ (inX3 w h)) hown hK hR 200 rfl rfl 15 (by decide) (hts _ (List.mem_cons_of_mem _ k493)) (fun _ h => h) rfl dX3_apart_15 ?_
      rw [show I 200 15 = nI sd from hMf.2.2.2.2.1]
      refine lv_if_ne (tgt := 25) hx hb dX3_apart_18 (by decide) (fun c1 => ?_) (fun c1 => ?_)
      · refine lv_iconst (v := 0) hx hb dX3_apart_25 (by decide) ?_
        exact Kx2 _ _ _ (bZ0 (fun z => z (by have q : ¬ sd = 0 := fun z => c1 (by rw [z]; rfl); omega))) ⟨hR, hS⟩
      · refine lv_iconst (v := 1) hx hb dX3_apart_21 (by decide) ?_
        refine lv_goto (tgt := 26) hx hb dX3_apart_22 (by decide) ?_
        exact Kx2 _ _ _ (bZ1 (fun z => absurd c1 (by rw [z]; decide))) ⟨hR, hS⟩
  · refine lv_aload_n hx hb dX3_apart_1 rfl (lv_at hl 0 rfl) ?_
    refine lv_iload_n hx hb dX3_apart_2 rfl (lv_at hl 1 rfl) ?_
    refine kc_i (va_runV (As := [.int p0]) (rest := [.ref (ad 200)]) ⟨hx, hb, hml, hown, hts⟩ (mX3_isDate I L nd p0 hMs.1 h_nd) (cwV 1 hts (kw_V k587 k589 ks28 k5 k590) rfl rfl rfl (by decide +kernel) ⟨Nat.le_of_ble_eq_true rfl, Nat.le_of_ble_eq_true rfl⟩) (kB_preV hE hR hS 200 rfl rfl [.int p0]) rfl rfl hl.1 rfl (lv_room (Nat.le_of_ble_eq_true rfl)) dX3_apart_3 ⟨Nat.le_of_ble_eq_true rfl, Nat.le_of_ble_eq_true rfl⟩) hS (fun r u H locs hw hR hS => ?_)
    obtain ⟨hdt, rfl⟩ := hw
    have hR : tR D vwCl base ad (tC (wP n ad cs) I L) H := hR
    refine lv_if_ne (tgt := 13) hx hb dX3_apart_6 (by decide) (fun c2 => ?_) (fun c2 => ?_)
    · refine lv_iconst (v := 0) hx hb dX3_apart_13 (by decide) ?_
      exact Kx1 _ _ _ (bZ0 (fun z => z (hdt.t c2))) ⟨hR, hS⟩
    · refine lv_iconst (v := 1) hx hb dX3_apart_9 (by decide) ?_
      refine lv_goto (tgt := 14) hx hb dX3_apart_10 (by decide) ?_
      exact Kx1 _ _ _ (bZ1 (hdt.f c2)) ⟨hR, hS⟩
set_option maxHeartbeats 4000000 in
set_option maxRecDepth 100000 in
theorem lpX3_agreement {p : Program} {e : Env} {R : Room} {s : State} {m : MethodId} {args : Array Value} {below : List Frame} {meth : Method} {c : Code} {cells slots : Nat} {Q : State → Prop} (S0 : CallFix p m c cX3_agreement 6 s args wX3_agreement RX3) (hE : eV D cs base sa s) (hRf : 1 ≤ R.frames) (hRl : 40 ≤ R.locals) (hRc : cells ≤ R.cells) (hRs : slots ≤ R.slots) (I : tI) (L : tL) {nd no : Nat} {f la : Nat → Nat} {ph : Nat → Int32} {w : Nat → Nat → Nat} {ea lt le mo : Nat → Nat} {bu ev sd sv : Nat} {se : Int32} {Y : Nat → Nat → Nat} {st : Nat → Int64} {Rw : Nat → Nat → Nat → Nat} {kp sp : Nat} (d : Nat) (hMs : cMs I nd no f la ph w ea lt le mo) (hwf : wfS nd no f la w ea lt le mo) (hMf : cMf I n bu ev sd sv se) (hMo : cMo I L n nd Y st Rw kp sp) (hk60 : kp ≤ 60) (hd : d < nd) (hRb : ∀ c, c < n → ∀ k, k < kp → ∀ d, d < nd → f d ≤ Rw c k d ∧ Rw c k d ≤ la d)
    (kx : ∀ (H : Heap) (locs : List Loc) (ls : Array Slot), tR D vwCl base ad (tC (wP n ad cs) I L) H → va_S (fun q => base ≤ q) s.heap H locs → lv_has ls 6 [(4, .int (nI (n * kp))), (2, .long (lN (sS (fun i => (fun c k => w d (Rw c k d - f d)) (i / kp) (i % kp)) (n * kp)))), (0, .ref (ad 200)), (1, .int (nI d))] → W p l e R s m args below meth c H locs cells slots Q (F0 m 103 ls [])) :
    ∀ (k j : Nat) (H : Heap) (locs : List Loc) (ls : Array Slot), j ≤ n * kp → n * kp + 1 ≤ j + k → tR D vwCl base ad (tC (wP n ad cs) I L) H → va_S (fun q => base ≤ q) s.heap H locs → lv_has ls 6 [(4, .int (nI j)), (2, .long (lN (sS (fun i => (fun c k => w d (Rw c k d - f d)) (i / kp) (i % kp)) j))), (0, .ref (ad 200)), (1, .int (nI d))] → W p l e R s m args below meth c H locs cells slots Q (F0 m 49 ls []) := by
  obtain ⟨hx, hb, hml, hown, hts⟩ := S0
  have hK := hE.K
  obtain ⟨h_nd, h_no, h_d, h_o⟩ := id hwf
  obtain ⟨h_f1, h_f2, h_f3, h_f4, h_f5, h_f6, h_n1, h_n4, h_bu, h_e1, h_e2, h_s1, h_v4⟩ := id hMf
  have h_nk : n * kp ≤ 240 := Nat.mul_le_mul h_n4 hk60
  intro k
  induction k with
  | zero => intro j  H locs ls h1 h2; exact absurd h2 (by omega)
  | succ k ih =>
    intro j  H locs ls hj hk  hR hS hl
    refine lv_iload hx hb dX3_agreement_49 (lv_at hl 0 rfl) ?_
    refine lv_aload_n hx hb dX3_agreement_51 rfl (lv_at hl 2 rfl) ?_
    refine tb_get hx hb hts (fun w h => List.mem_cons_of_mem _ (inX3 w h)) hown hK hR 200 rfl rfl 2 (by decide) (hts _ (List.mem_cons_of_mem _ k480)) (fun _ h => h) rfl dX3_agreement_52 ?_
    rw [show I 200 2 = nI n from hMf.2.1]
    refine lv_aload_n hx hb dX3_agreement_55 rfl (lv_at hl 2 rfl) ?_
    refine tb_get hx hb hts (fun w h => List.mem_cons_of_mem _ (inX3 w h)) hown hK hR 200 rfl rfl 17 (by decide) (hts _ (List.mem_cons_of_mem _ k495)) (fun _ h => h) rfl dX3_agreement_56 ?_
    rw [show I 200 17 = nI kp from hMo.1]
    refine lv_imul hx hb dX3_agreement_59 ?_
    rw [pk_mul]
    refine lv_icmp_ge (tgt := 103) hx hb dX3_agreement_60 (by decide) (fun c1 => ?_) (fun c1 => ?_)
    · have hjN : j = n * kp := by have e9 := (nI_leI (by omega) (by omega)).mp c1; omega
      subst hjN
      exact kx  H locs ls  hR hS (lv_sub hl [0, 1, 2, 3] rfl)
    · have hjN : j < n * kp := by
        rcases Nat.lt_or_ge j (n * kp) with q | q
        · exact q
        · exact absurd (nI_le (by omega) (by omega)) c1
      have hkp0 : 0 < kp := Nat.pos_of_ne_zero (fun z => by rw [z, Nat.mul_zero] at hjN; omega)
      have hjc : j / kp < n := (Nat.div_lt_iff_lt_mul hkp0).mpr hjN
      have hjk : j % kp < kp := Nat.mod_lt _ hkp0
      obtain ⟨g1, g2, g3, g4⟩ := h_d d hd
      have h_rb := hRb _ hjc _ hjk d hd
      refine lv_lload_n hx hb dX3_agreement_63 rfl (lv_at hl 1 rfl) ?_
      refine lv_aload_n hx hb dX3_agreement_64 rfl (lv_at hl 2 rfl) ?_
      refine lv_iload_n hx hb dX3_agreement_65 rfl (lv_at hl 3 rfl) ?_
      refine lv_aload_n hx hb dX3_agreement_66 rfl (lv_at hl 2 rfl) ?_
      refine tb_get hx hb hts (fun w h => List.mem_cons_of_mem _ (inX3 w h)) hown hK hR 200 rfl rfl 20 (by decide) (hts _ (List.mem_cons_of_mem _ k498)) (fun _ h => h) rfl dX3_agreement_67 ?_
      refine lv_aload_n hx hb dX3_agreement_70 rfl (lv_at hl 2 rfl) ?_
      refine lv_iload hx hb dX3_agreement_71 (lv_at hl 0 rfl) ?_
      refine lv_aload_n hx hb dX3_agreement_73 rfl (lv_at hl 2 rfl) ?_
      refine tb_get hx hb hts (fun w h => List.mem_cons_of_mem _ (inX3 w h)) hown hK hR 200 rfl rfl 17 (by decide) (hts _ (List.mem_cons_of_mem _ k495)) (fun _ h => h) rfl dX3_agreement_74 ?_
      rw [show I 200 17 = nI kp from hMo.1]
      refine lv_idiv hx hb dX3_agreement_77 (nI_ne0 hkp0 (by omega)) ?_
      rw [pk_div (by omega) hkp0 (by omega)]
      refine lv_iload hx hb dX3_agreement_78 (lv_at hl 0 rfl) ?_
      refine lv_aload_n hx hb dX3_agreement_80 rfl (lv_at hl 2 rfl) ?_
      refine tb_get hx hb hts (fun w h => List.mem_cons_of_mem _ (inX3 w h)) hown hK hR 200 rfl rfl 17 (by decide) (hts _ (List.mem_cons_of_mem _ k495)) (fun _ h => h) rfl dX3_agreement_81 ?_
      rw [show I 200 17 = nI kp from hMo.1]
      refine lv_irem hx hb dX3_agreement_84 (nI_ne0 hkp0 (by omega)) ?_
      rw [pk_rem (by omega) hkp0 (by omega)]
      refine kc_i (va_runV (As := [.int (nI (j / kp)), .int (nI (j % kp))]) (rest := [.ref (ad 211), .int (nI d), .ref (ad 200), .long (lN (sS (fun i => (fun c k => w d (Rw c k d - f d)) (i / kp) (i % kp)) j))]) ⟨hx, hb, hml, hown, hts⟩ (mX3_rowAt I L (j / kp) (j % kp)) (cwV 2 hts (kw_V k646 k648 ks36 k5 k649) rfl rfl rfl (by decide +kernel) ⟨Nat.le_trans (Nat.le_of_ble_eq_true rfl) hRf, Nat.le_trans (Nat.le_of_ble_eq_true rfl) hRl⟩) (kB_preV hE hR hS 200 rfl rfl [.int (nI (j / kp)), .int (nI (j % kp))]) rfl rfl hl.1 rfl (lv_room (Nat.le_of_ble_eq_true rfl)) dX3_agreement_85 ⟨hRc, hRs⟩) hS (fun r u H locs hw hR hS => ?_)
      obtain ⟨rfl, rfl⟩ := hw
      have hR : tR D vwCl base ad (tC (wP n ad cs) I L) H := hR
      refine lv_iload_n hx hb dX3_agreement_88 rfl (lv_at hl 3 rfl) ?_
      refine lv_iadd hx hb dX3_agreement_89 ?_
      rw [nI_add]
      refine tp_iald hx hb hK hR 211 0 (fun _ _ => rfl) rfl (8 * (60 * (j / kp) + (j % kp)) + d) rfl (by omega) (by decide) dX3_agreement_90 ?_
      rw [show I 211 (8 * (60 * (j / kp) + (j % kp)) + d) = nI (Rw (j / kp) (j % kp) d) from (hMo.2.2 (j / kp) hjc).2.2 (j % kp) hjk d hd]
      refine kc_i (va_runV (As := [.int (nI d), .int (nI (Rw (j / kp) (j % kp) d))]) (rest := [.long (lN (sS (fun i => (fun c k => w d (Rw c k d - f d)) (i / kp) (i % kp)) j))]) ⟨hx, hb, hml, hown, hts⟩ (mX3_weightOf I L d (Rw (j / kp) (j % kp) d) hMs hwf hd (by omega) (by omega)) (cwV 2 hts (kw_V k591 k593 ks29 k5 k594) rfl rfl rfl (by decide +kernel) ⟨Nat.le_trans (Nat.le_of_ble_eq_true rfl) hRf, Nat.le_trans (Nat.le_of_ble_eq_true rfl) hRl⟩) (kB_preV hE hR hS 200 rfl rfl [.int (nI d), .int (nI (Rw (j / kp) (j % kp) d))]) rfl rfl hl.1 rfl (lv_room (Nat.le_of_ble_eq_true rfl)) dX3_agreement_91 ⟨hRc, hRs⟩) hS (fun r u H locs hw hR hS => ?_)
      obtain ⟨rfl, rfl⟩ := hw
      have hR : tR D vwCl base ad (tC (wP n ad cs) I L) H := hR
      refine lv_i2l hx hb dX3_agreement_94 rfl ?_
      rw [nI_l (by have := g4 (Rw (j / kp) (j % kp) d - f d) (by omega); omega)]
      refine lv_ladd hx hb dX3_agreement_95 ?_
      rw [lN_add, show sS (fun i => (fun c k => w d (Rw c k d - f d)) (i / kp) (i % kp)) j + w d (Rw (j / kp) (j % kp) d - f d) = sS (fun i => (fun c k => w d (Rw c k d - f d)) (i / kp) (i % kp)) (j + 1) from rfl]
      refine lv_lstore_n (lv' := [(2, .long (lN (sS (fun i => (fun c k => w d (Rw c k d - f d)) (i / kp) (i % kp)) (j + 1)))), (4, .int (nI j)), (0, .ref (ad 200)), (1, .int (nI d))]) hx hb dX3_agreement_96 rfl hl (by decide) rfl (fun ls hl => ?_)
      refine lv_iinc (v := nI (j + 1)) (lv' := [(4, .int (nI (j + 1))), (2, .long (lN (sS (fun i => (fun c k => w d (Rw c k d - f d)) (i / kp) (i % kp)) (j + 1)))), (0, .ref (ad 200)), (1, .int (nI d))]) hx hb dX3_agreement_97 hl (k := 1) rfl (nI_1 _) (by decide) rfl (fun ls hl => ?_)
      refine lv_goto (tgt := 49) hx hb dX3_agreement_100 (by decide) ?_
      exact ih (j + 1)  H locs ls (by omega) (by omega)  hR hS (lv_sub hl [0, 1, 2, 3] rfl)
set_option maxHeartbeats 4000000 in
set_option maxRecDepth 100000 in
theorem lqX3_agreement {p : Program} {e : Env} {R : Room} {s : State} {m : MethodId} {args : Array Value} {below : List Frame} {meth : Method} {c : Code} {cells slots : Nat} {Q : State → Prop} (S0 : CallFix p m c cX3_agreement 6 s args wX3_agreement RX3) (hE : eV D cs base sa s) (hRf : 1 ≤ R.frames) (hRl : 40 ≤ R.locals) (hRc : cells ≤ R.cells) (hRs : slots ≤ R.slots) (I : tI) (L : tL) {nd no : Nat} {f la : Nat → Nat} {ph : Nat → Int32} {w : Nat → Nat → Nat} {ea lt le mo : Nat → Nat} (d : Nat) (S9 : Int64) (hMs : cMs I nd no f la ph w ea lt le mo) (hwf : wfS nd no f la w ea lt le mo) (hd : d < nd)
    (kx : ∀ (H : Heap) (locs : List Loc) (ls : Array Slot), f d ≤ la d + 1 → tR D vwCl base ad (tC (wP n ad cs) I L) H → va_S (fun q => base ≤ q) s.heap H locs → lv_has ls 6 [(5, .int (nI (la d + 1))), (4, .int (nI (sMx (fun q => w d (q - f d)) (f d) ((la d + 1) - f d)))), (2, .long S9), (0, .ref (ad 200)), (1, .int (nI d))] → W p l e R s m args below meth c H locs cells slots Q (F0 m 157 ls [])) :
    ∀ (k j : Nat) (H : Heap) (locs : List Loc) (ls : Array Slot), j ≤ la d + 1 → la d + 1 + 1 ≤ j + k → f d ≤ j → tR D vwCl base ad (tC (wP n ad cs) I L) H → va_S (fun q => base ≤ q) s.heap H locs → lv_has ls 6 [(5, .int (nI j)), (4, .int (nI (sMx (fun q => w d (q - f d)) (f d) (j - f d)))), (2, .long S9), (0, .ref (ad 200)), (1, .int (nI d))] → W p l e R s m args below meth c H locs cells slots Q (F0 m 114 ls []) := by
  obtain ⟨hx, hb, hml, hown, hts⟩ := S0
  have hK := hE.K
  obtain ⟨h_nd, h_no, h_d, h_o⟩ := id hwf
  obtain ⟨g1, g2, g3, g4⟩ := h_d d hd
  intro k
  induction k with
  | zero => intro j  H locs ls h1 h2; exact absurd h2 (by omega)
  | succ k ih =>
    intro j  H locs ls hj hk hj1 hR hS hl
    refine lv_iload hx hb dX3_agreement_114 (lv_at hl 0 rfl) ?_
    refine lv_aload_n hx hb dX3_agreement_116 rfl (lv_at hl 3 rfl) ?_
    refine tb_get hx hb hts (fun w h => List.mem_cons_of_mem _ (inX3 w h)) hown hK hR 200 rfl rfl 5 (by decide) (hts _ (List.mem_cons_of_mem _ k483)) (fun _ h => h) rfl dX3_agreement_117 ?_
    refine lv_iload_n hx hb dX3_agreement_120 rfl (lv_at hl 4 rfl) ?_
    refine tp_iald hx hb hK hR 202 0 (fun _ _ => rfl) rfl d rfl (by omega) (by decide) dX3_agreement_121 ?_
    rw [show I 202 d = nI (la d) from (hMs.2.2.1 d (by omega)).2.1]
    refine lv_icmp_gt (tgt := 157) hx hb dX3_agreement_122 (by decide) (fun c1 => ?_) (fun c1 => ?_)
    · have hjN : j = la d + 1 := by have e9 := (nI_ltI (by omega) (by omega)).mp c1; omega
      subst hjN
      exact kx  H locs ls hj1 hR hS (lv_sub hl [0, 1, 2, 3, 4] rfl)
    · have hjN : j < la d + 1 := by
        rcases Nat.lt_or_ge j (la d + 1) with q | q
        · exact q
        · exact absurd (nI_lt (by omega) (by omega)) c1
      have h_w := g4 (j - f d) (by omega)
      have h_sx : sMx (fun q => w d (q - f d)) (f d) (j - f d) ≤ 1000 := sMx_le (fun i hi => (g4 _ (by omega)).2)
      refine lv_aload_n hx hb dX3_agreement_125 rfl (lv_at hl 3 rfl) ?_
      refine lv_iload_n hx hb dX3_agreement_126 rfl (lv_at hl 4 rfl) ?_
      refine lv_iload hx hb dX3_agreement_127 (lv_at hl 0 rfl) ?_
      refine kc_i (va_runV (As := [.int (nI d), .int (nI j)]) (rest := []) ⟨hx, hb, hml, hown, hts⟩ (mX3_weightOf I L d j hMs hwf hd (by omega) (by omega)) (cwV 2 hts (kw_V k591 k593 ks29 k5 k594) rfl rfl rfl (by decide +kernel) ⟨Nat.le_trans (Nat.le_of_ble_eq_true rfl) hRf, Nat.le_trans (Nat.le_of_ble_eq_true rfl) hRl⟩) (kB_preV hE hR hS 200 rfl rfl [.int (nI d), .int (nI j)]) rfl rfl hl.1 rfl (lv_room (Nat.le_of_ble_eq_true rfl)) dX3_agreement_129 ⟨hRc, hRs⟩) hS (fun r u H locs hw hR hS => ?_)
      obtain ⟨rfl, rfl⟩ := hw
      have hR : tR D vwCl base ad (tC (wP n ad cs) I L) H := hR
      refine lv_iload hx hb dX3_agreement_132 (lv_at hl 1 rfl) ?_
      refine lv_icmp_le (tgt := 147) hx hb dX3_agreement_134 (by decide) (fun c2 => ?_) (fun c2 => ?_)
      · have hq : sMx (fun q => w d (q - f d)) (f d) (j - f d) = sMx (fun q => w d (q - f d)) (f d) ((j + 1) - f d) := by rw [sMx_succ hj1, if_neg (Nat.not_lt.mpr ((nI_leI (by omega) (by omega)).mp c2))]
        refine lv_iload hx hb dX3_agreement_147 (lv_at hl 1 rfl) ?_
        rw [hq]
        refine lv_istore (lv' := [(4, .int (nI (sMx (fun q => w d (q - f d)) (f d) ((j + 1) - f d)))), (5, .int (nI j)), (2, .long S9), (0, .ref (ad 200)), (1, .int (nI d))]) hx hb dX3_agreement_149 hl (by decide) rfl (fun ls hl => ?_)
        refine lv_iinc (v := nI (j + 1)) (lv' := [(5, .int (nI (j + 1))), (4, .int (nI (sMx (fun q => w d (q - f d)) (f d) ((j + 1) - f d)))), (2, .long S9), (0, .ref (ad 200)), (1, .int (nI d))]) hx hb dX3_agreement_151 hl (k := 1) rfl (nI_1 _) (by decide) rfl (fun ls hl => ?_)
        refine lv_goto (tgt := 114) hx hb dX3_agreement_154 (by decide) ?_
        exact ih (j + 1)  H locs ls (by omega) (by omega) (by omega) hR hS (lv_sub hl [0, 1, 2, 3, 4] rfl)
      · have hq : w d (j - f d) = sMx (fun q => w d (q - f d)) (f d) ((j + 1) - f d) := by rw [sMx_succ hj1, if_pos (Nat.lt_of_not_le (fun q => c2 (nI_le q (by omega))))]
        refine lv_aload_n hx hb dX3_agreement_137 rfl (lv_at hl 3 rfl) ?_
        refine lv_iload_n hx hb dX3_agreement_138 rfl (lv_at hl 4 rfl) ?_
        refine lv_iload hx hb dX3_agreement_139 (lv_at hl 0 rfl) ?_
        refine kc_i (va_runV (As := [.int (nI d), .int (nI j)]) (rest := []) ⟨hx, hb, hml, hown, hts⟩ (mX3_weightOf I L d j hMs hwf hd (by omega) (by omega)) (cwV 2 hts (kw_V k591 k593 ks29 k5 k594) rfl rfl rfl (by decide +kernel) ⟨Nat.le_trans (Nat.le_of_ble_eq_true rfl) hRf, Nat.le_trans (Nat.le_of_ble_eq_true rfl) hRl⟩) (kB_preV hE hR hS 200 rfl rfl [.int (nI d), .int (nI j)]) rfl rfl hl.1 rfl (lv_room (Nat.le_of_ble_eq_true rfl)) dX3_agreement_141 ⟨hRc, hRs⟩) hS (fun r u H locs hw hR hS => ?_)
        obtain ⟨rfl, rfl⟩ := hw
        have hR : tR D vwCl base ad (tC (wP n ad cs) I L) H := hR
        refine lv_goto (tgt := 149) hx hb dX3_agreement_144 (by decide) ?_
        rw [hq]
        refine lv_istore (lv' := [(4, .int (nI (sMx (fun q => w d (q - f d)) (f d) ((j + 1) - f d)))), (5, .int (nI j)), (2, .long S9), (0, .ref (ad 200)), (1, .int (nI d))]) hx hb dX3_agreement_149 hl (by decide) rfl (fun ls hl => ?_)
        refine lv_iinc (v := nI (j + 1)) (lv' := [(5, .int (nI (j + 1))), (4, .int (nI (sMx (fun q => w d (q - f d)) (f d) ((j + 1) - f d)))), (2, .long S9), (0, .ref (ad 200)), (1, .int (nI d))]) hx hb dX3_agreement_151 hl (k := 1) rfl (nI_1 _) (by decide) rfl (fun ls hl => ?_)
        refine lv_goto (tgt := 114) hx hb dX3_agreement_154 (by decide) ?_
        exact ih (j + 1)  H locs ls (by omega) (by omega) (by omega) hR hS (lv_sub hl [0, 1, 2, 3, 4] rfl)
set_option maxHeartbeats 4000000 in
set_option maxRecDepth 100000 in
theorem mX3_agreement (I : tI) (L : tL) {nd no : Nat} {f la : Nat → Nat} {ph : Nat → Int32} {w : Nat → Nat → Nat} {ea lt le mo : Nat → Nat} {bu ev sd sv : Nat} {se : Int32} {Y : Nat → Nat → Nat} {st : Nat → Int64} {Rw : Nat → Nat → Nat → Nat} {kp sp : Nat} (B : Nat) (p0 : Int32) (hMs : cMs I nd no f la ph w ea lt le mo) (hwf : wfS nd no f la w ea lt le mo) (hMf : cMf I n bu ev sd sv se) (hC : sd = 1 → cMo I L n nd Y st Rw kp sp ∧ wCo n nd no f la ea lt le mo B Y Rw kp sp) : Met l yX3_agreement wX3_agreement ({ frames := 3, cells := 0, slots := 0, locals := 90 }) (va_Pc [.ref (ad 200), .int p0] (kB D cs base sa n ad I L)) (va_Qi (fun (r : Int32) (u : tI × tL) => pM I L (¬ inN nd p0) (¬ sd = 1) False (fun r u => u = (gT I 0, L) ∧ ∃ d, d < nd ∧ p0 = nI d ∧ r = agV n kp (s2 (fun c k => w d (Rw c k d - f d)) kp n) (sMx (fun q => w d (q - f d)) (f d) (la d + 1 - f d))) r u) (kA D cs base n ad) (fun q => base ≤ q)) 0 0 (fun q => base ≤ q) := by
  refine Met.ofW (cc := cX3_agreement) (maxL := 6) (ret := (some .int)) (by decide) rfl ?_
  intro p e s m args below meth c s₁ Bd hml hv
  obtain ⟨rfl, hE, hR⟩ := hv
  have hx := Bd.exec
  have hb := Bd.bytes
  have hr := Bd.returns
  have hts := atoms_spec (ws := wX3_agreement) Bd.pre
  have hown : s.vm.findClass RX3 = some m.cls := findClass_of_methodNamed Bd.named
  have hlocks := Bd.notSynchronized
  have hK := hE.K
  have hS : va_S (fun q => base ≤ q) s.heap s.heap [] := va_S.rf
  have hR : tR D vwCl base ad (tC (wP n ad cs) I L) s.heap := hR
  have hl := lv_entry ([.ref (ad 200), .int p0]) (n := 6) (Nat.le_of_ble_eq_true rfl)
  rw [lg_entry_eq]
  generalize (lg_sl ([.ref (ad 200), .int p0]) ++ List.replicate (6 - (lg_sl ([.ref (ad 200), .int p0])).length) Slot.unset).toArray = ls at hl ⊢
  have hl : lv_has ls 6 [(0, .ref (ad 200)), (1, .int p0)] := hl
  obtain ⟨h_nd, h_no, h_d, h_o⟩ := id hwf
  obtain ⟨h_f1, h_f2, h_f3, h_f4, h_f5, h_f6, h_n1, h_n4, h_bu, h_e1, h_e2, h_s1, h_v4⟩ := id hMf
  refine lv_aload_n hx hb dX3_agreement_0 rfl (lv_at hl 0 rfl) ?_
  refine jnW (P := ¬ inN nd p0) 14 (fun x1 => .int x1 :: [.ref (ad 200)]) (fun H locs => tR D vwCl base ad (tC (wP n ad cs) I L) H ∧ va_S (fun q => base ≤ q) s.heap H locs) (fun x1 H locs hx1 hT => ?_) (fun Kx1 => ?_)
  · obtain ⟨hR, hS⟩ := hT
    refine jnW (P := ¬ sd = 1) 26 (fun x2 => .int x2 :: [.int x1, .ref (ad 200)]) (fun H locs => tR D vwCl base ad (tC (wP n ad cs) I L) H ∧ va_S (fun q => base ≤ q) s.heap H locs) (fun x2 H locs hx2 hT => ?_) (fun Kx2 => ?_)
    · obtain ⟨hR, hS⟩ := hT
      refine lv_iconst (v := 0) hx hb dX3_agreement_26 (by decide) ?_
      refine kc_i (va_runV (As := [.int x1, .int x2, .int 0]) (rest := []) ⟨hx, hb, hml, hown, hts⟩ (mX3_throwing I L x1 x2 0 (P1 := (¬ inN nd p0)) (P2 := (¬ sd = 1)) (P3 := False) hx1 hx2 (bZ0 (fun z => z))) (cwV 3 hts (kw_V k571 k573 ks25 k5 k574) rfl rfl rfl (by decide +kernel) ⟨Nat.le_of_ble_eq_true rfl, Nat.le_of_ble_eq_true rfl⟩) (kB_preV hE hR hS 200 rfl rfl [.int x1, .int x2, .int 0]) rfl rfl hl.1 rfl (lv_room (Nat.le_of_ble_eq_true rfl)) dX3_agreement_27 ⟨Nat.le_of_ble_eq_true rfl, Nat.le_of_ble_eq_true rfl⟩) hS (fun r u H locs hw hR hS => ?_)
      rcases hw with ⟨t1, rfl, rfl⟩ | ⟨t1, t2, rfl, rfl⟩ | ⟨t1, t2, t3, rfl, rfl⟩ | ⟨t1, t2, t3, rfl, rfl⟩
      · have hR : tR D vwCl base ad (tC (wP n ad cs) (gT I 1) L) H := hR
        refine lv_if_eq (tgt := 35) hx hb dX3_agreement_30 (by decide) (fun c9 => absurd c9 (by decide)) (fun c9 => ?_)
        refine lv_iconst (v := 0) hx hb dX3_agreement_33 (by decide) ?_
        exact W.iret (v := 0) hx hb hr (fun t ht hW => ⟨⟨_, (gT I 1, L), rfl, Or.inl ⟨t1, rfl, rfl⟩, by show tR _ _ _ _ _ t.heap; rw [ht]; exact hR⟩, hS.F ht⟩) hS.2.2 dX3_agreement_34
      · have hR : tR D vwCl base ad (tC (wP n ad cs) (gT I 2) L) H := hR
        refine lv_if_eq (tgt := 35) hx hb dX3_agreement_30 (by decide) (fun c9 => absurd c9 (by decide)) (fun c9 => ?_)
        refine lv_iconst (v := 0) hx hb dX3_agreement_33 (by decide) ?_
        exact W.iret (v := 0) hx hb hr (fun t ht hW => ⟨⟨_, (gT I 2, L), rfl, Or.inr (Or.inl ⟨t1, t2, rfl, rfl⟩), by show tR _ _ _ _ _ t.heap; rw [ht]; exact hR⟩, hS.F ht⟩) hS.2.2 dX3_agreement_34
      · exact t3.elim
      · have hR : tR D vwCl base ad (tC (wP n ad cs) (gT I 0) L) H := hR
        refine lv_if_eq (tgt := 35) hx hb dX3_agreement_30 (by decide) (fun c9 => ?_) (fun c9 => absurd rfl c9)
        have hs : sd = 1 := Classical.byContradiction (fun z => t2 z)
        obtain ⟨hMo, hwY, hk60, hspB, hRb⟩ := hC hs
        have hMs := hMs.gT 0
        have hMf := hMf.gT 0
        have hMo := hMo.gT 0
        have hp0 := Classical.byContradiction (fun z => t1 z)
        obtain ⟨d, hd, rfl⟩ := id hp0
        refine lv_aload_n hx hb dX3_agreement_35 rfl (lv_at hl 0 rfl) ?_
        refine tb_get hx hb hts (fun w h => List.mem_cons_of_mem _ (inX3 w h)) hown hK hR 200 rfl rfl 17 (by decide) (hts _ (List.mem_cons_of_mem _ k495)) (fun _ h => h) rfl dX3_agreement_36 ?_
        rw [show (gT I 0) 200 17 = nI kp from hMo.1]
        refine lv_if_ne (tgt := 44) hx hb dX3_agreement_39 (by decide) (fun c1 => ?_) (fun c1 => ?_)
        · have hk0 : ¬ kp = 0 := fun z => c1 (by rw [z]; rfl)
          refine lv_lconst (v := 0) hx hb dX3_agreement_44 (by decide) ?_
          rw [show (0 : Int64) = lN (sS (fun i => (fun c k => w d (Rw c k d - f d)) (i / kp) (i % kp)) 0) from rfl]
          refine lv_lstore_n (lv' := [(2, .long (lN (sS (fun i => (fun c k => w d (Rw c k d - f d)) (i / kp) (i % kp)) 0))), (0, .ref (ad 200)), (1, .int (nI d))]) hx hb dX3_agreement_45 rfl hl (by decide) rfl (fun ls hl => ?_)
          refine lv_iconst (v := 0) hx hb dX3_agreement_46 (by decide) ?_
          rw [show (0 : Int32) = nI 0 from nI_0.symm]
          refine lv_istore (lv' := [(4, .int (nI 0)), (2, .long (lN (sS (fun i => (fun c k => w d (Rw c k d - f d)) (i / kp) (i % kp)) 0))), (0, .ref (ad 200)), (1, .int (nI d))]) hx hb dX3_agreement_47 hl (by decide) rfl (fun ls hl => ?_)
          refine lpX3_agreement ⟨hx, hb, hml, hown, hts⟩ hE (Nat.le_of_ble_eq_true rfl) (Nat.le_of_ble_eq_true rfl) (Nat.le_of_ble_eq_true rfl) (Nat.le_of_ble_eq_true rfl) (gT I 0) L d hMs hwf hMf hMo hk60 hd hRb (fun H locs ls hR hS hl => ?_) (n * kp + 1) 0 _ _ ls (Nat.zero_le _) (by omega) hR hS (lv_sub hl [0, 1, 2, 3] rfl)
          have h_se : sS (fun i => (fun c k => w d (Rw c k d - f d)) (i / kp) (i % kp)) (n * kp) = s2 (fun c k => w d (Rw c k d - f d)) kp n := by
            rcases Nat.eq_zero_or_pos kp with q | q
            · subst q; rw [Nat.mul_zero, s2_k0]; rfl
            · exact sS_s2 (fun c k => w d (Rw c k d - f d)) q n
          rw [h_se] at hl
          obtain ⟨g1, g2, g3, g4⟩ := h_d d hd
          refine lv_iconst (v := 0) hx hb dX3_agreement_103 (by decide) ?_
          rw [show (0 : Int32) = nI (sMx (fun q => w d (q - f d)) (f d) ((f d) - f d)) from by rw [Nat.sub_self]; rfl]
          refine lv_istore (lv' := [(4, .int (nI (sMx (fun q => w d (q - f d)) (f d) ((f d) - f d)))), (2, .long (lN (s2 (fun c k => w d (Rw c k d - f d)) kp n))), (0, .ref (ad 200)), (1, .int (nI d))]) hx hb dX3_agreement_104 hl (by decide) rfl (fun ls hl => ?_)
          refine lv_aload_n hx hb dX3_agreement_106 rfl (lv_at hl 2 rfl) ?_
          refine tb_get hx hb hts (fun w h => List.mem_cons_of_mem _ (inX3 w h)) hown hK hR 200 rfl rfl 4 (by decide) (hts _ (List.mem_cons_of_mem _ k482)) (fun _ h => h) rfl dX3_agreement_107 ?_
          refine lv_iload_n hx hb dX3_agreement_110 rfl (lv_at hl 3 rfl) ?_
          refine tp_iald hx hb hK hR 201 0 (fun _ _ => rfl) rfl d rfl (by omega) (by decide) dX3_agreement_111 ?_
          rw [show (gT I 0) 201 d = nI (f d) from (hMs.2.2.1 d (by omega)).1]
          refine lv_istore (lv' := [(5, .int (nI (f d))), (4, .int (nI (sMx (fun q => w d (q - f d)) (f d) ((f d) - f d)))), (2, .long (lN (s2 (fun c k => w d (Rw c k d - f d)) kp n))), (0, .ref (ad 200)), (1, .int (nI d))]) hx hb dX3_agreement_112 hl (by decide) rfl (fun ls hl => ?_)
          refine lqX3_agreement ⟨hx, hb, hml, hown, hts⟩ hE (Nat.le_of_ble_eq_true rfl) (Nat.le_of_ble_eq_true rfl) (Nat.le_of_ble_eq_true rfl) (Nat.le_of_ble_eq_true rfl) (gT I 0) L d _ hMs hwf hd (fun H locs ls _ hR hS hl => ?_) (la d + 2 - f d) (f d) _ _ ls (by omega) (by omega) (Nat.le_refl _) hR hS (lv_sub hl [0, 1, 2, 3, 4] rfl)
          have h_mx : sMx (fun q => w d (q - f d)) (f d) (la d + 1 - f d) ≤ 1000 := sMx_le (fun i hi => (g4 _ (by omega)).2)
          have h_mp : 0 < sMx (fun q => w d (q - f d)) (f d) (la d + 1 - f d) := sMx_pos (by omega) (fun i hi => (g4 _ (by omega)).1)
          have h_sm : s2 (fun c k => w d (Rw c k d - f d)) kp n ≤ 240000 := Nat.le_trans (s2_le (B := 1000) (fun c hc k hk => (g4 _ (by have := hRb c hc k hk d hd; omega)).2)) (Nat.le_trans (Nat.mul_le_mul h_n4 (Nat.mul_le_mul hk60 (Nat.le_refl _))) (by decide))
          have h_nk : n * kp ≤ 240 := Nat.mul_le_mul h_n4 hk60
          have h_wh : n * kp * (sMx (fun q => w d (q - f d)) (f d) (la d + 1 - f d)) ≤ 240000 := Nat.mul_le_mul h_nk h_mx
          have hw0 : 0 < n * kp * (sMx (fun q => w d (q - f d)) (f d) (la d + 1 - f d)) := Nat.mul_pos (Nat.mul_pos h_n1 (Nat.pos_of_ne_zero hk0)) h_mp
          refine lv_ldc2 (v := 1000) hx hb hown (hts _ (List.mem_cons_of_mem _ k666)) dX3_agreement_157 ?_
          rw [show (1000 : Int64) = lN 1000 from rfl]
          refine lv_lload_n hx hb dX3_agreement_160 rfl (lv_at hl 2 rfl) ?_
          refine lv_lmul hx hb dX3_agreement_161 ?_
          rw [lN_mul]
          refine lv_aload_n hx hb dX3_agreement_162 rfl (lv_at hl 3 rfl) ?_
          refine tb_get hx hb hts (fun w h => List.mem_cons_of_mem _ (inX3 w h)) hown hK hR 200 rfl rfl 2 (by decide) (hts _ (List.mem_cons_of_mem _ k480)) (fun _ h => h) rfl dX3_agreement_163 ?_
          rw [show (gT I 0) 200 2 = nI n from hMf.2.1]
          refine lv_i2l hx hb dX3_agreement_166 rfl ?_
          rw [nI_l (by omega)]
          refine lv_aload_n hx hb dX3_agreement_167 rfl (lv_at hl 3 rfl) ?_
          refine tb_get hx hb hts (fun w h => List.mem_cons_of_mem _ (inX3 w h)) hown hK hR 200 rfl rfl 17 (by decide) (hts _ (List.mem_cons_of_mem _ k495)) (fun _ h => h) rfl dX3_agreement_168 ?_
          rw [show (gT I 0) 200 17 = nI kp from hMo.1]
          refine lv_i2l hx hb dX3_agreement_171 rfl ?_
          rw [nI_l (by omega)]
          refine lv_lmul hx hb dX3_agreement_172 ?_
          rw [lN_mul]
          refine lv_iload hx hb dX3_agreement_173 (lv_at hl 1 rfl) ?_
          refine lv_i2l hx hb dX3_agreement_175 rfl ?_
          rw [nI_l (by omega)]
          refine lv_lmul hx hb dX3_agreement_176 ?_
          rw [lN_mul]
          refine lv_ldiv hx hb dX3_agreement_177 (lN_ne0 hw0 (by omega)) ?_
          rw [pk_lDiv (by omega) hw0 (by omega)]
          refine lv_l2i hx hb dX3_agreement_178 rfl ?_
          rw [lN_i]
          exact W.iret (v := nI (1000 * (s2 (fun c k => w d (Rw c k d - f d)) kp n) / (n * kp * (sMx (fun q => w d (q - f d)) (f d) (la d + 1 - f d))))) hx hb hr (fun t ht hW => ⟨⟨_, (gT I 0, L), rfl, Or.inr (Or.inr (Or.inr ⟨t1, t2, t3, rfl, d, hd, rfl, by unfold agV; rw [if_neg hk0]⟩)), by show tR _ _ _ _ _ t.heap; rw [ht]; exact hR⟩, hS.F ht⟩) hS.2.2 dX3_agreement_179
        · have hk0 : kp = 0 := (nI_z (by omega)).mp c1
          refine lv_iconst (v := -1) hx hb dX3_agreement_42 (by decide) ?_
          exact W.iret (v := (-1)) hx hb hr (fun t ht hW => ⟨⟨_, (gT I 0, L), rfl, Or.inr (Or.inr (Or.inr ⟨t1, t2, t3, rfl, d, hd, rfl, by unfold agV; rw [if_pos hk0]⟩)), by show tR _ _ _ _ _ t.heap; rw [ht]; exact hR⟩, hS.F ht⟩) hS.2.2 dX3_agreement_43
    · refine lv_aload_n hx hb dX3_agreement_14 rfl (lv_at hl 0 rfl) ?_
      refine tb_get hx hb hts (fun w h => List.mem_cons_of_mem _ (inX3 w h)) hown hK hR 200 rfl rfl 15 (by decide) (hts _ (List.mem_cons_of_mem _ k493)) (fun _ h => h) rfl dX3_agreement_15 ?_
      rw [show I 200 15 = nI sd from hMf.2.2.2.2.1]
      refine lv_if_ne (tgt := 25) hx hb dX3_agreement_18 (by decide) (fun c2 => ?_) (fun c2 => ?_)
      · refine lv_iconst (v := 0) hx hb dX3_agreement_25 (by decide) ?_
        exact Kx2 _ _ _ (bZ0 (fun z => z (by have q : ¬ sd = 0 := fun z => c2 (by rw [z]; rfl); omega))) ⟨hR, hS⟩
      · refine lv_iconst (v := 1) hx hb dX3_agreement_21 (by decide) ?_
        refine lv_goto (tgt := 26) hx hb dX3_agreement_22 (by decide) ?_
        exact Kx2 _ _ _ (bZ1 (fun z => absurd c2 (by rw [z]; decide))) ⟨hR, hS⟩
  · refine lv_aload_n hx hb dX3_agreement_1 rfl (lv_at hl 0 rfl) ?_
    refine lv_iload_n hx hb dX3_agreement_2 rfl (lv_at hl 1 rfl) ?_
    refine kc_i (va_runV (As := [.int p0]) (rest := [.ref (ad 200)]) ⟨hx, hb, hml, hown, hts⟩ (mX3_isDate I L nd p0 hMs.1 h_nd) (cwV 1 hts (kw_V k587 k589 ks28 k5 k590) rfl rfl rfl (by decide +kernel) ⟨Nat.le_of_ble_eq_true rfl, Nat.le_of_ble_eq_true rfl⟩) (kB_preV hE hR hS 200 rfl rfl [.int p0]) rfl rfl hl.1 rfl (lv_room (Nat.le_of_ble_eq_true rfl)) dX3_agreement_3 ⟨Nat.le_of_ble_eq_true rfl, Nat.le_of_ble_eq_true rfl⟩) hS (fun r u H locs hw hR hS => ?_)
    obtain ⟨hdt, rfl⟩ := hw
    have hR : tR D vwCl base ad (tC (wP n ad cs) I L) H := hR
    refine lv_if_ne (tgt := 13) hx hb dX3_agreement_6 (by decide) (fun c3 => ?_) (fun c3 => ?_)
    · refine lv_iconst (v := 0) hx hb dX3_agreement_13 (by decide) ?_
      exact Kx1 _ _ _ (bZ0 (fun z => z (hdt.t c3))) ⟨hR, hS⟩
    · refine lv_iconst (v := 1) hx hb dX3_agreement_9 (by decide) ?_
      refine lv_goto (tgt := 14) hx hb dX3_agreement_10 (by decide) ?_
      exact Kx1 _ _ _ (bZ1 (hdt.f c3)) ⟨hR, hS⟩
end M6
