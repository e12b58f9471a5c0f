section M4
variable {l : Launch} {D : va_G} {cs : Nat → ClassId} {base : Nat} {sa : Nat → Nat} {n : Nat} {ad : Nat → Nat}
set_option maxHeartbeats 4000000 in
set_option maxRecDepth 100000 in
theorem lpX3_holds {p : Program} {e : Env} {R : Room} {s : State} {m : MethodId} {args : Array Value} {below : List Frame} {meth : Method} {c : Code} {cells slots : Nat} {Q : State → Prop} (S0 : CallFix p m c cX3_holds 6 s args wX3_holds RX3) (hE : eV D cs base sa s) (hRf : 1 ≤ R.frames) (hRl : 30 ≤ R.locals) (hRc : cells ≤ R.cells) (hRs : slots ≤ R.slots) (I : tI) (L : tL) {nd no : Nat} {f la : Nat → Nat} {ph : Nat → Int32} {w : Nat → Nat → Nat} {ea lt le mo : Nat → Nat} (ch d v : Nat) (y : Nat → Nat) (hMs : cMs I nd no f la ph w ea lt le mo) (hwf : wfS nd no f la w ea lt le mo) (hch : ch < 4) (hd : d < nd) (hrow : rwM nd ch (I 209) (va_up y d v)) (hyb : ∀ i, i < nd → y i ≤ 255) (hv1 : f d ≤ v) (hv2 : v ≤ la d)
    (kx : ∀ (z : Int32) (H : Heap) (locs : List Loc) (ls : Array Slot), bZ (sOk f la ea lt le mo d y v no) z → tR D vwCl base ad (tC (wP n ad cs) I L) H → va_S (fun q => base ≤ q) s.heap H locs → lv_has ls 6 [(4, .int (nI no)), (3, .int z), (0, .ref (ad 200)), (1, .int (nI ch)), (2, .int (nI d))] → W p l e R s m args below meth c H locs cells slots Q (F0 m 114 ls [])) :
    ∀ (k j : Nat) (z : Int32) (H : Heap) (locs : List Loc) (ls : Array Slot), j ≤ no → no + 1 ≤ j + k → bZ (sOk f la ea lt le mo d y v j) z → tR D vwCl base ad (tC (wP n ad cs) I L) H → va_S (fun q => base ≤ q) s.heap H locs → lv_has ls 6 [(4, .int (nI j)), (3, .int z), (0, .ref (ad 200)), (1, .int (nI ch)), (2, .int (nI d))] → W p l e R s m args below meth c H locs cells slots Q (F0 m 5 ls []) := by
  obtain ⟨hx, hb, hml, hown, hts⟩ := S0
  have hK := hE.K
  obtain ⟨h_nd, h_no, h_d, h_o⟩ := id hwf
  have h_vb : ∀ i, i < nd → va_up y d v i ≤ 255 := fun i hi => by unfold va_up; split; have := (h_d d hd).2.1; omega; exact hyb i hi
  intro k
  induction k with
  | zero => intro j z H locs ls h1 h2; exact absurd h2 (by omega)
  | succ k ih =>
    intro j z H locs ls hj hk hz hR hS hl
    refine lv_iload hx hb dX3_holds_5 (lv_at hl 0 rfl) ?_
    refine lv_aload_n hx hb dX3_holds_7 rfl (lv_at hl 2 rfl) ?_
    refine tb_get hx hb hts (fun w h => List.mem_cons_of_mem _ (inX3 w h)) hown hK hR 200 rfl rfl 8 (by decide) (hts _ (List.mem_cons_of_mem _ k486)) (fun _ h => h) rfl dX3_holds_8 ?_
    rw [show I 200 8 = nI no from hMs.2.1]
    refine lv_icmp_ge (tgt := 114) hx hb dX3_holds_11 (by decide) (fun c1 => ?_) (fun c1 => ?_)
    · have hjN : j = no := by have e9 := (nI_leI (by omega) (by omega)).mp c1; omega
      subst hjN
      exact kx z H locs ls hz hR hS (lv_sub hl [0, 1, 2, 3, 4] rfl)
    · have hjN : j < no := by
        rcases Nat.lt_or_ge j no with q | q
        · exact q
        · exact absurd (nI_le (by omega) (by omega)) c1
      obtain ⟨h_ea, h_lt, h_ne, h_lm, h_mo⟩ := hwf.2.2.2 j hjN
      have h_y1 := h_vb _ h_ea
      have h_y2 := h_vb _ h_lt
      refine lv_aload_n hx hb dX3_holds_14 rfl (lv_at hl 2 rfl) ?_
      refine tb_get hx hb hts (fun w h => List.mem_cons_of_mem _ (inX3 w h)) hown hK hR 200 rfl rfl 9 (by decide) (hts _ (List.mem_cons_of_mem _ k487)) (fun _ h => h) rfl dX3_holds_15 ?_
      refine lv_iload hx hb dX3_holds_18 (lv_at hl 0 rfl) ?_
      refine tp_iald hx hb hK hR 205 0 (fun _ _ => rfl) rfl j rfl (by omega) (by decide) dX3_holds_20 ?_
      rw [show I 205 j = nI (ea j) from (hMs.2.2.2 j (by omega)).1]
      refine lv_iload_n hx hb dX3_holds_21 rfl (lv_at hl 4 rfl) ?_
      refine lv_icmp_eq (tgt := 39) hx hb dX3_holds_22 (by decide) (fun c2 => ?_) (fun c2 => ?_)
      · have hit : ea j = d ∨ lt j = d := Or.inl ((nI_eq (by omega) (by omega)).mp c2)
        refine lv_aload_n hx hb dX3_holds_39 rfl (lv_at hl 2 rfl) ?_
        refine tb_get hx hb hts (fun w h => List.mem_cons_of_mem _ (inX3 w h)) hown hK hR 200 rfl rfl 18 (by decide) (hts _ (List.mem_cons_of_mem _ k496)) (fun _ h => h) rfl dX3_holds_40 ?_
        refine lv_bipush (v := nI 8) hx hb dX3_holds_43 (by decide) ?_
        refine lv_iload_n hx hb dX3_holds_45 rfl (lv_at hl 3 rfl) ?_
        refine lv_imul hx hb dX3_holds_46 ?_
        rw [pk_mul]
        refine lv_aload_n hx hb dX3_holds_47 rfl (lv_at hl 2 rfl) ?_
        refine tb_get hx hb hts (fun w h => List.mem_cons_of_mem _ (inX3 w h)) hown hK hR 200 rfl rfl 10 (by decide) (hts _ (List.mem_cons_of_mem _ k488)) (fun _ h => h) rfl dX3_holds_48 ?_
        refine lv_iload hx hb dX3_holds_51 (lv_at hl 0 rfl) ?_
        refine tp_iald hx hb hK hR 206 0 (fun _ _ => rfl) rfl j rfl (by omega) (by decide) dX3_holds_53 ?_
        rw [show I 206 j = nI (lt j) from (hMs.2.2.2 j (by omega)).2.1]
        refine lv_iadd hx hb dX3_holds_54 ?_
        rw [nI_add]
        refine tp_iald hx hb hK hR 209 0 (fun _ _ => rfl) rfl (8 * ch + lt j) rfl (by omega) (by decide) dX3_holds_55 ?_
        rw [show I 209 (8 * ch + lt j) = nI (va_up y d v (lt j)) from hrow (lt j) (by omega)]
        refine lv_aload_n hx hb dX3_holds_56 rfl (lv_at hl 2 rfl) ?_
        refine tb_get hx hb hts (fun w h => List.mem_cons_of_mem _ (inX3 w h)) hown hK hR 200 rfl rfl 18 (by decide) (hts _ (List.mem_cons_of_mem _ k496)) (fun _ h => h) rfl dX3_holds_57 ?_
        refine lv_bipush (v := nI 8) hx hb dX3_holds_60 (by decide) ?_
        refine lv_iload_n hx hb dX3_holds_62 rfl (lv_at hl 3 rfl) ?_
        refine lv_imul hx hb dX3_holds_63 ?_
        rw [pk_mul]
        refine lv_aload_n hx hb dX3_holds_64 rfl (lv_at hl 2 rfl) ?_
        refine tb_get hx hb hts (fun w h => List.mem_cons_of_mem _ (inX3 w h)) hown hK hR 200 rfl rfl 9 (by decide) (hts _ (List.mem_cons_of_mem _ k487)) (fun _ h => h) rfl dX3_holds_65 ?_
        refine lv_iload hx hb dX3_holds_68 (lv_at hl 0 rfl) ?_
        refine tp_iald hx hb hK hR 205 0 (fun _ _ => rfl) rfl j rfl (by omega) (by decide) dX3_holds_70 ?_
        rw [show I 205 j = nI (ea j) from (hMs.2.2.2 j (by omega)).1]
        refine lv_iadd hx hb dX3_holds_71 ?_
        rw [nI_add]
        refine tp_iald hx hb hK hR 209 0 (fun _ _ => rfl) rfl (8 * ch + ea j) rfl (by omega) (by decide) dX3_holds_72 ?_
        rw [show I 209 (8 * ch + ea j) = nI (va_up y d v (ea j)) from hrow (ea j) (by omega)]
        refine lv_isub hx hb dX3_holds_73 ?_
        refine lv_istore (lv' := [(5, .int ((nI (va_up y d v (lt j))) - (nI (va_up y d v (ea j))))), (4, .int (nI j)), (3, .int z), (0, .ref (ad 200)), (1, .int (nI ch)), (2, .int (nI d))]) hx hb dX3_holds_74 hl (by decide) rfl (fun ls hl => ?_)
        refine lv_iload_n hx hb dX3_holds_76 rfl (lv_at hl 2 rfl) ?_
        refine lv_if_eq (tgt := 106) hx hb dX3_holds_77 (by decide) (fun c3 => ?_) (fun c3 => ?_)
        · have hz1 : bZ (sOk f la ea lt le mo d y v (j + 1)) 0 := bZ0 (fun q => hz.f c3 ((sOk_hit h_ne hit).mp q).1)
          refine lv_iconst (v := 0) hx hb dX3_holds_106 (by decide) ?_
          refine lv_istore_n (lv' := [(3, .int 0), (5, .int ((nI (va_up y d v (lt j))) - (nI (va_up y d v (ea j))))), (4, .int (nI j)), (0, .ref (ad 200)), (1, .int (nI ch)), (2, .int (nI d))]) hx hb dX3_holds_107 rfl hl (by decide) rfl (fun ls hl => ?_)
          refine lv_iinc (v := nI (j + 1)) (lv' := [(4, .int (nI (j + 1))), (3, .int 0), (5, .int ((nI (va_up y d v (lt j))) - (nI (va_up y d v (ea j))))), (0, .ref (ad 200)), (1, .int (nI ch)), (2, .int (nI d))]) hx hb dX3_holds_108 hl (k := 2) rfl (nI_1 _) (by decide) rfl (fun ls hl => ?_)
          refine lv_goto (tgt := 5) hx hb dX3_holds_111 (by decide) ?_
          exact ih (j + 1) 0 H locs ls (by omega) (by omega) hz1 hR hS (lv_sub hl [0, 1, 3, 4, 5] rfl)
        · have hp := hz.t c3
          refine lv_iload hx hb dX3_holds_80 (lv_at hl 0 rfl) ?_
          refine lv_aload_n hx hb dX3_holds_82 rfl (lv_at hl 3 rfl) ?_
          refine tb_get hx hb hts (fun w h => List.mem_cons_of_mem _ (inX3 w h)) hown hK hR 200 rfl rfl 11 (by decide) (hts _ (List.mem_cons_of_mem _ k489)) (fun _ h => h) rfl dX3_holds_83 ?_
          refine lv_iload hx hb dX3_holds_86 (lv_at hl 1 rfl) ?_
          refine tp_iald hx hb hK hR 207 0 (fun _ _ => rfl) rfl j rfl (by omega) (by decide) dX3_holds_88 ?_
          rw [show I 207 j = nI (le j) from (hMs.2.2.2 j (by omega)).2.2.1]
          refine lv_aload_n hx hb dX3_holds_89 rfl (lv_at hl 3 rfl) ?_
          refine tb_get hx hb hts (fun w h => List.mem_cons_of_mem _ (inX3 w h)) hown hK hR 200 rfl rfl 12 (by decide) (hts _ (List.mem_cons_of_mem _ k490)) (fun _ h => h) rfl dX3_holds_90 ?_
          refine lv_iload hx hb dX3_holds_93 (lv_at hl 1 rfl) ?_
          refine tp_iald hx hb hK hR 208 0 (fun _ _ => rfl) rfl j rfl (by omega) (by decide) dX3_holds_95 ?_
          rw [show I 208 j = nI (mo j) from (hMs.2.2.2 j (by omega)).2.2.2]
          refine kc_i (va_runS (As := [.int ((nI (va_up y d v (lt j))) - (nI (va_up y d v (ea j)))), .int (nI (le j)), .int (nI (mo j))]) (rest := []) ⟨hx, hb, hml, hown, hts⟩ (mX3_in I L ((nI (va_up y d v (lt j))) - (nI (va_up y d v (ea j)))) (nI (le j)) (nI (mo j))) (va_cwS 3 hts (kw_S k568 k569 k5 k570) rfl rfl rfl (by decide +kernel) ⟨Nat.le_trans (Nat.le_of_ble_eq_true rfl) hRf, Nat.le_trans (Nat.le_of_ble_eq_true rfl) hRl⟩) (kB_pre hE hR hS [.int ((nI (va_up y d v (lt j))) - (nI (va_up y d v (ea j)))), .int (nI (le j)), .int (nI (mo j))]) rfl rfl hl.1 rfl (lv_room (Nat.le_of_ble_eq_true rfl)) dX3_holds_96 ⟨hRc, hRs⟩) hS (fun r u H locs hw hR hS => ?_)
          obtain ⟨q4, rfl⟩ := hw
          have hR : tR D vwCl base ad (tC (wP n ad cs) I L) H := hR
          have q4 : bZ (va_up y d v (ea j) + le j ≤ va_up y d v (lt j) ∧ va_up y d v (lt j) ≤ va_up y d v (ea j) + mo j) r := q4.iff (in_sub (by omega) (by omega) (by omega) (by omega))
          refine lv_if_eq (tgt := 106) hx hb dX3_holds_99 (by decide) (fun c5 => ?_) (fun c5 => ?_)
          · have hz1 : bZ (sOk f la ea lt le mo d y v (j + 1)) 0 := bZ0 (fun q => q4.f c5 ((sOk_hit h_ne hit).mp q).2)
            refine lv_iconst (v := 0) hx hb dX3_holds_106 (by decide) ?_
            refine lv_istore_n (lv' := [(3, .int 0), (5, .int ((nI (va_up y d v (lt j))) - (nI (va_up y d v (ea j))))), (4, .int (nI j)), (0, .ref (ad 200)), (1, .int (nI ch)), (2, .int (nI d))]) hx hb dX3_holds_107 rfl hl (by decide) rfl (fun ls hl => ?_)
            refine lv_iinc (v := nI (j + 1)) (lv' := [(4, .int (nI (j + 1))), (3, .int 0), (5, .int ((nI (va_up y d v (lt j))) - (nI (va_up y d v (ea j))))), (0, .ref (ad 200)), (1, .int (nI ch)), (2, .int (nI d))]) hx hb dX3_holds_108 hl (k := 2) rfl (nI_1 _) (by decide) rfl (fun ls hl => ?_)
            refine lv_goto (tgt := 5) hx hb dX3_holds_111 (by decide) ?_
            exact ih (j + 1) 0 H locs ls (by omega) (by omega) hz1 hR hS (lv_sub hl [0, 1, 3, 4, 5] rfl)
          · have hz1 : bZ (sOk f la ea lt le mo d y v (j + 1)) 1 := bZ1 ((sOk_hit h_ne hit).mpr ⟨hp, q4.t c5⟩)
            refine lv_iconst (v := 1) hx hb dX3_holds_102 (by decide) ?_
            refine lv_goto (tgt := 107) hx hb dX3_holds_103 (by decide) ?_
            refine lv_istore_n (lv' := [(3, .int 1), (5, .int ((nI (va_up y d v (lt j))) - (nI (va_up y d v (ea j))))), (4, .int (nI j)), (0, .ref (ad 200)), (1, .int (nI ch)), (2, .int (nI d))]) hx hb dX3_holds_107 rfl hl (by decide) rfl (fun ls hl => ?_)
            refine lv_iinc (v := nI (j + 1)) (lv' := [(4, .int (nI (j + 1))), (3, .int 1), (5, .int ((nI (va_up y d v (lt j))) - (nI (va_up y d v (ea j))))), (0, .ref (ad 200)), (1, .int (nI ch)), (2, .int (nI d))]) hx hb dX3_holds_108 hl (k := 2) rfl (nI_1 _) (by decide) rfl (fun ls hl => ?_)
            refine lv_goto (tgt := 5) hx hb dX3_holds_111 (by decide) ?_
            exact ih (j + 1) 1 H locs ls (by omega) (by omega) hz1 hR hS (lv_sub hl [0, 1, 3, 4, 5] rfl)
      · refine lv_aload_n hx hb dX3_holds_25 rfl (lv_at hl 2 rfl) ?_
        refine tb_get hx hb hts (fun w h => List.mem_cons_of_mem _ (inX3 w h)) hown hK hR 200 rfl rfl 10 (by decide) (hts _ (List.mem_cons_of_mem _ k488)) (fun _ h => h) rfl dX3_holds_26 ?_
        refine lv_iload hx hb dX3_holds_29 (lv_at hl 0 rfl) ?_
        refine tp_iald hx hb hK hR 206 0 (fun _ _ => rfl) rfl j rfl (by omega) (by decide) dX3_holds_31 ?_
        rw [show I 206 j = nI (lt j) from (hMs.2.2.2 j (by omega)).2.1]
        refine lv_iload_n hx hb dX3_holds_32 rfl (lv_at hl 4 rfl) ?_
        refine lv_icmp_eq (tgt := 39) hx hb dX3_holds_33 (by decide) (fun c6 => ?_) (fun c6 => ?_)
        · have hit : ea j = d ∨ lt j = d := Or.inr ((nI_eq (by omega) (by omega)).mp c6)
          refine lv_aload_n hx hb dX3_holds_39 rfl (lv_at hl 2 rfl) ?_
          refine tb_get hx hb hts (fun w h => List.mem_cons_of_mem _ (inX3 w h)) hown hK hR 200 rfl rfl 18 (by decide) (hts _ (List.mem_cons_of_mem _ k496)) (fun _ h => h) rfl dX3_holds_40 ?_
          refine lv_bipush (v := nI 8) hx hb dX3_holds_43 (by decide) ?_
          refine lv_iload_n hx hb dX3_holds_45 rfl (lv_at hl 3 rfl) ?_
          refine lv_imul hx hb dX3_holds_46 ?_
          rw [pk_mul]
          refine lv_aload_n hx hb dX3_holds_47 rfl (lv_at hl 2 rfl) ?_
          refine tb_get hx hb hts (fun w h => List.mem_cons_of_mem _ (inX3 w h)) hown hK hR 200 rfl rfl 10 (by decide) (hts _ (List.mem_cons_of_mem _ k488)) (fun _ h => h) rfl dX3_holds_48 ?_
          refine lv_iload hx hb dX3_holds_51 (lv_at hl 0 rfl) ?_
          refine tp_iald hx hb hK hR 206 0 (fun _ _ => rfl) rfl j rfl (by omega) (by decide) dX3_holds_53 ?_
          rw [show I 206 j = nI (lt j) from (hMs.2.2.2 j (by omega)).2.1]
          refine lv_iadd hx hb dX3_holds_54 ?_
          rw [nI_add]
          refine tp_iald hx hb hK hR 209 0 (fun _ _ => rfl) rfl (8 * ch + lt j) rfl (by omega) (by decide) dX3_holds_55 ?_
          rw [show I 209 (8 * ch + lt j) = nI (va_up y d v (lt j)) from hrow (lt j) (by omega)]
          refine lv_aload_n hx hb dX3_holds_56 rfl (lv_at hl 2 rfl) ?_
          refine tb_get hx hb hts (fun w h => List.mem_cons_of_mem _ (inX3 w h)) hown hK hR 200 rfl rfl 18 (by decide) (hts _ (List.mem_cons_of_mem _ k496)) (fun _ h => h) rfl dX3_holds_57 ?_
          refine lv_bipush (v := nI 8) hx hb dX3_holds_60 (by decide) ?_
          refine lv_iload_n hx hb dX3_holds_62 rfl (lv_at hl 3 rfl) ?_
          refine lv_imul hx hb dX3_holds_63 ?_
          rw [pk_mul]
          refine lv_aload_n hx hb dX3_holds_64 rfl (lv_at hl 2 rfl) ?_
          refine tb_get hx hb hts (fun w h => List.mem_cons_of_mem _ (inX3 w h)) hown hK hR 200 rfl rfl 9 (by decide) (hts _ (List.mem_cons_of_mem _ k487)) (fun _ h => h) rfl dX3_holds_65 ?_
          refine lv_iload hx hb dX3_holds_68 (lv_at hl 0 rfl) ?_
          refine tp_iald hx hb hK hR 205 0 (fun _ _ => rfl) rfl j rfl (by omega) (by decide) dX3_holds_70 ?_
          rw [show I 205 j = nI (ea j) from (hMs.2.2.2 j (by omega)).1]
          refine lv_iadd hx hb dX3_holds_71 ?_
          rw [nI_add]
          refine tp_iald hx hb hK hR 209 0 (fun _ _ => rfl) rfl (8 * ch + ea j) rfl (by omega) (by decide) dX3_holds_72 ?_
          rw [show I 209 (8 * ch + ea j) = nI (va_up y d v (ea j)) from hrow (ea j) (by omega)]
          refine lv_isub hx hb dX3_holds_73 ?_
          refine lv_istore (lv' := [(5, .int ((nI (va_up y d v (lt j))) - (nI (va_up y d v (ea j))))), (4, .int (nI j)), (3, .int z), (0, .ref (ad 200)), (1, .int (nI ch)), (2, .int (nI d))]) hx hb dX3_holds_74 hl (by decide) rfl (fun ls hl => ?_)
          refine lv_iload_n hx hb dX3_holds_76 rfl (lv_at hl 2 rfl) ?_
          refine lv_if_eq (tgt := 106) hx hb dX3_holds_77 (by decide) (fun c7 => ?_) (fun c7 => ?_)
          · have hz1 : bZ (sOk f la ea lt le mo d y v (j + 1)) 0 := bZ0 (fun q => hz.f c7 ((sOk_hit h_ne hit).mp q).1)
            refine lv_iconst (v := 0) hx hb dX3_holds_106 (by decide) ?_
            refine lv_istore_n (lv' := [(3, .int 0), (5, .int ((nI (va_up y d v (lt j))) - (nI (va_up y d v (ea j))))), (4, .int (nI j)), (0, .ref (ad 200)), (1, .int (nI ch)), (2, .int (nI d))]) hx hb dX3_holds_107 rfl hl (by decide) rfl (fun ls hl => ?_)
            refine lv_iinc (v := nI (j + 1)) (lv' := [(4, .int (nI (j + 1))), (3, .int 0), (5, .int ((nI (va_up y d v (lt j))) - (nI (va_up y d v (ea j))))), (0, .ref (ad 200)), (1, .int (nI ch)), (2, .int (nI d))]) hx hb dX3_holds_108 hl (k := 2) rfl (nI_1 _) (by decide) rfl (fun ls hl => ?_)
            refine lv_goto (tgt := 5) hx hb dX3_holds_111 (by decide) ?_
            exact ih (j + 1) 0 H locs ls (by omega) (by omega) hz1 hR hS (lv_sub hl [0, 1, 3, 4, 5] rfl)
          · have hp := hz.t c7
            refine lv_iload hx hb dX3_holds_80 (lv_at hl 0 rfl) ?_
            refine lv_aload_n hx hb dX3_holds_82 rfl (lv_at hl 3 rfl) ?_
            refine tb_get hx hb hts (fun w h => List.mem_cons_of_mem _ (inX3 w h)) hown hK hR 200 rfl rfl 11 (by decide) (hts _ (List.mem_cons_of_mem _ k489)) (fun _ h => h) rfl dX3_holds_83 ?_
            refine lv_iload hx hb dX3_holds_86 (lv_at hl 1 rfl) ?_
            refine tp_iald hx hb hK hR 207 0 (fun _ _ => rfl) rfl j rfl (by omega) (by decide) dX3_holds_88 ?_
            rw [show I 207 j = nI (le j) from (hMs.2.2.2 j (by omega)).2.2.1]
            refine lv_aload_n hx hb dX3_holds_89 rfl (lv_at hl 3 rfl) ?_
            refine tb_get hx hb hts (fun w h => List.mem_cons_of_mem _ (inX3 w h)) hown hK hR 200 rfl rfl 12 (by decide) (hts _ (List.mem_cons_of_mem _ k490)) (fun _ h => h) rfl dX3_holds_90 ?_
            refine lv_iload hx hb dX3_holds_93 (lv_at hl 1 rfl) ?_
            refine tp_iald hx hb hK hR 208 0 (fun _ _ => rfl) rfl j rfl (by omega) (by decide) dX3_holds_95 ?_
            rw [show I 208 j = nI (mo j) from (hMs.2.2.2 j (by omega)).2.2.2]
            refine kc_i (va_runS (As := [.int ((nI (va_up y d v (lt j))) - (nI (va_up y d v (ea j)))), .int (nI (le j)), .int (nI (mo j))]) (rest := []) ⟨hx, hb, hml, hown, hts⟩ (mX3_in I L ((nI (va_up y d v (lt j))) - (nI (va_up y d v (ea j)))) (nI (le j)) (nI (mo j))) (va_cwS 3 hts (kw_S k568 k569 k5 k570) rfl rfl rfl (by decide +kernel) ⟨Nat.le_trans (Nat.le_of_ble_eq_true rfl) hRf, Nat.le_trans (Nat.le_of_ble_eq_true rfl) hRl⟩) (kB_pre hE hR hS [.int ((nI (va_up y d v (lt j))) - (nI (va_up y d v (ea j)))), .int (nI (le j)), .int (nI (mo j))]) rfl rfl hl.1 rfl (lv_room (Nat.le_of_ble_eq_true rfl)) dX3_holds_96 ⟨hRc, hRs⟩) hS (fun r u H locs hw hR hS => ?_)
            obtain ⟨q8, rfl⟩ := hw
            have hR : tR D vwCl base ad (tC (wP n ad cs) I L) H := hR
            have q8 : bZ (va_up y d v (ea j) + le j ≤ va_up y d v (lt j) ∧ va_up y d v (lt j) ≤ va_up y d v (ea j) + mo j) r := q8.iff (in_sub (by omega) (by omega) (by omega) (by omega))
            refine lv_if_eq (tgt := 106) hx hb dX3_holds_99 (by decide) (fun c9 => ?_) (fun c9 => ?_)
            · have hz1 : bZ (sOk f la ea lt le mo d y v (j + 1)) 0 := bZ0 (fun q => q8.f c9 ((sOk_hit h_ne hit).mp q).2)
              refine lv_iconst (v := 0) hx hb dX3_holds_106 (by decide) ?_
              refine lv_istore_n (lv' := [(3, .int 0), (5, .int ((nI (va_up y d v (lt j))) - (nI (va_up y d v (ea j))))), (4, .int (nI j)), (0, .ref (ad 200)), (1, .int (nI ch)), (2, .int (nI d))]) hx hb dX3_holds_107 rfl hl (by decide) rfl (fun ls hl => ?_)
              refine lv_iinc (v := nI (j + 1)) (lv' := [(4, .int (nI (j + 1))), (3, .int 0), (5, .int ((nI (va_up y d v (lt j))) - (nI (va_up y d v (ea j))))), (0, .ref (ad 200)), (1, .int (nI ch)), (2, .int (nI d))]) hx hb dX3_holds_108 hl (k := 2) rfl (nI_1 _) (by decide) rfl (fun ls hl => ?_)
              refine lv_goto (tgt := 5) hx hb dX3_holds_111 (by decide) ?_
              exact ih (j + 1) 0 H locs ls (by omega) (by omega) hz1 hR hS (lv_sub hl [0, 1, 3, 4, 5] rfl)
            · have hz1 : bZ (sOk f la ea lt le mo d y v (j + 1)) 1 := bZ1 ((sOk_hit h_ne hit).mpr ⟨hp, q8.t c9⟩)
              refine lv_iconst (v := 1) hx hb dX3_holds_102 (by decide) ?_
              refine lv_goto (tgt := 107) hx hb dX3_holds_103 (by decide) ?_
              refine lv_istore_n (lv' := [(3, .int 1), (5, .int ((nI (va_up y d v (lt j))) - (nI (va_up y d v (ea j))))), (4, .int (nI j)), (0, .ref (ad 200)), (1, .int (nI ch)), (2, .int (nI d))]) hx hb dX3_holds_107 rfl hl (by decide) rfl (fun ls hl => ?_)
              refine lv_iinc (v := nI (j + 1)) (lv' := [(4, .int (nI (j + 1))), (3, .int 1), (5, .int ((nI (va_up y d v (lt j))) - (nI (va_up y d v (ea j))))), (0, .ref (ad 200)), (1, .int (nI ch)), (2, .int (nI d))]) hx hb dX3_holds_108 hl (k := 2) rfl (nI_1 _) (by decide) rfl (fun ls hl => ?_)
              refine lv_goto (tgt := 5) hx hb dX3_holds_111 (by decide) ?_
              exact ih (j + 1) 1 H locs ls (by omega) (by omega) hz1 hR hS (lv_sub hl [0, 1, 3, 4, 5] rfl)
        · have hz1 : bZ (sOk f la ea lt le mo d y v (j + 1)) z := hz.iff (sOk_miss (fun e => c2 (by rw [e])) (fun e => c6 (by rw [e]))).symm
          refine lv_goto (tgt := 108) hx hb dX3_holds_36 (by decide) ?_
          refine lv_iinc (v := nI (j + 1)) (lv' := [(4, .int (nI (j + 1))), (3, .int z), (0, .ref (ad 200)), (1, .int (nI ch)), (2, .int (nI d))]) hx hb dX3_holds_108 hl (k := 0) rfl (nI_1 _) (by decide) rfl (fun ls hl => ?_)
          refine lv_goto (tgt := 5) hx hb dX3_holds_111 (by decide) ?_
          exact ih (j + 1) z H locs ls (by omega) (by omega) hz1 hR hS (lv_sub hl [0, 1, 2, 3, 4] rfl)
set_option maxHeartbeats 4000000 in
set_option maxRecDepth 100000 in
theorem mX3_holds (I : tI) (L : tL) {nd no : Nat} {f la : Nat → Nat} {ph : Nat → Int32} {w : Nat → Nat → Nat} {ea lt le mo : Nat → Nat} (ch d v : Nat) (y : Nat → Nat) (hMs : cMs I nd no f la ph w ea lt le mo) (hwf : wfS nd no f la w ea lt le mo) (hch : ch < 4) (hd : d < nd) (hrow : rwM nd ch (I 209) (va_up y d v)) (hyb : ∀ i, i < nd → y i ≤ 255) (hv1 : f d ≤ v) (hv2 : v ≤ la d) : Met l yX3_holds wX3_holds ({ frames := 1, cells := 0, slots := 0, locals := 30 }) (va_Pc [.ref (ad 200), .int (nI ch), .int (nI d)] (kB D cs base sa n ad I L)) (va_Qi (fun (r : Int32) (u : tI × tL) => bZ (sOk f la ea lt le mo d y v no) r ∧ u = (I, L)) (kA D cs base n ad) (fun q => base ≤ q)) 0 0 (fun q => base ≤ q) := by
  refine Met.ofW (cc := cX3_holds) (maxL := 6) (ret := (some .boolean)) (by decide) rfl ?_
  intro p e s m args below meth c s₁ Bd hml hv
  obtain ⟨rfl, hE, hR⟩ := hv
  have hx := Bd.exec
  have hb := Bd.bytes
  have hr := Bd.returns
  have hts := atoms_spec (ws := wX3_holds) Bd.pre
  have hown : s.vm.findClass RX3 = some m.cls := findClass_of_methodNamed Bd.named
  have hlocks := Bd.notSynchronized
  have hK := hE.K
  have hS : va_S (fun q => base ≤ q) s.heap s.heap [] := va_S.rf
  have hR : tR D vwCl base ad (tC (wP n ad cs) I L) s.heap := hR
  have hl := lv_entry ([.ref (ad 200), .int (nI ch), .int (nI d)]) (n := 6) (Nat.le_of_ble_eq_true rfl)
  rw [lg_entry_eq]
  generalize (lg_sl ([.ref (ad 200), .int (nI ch), .int (nI d)]) ++ List.replicate (6 - (lg_sl ([.ref (ad 200), .int (nI ch), .int (nI d)])).length) Slot.unset).toArray = ls at hl ⊢
  have hl : lv_has ls 6 [(0, .ref (ad 200)), (1, .int (nI ch)), (2, .int (nI d))] := hl
  refine lv_iconst (v := 1) hx hb dX3_holds_0 (by decide) ?_
  refine lv_istore_n (lv' := [(3, .int 1), (0, .ref (ad 200)), (1, .int (nI ch)), (2, .int (nI d))]) hx hb dX3_holds_1 rfl hl (by decide) rfl (fun ls hl => ?_)
  refine lv_iconst (v := 0) hx hb dX3_holds_2 (by decide) ?_
  rw [show (0 : Int32) = nI 0 from nI_0.symm]
  refine lv_istore (lv' := [(4, .int (nI 0)), (3, .int 1), (0, .ref (ad 200)), (1, .int (nI ch)), (2, .int (nI d))]) hx hb dX3_holds_3 hl (by decide) rfl (fun ls hl => ?_)
  refine lpX3_holds ⟨hx, hb, hml, hown, hts⟩ hE (Nat.le_of_ble_eq_true rfl) (Nat.le_of_ble_eq_true rfl) (Nat.le_of_ble_eq_true rfl) (Nat.le_of_ble_eq_true rfl) I L ch d v y hMs hwf hch hd hrow hyb hv1 hv2 (fun z H locs ls hz hR hS hl => ?_) (no + 1) 0 1 _ _ ls (Nat.zero_le _) (by omega) (bZ1 ⟨hv1, hv2, fun k hk => absurd hk (Nat.not_lt_zero _)⟩) hR hS (lv_sub hl [0, 1, 2, 3, 4] rfl)
  refine lv_iload_n hx hb dX3_holds_114 rfl (lv_at hl 1 rfl) ?_
  exact W.zret (v := z) hx hb hr (by rcases hz.nar with q | q <;> subst q <;> rfl) (fun t ht hW => ⟨⟨_, (I, L), rfl, ⟨hz, rfl⟩, by show tR _ _ _ _ _ t.heap; rw [ht]; exact hR⟩, hS.F ht⟩) hS.2.2 dX3_holds_115
set_option maxHeartbeats 4000000 in
set_option maxRecDepth 100000 in
theorem lpX3_draw {p : Program} {e : Env} {R : Room} {s : State} {m : MethodId} {args : Array Value} {below : List Frame} {meth : Method} {c : Code} {cells slots : Nat} {Q : State → Prop} (S0 : CallFix p m c cX3_draw 9 s args wX3_draw RX3) (hE : eV D cs base sa s) (hRf : 2 ≤ R.frames) (hRl : 70 ≤ R.locals) (hRc : cells ≤ R.cells) (hRs : slots ≤ R.slots) (I : tI) (L : tL) {nd no : Nat} {f la : Nat → Nat} {ph : Nat → Int32} {w : Nat → Nat → Nat} {ea lt le mo : Nat → Nat} (ch d : Nat) (y : Nat → Nat) (hMs : cMs I nd no f la ph w ea lt le mo) (hwf : wfS nd no f la w ea lt le mo) (hch : ch < 4) (hd : d < nd) (hrow : rwM nd ch (I 209) y) (hwy : wfY nd no f la ea lt le mo y)
    (kx : ∀ (x9 : Int32) (H : Heap) (locs : List Loc) (ls : Array Slot), f d ≤ la d + 1 → tR D vwCl base ad (tC (wP n ad cs) (va_up I 209 (upd (I 209) (8 * ch + d) x9)) L) H → va_S (fun q => base ≤ q) s.heap H locs → lv_has ls 9 [(5, .int (nI (la d + 1))), (4, .int (nI (sSum (gW (sLo f ea lt le mo d y no) (sHi la ea lt le mo d y no) (fun q => w d (q - f d))) (f d) ((la d + 1) - f d)))), (3, .int (nI (8 * ch + d))), (0, .ref (ad 200)), (1, .int (nI ch)), (2, .int (nI d))] → W p l e R s m args below meth c H locs cells slots Q (F0 m 68 ls [])) :
    ∀ (k j : Nat) (x9 : Int32) (H : Heap) (locs : List Loc) (ls : Array Slot), j ≤ la d + 1 → la d + 1 + 1 ≤ j + k → f d ≤ j → tR D vwCl base ad (tC (wP n ad cs) (va_up I 209 (upd (I 209) (8 * ch + d) x9)) L) H → va_S (fun q => base ≤ q) s.heap H locs → lv_has ls 9 [(5, .int (nI j)), (4, .int (nI (sSum (gW (sLo f ea lt le mo d y no) (sHi la ea lt le mo d y no) (fun q => w d (q - f d))) (f d) (j - f d)))), (3, .int (nI (8 * ch + d))), (0, .ref (ad 200)), (1, .int (nI ch)), (2, .int (nI d))] → W p l e R s m args below meth c H locs cells slots Q (F0 m 18 ls []) := by
  obtain ⟨hx, hb, hml, hown, hts⟩ := S0
  have hK := hE.K
  obtain ⟨h_nd, h_no, h_d, h_o⟩ := id hwf
  obtain ⟨g1, g2, g3, g4⟩ := h_d d hd
  intro k
  induction k with
  | zero => intro j x9 H locs ls h1 h2; exact absurd h2 (by omega)
  | succ k ih =>
    intro j x9 H locs ls hj hk hj1 hR hS hl
    refine lv_iload hx hb dX3_draw_18 (lv_at hl 0 rfl) ?_
    refine lv_aload_n hx hb dX3_draw_20 rfl (lv_at hl 3 rfl) ?_
    refine tb_get hx hb hts (fun w h => List.mem_cons_of_mem _ (inX3 w h)) hown hK hR 200 rfl rfl 5 (by decide) (hts _ (List.mem_cons_of_mem _ k483)) (fun _ h => h) rfl dX3_draw_21 ?_
    refine lv_iload_n hx hb dX3_draw_24 rfl (lv_at hl 5 rfl) ?_
    refine tp_iald hx hb hK hR 202 0 (fun _ _ => rfl) rfl d rfl (by omega) (by decide) dX3_draw_25 ?_
    rw [show (va_up I 209 (upd (I 209) (8 * ch + d) x9)) 202 d = nI (la d) from (by rw [va_up_ne _ _ (by omega)]; exact (hMs.2.2.1 d (by omega)).2.1)]
    refine lv_icmp_gt (tgt := 68) hx hb dX3_draw_26 (by decide) (fun c1 => ?_) (fun c1 => ?_)
    · have hjN : j = la d + 1 := by have e9 := (nI_ltI (by omega) (by omega)).mp c1; omega
      subst hjN
      exact kx x9 H locs ls hj1 hR hS (lv_sub hl [0, 1, 2, 3, 4, 5] rfl)
    · have hjN : j < la d + 1 := by
        rcases Nat.lt_or_ge j (la d + 1) with q | q
        · exact q
        · exact absurd (nI_lt (by omega) (by omega)) c1
      refine lv_aload_n hx hb dX3_draw_29 rfl (lv_at hl 3 rfl) ?_
      refine tb_get hx hb hts (fun w h => List.mem_cons_of_mem _ (inX3 w h)) hown hK hR 200 rfl rfl 18 (by decide) (hts _ (List.mem_cons_of_mem _ k496)) (fun _ h => h) rfl dX3_draw_30 ?_
      refine lv_iload_n hx hb dX3_draw_33 rfl (lv_at hl 2 rfl) ?_
      refine lv_iload hx hb dX3_draw_34 (lv_at hl 0 rfl) ?_
      refine tp_iast hx hb hK hR hS 209 0 (fun _ _ => rfl) rfl (8 * ch + d) rfl (by omega) (by decide) dX3_draw_36 (fun H locs hR hS => ?_)
      rw [bx_uu, va_up_self, upd_uu] at hR
      have hMs1 : cMs (va_up I 209 (upd (I 209) (8 * ch + d) (nI j))) nd no f la ph w ea lt le mo := hMs.of (by rw [va_up_ne _ _ (by omega)]) (by rw [va_up_ne _ _ (by omega)]) (fun k _ _ => va_up_ne _ _ (by omega))
      refine lv_iload hx hb dX3_draw_37 (lv_at hl 1 rfl) ?_
      refine lv_aload_n hx hb dX3_draw_39 rfl (lv_at hl 3 rfl) ?_
      refine lv_iload_n hx hb dX3_draw_40 rfl (lv_at hl 4 rfl) ?_
      refine lv_iload_n hx hb dX3_draw_41 rfl (lv_at hl 5 rfl) ?_
      refine kc_i (va_runV (As := [.int (nI ch), .int (nI d)]) (rest := [.int (nI (sSum (gW (sLo f ea lt le mo d y no) (sHi la ea lt le mo d y no) (fun q => w d (q - f d))) (f d) (j - f d)))]) ⟨hx, hb, hml, hown, hts⟩ (mX3_holds (va_up I 209 (upd (I 209) (8 * ch + d) (nI j))) L ch d j y hMs1 hwf hch hd (by rw [va_up_self]; exact hrow.put _ _ rfl) (wfY_b hwf hwy) (by omega) (by omega)) (cwV 2 hts (kw_V k640 k642 ks35 k5 k643) rfl rfl rfl (by decide +kernel) ⟨Nat.le_trans (Nat.le_of_ble_eq_true rfl) hRf, Nat.le_trans (Nat.le_of_ble_eq_true rfl) hRl⟩) (kB_preV hE hR hS 200 rfl rfl [.int (nI ch), .int (nI d)]) rfl rfl hl.1 rfl (lv_room (Nat.le_of_ble_eq_true rfl)) dX3_draw_42 ⟨hRc, hRs⟩) hS (fun r u H locs hw hR hS => ?_)
      obtain ⟨hho, rfl⟩ := hw
      have hR : tR D vwCl base ad (tC (wP n ad cs) (va_up I 209 (upd (I 209) (8 * ch + d) (nI j))) L) H := hR
      have hho := hho.iff (sOk_iff (wfY_le hwf hwy) (Nat.le_refl no))
      refine lv_if_eq (tgt := 58) hx hb dX3_draw_45 (by decide) (fun c2 => ?_) (fun c2 => ?_)
      · have hg : (gW (sLo f ea lt le mo d y no) (sHi la ea lt le mo d y no) (fun q => w d (q - f d))) j = 0 := if_neg (hho.f c2)
        refine lv_iconst (v := 0) hx hb dX3_draw_58 (by decide) ?_
        refine lv_iadd hx hb dX3_draw_59 ?_
        rw [show (0 : Int32) = nI ((gW (sLo f ea lt le mo d y no) (sHi la ea lt le mo d y no) (fun q => w d (q - f d))) j) from by rw [hg]; rfl, nI_add, ← sSum_succ (by omega)]
        refine lv_istore (lv' := [(4, .int (nI (sSum (gW (sLo f ea lt le mo d y no) (sHi la ea lt le mo d y no) (fun q => w d (q - f d))) (f d) (j + 1 - f d)))), (5, .int (nI j)), (3, .int (nI (8 * ch + d))), (0, .ref (ad 200)), (1, .int (nI ch)), (2, .int (nI d))]) hx hb dX3_draw_60 hl (by decide) rfl (fun ls hl => ?_)
        refine lv_iinc (v := nI (j + 1)) (lv' := [(5, .int (nI (j + 1))), (4, .int (nI (sSum (gW (sLo f ea lt le mo d y no) (sHi la ea lt le mo d y no) (fun q => w d (q - f d))) (f d) (j + 1 - f d)))), (3, .int (nI (8 * ch + d))), (0, .ref (ad 200)), (1, .int (nI ch)), (2, .int (nI d))]) hx hb dX3_draw_62 hl (k := 1) rfl (nI_1 _) (by decide) rfl (fun ls hl => ?_)
        refine lv_goto (tgt := 18) hx hb dX3_draw_65 (by decide) ?_
        exact ih (j + 1) (nI j) H locs ls (by omega) (by omega) (by omega) hR hS (lv_sub hl [0, 1, 2, 3, 4, 5] rfl)
      · have hg : (gW (sLo f ea lt le mo d y no) (sHi la ea lt le mo d y no) (fun q => w d (q - f d))) j = w d (j - f d) := if_pos (hho.t c2)
        refine lv_aload_n hx hb dX3_draw_48 rfl (lv_at hl 3 rfl) ?_
        refine lv_iload_n hx hb dX3_draw_49 rfl (lv_at hl 5 rfl) ?_
        refine lv_iload hx hb dX3_draw_50 (lv_at hl 0 rfl) ?_
        refine kc_i (va_runV (As := [.int (nI d), .int (nI j)]) (rest := [.int (nI (sSum (gW (sLo f ea lt le mo d y no) (sHi la ea lt le mo d y no) (fun q => w d (q - f d))) (f d) (j - f d)))]) ⟨hx, hb, hml, hown, hts⟩ (mX3_weightOf (va_up I 209 (upd (I 209) (8 * ch + d) (nI j))) L d j hMs1 hwf hd (by omega) (by omega)) (cwV 2 hts (kw_V k591 k593 ks29 k5 k594) rfl rfl rfl (by decide +kernel) ⟨Nat.le_trans (Nat.le_of_ble_eq_true rfl) hRf, Nat.le_trans (Nat.le_of_ble_eq_true rfl) hRl⟩) (kB_preV hE hR hS 200 rfl rfl [.int (nI d), .int (nI j)]) rfl rfl hl.1 rfl (lv_room (Nat.le_of_ble_eq_true rfl)) dX3_draw_52 ⟨hRc, hRs⟩) hS (fun r u H locs hw hR hS => ?_)
        obtain ⟨rfl, rfl⟩ := hw
        have hR : tR D vwCl base ad (tC (wP n ad cs) (va_up I 209 (upd (I 209) (8 * ch + d) (nI j))) L) H := hR
        refine lv_goto (tgt := 59) hx hb dX3_draw_55 (by decide) ?_
        refine lv_iadd hx hb dX3_draw_59 ?_
        rw [show nI (w d (j - f d)) = nI ((gW (sLo f ea lt le mo d y no) (sHi la ea lt le mo d y no) (fun q => w d (q - f d))) j) from by rw [hg], nI_add, ← sSum_succ (by omega)]
        refine lv_istore (lv' := [(4, .int (nI (sSum (gW (sLo f ea lt le mo d y no) (sHi la ea lt le mo d y no) (fun q => w d (q - f d))) (f d) (j + 1 - f d)))), (5, .int (nI j)), (3, .int (nI (8 * ch + d))), (0, .ref (ad 200)), (1, .int (nI ch)), (2, .int (nI d))]) hx hb dX3_draw_60 hl (by decide) rfl (fun ls hl => ?_)
        refine lv_iinc (v := nI (j + 1)) (lv' := [(5, .int (nI (j + 1))), (4, .int (nI (sSum (gW (sLo f ea lt le mo d y no) (sHi la ea lt le mo d y no) (fun q => w d (q - f d))) (f d) (j + 1 - f d)))), (3, .int (nI (8 * ch + d))), (0, .ref (ad 200)), (1, .int (nI ch)), (2, .int (nI d))]) hx hb dX3_draw_62 hl (k := 1) rfl (nI_1 _) (by decide) rfl (fun ls hl => ?_)
        refine lv_goto (tgt := 18) hx hb dX3_draw_65 (by decide) ?_
        exact ih (j + 1) (nI j) H locs ls (by omega) (by omega) (by omega) hR hS (lv_sub hl [0, 1, 2, 3, 4, 5] rfl)
set_option maxHeartbeats 4000000 in
set_option maxRecDepth 100000 in
theorem lqX3_draw {p : Program} {e : Env} {R : Room} {s : State} {m : MethodId} {args : Array Value} {below : List Frame} {meth : Method} {c : Code} {cells slots : Nat} {Q : State → Prop} (S0 : CallFix p m c cX3_draw 9 s args wX3_draw RX3) (hE : eV D cs base sa s) (hRf : 2 ≤ R.frames) (hRl : 70 ≤ R.locals) (hRc : cells ≤ R.cells) (hRs : slots ≤ R.slots) (I : tI) (L : tL) {nd no : Nat} {f la : Nat → Nat} {ph : Nat → Int32} {w : Nat → Nat → Nat} {ea lt le mo : Nat → Nat} (ch d X9 : Nat) (y : Nat → Nat) (hMs : cMs I nd no f la ph w ea lt le mo) (hwf : wfS nd no f la w ea lt le mo) (hch : ch < 4) (hd : d < nd) (hrow : rwM nd ch (I 209) y) (hwy : wfY nd no f la ea lt le mo y) (htp : 0 < sSum (gW (sLo f ea lt le mo d y no) (sHi la ea lt le mo d y no) (fun q => w d (q - f d))) (f d) (la d + 1 - f d)) (htb : sSum (gW (sLo f ea lt le mo d y no) (sHi la ea lt le mo d y no) (fun q => w d (q - f d))) (f d) (la d + 1 - f d) < 2 ^ 31)
    (kx : ∀ (x9 : Int32) (H : Heap) (locs : List Loc) (ls : Array Slot), x9 = nI (dY no f la w ea lt le mo d y X9) → tR D vwCl base ad (tC (wP n ad cs) (va_up I 209 (upd (I 209) (8 * ch + d) x9)) L) H → va_S (fun q => base ≤ q) s.heap H locs → lv_has ls 9 [(0, .ref (ad 200))] → W p l e R s m args below meth c H locs cells slots Q (F0 m 164 ls [])) :
    ∀ (k j : Nat) (x9 : Int32) (H : Heap) (locs : List Loc) (ls : Array Slot), j ≤ la d + 1 → la d + 1 + 1 ≤ j + k → f d ≤ j → (j = f d ∨ (f d < j ∧ x9 = nI (j - 1) ∧ sSum (gW (sLo f ea lt le mo d y no) (sHi la ea lt le mo d y no) (fun q => w d (q - f d))) (f d) (j - 1 - f d) ≤ X9 % (sSum (gW (sLo f ea lt le mo d y no) (sHi la ea lt le mo d y no) (fun q => w d (q - f d))) (f d) (la d + 1 - f d)))) → tR D vwCl base ad (tC (wP n ad cs) (va_up I 209 (upd (I 209) (8 * ch + d) x9)) L) H → va_S (fun q => base ≤ q) s.heap H locs → lv_has ls 9 [(8, .int (nI j - 1)), (7, .int (nI (sSum (gW (sLo f ea lt le mo d y no) (sHi la ea lt le mo d y no) (fun q => w d (q - f d))) (f d) (j - f d)))), (5, .long (lN (X9 % (sSum (gW (sLo f ea lt le mo d y no) (sHi la ea lt le mo d y no) (fun q => w d (q - f d))) (f d) (la d + 1 - f d))))), (3, .int (nI (8 * ch + d))), (0, .ref (ad 200)), (1, .int (nI ch)), (2, .int (nI d))] → W p l e R s m args below meth c H locs cells slots Q (F0 m 116 ls []) := by
  obtain ⟨hx, hb, hml, hown, hts⟩ := S0
  have hK := hE.K
  obtain ⟨h_nd, h_no, h_d, h_o⟩ := id hwf
  obtain ⟨g1, g2, g3, g4⟩ := h_d d hd
  have h_rt : X9 % (sSum (gW (sLo f ea lt le mo d y no) (sHi la ea lt le mo d y no) (fun q => w d (q - f d))) (f d) (la d + 1 - f d)) < sSum (gW (sLo f ea lt le mo d y no) (sHi la ea lt le mo d y no) (fun q => w d (q - f d))) (f d) (la d + 1 - f d) := Nat.mod_lt _ htp
  intro k
  induction k with
  | zero => intro j x9 H locs ls h1 h2; exact absurd h2 (by omega)
  | succ k ih =>
    intro j x9 H locs ls hj hk hj1 hp hR hS hl
    have h_sb : sSum (gW (sLo f ea lt le mo d y no) (sHi la ea lt le mo d y no) (fun q => w d (q - f d))) (f d) (j - f d) ≤ sSum (gW (sLo f ea lt le mo d y no) (sHi la ea lt le mo d y no) (fun q => w d (q - f d))) (f d) (la d + 1 - f d) := sSum_mono _ _ (by omega)
    refine lv_iload hx hb dX3_draw_116 (lv_at hl 1 rfl) ?_
    refine lv_i2l hx hb dX3_draw_118 rfl ?_
    rw [nI_l (by omega)]
    refine lv_lload hx hb dX3_draw_119 (lv_at hl 2 rfl) ?_
    refine W.lcmp hx hb dX3_draw_121 ?_
    refine lv_if_gt (tgt := 164) hx hb dX3_draw_122 (by decide) (fun c1 => ?_) (fun c1 => ?_)
    · have hgt : X9 % (sSum (gW (sLo f ea lt le mo d y no) (sHi la ea lt le mo d y no) (fun q => w d (q - f d))) (f d) (la d + 1 - f d)) < sSum (gW (sLo f ea lt le mo d y no) (sHi la ea lt le mo d y no) (fun q => w d (q - f d))) (f d) (j - f d) := (lN_lt (by omega) (by omega)).mp ((lg_cmp_gt _ _).mp c1)
      have hfin : x9 = nI (dY no f la w ea lt le mo d y X9) := by
        rcases hp with q | ⟨q1, q2, q3⟩
        · rw [q, Nat.sub_self] at hgt; exact absurd hgt (Nat.not_lt_zero _)
        · rw [q2, gW_pick hwf hwy hd (x := X9) (v := j - 1) (by omega) q3 (by rw [show j - 1 + 1 - f d = j - f d by omega]; exact hgt)]
      exact kx x9 H locs ls hfin hR hS (lv_sub hl [4] rfl)
    · have hle : sSum (gW (sLo f ea lt le mo d y no) (sHi la ea lt le mo d y no) (fun q => w d (q - f d))) (f d) (j - f d) ≤ X9 % (sSum (gW (sLo f ea lt le mo d y no) (sHi la ea lt le mo d y no) (fun q => w d (q - f d))) (f d) (la d + 1 - f d)) := Nat.le_of_not_lt (fun q => c1 ((lg_cmp_gt _ _).mpr ((lN_lt (by omega) (by omega)).mpr q)))
      have hjla : j ≤ la d := by
        rcases Nat.lt_or_ge (la d) j with q | q
        · have e : j = la d + 1 := by omega
          rw [e] at hle; omega
        · exact q
      refine lv_iinc (v := nI j) (lv' := [(8, .int (nI j)), (7, .int (nI (sSum (gW (sLo f ea lt le mo d y no) (sHi la ea lt le mo d y no) (fun q => w d (q - f d))) (f d) (j - f d)))), (5, .long (lN (X9 % (sSum (gW (sLo f ea lt le mo d y no) (sHi la ea lt le mo d y no) (fun q => w d (q - f d))) (f d) (la d + 1 - f d))))), (3, .int (nI (8 * ch + d))), (0, .ref (ad 200)), (1, .int (nI ch)), (2, .int (nI d))]) hx hb dX3_draw_125 hl (k := 0) rfl (i_sa _) (by decide) rfl (fun ls hl => ?_)
      refine lv_aload_n hx hb dX3_draw_128 rfl (lv_at hl 4 rfl) ?_
      refine tb_get hx hb hts (fun w h => List.mem_cons_of_mem _ (inX3 w h)) hown hK hR 200 rfl rfl 18 (by decide) (hts _ (List.mem_cons_of_mem _ k496)) (fun _ h => h) rfl dX3_draw_129 ?_
      refine lv_iload_n hx hb dX3_draw_132 rfl (lv_at hl 3 rfl) ?_
      refine lv_iload hx hb dX3_draw_133 (lv_at hl 0 rfl) ?_
      refine tp_iast hx hb hK hR hS 209 0 (fun _ _ => rfl) rfl (8 * ch + d) rfl (by omega) (by decide) dX3_draw_135 (fun H locs hR hS => ?_)
      rw [bx_uu, va_up_self, upd_uu] at hR
      have hMs1 : cMs (va_up I 209 (upd (I 209) (8 * ch + d) (nI j))) nd no f la ph w ea lt le mo := hMs.of (by rw [va_up_ne _ _ (by omega)]) (by rw [va_up_ne _ _ (by omega)]) (fun k _ _ => va_up_ne _ _ (by omega))
      refine lv_iload hx hb dX3_draw_136 (lv_at hl 1 rfl) ?_
      refine lv_aload_n hx hb dX3_draw_138 rfl (lv_at hl 4 rfl) ?_
      refine lv_iload_n hx hb dX3_draw_139 rfl (lv_at hl 5 rfl) ?_
      refine lv_iload_n hx hb dX3_draw_140 rfl (lv_at hl 6 rfl) ?_
      refine kc_i (va_runV (As := [.int (nI ch), .int (nI d)]) (rest := [.int (nI (sSum (gW (sLo f ea lt le mo d y no) (sHi la ea lt le mo d y no) (fun q => w d (q - f d))) (f d) (j - f d)))]) ⟨hx, hb, hml, hown, hts⟩ (mX3_holds (va_up I 209 (upd (I 209) (8 * ch + d) (nI j))) L ch d j y hMs1 hwf hch hd (by rw [va_up_self]; exact hrow.put _ _ rfl) (wfY_b hwf hwy) (by omega) (by omega)) (cwV 2 hts (kw_V k640 k642 ks35 k5 k643) rfl rfl rfl (by decide +kernel) ⟨Nat.le_trans (Nat.le_of_ble_eq_true rfl) hRf, Nat.le_trans (Nat.le_of_ble_eq_true rfl) hRl⟩) (kB_preV hE hR hS 200 rfl rfl [.int (nI ch), .int (nI d)]) rfl rfl hl.1 rfl (lv_room (Nat.le_of_ble_eq_true rfl)) dX3_draw_141 ⟨hRc, hRs⟩) hS (fun r u H locs hw hR hS => ?_)
      obtain ⟨hho, rfl⟩ := hw
      have hR : tR D vwCl base ad (tC (wP n ad cs) (va_up I 209 (upd (I 209) (8 * ch + d) (nI j))) L) H := hR
      have hho := hho.iff (sOk_iff (wfY_le hwf hwy) (Nat.le_refl no))
      refine lv_if_eq (tgt := 157) hx hb dX3_draw_144 (by decide) (fun c2 => ?_) (fun c2 => ?_)
      · have hg : (gW (sLo f ea lt le mo d y no) (sHi la ea lt le mo d y no) (fun q => w d (q - f d))) j = 0 := if_neg (hho.f c2)
        refine lv_iconst (v := 0) hx hb dX3_draw_157 (by decide) ?_
        refine lv_iadd hx hb dX3_draw_158 ?_
        rw [show (0 : Int32) = nI ((gW (sLo f ea lt le mo d y no) (sHi la ea lt le mo d y no) (fun q => w d (q - f d))) j) from by rw [hg]; rfl, nI_add, ← sSum_succ (by omega)]
        refine lv_istore (lv' := [(7, .int (nI (sSum (gW (sLo f ea lt le mo d y no) (sHi la ea lt le mo d y no) (fun q => w d (q - f d))) (f d) (j + 1 - f d)))), (8, .int (nI j)), (5, .long (lN (X9 % (sSum (gW (sLo f ea lt le mo d y no) (sHi la ea lt le mo d y no) (fun q => w d (q - f d))) (f d) (la d + 1 - f d))))), (3, .int (nI (8 * ch + d))), (0, .ref (ad 200)), (1, .int (nI ch)), (2, .int (nI d))]) hx hb dX3_draw_159 hl (by decide) rfl (fun ls hl => ?_)
        rw [show nI j = nI (j + 1) - 1 from (nI_pred j).symm] at hl
        refine lv_goto (tgt := 116) hx hb dX3_draw_161 (by decide) ?_
        exact ih (j + 1) (nI j) H locs ls (by omega) (by omega) (by omega) (Or.inr ⟨by omega, rfl, hle⟩) hR hS (lv_sub hl [1, 0, 2, 3, 4, 5, 6] rfl)
      · have hg : (gW (sLo f ea lt le mo d y no) (sHi la ea lt le mo d y no) (fun q => w d (q - f d))) j = w d (j - f d) := if_pos (hho.t c2)
        refine lv_aload_n hx hb dX3_draw_147 rfl (lv_at hl 4 rfl) ?_
        refine lv_iload_n hx hb dX3_draw_148 rfl (lv_at hl 6 rfl) ?_
        refine lv_iload hx hb dX3_draw_149 (lv_at hl 0 rfl) ?_
        refine kc_i (va_runV (As := [.int (nI d), .int (nI j)]) (rest := [.int (nI (sSum (gW (sLo f ea lt le mo d y no) (sHi la ea lt le mo d y no) (fun q => w d (q - f d))) (f d) (j - f d)))]) ⟨hx, hb, hml, hown, hts⟩ (mX3_weightOf (va_up I 209 (upd (I 209) (8 * ch + d) (nI j))) L d j hMs1 hwf hd (by omega) (by omega)) (cwV 2 hts (kw_V k591 k593 ks29 k5 k594) rfl rfl rfl (by decide +kernel) ⟨Nat.le_trans (Nat.le_of_ble_eq_true rfl) hRf, Nat.le_trans (Nat.le_of_ble_eq_true rfl) hRl⟩) (kB_preV hE hR hS 200 rfl rfl [.int (nI d), .int (nI j)]) rfl rfl hl.1 rfl (lv_room (Nat.le_of_ble_eq_true rfl)) dX3_draw_151 ⟨hRc, hRs⟩) hS (fun r u H locs hw hR hS => ?_)
        obtain ⟨rfl, rfl⟩ := hw
        have hR : tR D vwCl base ad (tC (wP n ad cs) (va_up I 209 (upd (I 209) (8 * ch + d) (nI j))) L) H := hR
        refine lv_goto (tgt := 158) hx hb dX3_draw_154 (by decide) ?_
        refine lv_iadd hx hb dX3_draw_158 ?_
        rw [show nI (w d (j - f d)) = nI ((gW (sLo f ea lt le mo d y no) (sHi la ea lt le mo d y no) (fun q => w d (q - f d))) j) from by rw [hg], nI_add, ← sSum_succ (by omega)]
        refine lv_istore (lv' := [(7, .int (nI (sSum (gW (sLo f ea lt le mo d y no) (sHi la ea lt le mo d y no) (fun q => w d (q - f d))) (f d) (j + 1 - f d)))), (8, .int (nI j)), (5, .long (lN (X9 % (sSum (gW (sLo f ea lt le mo d y no) (sHi la ea lt le mo d y no) (fun q => w d (q - f d))) (f d) (la d + 1 - f d))))), (3, .int (nI (8 * ch + d))), (0, .ref (ad 200)), (1, .int (nI ch)), (2, .int (nI d))]) hx hb dX3_draw_159 hl (by decide) rfl (fun ls hl => ?_)
        rw [show nI j = nI (j + 1) - 1 from (nI_pred j).symm] at hl
        refine lv_goto (tgt := 116) hx hb dX3_draw_161 (by decide) ?_
        exact ih (j + 1) (nI j) H locs ls (by omega) (by omega) (by omega) (Or.inr ⟨by omega, rfl, hle⟩) hR hS (lv_sub hl [1, 0, 2, 3, 4, 5, 6] rfl)
set_option maxHeartbeats 4000000 in
set_option maxRecDepth 100000 in
theorem mX3_draw (I : tI) (L : tL) {nd no : Nat} {f la : Nat → Nat} {ph : Nat → Int32} {w : Nat → Nat → Nat} {ea lt le mo : Nat → Nat} (ch d : Nat) (y : Nat → Nat) (hMs : cMs I nd no f la ph w ea lt le mo) (hwf : wfS nd no f la w ea lt le mo) (hch : ch < 4) (hd : d < nd) (hrow : rwM nd ch (I 209) y) (hwy : wfY nd no f la ea lt le mo y) : Met l yX3_draw wX3_draw ({ frames := 2, cells := 0, slots := 0, locals := 70 }) (va_Pc [.ref (ad 200), .int (nI ch), .int (nI d)] (kB D cs base sa n ad I L)) (va_Qv (fun (u : tI × tL) => u = (va_up I 209 (upd (I 209) (8 * ch + d) (nI (dY no f la w ea lt le mo d y (sX (stN (L 210 ch)))))), va_up L 210 (vp_updL (L 210) ch (stN (L 210 ch))))) (kA D cs base n ad) (fun q => base ≤ q)) 0 0 (fun q => base ≤ q) := by
  refine Met.ofW (cc := cX3_draw) (maxL := 9) (ret := none) (by decide) rfl ?_
  intro p e s m args below meth c s₁ Bd hml hv
  obtain ⟨rfl, hE, hR⟩ := hv
  have hx := Bd.exec
  have hb := Bd.bytes
  have hr := Bd.returns
  have hts := atoms_spec (ws := wX3_draw) Bd.pre
  have hown : s.vm.findClass RX3 = some m.cls := findClass_of_methodNamed Bd.named
  have hlocks := Bd.notSynchronized
  have hK := hE.K
  have hS : va_S (fun q => base ≤ q) s.heap s.heap [] := va_S.rf
  have hR : tR D vwCl base ad (tC (wP n ad cs) I L) s.heap := hR
  have hl := lv_entry ([.ref (ad 200), .int (nI ch), .int (nI d)]) (n := 9) (Nat.le_of_ble_eq_true rfl)
  rw [lg_entry_eq]
  generalize (lg_sl ([.ref (ad 200), .int (nI ch), .int (nI d)]) ++ List.replicate (9 - (lg_sl ([.ref (ad 200), .int (nI ch), .int (nI d)])).length) Slot.unset).toArray = ls at hl ⊢
  have hl : lv_has ls 9 [(0, .ref (ad 200)), (1, .int (nI ch)), (2, .int (nI d))] := hl
  obtain ⟨h_nd, h_no, h_d, h_o⟩ := id hwf
  obtain ⟨g1, g2, g3, g4⟩ := h_d d hd
  have h_tot := gW_tot hwf hwy hd
  have h_lh := wfY_lh hwf hwy hd
  have h_lo : f d ≤ sLo f ea lt le mo d y no := sLo_ge no
  have h_hi : sHi la ea lt le mo d y no ≤ la d := sHi_la no
  have htp : 0 < sSum (gW (sLo f ea lt le mo d y no) (sHi la ea lt le mo d y no) (fun q => w d (q - f d))) (f d) (la d + 1 - f d) := by rw [h_tot]; exact sSum_pos (by omega) (fun i hi => (g4 _ (by omega)).1)
  have htb : sSum (gW (sLo f ea lt le mo d y no) (sHi la ea lt le mo d y no) (fun q => w d (q - f d))) (f d) (la d + 1 - f d) ≤ 64 * 1000 := by rw [h_tot]; exact Nat.le_trans (sSum_le (B := 1000) (fun i hi => (g4 _ (by omega)).2)) (Nat.mul_le_mul (by omega) (Nat.le_refl _))
  refine lv_bipush (v := nI 8) hx hb dX3_draw_0 (by decide) ?_
  refine lv_iload_n hx hb dX3_draw_2 rfl (lv_at hl 1 rfl) ?_
  refine lv_imul hx hb dX3_draw_3 ?_
  rw [pk_mul]
  refine lv_iload_n hx hb dX3_draw_4 rfl (lv_at hl 2 rfl) ?_
  refine lv_iadd hx hb dX3_draw_5 ?_
  rw [nI_add]
  refine lv_istore_n (lv' := [(3, .int (nI (8 * ch + d))), (0, .ref (ad 200)), (1, .int (nI ch)), (2, .int (nI d))]) hx hb dX3_draw_6 rfl hl (by decide) rfl (fun ls hl => ?_)
  refine lv_iconst (v := 0) hx hb dX3_draw_7 (by decide) ?_
  rw [show (0 : Int32) = nI (sSum (gW (sLo f ea lt le mo d y no) (sHi la ea lt le mo d y no) (fun q => w d (q - f d))) (f d) (f d - f d)) from by rw [Nat.sub_self]; rfl]
  refine lv_istore (lv' := [(4, .int (nI (sSum (gW (sLo f ea lt le mo d y no) (sHi la ea lt le mo d y no) (fun q => w d (q - f d))) (f d) (f d - f d)))), (3, .int (nI (8 * ch + d))), (0, .ref (ad 200)), (1, .int (nI ch)), (2, .int (nI d))]) hx hb dX3_draw_8 hl (by decide) rfl (fun ls hl => ?_)
  refine lv_aload_n hx hb dX3_draw_10 rfl (lv_at hl 2 rfl) ?_
  refine tb_get hx hb hts (fun w h => List.mem_cons_of_mem _ (inX3 w h)) hown hK hR 200 rfl rfl 4 (by decide) (hts _ (List.mem_cons_of_mem _ k482)) (fun _ h => h) rfl dX3_draw_11 ?_
  refine lv_iload_n hx hb dX3_draw_14 rfl (lv_at hl 4 rfl) ?_
  refine tp_iald hx hb hK hR 201 0 (fun _ _ => rfl) rfl d rfl (by omega) (by decide) dX3_draw_15 ?_
  rw [show I 201 d = nI (f d) from (hMs.2.2.1 d (by omega)).1]
  refine lv_istore (lv' := [(5, .int (nI (f d))), (4, .int (nI (sSum (gW (sLo f ea lt le mo d y no) (sHi la ea lt le mo d y no) (fun q => w d (q - f d))) (f d) (f d - f d)))), (3, .int (nI (8 * ch + d))), (0, .ref (ad 200)), (1, .int (nI ch)), (2, .int (nI d))]) hx hb dX3_draw_16 hl (by decide) rfl (fun ls hl => ?_)
  have hR : tR D vwCl base ad (tC (wP n ad cs) (va_up I 209 (upd (I 209) (8 * ch + d) (I 209 (8 * ch + d)))) L) s.heap := by rw [upd_id, va_up_id]; exact hR
  refine lpX3_draw ⟨hx, hb, hml, hown, hts⟩ hE (Nat.le_of_ble_eq_true rfl) (Nat.le_of_ble_eq_true rfl) (Nat.le_of_ble_eq_true rfl) (Nat.le_of_ble_eq_true rfl) I L ch d y hMs hwf hch hd hrow hwy (fun x9 H locs ls _ hR hS hl => ?_) (la d + 2 - f d) (f d) _ _ _ ls (by omega) (by omega) (Nat.le_refl _) hR hS (lv_sub hl [0, 1, 2, 3, 4, 5] rfl)
  refine lv_aload_n hx hb dX3_draw_68 rfl (lv_at hl 3 rfl) ?_
  refine tb_get hx hb hts (fun w h => List.mem_cons_of_mem _ (inX3 w h)) hown hK hR 200 rfl rfl 19 (by decide) (hts _ (List.mem_cons_of_mem _ k497)) (fun _ h => h) rfl dX3_draw_69 ?_
  refine lv_iload_n hx hb dX3_draw_72 rfl (lv_at hl 4 rfl) ?_
  refine lv_ldc2 (v := 6364136223846793005) hx hb hown (hts _ (List.mem_cons_of_mem _ k644)) dX3_draw_73 ?_
  refine lv_aload_n hx hb dX3_draw_76 rfl (lv_at hl 3 rfl) ?_
  refine tb_get hx hb hts (fun w h => List.mem_cons_of_mem _ (inX3 w h)) hown hK hR 200 rfl rfl 19 (by decide) (hts _ (List.mem_cons_of_mem _ k497)) (fun _ h => h) rfl dX3_draw_77 ?_
  refine lv_iload_n hx hb dX3_draw_80 rfl (lv_at hl 4 rfl) ?_
  refine tp_lald hx hb hK hR 210 1 (fun _ _ => rfl) rfl ch rfl (by omega) (by decide) dX3_draw_81 ?_
  refine lv_lmul hx hb dX3_draw_82 ?_
  refine lv_ldc2 (v := 1442695040888963407) hx hb hown (hts _ (List.mem_cons_of_mem _ k645)) dX3_draw_83 ?_
  refine lv_ladd hx hb dX3_draw_86 ?_
  refine tp_last hx hb hK hR hS 210 1 (fun _ _ => rfl) rfl ch rfl (by omega) (by decide) dX3_draw_87 (fun H locs hR hS => ?_)
  have hR : tR D vwCl base ad (tC (wP n ad cs) (va_up I 209 (upd (I 209) (8 * ch + d) x9)) (va_up L 210 (vp_updL (L 210) ch (stN (L 210 ch))))) H := hR
  refine lv_aload_n hx hb dX3_draw_88 rfl (lv_at hl 3 rfl) ?_
  refine tb_get hx hb hts (fun w h => List.mem_cons_of_mem _ (inX3 w h)) hown hK hR 200 rfl rfl 19 (by decide) (hts _ (List.mem_cons_of_mem _ k497)) (fun _ h => h) rfl dX3_draw_89 ?_
  refine lv_iload_n hx hb dX3_draw_92 rfl (lv_at hl 4 rfl) ?_
  refine tp_lald hx hb hK hR 210 1 (fun _ _ => rfl) rfl ch rfl (by omega) (by decide) dX3_draw_93 ?_
  rw [show (va_up L 210 (vp_updL (L 210) ch (stN (L 210 ch)))) 210 ch = stN (L 210 ch) from (by rw [va_up_self, vp_updL_self])]
  refine lv_bipush (v := 33) hx hb dX3_draw_94 (by decide) ?_
  refine lv_lushr hx hb dX3_draw_96 rfl ?_
  rw [show (((stN (L 210 ch)).toUInt64 >>> ((33 : Int32).toInt64.toUInt64 &&& Int64.toUInt64 63)).toInt64) = lN (sX (stN (L 210 ch))) from sX_eq _]
  refine lv_iload hx hb dX3_draw_97 (lv_at hl 1 rfl) ?_
  refine lv_i2l hx hb dX3_draw_99 rfl ?_
  rw [nI_l (by omega)]
  refine lv_lrem hx hb dX3_draw_100 (lN_ne0 htp (by omega)) ?_
  rw [pk_lRem (by have := sX_lt (stN (L 210 ch)); omega) htp (by omega)]
  refine lv_lstore (lv' := [(5, .long (lN (sX (stN (L 210 ch)) % (sSum (gW (sLo f ea lt le mo d y no) (sHi la ea lt le mo d y no) (fun q => w d (q - f d))) (f d) (la d + 1 - f d))))), (4, .int (nI (sSum (gW (sLo f ea lt le mo d y no) (sHi la ea lt le mo d y no) (fun q => w d (q - f d))) (f d) ((la d + 1) - f d)))), (3, .int (nI (8 * ch + d))), (0, .ref (ad 200)), (1, .int (nI ch)), (2, .int (nI d))]) hx hb dX3_draw_101 hl (by decide) rfl (fun ls hl => ?_)
  refine lv_iconst (v := 0) hx hb dX3_draw_103 (by decide) ?_
  rw [show (0 : Int32) = nI (sSum (gW (sLo f ea lt le mo d y no) (sHi la ea lt le mo d y no) (fun q => w d (q - f d))) (f d) (f d - f d)) from by rw [Nat.sub_self]; rfl]
  refine lv_istore (lv' := [(7, .int (nI (sSum (gW (sLo f ea lt le mo d y no) (sHi la ea lt le mo d y no) (fun q => w d (q - f d))) (f d) (f d - f d)))), (5, .long (lN (sX (stN (L 210 ch)) % (sSum (gW (sLo f ea lt le mo d y no) (sHi la ea lt le mo d y no) (fun q => w d (q - f d))) (f d) (la d + 1 - f d))))), (4, .int (nI (sSum (gW (sLo f ea lt le mo d y no) (sHi la ea lt le mo d y no) (fun q => w d (q - f d))) (f d) ((la d + 1) - f d)))), (3, .int (nI (8 * ch + d))), (0, .ref (ad 200)), (1, .int (nI ch)), (2, .int (nI d))]) hx hb dX3_draw_104 hl (by decide) rfl (fun ls hl => ?_)
  refine lv_aload_n hx hb dX3_draw_106 rfl (lv_at hl 4 rfl) ?_
  refine tb_get hx hb hts (fun w h => List.mem_cons_of_mem _ (inX3 w h)) hown hK hR 200 rfl rfl 4 (by decide) (hts _ (List.mem_cons_of_mem _ k482)) (fun _ h => h) rfl dX3_draw_107 ?_
  refine lv_iload_n hx hb dX3_draw_110 rfl (lv_at hl 6 rfl) ?_
  refine tp_iald hx hb hK hR 201 0 (fun _ _ => rfl) rfl d rfl (by omega) (by decide) dX3_draw_111 ?_
  rw [show (va_up I 209 (upd (I 209) (8 * ch + d) x9)) 201 d = nI (f d) from (by rw [va_up_ne _ _ (by omega)]; exact (hMs.2.2.1 d (by omega)).1)]
  refine lv_iconst (v := 1) hx hb dX3_draw_112 (by decide) ?_
  refine lv_isub hx hb dX3_draw_113 ?_
  refine lv_istore (lv' := [(8, .int ((nI (f d)) - 1)), (7, .int (nI (sSum (gW (sLo f ea lt le mo d y no) (sHi la ea lt le mo d y no) (fun q => w d (q - f d))) (f d) (f d - f d)))), (5, .long (lN (sX (stN (L 210 ch)) % (sSum (gW (sLo f ea lt le mo d y no) (sHi la ea lt le mo d y no) (fun q => w d (q - f d))) (f d) (la d + 1 - f d))))), (4, .int (nI (sSum (gW (sLo f ea lt le mo d y no) (sHi la ea lt le mo d y no) (fun q => w d (q - f d))) (f d) ((la d + 1) - f d)))), (3, .int (nI (8 * ch + d))), (0, .ref (ad 200)), (1, .int (nI ch)), (2, .int (nI d))]) hx hb dX3_draw_114 hl (by decide) rfl (fun ls hl => ?_)
  refine lqX3_draw ⟨hx, hb, hml, hown, hts⟩ hE (Nat.le_of_ble_eq_true rfl) (Nat.le_of_ble_eq_true rfl) (Nat.le_of_ble_eq_true rfl) (Nat.le_of_ble_eq_true rfl) I (va_up L 210 (vp_updL (L 210) ch (stN (L 210 ch)))) ch d (sX (stN (L 210 ch))) y hMs hwf hch hd hrow hwy htp (by omega) (fun x9 H locs ls hfin hR hS hl => ?_) (la d + 2 - f d) (f d) x9 _ _ ls (by omega) (by omega) (Nat.le_refl _) (Or.inl rfl) hR hS (lv_sub hl [0, 1, 2, 4, 5, 6, 7] rfl)
  subst hfin
  exact W.vret hx hb hr (fun t ht hW => ⟨⟨(va_up I 209 (upd (I 209) (8 * ch + d) (nI (dY no f la w ea lt le mo d y (sX (stN (L 210 ch)))))), va_up L 210 (vp_updL (L 210) ch (stN (L 210 ch)))), rfl, rfl, by show tR _ _ _ _ _ t.heap; rw [ht]; exact hR⟩, hS.F ht⟩) hS.2.2 dX3_draw_164
end M4
