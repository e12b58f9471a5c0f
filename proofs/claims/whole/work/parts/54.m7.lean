section M7
variable {l : Launch} {D : va_G} {cs : Nat → ClassId} {base : Nat} {sa : Nat → Nat} {n : Nat} {ad : Nat → Nat}
set_option maxHeartbeats 4000000 in
set_option maxRecDepth 100000 in
theorem lpX3_spanOf {p : Program} {e : Env} {R : Room} {s : State} {m : MethodId} {args : Array Value} {below : List Frame} {meth : Method} {c : Code} {cells slots : Nat} {Q : State → Prop} (S0 : CallFix p m c cX3_spanOf 6 s args wX3_spanOf RX3) (hE : eV D cs base sa s) (hRf : 0 ≤ R.frames) (hRl : 0 ≤ R.locals) (hRc : cells ≤ R.cells) (hRs : slots ≤ R.slots) (I : tI) (L : tL) {nd no : Nat} {f la : Nat → Nat} {ph : Nat → Int32} {w : Nat → Nat → Nat} {ea lt le mo : Nat → Nat} {bu ev sd sv : Nat} {se : Int32} {Y : Nat → Nat → Nat} {st : Nat → Int64} {Rw : Nat → Nat → Nat → Nat} {kp sp : Nat} (x : Int32) (ch kr : Nat) (hMs : cMs I nd no f la ph w ea lt le mo) (hwf : wfS nd no f la w ea lt le mo) (hMf : cMf I n bu ev sd sv se) (hMo : cMo I L n nd Y st Rw kp sp) (hch : ch < n) (hkr : kr < kp) (hk60 : kp ≤ 60) (hRb : ∀ d, d < nd → Rw ch kr d ≤ 255)
    (kx : ∀ (H : Heap) (locs : List Loc) (ls : Array Slot), tR D vwCl base ad (tC (wP n ad cs) I L) H → va_S (fun q => base ≤ q) s.heap H locs → lv_has ls 6 [(5, .int (nI nd)), (4, .int (hI (spH ph x (Rw ch kr) nd))), (3, .int (nI (spL ph x (Rw ch kr) 1000 nd))), (0, .ref (ad 200)), (1, .int x), (2, .int (nI (8 * (60 * ch + kr))))] → W p l e R s m args below meth c H locs cells slots Q (F0 m 96 ls [])) :
    ∀ (k j : Nat) (H : Heap) (locs : List Loc) (ls : Array Slot), j ≤ nd → nd + 1 ≤ j + k → tR D vwCl base ad (tC (wP n ad cs) I L) H → va_S (fun q => base ≤ q) s.heap H locs → lv_has ls 6 [(5, .int (nI j)), (4, .int (hI (spH ph x (Rw ch kr) j))), (3, .int (nI (spL ph x (Rw ch kr) 1000 j))), (0, .ref (ad 200)), (1, .int x), (2, .int (nI (8 * (60 * ch + kr))))] → W p l e R s m args below meth c H locs cells slots Q (F0 m 10 ls []) := by
  obtain ⟨hx, hb, hml, hown, hts⟩ := S0
  have hK := hE.K
  obtain ⟨h_nd, h_no, h_d, h_o⟩ := id hwf
  obtain ⟨h_f1, h_f2, h_f3, h_f4, h_f5, h_f6, h_n1, h_n4, h_bu, h_e1, h_e2, h_s1, h_v4⟩ := id hMf
  intro k
  induction k with
  | zero => intro j  H locs ls h1 h2; exact absurd h2 (by omega)
  | succ k ih =>
    intro j  H locs ls hj hk  hR hS hl
    refine lv_iload hx hb dX3_spanOf_10 (lv_at hl 0 rfl) ?_
    refine lv_aload_n hx hb dX3_spanOf_12 rfl (lv_at hl 3 rfl) ?_
    refine tb_get hx hb hts (fun w h => List.mem_cons_of_mem _ (inX3 w h)) hown hK hR 200 rfl rfl 3 (by decide) (hts _ (List.mem_cons_of_mem _ k481)) (fun _ h => h) rfl dX3_spanOf_13 ?_
    rw [show I 200 3 = nI nd from hMs.1]
    refine lv_icmp_ge (tgt := 96) hx hb dX3_spanOf_16 (by decide) (fun c1 => ?_) (fun c1 => ?_)
    · have hjN : j = nd := by have e9 := (nI_leI (by omega) (by omega)).mp c1; omega
      subst hjN
      exact kx  H locs ls  hR hS (lv_sub hl [0, 1, 2, 3, 4, 5] rfl)
    · have hjN : j < nd := by
        rcases Nat.lt_or_ge j nd with q | q
        · exact q
        · exact absurd (nI_le (by omega) (by omega)) c1
      have h_r := hRb j hjN
      have h_sl := spL_le ph x (Rw ch kr) 1000 j
      have h_sh := spH_le (ph := ph) (x := x) (g := (Rw ch kr)) (j := j) (B := 255) (fun i hi => hRb i (by omega))
      refine lv_aload_n hx hb dX3_spanOf_19 rfl (lv_at hl 3 rfl) ?_
      refine tb_get hx hb hts (fun w h => List.mem_cons_of_mem _ (inX3 w h)) hown hK hR 200 rfl rfl 7 (by decide) (hts _ (List.mem_cons_of_mem _ k485)) (fun _ h => h) rfl dX3_spanOf_20 ?_
      refine lv_iload hx hb dX3_spanOf_23 (lv_at hl 0 rfl) ?_
      refine tp_iald hx hb hK hR 204 0 (fun _ _ => rfl) rfl j rfl (by omega) (by decide) dX3_spanOf_25 ?_
      rw [show I 204 j = ph j from (hMs.2.2.1 j (by omega)).2.2.1]
      refine lv_iload_n hx hb dX3_spanOf_26 rfl (lv_at hl 4 rfl) ?_
      refine lv_icmp_eq (tgt := 33) hx hb dX3_spanOf_27 (by decide) (fun c2 => ?_) (fun c2 => ?_)
      · have hq : ph j = x := c2
        refine lv_aload_n hx hb dX3_spanOf_33 rfl (lv_at hl 3 rfl) ?_
        refine tb_get hx hb hts (fun w h => List.mem_cons_of_mem _ (inX3 w h)) hown hK hR 200 rfl rfl 20 (by decide) (hts _ (List.mem_cons_of_mem _ k498)) (fun _ h => h) rfl dX3_spanOf_34 ?_
        refine lv_iload_n hx hb dX3_spanOf_37 rfl (lv_at hl 5 rfl) ?_
        refine lv_iload hx hb dX3_spanOf_38 (lv_at hl 0 rfl) ?_
        refine lv_iadd hx hb dX3_spanOf_40 ?_
        rw [nI_add]
        refine tp_iald hx hb hK hR 211 0 (fun _ _ => rfl) rfl (8 * (60 * ch + kr) + j) rfl (by omega) (by decide) dX3_spanOf_41 ?_
        rw [show I 211 (8 * (60 * ch + kr) + j) = nI (Rw ch kr j) from (hMo.2.2 ch hch).2.2 kr hkr j hjN]
        refine lv_iload_n hx hb dX3_spanOf_42 rfl (lv_at hl 2 rfl) ?_
        refine lv_icmp_ge (tgt := 58) hx hb dX3_spanOf_43 (by decide) (fun c3 => ?_) (fun c3 => ?_)
        · have hl1 : spL ph x (Rw ch kr) 1000 j = spL ph x (Rw ch kr) 1000 (j + 1) := by simp only [spL]; rw [if_pos hq, if_neg (Nat.not_lt.mpr ((nI_leI (by omega) (by omega)).mp c3))]
          refine lv_iload_n hx hb dX3_spanOf_58 rfl (lv_at hl 2 rfl) ?_
          rw [hl1]
          refine lv_istore_n (lv' := [(3, .int (nI (spL ph x (Rw ch kr) 1000 (j + 1)))), (5, .int (nI j)), (4, .int (hI (spH ph x (Rw ch kr) j))), (0, .ref (ad 200)), (1, .int x), (2, .int (nI (8 * (60 * ch + kr))))]) hx hb dX3_spanOf_59 rfl hl (by decide) rfl (fun ls hl => ?_)
          refine lv_aload_n hx hb dX3_spanOf_60 rfl (lv_at hl 3 rfl) ?_
          refine tb_get hx hb hts (fun w h => List.mem_cons_of_mem _ (inX3 w h)) hown hK hR 200 rfl rfl 20 (by decide) (hts _ (List.mem_cons_of_mem _ k498)) (fun _ h => h) rfl dX3_spanOf_61 ?_
          refine lv_iload_n hx hb dX3_spanOf_64 rfl (lv_at hl 5 rfl) ?_
          refine lv_iload hx hb dX3_spanOf_65 (lv_at hl 1 rfl) ?_
          refine lv_iadd hx hb dX3_spanOf_67 ?_
          rw [nI_add]
          refine tp_iald hx hb hK hR 211 0 (fun _ _ => rfl) rfl (8 * (60 * ch + kr) + j) rfl (by omega) (by decide) dX3_spanOf_68 ?_
          rw [show I 211 (8 * (60 * ch + kr) + j) = nI (Rw ch kr j) from (hMo.2.2 ch hch).2.2 kr hkr j hjN]
          refine lv_iload hx hb dX3_spanOf_69 (lv_at hl 2 rfl) ?_
          refine lv_icmp_le (tgt := 86) hx hb dX3_spanOf_71 (by decide) (fun c4 => ?_) (fun c4 => ?_)
          · have hl2 : hI (spH ph x (Rw ch kr) j) = hI (spH ph x (Rw ch kr) (j + 1)) := by simp only [spH]; rw [if_pos hq, if_neg (by have := (hI_le (by omega) (by omega)).mp c4; omega)]
            refine lv_iload hx hb dX3_spanOf_86 (lv_at hl 2 rfl) ?_
            rw [hl2]
            refine lv_istore (lv' := [(4, .int (hI (spH ph x (Rw ch kr) (j + 1)))), (3, .int (nI (spL ph x (Rw ch kr) 1000 (j + 1)))), (5, .int (nI j)), (0, .ref (ad 200)), (1, .int x), (2, .int (nI (8 * (60 * ch + kr))))]) hx hb dX3_spanOf_88 hl (by decide) rfl (fun ls hl => ?_)
            refine lv_iinc (v := nI (j + 1)) (lv' := [(5, .int (nI (j + 1))), (4, .int (hI (spH ph x (Rw ch kr) (j + 1)))), (3, .int (nI (spL ph x (Rw ch kr) 1000 (j + 1)))), (0, .ref (ad 200)), (1, .int x), (2, .int (nI (8 * (60 * ch + kr))))]) hx hb dX3_spanOf_90 hl (k := 2) rfl (nI_1 _) (by decide) rfl (fun ls hl => ?_)
            refine lv_goto (tgt := 10) hx hb dX3_spanOf_93 (by decide) ?_
            exact ih (j + 1)  H locs ls (by omega) (by omega)  hR hS (lv_sub hl [0, 1, 2, 3, 4, 5] rfl)
          · have hl2 : nI (Rw ch kr j) = hI (spH ph x (Rw ch kr) (j + 1)) := by simp only [spH]; rw [if_pos hq, if_pos (Nat.lt_of_not_le (fun q => c4 ((hI_le (by omega) (by omega)).mpr q)))]; rfl
            refine lv_aload_n hx hb dX3_spanOf_74 rfl (lv_at hl 3 rfl) ?_
            refine tb_get hx hb hts (fun w h => List.mem_cons_of_mem _ (inX3 w h)) hown hK hR 200 rfl rfl 20 (by decide) (hts _ (List.mem_cons_of_mem _ k498)) (fun _ h => h) rfl dX3_spanOf_75 ?_
            refine lv_iload_n hx hb dX3_spanOf_78 rfl (lv_at hl 5 rfl) ?_
            refine lv_iload hx hb dX3_spanOf_79 (lv_at hl 1 rfl) ?_
            refine lv_iadd hx hb dX3_spanOf_81 ?_
            rw [nI_add]
            refine tp_iald hx hb hK hR 211 0 (fun _ _ => rfl) rfl (8 * (60 * ch + kr) + j) rfl (by omega) (by decide) dX3_spanOf_82 ?_
            rw [show I 211 (8 * (60 * ch + kr) + j) = nI (Rw ch kr j) from (hMo.2.2 ch hch).2.2 kr hkr j hjN]
            refine lv_goto (tgt := 88) hx hb dX3_spanOf_83 (by decide) ?_
            rw [hl2]
            refine lv_istore (lv' := [(4, .int (hI (spH ph x (Rw ch kr) (j + 1)))), (3, .int (nI (spL ph x (Rw ch kr) 1000 (j + 1)))), (5, .int (nI j)), (0, .ref (ad 200)), (1, .int x), (2, .int (nI (8 * (60 * ch + kr))))]) hx hb dX3_spanOf_88 hl (by decide) rfl (fun ls hl => ?_)
            refine lv_iinc (v := nI (j + 1)) (lv' := [(5, .int (nI (j + 1))), (4, .int (hI (spH ph x (Rw ch kr) (j + 1)))), (3, .int (nI (spL ph x (Rw ch kr) 1000 (j + 1)))), (0, .ref (ad 200)), (1, .int x), (2, .int (nI (8 * (60 * ch + kr))))]) hx hb dX3_spanOf_90 hl (k := 2) rfl (nI_1 _) (by decide) rfl (fun ls hl => ?_)
            refine lv_goto (tgt := 10) hx hb dX3_spanOf_93 (by decide) ?_
            exact ih (j + 1)  H locs ls (by omega) (by omega)  hR hS (lv_sub hl [0, 1, 2, 3, 4, 5] rfl)
        · have hl1 : Rw ch kr j = spL ph x (Rw ch kr) 1000 (j + 1) := by simp only [spL]; rw [if_pos hq, if_pos (Nat.lt_of_not_le (fun q => c3 (nI_le q (by omega))))]
          refine lv_aload_n hx hb dX3_spanOf_46 rfl (lv_at hl 3 rfl) ?_
          refine tb_get hx hb hts (fun w h => List.mem_cons_of_mem _ (inX3 w h)) hown hK hR 200 rfl rfl 20 (by decide) (hts _ (List.mem_cons_of_mem _ k498)) (fun _ h => h) rfl dX3_spanOf_47 ?_
          refine lv_iload_n hx hb dX3_spanOf_50 rfl (lv_at hl 5 rfl) ?_
          refine lv_iload hx hb dX3_spanOf_51 (lv_at hl 0 rfl) ?_
          refine lv_iadd hx hb dX3_spanOf_53 ?_
          rw [nI_add]
          refine tp_iald hx hb hK hR 211 0 (fun _ _ => rfl) rfl (8 * (60 * ch + kr) + j) rfl (by omega) (by decide) dX3_spanOf_54 ?_
          rw [show I 211 (8 * (60 * ch + kr) + j) = nI (Rw ch kr j) from (hMo.2.2 ch hch).2.2 kr hkr j hjN]
          refine lv_goto (tgt := 59) hx hb dX3_spanOf_55 (by decide) ?_
          rw [hl1]
          refine lv_istore_n (lv' := [(3, .int (nI (spL ph x (Rw ch kr) 1000 (j + 1)))), (5, .int (nI j)), (4, .int (hI (spH ph x (Rw ch kr) j))), (0, .ref (ad 200)), (1, .int x), (2, .int (nI (8 * (60 * ch + kr))))]) hx hb dX3_spanOf_59 rfl hl (by decide) rfl (fun ls hl => ?_)
          refine lv_aload_n hx hb dX3_spanOf_60 rfl (lv_at hl 3 rfl) ?_
          refine tb_get hx hb hts (fun w h => List.mem_cons_of_mem _ (inX3 w h)) hown hK hR 200 rfl rfl 20 (by decide) (hts _ (List.mem_cons_of_mem _ k498)) (fun _ h => h) rfl dX3_spanOf_61 ?_
          refine lv_iload_n hx hb dX3_spanOf_64 rfl (lv_at hl 5 rfl) ?_
          refine lv_iload hx hb dX3_spanOf_65 (lv_at hl 1 rfl) ?_
          refine lv_iadd hx hb dX3_spanOf_67 ?_
          rw [nI_add]
          refine tp_iald hx hb hK hR 211 0 (fun _ _ => rfl) rfl (8 * (60 * ch + kr) + j) rfl (by omega) (by decide) dX3_spanOf_68 ?_
          rw [show I 211 (8 * (60 * ch + kr) + j) = nI (Rw ch kr j) from (hMo.2.2 ch hch).2.2 kr hkr j hjN]
          refine lv_iload hx hb dX3_spanOf_69 (lv_at hl 2 rfl) ?_
          refine lv_icmp_le (tgt := 86) hx hb dX3_spanOf_71 (by decide) (fun c5 => ?_) (fun c5 => ?_)
          · have hl2 : hI (spH ph x (Rw ch kr) j) = hI (spH ph x (Rw ch kr) (j + 1)) := by simp only [spH]; rw [if_pos hq, if_neg (by have := (hI_le (by omega) (by omega)).mp c5; omega)]
            refine lv_iload hx hb dX3_spanOf_86 (lv_at hl 2 rfl) ?_
            rw [hl2]
            refine lv_istore (lv' := [(4, .int (hI (spH ph x (Rw ch kr) (j + 1)))), (3, .int (nI (spL ph x (Rw ch kr) 1000 (j + 1)))), (5, .int (nI j)), (0, .ref (ad 200)), (1, .int x), (2, .int (nI (8 * (60 * ch + kr))))]) hx hb dX3_spanOf_88 hl (by decide) rfl (fun ls hl => ?_)
            refine lv_iinc (v := nI (j + 1)) (lv' := [(5, .int (nI (j + 1))), (4, .int (hI (spH ph x (Rw ch kr) (j + 1)))), (3, .int (nI (spL ph x (Rw ch kr) 1000 (j + 1)))), (0, .ref (ad 200)), (1, .int x), (2, .int (nI (8 * (60 * ch + kr))))]) hx hb dX3_spanOf_90 hl (k := 2) rfl (nI_1 _) (by decide) rfl (fun ls hl => ?_)
            refine lv_goto (tgt := 10) hx hb dX3_spanOf_93 (by decide) ?_
            exact ih (j + 1)  H locs ls (by omega) (by omega)  hR hS (lv_sub hl [0, 1, 2, 3, 4, 5] rfl)
          · have hl2 : nI (Rw ch kr j) = hI (spH ph x (Rw ch kr) (j + 1)) := by simp only [spH]; rw [if_pos hq, if_pos (Nat.lt_of_not_le (fun q => c5 ((hI_le (by omega) (by omega)).mpr q)))]; rfl
            refine lv_aload_n hx hb dX3_spanOf_74 rfl (lv_at hl 3 rfl) ?_
            refine tb_get hx hb hts (fun w h => List.mem_cons_of_mem _ (inX3 w h)) hown hK hR 200 rfl rfl 20 (by decide) (hts _ (List.mem_cons_of_mem _ k498)) (fun _ h => h) rfl dX3_spanOf_75 ?_
            refine lv_iload_n hx hb dX3_spanOf_78 rfl (lv_at hl 5 rfl) ?_
            refine lv_iload hx hb dX3_spanOf_79 (lv_at hl 1 rfl) ?_
            refine lv_iadd hx hb dX3_spanOf_81 ?_
            rw [nI_add]
            refine tp_iald hx hb hK hR 211 0 (fun _ _ => rfl) rfl (8 * (60 * ch + kr) + j) rfl (by omega) (by decide) dX3_spanOf_82 ?_
            rw [show I 211 (8 * (60 * ch + kr) + j) = nI (Rw ch kr j) from (hMo.2.2 ch hch).2.2 kr hkr j hjN]
            refine lv_goto (tgt := 88) hx hb dX3_spanOf_83 (by decide) ?_
            rw [hl2]
            refine lv_istore (lv' := [(4, .int (hI (spH ph x (Rw ch kr) (j + 1)))), (3, .int (nI (spL ph x (Rw ch kr) 1000 (j + 1)))), (5, .int (nI j)), (0, .ref (ad 200)), (1, .int x), (2, .int (nI (8 * (60 * ch + kr))))]) hx hb dX3_spanOf_88 hl (by decide) rfl (fun ls hl => ?_)
            refine lv_iinc (v := nI (j + 1)) (lv' := [(5, .int (nI (j + 1))), (4, .int (hI (spH ph x (Rw ch kr) (j + 1)))), (3, .int (nI (spL ph x (Rw ch kr) 1000 (j + 1)))), (0, .ref (ad 200)), (1, .int x), (2, .int (nI (8 * (60 * ch + kr))))]) hx hb dX3_spanOf_90 hl (k := 2) rfl (nI_1 _) (by decide) rfl (fun ls hl => ?_)
            refine lv_goto (tgt := 10) hx hb dX3_spanOf_93 (by decide) ?_
            exact ih (j + 1)  H locs ls (by omega) (by omega)  hR hS (lv_sub hl [0, 1, 2, 3, 4, 5] rfl)
      · have hq : ¬ ph j = x := c2
        rw [show spH ph x (Rw ch kr) j = spH ph x (Rw ch kr) (j + 1) from (if_neg hq).symm, show spL ph x (Rw ch kr) 1000 j = spL ph x (Rw ch kr) 1000 (j + 1) from (if_neg hq).symm] at hl
        refine lv_goto (tgt := 90) hx hb dX3_spanOf_30 (by decide) ?_
        refine lv_iinc (v := nI (j + 1)) (lv' := [(5, .int (nI (j + 1))), (4, .int (hI (spH ph x (Rw ch kr) (j + 1)))), (3, .int (nI (spL ph x (Rw ch kr) 1000 (j + 1)))), (0, .ref (ad 200)), (1, .int x), (2, .int (nI (8 * (60 * ch + kr))))]) hx hb dX3_spanOf_90 hl (k := 0) rfl (nI_1 _) (by decide) rfl (fun ls hl => ?_)
        refine lv_goto (tgt := 10) hx hb dX3_spanOf_93 (by decide) ?_
        exact ih (j + 1)  H locs ls (by omega) (by omega)  hR hS (lv_sub hl [0, 1, 2, 3, 4, 5] rfl)
set_option maxHeartbeats 4000000 in
set_option maxRecDepth 100000 in
theorem mX3_spanOf (I : tI) (L : tL) {nd no : Nat} {f la : Nat → Nat} {ph : Nat → Int32} {w : Nat → Nat → Nat} {ea lt le mo : Nat → Nat} {bu ev sd sv : Nat} {se : Int32} {Y : Nat → Nat → Nat} {st : Nat → Int64} {Rw : Nat → Nat → Nat → Nat} {kp sp : Nat} (x : Int32) (ch kr : Nat) (hMs : cMs I nd no f la ph w ea lt le mo) (hwf : wfS nd no f la w ea lt le mo) (hMf : cMf I n bu ev sd sv se) (hMo : cMo I L n nd Y st Rw kp sp) (hch : ch < n) (hkr : kr < kp) (hk60 : kp ≤ 60) (hRb : ∀ d, d < nd → Rw ch kr d ≤ 255) : Met l yX3_spanOf wX3_spanOf ({ frames := 0, cells := 0, slots := 0, locals := 0 }) (va_Pc [.ref (ad 200), .int x, .int (nI (8 * (60 * ch + kr)))] (kB D cs base sa n ad I L)) (va_Qi (fun (r : Int32) (u : tI × tL) => r = spV ph x (Rw ch kr) nd ∧ u = (I, L)) (kA D cs base n ad) (fun q => base ≤ q)) 0 0 (fun q => base ≤ q) := by
  refine Met.ofW (cc := cX3_spanOf) (maxL := 6) (ret := (some .int)) (by decide) rfl ?_
  intro p e s m args below meth c s₁ Bd hml hv
  obtain ⟨rfl, hE, hR⟩ := hv
  have hx := Bd.exec
  have hb := Bd.bytes
  have hr := Bd.returns
  have hts := atoms_spec (ws := wX3_spanOf) Bd.pre
  have hown : s.vm.findClass RX3 = some m.cls := findClass_of_methodNamed Bd.named
  have hlocks := Bd.notSynchronized
  have hK := hE.K
  have hS : va_S (fun q => base ≤ q) s.heap s.heap [] := va_S.rf
  have hR : tR D vwCl base ad (tC (wP n ad cs) I L) s.heap := hR
  have hl := lv_entry ([.ref (ad 200), .int x, .int (nI (8 * (60 * ch + kr)))]) (n := 6) (Nat.le_of_ble_eq_true rfl)
  rw [lg_entry_eq]
  generalize (lg_sl ([.ref (ad 200), .int x, .int (nI (8 * (60 * ch + kr)))]) ++ List.replicate (6 - (lg_sl ([.ref (ad 200), .int x, .int (nI (8 * (60 * ch + kr)))])).length) Slot.unset).toArray = ls at hl ⊢
  have hl : lv_has ls 6 [(0, .ref (ad 200)), (1, .int x), (2, .int (nI (8 * (60 * ch + kr))))] := hl
  obtain ⟨h_nd, h_no, h_d, h_o⟩ := id hwf
  obtain ⟨h_f1, h_f2, h_f3, h_f4, h_f5, h_f6, h_n1, h_n4, h_bu, h_e1, h_e2, h_s1, h_v4⟩ := id hMf
  have h_sh := spH_le (ph := ph) (x := x) (g := (Rw ch kr)) (j := nd) (B := 255) hRb
  refine lv_sipush (v := 1000) hx hb dX3_spanOf_0 (by decide) ?_
  rw [show (1000 : Int32) = nI (spL ph x (Rw ch kr) 1000 0) from rfl]
  refine lv_istore_n (lv' := [(3, .int (nI (spL ph x (Rw ch kr) 1000 0))), (0, .ref (ad 200)), (1, .int x), (2, .int (nI (8 * (60 * ch + kr))))]) hx hb dX3_spanOf_3 rfl hl (by decide) rfl (fun ls hl => ?_)
  refine lv_iconst (v := -1) hx hb dX3_spanOf_4 (by decide) ?_
  rw [show (-1 : Int32) = hI (spH ph x (Rw ch kr) 0) from rfl]
  refine lv_istore (lv' := [(4, .int (hI (spH ph x (Rw ch kr) 0))), (3, .int (nI (spL ph x (Rw ch kr) 1000 0))), (0, .ref (ad 200)), (1, .int x), (2, .int (nI (8 * (60 * ch + kr))))]) hx hb dX3_spanOf_5 hl (by decide) rfl (fun ls hl => ?_)
  refine lv_iconst (v := 0) hx hb dX3_spanOf_7 (by decide) ?_
  rw [show (0 : Int32) = nI 0 from nI_0.symm]
  refine lv_istore (lv' := [(5, .int (nI 0)), (4, .int (hI (spH ph x (Rw ch kr) 0))), (3, .int (nI (spL ph x (Rw ch kr) 1000 0))), (0, .ref (ad 200)), (1, .int x), (2, .int (nI (8 * (60 * ch + kr))))]) hx hb dX3_spanOf_8 hl (by decide) rfl (fun ls hl => ?_)
  refine lpX3_spanOf ⟨hx, hb, hml, hown, hts⟩ hE (Nat.zero_le _) (Nat.zero_le _) (Nat.le_of_ble_eq_true rfl) (Nat.le_of_ble_eq_true rfl) I L x ch kr hMs hwf hMf hMo hch hkr hk60 hRb (fun H locs ls hR hS hl => ?_) (nd + 1) 0 _ _ ls (Nat.zero_le _) (by omega) hR hS (lv_sub hl [0, 1, 2, 3, 4, 5] rfl)
  refine lv_iload hx hb dX3_spanOf_96 (lv_at hl 1 rfl) ?_
  refine lv_if_ge (tgt := 105) hx hb dX3_spanOf_98 (by decide) (fun c1 => ?_) (fun c1 => ?_)
  · have hq := (hI_ge (by omega)).mp c1
    have hq2 := sp_lh (b := 1000) hq
    rw [hI_s hq] at hl
    refine lv_iload hx hb dX3_spanOf_105 (lv_at hl 1 rfl) ?_
    refine lv_iload_n hx hb dX3_spanOf_107 rfl (lv_at hl 2 rfl) ?_
    refine lv_isub hx hb dX3_spanOf_108 ?_
    rw [pk_sub (by omega), spV_m hRb hq]
    exact W.iret (v := spV ph x (Rw ch kr) nd) hx hb hr (fun t ht hW => ⟨⟨_, (I, L), rfl, ⟨rfl, rfl⟩, by show tR _ _ _ _ _ t.heap; rw [ht]; exact hR⟩, hS.F ht⟩) hS.2.2 dX3_spanOf_109
  · have hq : spH ph x (Rw ch kr) nd = 0 := Classical.byContradiction (fun z => c1 ((hI_ge (by omega)).mpr z))
    refine lv_iconst (v := -1) hx hb dX3_spanOf_101 (by decide) ?_
    refine lv_goto (tgt := 109) hx hb dX3_spanOf_102 (by decide) ?_
    exact W.iret (v := (-1)) hx hb hr (fun t ht hW => ⟨⟨_, (I, L), rfl, ⟨by unfold spV; rw [if_pos hq], rfl⟩, by show tR _ _ _ _ _ t.heap; rw [ht]; exact hR⟩, hS.F ht⟩) hS.2.2 dX3_spanOf_109
set_option maxHeartbeats 4000000 in
set_option maxRecDepth 100000 in
theorem lpX3_spans {p : Program} {e : Env} {R : Room} {s : State} {m : MethodId} {args : Array Value} {below : List Frame} {meth : Method} {c : Code} {cells slots : Nat} {Q : State → Prop} (S0 : CallFix p m c cX3_spans 5 s args wX3_spans RX3) (hE : eV D cs base sa s) (hRf : 1 ≤ R.frames) (hRl : 40 ≤ R.locals) (hRc : cells ≤ R.cells) (hRs : slots ≤ R.slots) (I : tI) (L : tL) {nd no : Nat} {f la : Nat → Nat} {ph : Nat → Int32} {w : Nat → Nat → Nat} {ea lt le mo : Nat → Nat} {bu ev sd sv : Nat} {se : Int32} {Y : Nat → Nat → Nat} {st : Nat → Int64} {Rw : Nat → Nat → Nat → Nat} {kp sp : Nat} (p0 p1 : Int32) (hMs : cMs I nd no f la ph w ea lt le mo) (hwf : wfS nd no f la w ea lt le mo) (hMf : cMf I n bu ev sd sv se) (hMo : cMo I L n nd Y st Rw kp sp) (hk60 : kp ≤ 60) (hRb : ∀ c, c < n → ∀ k, k < kp → ∀ d, d < nd → f d ≤ Rw c k d ∧ Rw c k d ≤ la d)
    (kx : ∀ (H : Heap) (locs : List Loc) (ls : Array Slot), tR D vwCl base ad (tC (wP n ad cs) I L) H → va_S (fun q => base ≤ q) s.heap H locs → lv_has ls 5 [(4, .int (nI (n * kp))), (3, .int (nI (sS (fun i => (fun c k => if spV ph p0 (Rw c k) nd = p1 then 1 else 0) (i / kp) (i % kp)) (n * kp)))), (0, .ref (ad 200)), (1, .int p0), (2, .int p1)] → W p l e R s m args below meth c H locs cells slots Q (F0 m 111 ls [])) :
    ∀ (k j : Nat) (H : Heap) (locs : List Loc) (ls : Array Slot), j ≤ n * kp → n * kp + 1 ≤ j + k → tR D vwCl base ad (tC (wP n ad cs) I L) H → va_S (fun q => base ≤ q) s.heap H locs → lv_has ls 5 [(4, .int (nI j)), (3, .int (nI (sS (fun i => (fun c k => if spV ph p0 (Rw c k) nd = p1 then 1 else 0) (i / kp) (i % kp)) j))), (0, .ref (ad 200)), (1, .int p0), (2, .int p1)] → W p l e R s m args below meth c H locs cells slots Q (F0 m 56 ls []) := by
  obtain ⟨hx, hb, hml, hown, hts⟩ := S0
  have hK := hE.K
  obtain ⟨h_nd, h_no, h_d, h_o⟩ := id hwf
  obtain ⟨h_f1, h_f2, h_f3, h_f4, h_f5, h_f6, h_n1, h_n4, h_bu, h_e1, h_e2, h_s1, h_v4⟩ := id hMf
  have h_nk : n * kp ≤ 240 := Nat.mul_le_mul h_n4 hk60
  intro k
  induction k with
  | zero => intro j  H locs ls h1 h2; exact absurd h2 (by omega)
  | succ k ih =>
    intro j  H locs ls hj hk  hR hS hl
    refine lv_iload hx hb dX3_spans_56 (lv_at hl 0 rfl) ?_
    refine lv_aload_n hx hb dX3_spans_58 rfl (lv_at hl 2 rfl) ?_
    refine tb_get hx hb hts (fun w h => List.mem_cons_of_mem _ (inX3 w h)) hown hK hR 200 rfl rfl 2 (by decide) (hts _ (List.mem_cons_of_mem _ k480)) (fun _ h => h) rfl dX3_spans_59 ?_
    rw [show I 200 2 = nI n from hMf.2.1]
    refine lv_aload_n hx hb dX3_spans_62 rfl (lv_at hl 2 rfl) ?_
    refine tb_get hx hb hts (fun w h => List.mem_cons_of_mem _ (inX3 w h)) hown hK hR 200 rfl rfl 17 (by decide) (hts _ (List.mem_cons_of_mem _ k495)) (fun _ h => h) rfl dX3_spans_63 ?_
    rw [show I 200 17 = nI kp from hMo.1]
    refine lv_imul hx hb dX3_spans_66 ?_
    rw [pk_mul]
    refine lv_icmp_ge (tgt := 111) hx hb dX3_spans_67 (by decide) (fun c1 => ?_) (fun c1 => ?_)
    · have hjN : j = n * kp := by have e9 := (nI_leI (by omega) (by omega)).mp c1; omega
      subst hjN
      exact kx  H locs ls  hR hS (lv_sub hl [0, 1, 2, 3, 4] rfl)
    · have hjN : j < n * kp := by
        rcases Nat.lt_or_ge j (n * kp) with q | q
        · exact q
        · exact absurd (nI_le (by omega) (by omega)) c1
      have hkp0 : 0 < kp := Nat.pos_of_ne_zero (fun z => by rw [z, Nat.mul_zero] at hjN; omega)
      have hjc : j / kp < n := (Nat.div_lt_iff_lt_mul hkp0).mpr hjN
      have hjk : j % kp < kp := Nat.mod_lt _ hkp0
      refine lv_iload_n hx hb dX3_spans_70 rfl (lv_at hl 1 rfl) ?_
      refine lv_aload_n hx hb dX3_spans_71 rfl (lv_at hl 2 rfl) ?_
      refine lv_iload_n hx hb dX3_spans_72 rfl (lv_at hl 3 rfl) ?_
      refine lv_aload_n hx hb dX3_spans_73 rfl (lv_at hl 2 rfl) ?_
      refine lv_iload hx hb dX3_spans_74 (lv_at hl 0 rfl) ?_
      refine lv_aload_n hx hb dX3_spans_76 rfl (lv_at hl 2 rfl) ?_
      refine tb_get hx hb hts (fun w h => List.mem_cons_of_mem _ (inX3 w h)) hown hK hR 200 rfl rfl 17 (by decide) (hts _ (List.mem_cons_of_mem _ k495)) (fun _ h => h) rfl dX3_spans_77 ?_
      rw [show I 200 17 = nI kp from hMo.1]
      refine lv_idiv hx hb dX3_spans_80 (nI_ne0 hkp0 (by omega)) ?_
      rw [pk_div (by omega) hkp0 (by omega)]
      refine lv_iload hx hb dX3_spans_81 (lv_at hl 0 rfl) ?_
      refine lv_aload_n hx hb dX3_spans_83 rfl (lv_at hl 2 rfl) ?_
      refine tb_get hx hb hts (fun w h => List.mem_cons_of_mem _ (inX3 w h)) hown hK hR 200 rfl rfl 17 (by decide) (hts _ (List.mem_cons_of_mem _ k495)) (fun _ h => h) rfl dX3_spans_84 ?_
      rw [show I 200 17 = nI kp from hMo.1]
      refine lv_irem hx hb dX3_spans_87 (nI_ne0 hkp0 (by omega)) ?_
      rw [pk_rem (by omega) hkp0 (by omega)]
      refine kc_i (va_runV (As := [.int (nI (j / kp)), .int (nI (j % kp))]) (rest := [.int p0, .ref (ad 200), .int (nI (sS (fun i => (fun c k => if spV ph p0 (Rw c k) nd = p1 then 1 else 0) (i / kp) (i % kp)) j))]) ⟨hx, hb, hml, hown, hts⟩ (mX3_rowAt I L (j / kp) (j % kp)) (cwV 2 hts (kw_V k646 k648 ks36 k5 k649) rfl rfl rfl (by decide +kernel) ⟨Nat.le_trans (Nat.le_of_ble_eq_true rfl) hRf, Nat.le_trans (Nat.le_of_ble_eq_true rfl) hRl⟩) (kB_preV hE hR hS 200 rfl rfl [.int (nI (j / kp)), .int (nI (j % kp))]) rfl rfl hl.1 rfl (lv_room (Nat.le_of_ble_eq_true rfl)) dX3_spans_88 ⟨hRc, hRs⟩) hS (fun r u H locs hw hR hS => ?_)
      obtain ⟨rfl, rfl⟩ := hw
      have hR : tR D vwCl base ad (tC (wP n ad cs) I L) H := hR
      refine kc_i (va_runV (As := [.int p0, .int (nI (8 * (60 * (j / kp) + (j % kp))))]) (rest := [.int (nI (sS (fun i => (fun c k => if spV ph p0 (Rw c k) nd = p1 then 1 else 0) (i / kp) (i % kp)) j))]) ⟨hx, hb, hml, hown, hts⟩ (mX3_spanOf I L p0 (j / kp) (j % kp) hMs hwf hMf hMo hjc hjk hk60 (fun d hd => by have := hRb _ hjc _ hjk d hd; have := (h_d d hd).2.1; omega)) (cwV 2 hts (kw_V k671 k673 ks37 k5 k674) rfl rfl rfl (by decide +kernel) ⟨Nat.le_trans (Nat.le_of_ble_eq_true rfl) hRf, Nat.le_trans (Nat.le_of_ble_eq_true rfl) hRl⟩) (kB_preV hE hR hS 200 rfl rfl [.int p0, .int (nI (8 * (60 * (j / kp) + (j % kp))))]) rfl rfl hl.1 rfl (lv_room (Nat.le_of_ble_eq_true rfl)) dX3_spans_91 ⟨hRc, hRs⟩) hS (fun r u H locs hw hR hS => ?_)
      obtain ⟨rfl, rfl⟩ := hw
      have hR : tR D vwCl base ad (tC (wP n ad cs) I L) H := hR
      refine lv_iload_n hx hb dX3_spans_94 rfl (lv_at hl 4 rfl) ?_
      refine lv_icmp_ne (tgt := 102) hx hb dX3_spans_95 (by decide) (fun c2 => ?_) (fun c2 => ?_)
      · have hg : (fun i => (fun c k => if spV ph p0 (Rw c k) nd = p1 then 1 else 0) (i / kp) (i % kp)) j = 0 := if_neg c2
        refine lv_iconst (v := 0) hx hb dX3_spans_102 (by decide) ?_
        refine lv_iadd hx hb dX3_spans_103 ?_
        rw [show (0 : Int32) = nI ((fun i => (fun c k => if spV ph p0 (Rw c k) nd = p1 then 1 else 0) (i / kp) (i % kp)) j) from by rw [hg]; rfl, nI_add, show sS (fun i => (fun c k => if spV ph p0 (Rw c k) nd = p1 then 1 else 0) (i / kp) (i % kp)) j + (fun i => (fun c k => if spV ph p0 (Rw c k) nd = p1 then 1 else 0) (i / kp) (i % kp)) j = sS (fun i => (fun c k => if spV ph p0 (Rw c k) nd = p1 then 1 else 0) (i / kp) (i % kp)) (j + 1) from rfl]
        refine lv_istore_n (lv' := [(3, .int (nI (sS (fun i => (fun c k => if spV ph p0 (Rw c k) nd = p1 then 1 else 0) (i / kp) (i % kp)) (j + 1)))), (4, .int (nI j)), (0, .ref (ad 200)), (1, .int p0), (2, .int p1)]) hx hb dX3_spans_104 rfl hl (by decide) rfl (fun ls hl => ?_)
        refine lv_iinc (v := nI (j + 1)) (lv' := [(4, .int (nI (j + 1))), (3, .int (nI (sS (fun i => (fun c k => if spV ph p0 (Rw c k) nd = p1 then 1 else 0) (i / kp) (i % kp)) (j + 1)))), (0, .ref (ad 200)), (1, .int p0), (2, .int p1)]) hx hb dX3_spans_105 hl (k := 1) rfl (nI_1 _) (by decide) rfl (fun ls hl => ?_)
        refine lv_goto (tgt := 56) hx hb dX3_spans_108 (by decide) ?_
        exact ih (j + 1)  H locs ls (by omega) (by omega)  hR hS (lv_sub hl [0, 1, 2, 3, 4] rfl)
      · have hg : (fun i => (fun c k => if spV ph p0 (Rw c k) nd = p1 then 1 else 0) (i / kp) (i % kp)) j = 1 := if_pos c2
        refine lv_iconst (v := 1) hx hb dX3_spans_98 (by decide) ?_
        refine lv_goto (tgt := 103) hx hb dX3_spans_99 (by decide) ?_
        refine lv_iadd hx hb dX3_spans_103 ?_
        rw [show (1 : Int32) = nI ((fun i => (fun c k => if spV ph p0 (Rw c k) nd = p1 then 1 else 0) (i / kp) (i % kp)) j) from by rw [hg]; rfl, nI_add, show sS (fun i => (fun c k => if spV ph p0 (Rw c k) nd = p1 then 1 else 0) (i / kp) (i % kp)) j + (fun i => (fun c k => if spV ph p0 (Rw c k) nd = p1 then 1 else 0) (i / kp) (i % kp)) j = sS (fun i => (fun c k => if spV ph p0 (Rw c k) nd = p1 then 1 else 0) (i / kp) (i % kp)) (j + 1) from rfl]
        refine lv_istore_n (lv' := [(3, .int (nI (sS (fun i => (fun c k => if spV ph p0 (Rw c k) nd = p1 then 1 else 0) (i / kp) (i % kp)) (j + 1)))), (4, .int (nI j)), (0, .ref (ad 200)), (1, .int p0), (2, .int p1)]) hx hb dX3_spans_104 rfl hl (by decide) rfl (fun ls hl => ?_)
        refine lv_iinc (v := nI (j + 1)) (lv' := [(4, .int (nI (j + 1))), (3, .int (nI (sS (fun i => (fun c k => if spV ph p0 (Rw c k) nd = p1 then 1 else 0) (i / kp) (i % kp)) (j + 1)))), (0, .ref (ad 200)), (1, .int p0), (2, .int p1)]) hx hb dX3_spans_105 hl (k := 1) rfl (nI_1 _) (by decide) rfl (fun ls hl => ?_)
        refine lv_goto (tgt := 56) hx hb dX3_spans_108 (by decide) ?_
        exact ih (j + 1)  H locs ls (by omega) (by omega)  hR hS (lv_sub hl [0, 1, 2, 3, 4] rfl)
set_option maxHeartbeats 4000000 in
set_option maxRecDepth 100000 in
theorem mX3_spans (I : tI) (L : tL) {nd no : Nat} {f la : Nat → Nat} {ph : Nat → Int32} {w : Nat → Nat → Nat} {ea lt le mo : Nat → Nat} {bu ev sd sv : Nat} {se : Int32} {Y : Nat → Nat → Nat} {st : Nat → Int64} {Rw : Nat → Nat → Nat → Nat} {kp sp : Nat} (B : Nat) (p0 p1 : Int32) (hMs : cMs I nd no f la ph w ea lt le mo) (hwf : wfS nd no f la w ea lt le mo) (hMf : cMf I n bu ev sd sv se) (hC : sd = 1 → cMo I L n nd Y st Rw kp sp ∧ wCo n nd no f la ea lt le mo B Y Rw kp sp) : Met l yX3_spans wX3_spans ({ frames := 3, cells := 0, slots := 0, locals := 90 }) (va_Pc [.ref (ad 200), .int p0, .int p1] (kB D cs base sa n ad I L)) (va_Qi (fun (r : Int32) (u : tI × tL) => pM I L (¬ inN 4 p0) (¬ inN 256 p1) (¬ sd = 1) (fun r u => u = (gT I 0, L) ∧ r = nI (s2 (fun c k => if spV ph p0 (Rw c k) nd = p1 then 1 else 0) kp n)) r u) (kA D cs base n ad) (fun q => base ≤ q)) 0 0 (fun q => base ≤ q) := by
  refine Met.ofW (cc := cX3_spans) (maxL := 5) (ret := (some .int)) (by decide) rfl ?_
  intro p e s m args below meth c s₁ Bd hml hv
  obtain ⟨rfl, hE, hR⟩ := hv
  have hx := Bd.exec
  have hb := Bd.bytes
  have hr := Bd.returns
  have hts := atoms_spec (ws := wX3_spans) Bd.pre
  have hown : s.vm.findClass RX3 = some m.cls := findClass_of_methodNamed Bd.named
  have hlocks := Bd.notSynchronized
  have hK := hE.K
  have hS : va_S (fun q => base ≤ q) s.heap s.heap [] := va_S.rf
  have hR : tR D vwCl base ad (tC (wP n ad cs) I L) s.heap := hR
  have hl := lv_entry ([.ref (ad 200), .int p0, .int p1]) (n := 5) (Nat.le_of_ble_eq_true rfl)
  rw [lg_entry_eq]
  generalize (lg_sl ([.ref (ad 200), .int p0, .int p1]) ++ List.replicate (5 - (lg_sl ([.ref (ad 200), .int p0, .int p1])).length) Slot.unset).toArray = ls at hl ⊢
  have hl : lv_has ls 5 [(0, .ref (ad 200)), (1, .int p0), (2, .int p1)] := hl
  obtain ⟨h_nd, h_no, h_d, h_o⟩ := id hwf
  obtain ⟨h_f1, h_f2, h_f3, h_f4, h_f5, h_f6, h_n1, h_n4, h_bu, h_e1, h_e2, h_s1, h_v4⟩ := id hMf
  refine lv_aload_n hx hb dX3_spans_0 rfl (lv_at hl 0 rfl) ?_
  refine jnW (P := ¬ inN 4 p0) 15 (fun x1 => .int x1 :: [.ref (ad 200)]) (fun H locs => tR D vwCl base ad (tC (wP n ad cs) I L) H ∧ va_S (fun q => base ≤ q) s.heap H locs) (fun x1 H locs hx1 hT => ?_) (fun Kx1 => ?_)
  · obtain ⟨hR, hS⟩ := hT
    refine jnW (P := ¬ inN 256 p1) 31 (fun x2 => .int x2 :: [.int x1, .ref (ad 200)]) (fun H locs => tR D vwCl base ad (tC (wP n ad cs) I L) H ∧ va_S (fun q => base ≤ q) s.heap H locs) (fun x2 H locs hx2 hT => ?_) (fun Kx2 => ?_)
    · obtain ⟨hR, hS⟩ := hT
      refine jnW (P := ¬ sd = 1) 43 (fun x3 => .int x3 :: [.int x2, .int x1, .ref (ad 200)]) (fun H locs => tR D vwCl base ad (tC (wP n ad cs) I L) H ∧ va_S (fun q => base ≤ q) s.heap H locs) (fun x3 H locs hx3 hT => ?_) (fun Kx3 => ?_)
      · obtain ⟨hR, hS⟩ := hT
        refine kc_i (va_runV (As := [.int x1, .int x2, .int x3]) (rest := []) ⟨hx, hb, hml, hown, hts⟩ (mX3_throwing I L x1 x2 x3 (P1 := (¬ inN 4 p0)) (P2 := (¬ inN 256 p1)) (P3 := (¬ sd = 1)) hx1 hx2 hx3) (cwV 3 hts (kw_V k571 k573 ks25 k5 k574) rfl rfl rfl (by decide +kernel) ⟨Nat.le_of_ble_eq_true rfl, Nat.le_of_ble_eq_true rfl⟩) (kB_preV hE hR hS 200 rfl rfl [.int x1, .int x2, .int x3]) rfl rfl hl.1 rfl (lv_room (Nat.le_of_ble_eq_true rfl)) dX3_spans_43 ⟨Nat.le_of_ble_eq_true rfl, Nat.le_of_ble_eq_true rfl⟩) hS (fun r u H locs hw hR hS => ?_)
        rcases hw with ⟨t1, rfl, rfl⟩ | ⟨t1, t2, rfl, rfl⟩ | ⟨t1, t2, t3, rfl, rfl⟩ | ⟨t1, t2, t3, rfl, rfl⟩
        · have hR : tR D vwCl base ad (tC (wP n ad cs) (gT I 1) L) H := hR
          refine lv_if_eq (tgt := 51) hx hb dX3_spans_46 (by decide) (fun c9 => absurd c9 (by decide)) (fun c9 => ?_)
          refine lv_iconst (v := 0) hx hb dX3_spans_49 (by decide) ?_
          exact W.iret (v := 0) hx hb hr (fun t ht hW => ⟨⟨_, (gT I 1, L), rfl, Or.inl ⟨t1, rfl, rfl⟩, by show tR _ _ _ _ _ t.heap; rw [ht]; exact hR⟩, hS.F ht⟩) hS.2.2 dX3_spans_50
        · have hR : tR D vwCl base ad (tC (wP n ad cs) (gT I 2) L) H := hR
          refine lv_if_eq (tgt := 51) hx hb dX3_spans_46 (by decide) (fun c9 => absurd c9 (by decide)) (fun c9 => ?_)
          refine lv_iconst (v := 0) hx hb dX3_spans_49 (by decide) ?_
          exact W.iret (v := 0) hx hb hr (fun t ht hW => ⟨⟨_, (gT I 2, L), rfl, Or.inr (Or.inl ⟨t1, t2, rfl, rfl⟩), by show tR _ _ _ _ _ t.heap; rw [ht]; exact hR⟩, hS.F ht⟩) hS.2.2 dX3_spans_50
        · have hR : tR D vwCl base ad (tC (wP n ad cs) (gT I 3) L) H := hR
          refine lv_if_eq (tgt := 51) hx hb dX3_spans_46 (by decide) (fun c9 => absurd c9 (by decide)) (fun c9 => ?_)
          refine lv_iconst (v := 0) hx hb dX3_spans_49 (by decide) ?_
          exact W.iret (v := 0) hx hb hr (fun t ht hW => ⟨⟨_, (gT I 3, L), rfl, Or.inr (Or.inr (Or.inl ⟨t1, t2, t3, rfl, rfl⟩)), by show tR _ _ _ _ _ t.heap; rw [ht]; exact hR⟩, hS.F ht⟩) hS.2.2 dX3_spans_50
        · have hR : tR D vwCl base ad (tC (wP n ad cs) (gT I 0) L) H := hR
          refine lv_if_eq (tgt := 51) hx hb dX3_spans_46 (by decide) (fun c9 => ?_) (fun c9 => absurd rfl c9)
          have hs : sd = 1 := Classical.byContradiction (fun z => t3 z)
          obtain ⟨hMo, hwY, hk60, hspB, hRb⟩ := hC hs
          have hMs := hMs.gT 0
          have hMf := hMf.gT 0
          have hMo := hMo.gT 0
          refine lv_iconst (v := 0) hx hb dX3_spans_51 (by decide) ?_
          rw [show (0 : Int32) = nI (sS (fun i => (fun c k => if spV ph p0 (Rw c k) nd = p1 then 1 else 0) (i / kp) (i % kp)) 0) from rfl]
          refine lv_istore_n (lv' := [(3, .int (nI (sS (fun i => (fun c k => if spV ph p0 (Rw c k) nd = p1 then 1 else 0) (i / kp) (i % kp)) 0))), (0, .ref (ad 200)), (1, .int p0), (2, .int p1)]) hx hb dX3_spans_52 rfl hl (by decide) rfl (fun ls hl => ?_)
          refine lv_iconst (v := 0) hx hb dX3_spans_53 (by decide) ?_
          rw [show (0 : Int32) = nI 0 from nI_0.symm]
          refine lv_istore (lv' := [(4, .int (nI 0)), (3, .int (nI (sS (fun i => (fun c k => if spV ph p0 (Rw c k) nd = p1 then 1 else 0) (i / kp) (i % kp)) 0))), (0, .ref (ad 200)), (1, .int p0), (2, .int p1)]) hx hb dX3_spans_54 hl (by decide) rfl (fun ls hl => ?_)
          refine lpX3_spans ⟨hx, hb, hml, hown, hts⟩ hE (Nat.le_of_ble_eq_true rfl) (Nat.le_of_ble_eq_true rfl) (Nat.le_of_ble_eq_true rfl) (Nat.le_of_ble_eq_true rfl) (gT I 0) L p0 p1 hMs hwf hMf hMo hk60 hRb (fun H locs ls hR hS hl => ?_) (n * kp + 1) 0 _ _ ls (Nat.zero_le _) (by omega) hR hS (lv_sub hl [0, 1, 2, 3, 4] rfl)
          have h_se : sS (fun i => (fun c k => if spV ph p0 (Rw c k) nd = p1 then 1 else 0) (i / kp) (i % kp)) (n * kp) = s2 (fun c k => if spV ph p0 (Rw c k) nd = p1 then 1 else 0) kp n := by
            rcases Nat.eq_zero_or_pos kp with q | q
            · subst q; rw [Nat.mul_zero, s2_k0]; rfl
            · exact sS_s2 (fun c k => if spV ph p0 (Rw c k) nd = p1 then 1 else 0) q n
          refine lv_iload_n hx hb dX3_spans_111 rfl (lv_at hl 1 rfl) ?_
          exact W.iret (v := nI (sS (fun i => (fun c k => if spV ph p0 (Rw c k) nd = p1 then 1 else 0) (i / kp) (i % kp)) (n * kp))) hx hb hr (fun t ht hW => ⟨⟨_, (gT I 0, L), rfl, Or.inr (Or.inr (Or.inr ⟨t1, t2, t3, rfl, by rw [h_se]⟩)), by show tR _ _ _ _ _ t.heap; rw [ht]; exact hR⟩, hS.F ht⟩) hS.2.2 dX3_spans_112
      · refine lv_aload_n hx hb dX3_spans_31 rfl (lv_at hl 0 rfl) ?_
        refine tb_get hx hb hts (fun w h => List.mem_cons_of_mem _ (inX3 w h)) hown hK hR 200 rfl rfl 15 (by decide) (hts _ (List.mem_cons_of_mem _ k493)) (fun _ h => h) rfl dX3_spans_32 ?_
        rw [show I 200 15 = nI sd from hMf.2.2.2.2.1]
        refine lv_if_ne (tgt := 42) hx hb dX3_spans_35 (by decide) (fun c1 => ?_) (fun c1 => ?_)
        · refine lv_iconst (v := 0) hx hb dX3_spans_42 (by decide) ?_
          exact Kx3 _ _ _ (bZ0 (fun z => z (by have q : ¬ sd = 0 := fun z => c1 (by rw [z]; rfl); omega))) ⟨hR, hS⟩
        · refine lv_iconst (v := 1) hx hb dX3_spans_38 (by decide) ?_
          refine lv_goto (tgt := 43) hx hb dX3_spans_39 (by decide) ?_
          exact Kx3 _ _ _ (bZ1 (fun z => absurd c1 (by rw [z]; decide))) ⟨hR, hS⟩
    · refine lv_iload_n hx hb dX3_spans_15 rfl (lv_at hl 2 rfl) ?_
      refine lv_iconst (v := 0) hx hb dX3_spans_16 (by decide) ?_
      refine lv_sipush (v := 255) hx hb dX3_spans_17 (by decide) ?_
      refine kc_i (va_runS (As := [.int p1, .int 0, .int 255]) (rest := [.int x1, .ref (ad 200)]) ⟨hx, hb, hml, hown, hts⟩ (mX3_in I L p1 0 255) (va_cwS 3 hts (kw_S k568 k569 k5 k570) rfl rfl rfl (by decide +kernel) ⟨Nat.le_of_ble_eq_true rfl, Nat.le_of_ble_eq_true rfl⟩) (kB_pre hE hR hS [.int p1, .int 0, .int 255]) rfl rfl hl.1 rfl (lv_room (Nat.le_of_ble_eq_true rfl)) dX3_spans_20 ⟨Nat.le_of_ble_eq_true rfl, Nat.le_of_ble_eq_true rfl⟩) hS (fun r u H locs hw hR hS => ?_)
      obtain ⟨q2, rfl⟩ := hw
      have hR : tR D vwCl base ad (tC (wP n ad cs) I L) H := hR
      have q2 : bZ (inN 256 p1) r := q2.iff ((inR_iff (a := 0) (b := 255) (by decide) (by decide)).trans (inRN (N := 256) (by decide)))
      refine lv_if_ne (tgt := 30) hx hb dX3_spans_23 (by decide) (fun c3 => ?_) (fun c3 => ?_)
      · refine lv_iconst (v := 0) hx hb dX3_spans_30 (by decide) ?_
        exact Kx2 _ _ _ (bZ0 (fun z => z (q2.t c3))) ⟨hR, hS⟩
      · refine lv_iconst (v := 1) hx hb dX3_spans_26 (by decide) ?_
        refine lv_goto (tgt := 31) hx hb dX3_spans_27 (by decide) ?_
        exact Kx2 _ _ _ (bZ1 (q2.f c3)) ⟨hR, hS⟩
  · refine lv_iload_n hx hb dX3_spans_1 rfl (lv_at hl 1 rfl) ?_
    refine lv_iconst (v := 0) hx hb dX3_spans_2 (by decide) ?_
    refine lv_iconst (v := 3) hx hb dX3_spans_3 (by decide) ?_
    refine kc_i (va_runS (As := [.int p0, .int 0, .int 3]) (rest := [.ref (ad 200)]) ⟨hx, hb, hml, hown, hts⟩ (mX3_in I L p0 0 3) (va_cwS 3 hts (kw_S k568 k569 k5 k570) rfl rfl rfl (by decide +kernel) ⟨Nat.le_of_ble_eq_true rfl, Nat.le_of_ble_eq_true rfl⟩) (kB_pre hE hR hS [.int p0, .int 0, .int 3]) rfl rfl hl.1 rfl (lv_room (Nat.le_of_ble_eq_true rfl)) dX3_spans_4 ⟨Nat.le_of_ble_eq_true rfl, Nat.le_of_ble_eq_true rfl⟩) hS (fun r u H locs hw hR hS => ?_)
    obtain ⟨q4, rfl⟩ := hw
    have hR : tR D vwCl base ad (tC (wP n ad cs) I L) H := hR
    have q4 : bZ (inN 4 p0) r := q4.iff ((inR_iff (a := 0) (b := 3) (by decide) (by decide)).trans (inRN (N := 4) (by decide)))
    refine lv_if_ne (tgt := 14) hx hb dX3_spans_7 (by decide) (fun c5 => ?_) (fun c5 => ?_)
    · refine lv_iconst (v := 0) hx hb dX3_spans_14 (by decide) ?_
      exact Kx1 _ _ _ (bZ0 (fun z => z (q4.t c5))) ⟨hR, hS⟩
    · refine lv_iconst (v := 1) hx hb dX3_spans_10 (by decide) ?_
      refine lv_goto (tgt := 15) hx hb dX3_spans_11 (by decide) ?_
      exact Kx1 _ _ _ (bZ1 (q4.f c5)) ⟨hR, hS⟩
set_option maxHeartbeats 4000000 in
set_option maxRecDepth 100000 in
theorem lpX3_save {p : Program} {e : Env} {R : Room} {s : State} {m : MethodId} {args : Array Value} {below : List Frame} {meth : Method} {c : Code} {cells slots : Nat} {Q : State → Prop} (S0 : CallFix p m c cX3_save 2 s args wX3_save RX3) (hE : eV D cs base sa s) (hRf : 0 ≤ R.frames) (hRl : 0 ≤ R.locals) (hRc : cells ≤ R.cells) (hRs : slots ≤ R.slots) (I : tI) (L : tL) (sv : Nat) (hsv : I 200 21 = nI sv) (hv4 : sv < 4)
    (kx : ∀ (H : Heap) (locs : List Loc) (ls : Array Slot), tR D vwCl base ad (tC (wP n ad cs) (va_up I 212 (va_cpy (I 209) (I 212) 0 (32 * sv) 32)) L) H → va_S (fun q => base ≤ q) s.heap H locs → lv_has ls 2 [(1, .int (nI 32)), (0, .ref (ad 200))] → W p l e R s m args below meth c H locs cells slots Q (F0 m 65 ls [])) :
    ∀ (k j : Nat) (H : Heap) (locs : List Loc) (ls : Array Slot), j ≤ 32 → 32 + 1 ≤ j + k → tR D vwCl base ad (tC (wP n ad cs) (va_up I 212 (va_cpy (I 209) (I 212) 0 (32 * sv) j)) L) H → va_S (fun q => base ≤ q) s.heap H locs → lv_has ls 2 [(1, .int (nI j)), (0, .ref (ad 200))] → W p l e R s m args below meth c H locs cells slots Q (F0 m 33 ls []) := by
  obtain ⟨hx, hb, hml, hown, hts⟩ := S0
  have hK := hE.K
  intro k
  induction k with
  | zero => intro j  H locs ls h1 h2; exact absurd h2 (by omega)
  | succ k ih =>
    intro j  H locs ls hj hk  hR hS hl
    refine lv_iload_n hx hb dX3_save_33 rfl (lv_at hl 0 rfl) ?_
    refine lv_bipush (v := nI 32) hx hb dX3_save_34 (by decide) ?_
    refine lv_icmp_ge (tgt := 65) hx hb dX3_save_36 (by decide) (fun c1 => ?_) (fun c1 => ?_)
    · have hjN : j = 32 := by have e9 := (nI_leI (by omega) (by omega)).mp c1; omega
      subst hjN
      exact kx  H locs ls  hR hS (lv_sub hl [0, 1] rfl)
    · have hjN : j < 32 := by
        rcases Nat.lt_or_ge j 32 with q | q
        · exact q
        · exact absurd (nI_le (by omega) (by omega)) c1
      refine lv_aload_n hx hb dX3_save_39 rfl (lv_at hl 1 rfl) ?_
      refine tb_get hx hb hts (fun w h => List.mem_cons_of_mem _ (inX3 w h)) hown hK hR 200 rfl rfl 22 (by decide) (hts _ (List.mem_cons_of_mem _ k500)) (fun _ h => h) rfl dX3_save_40 ?_
      refine lv_bipush (v := nI 32) hx hb dX3_save_43 (by decide) ?_
      refine lv_aload_n hx hb dX3_save_45 rfl (lv_at hl 1 rfl) ?_
      refine tb_get hx hb hts (fun w h => List.mem_cons_of_mem _ (inX3 w h)) hown hK hR 200 rfl rfl 21 (by decide) (hts _ (List.mem_cons_of_mem _ k499)) (fun _ h => h) rfl dX3_save_46 ?_
      rw [show (va_up I 212 (va_cpy (I 209) (I 212) 0 (32 * sv) j)) 200 21 = nI sv from (by rw [va_up_ne _ _ (by omega)]; exact hsv)]
      refine lv_imul hx hb dX3_save_49 ?_
      rw [pk_mul]
      refine lv_iload_n hx hb dX3_save_50 rfl (lv_at hl 0 rfl) ?_
      refine lv_iadd hx hb dX3_save_51 ?_
      rw [nI_add]
      refine lv_aload_n hx hb dX3_save_52 rfl (lv_at hl 1 rfl) ?_
      refine tb_get hx hb hts (fun w h => List.mem_cons_of_mem _ (inX3 w h)) hown hK hR 200 rfl rfl 18 (by decide) (hts _ (List.mem_cons_of_mem _ k496)) (fun _ h => h) rfl dX3_save_53 ?_
      refine lv_iload_n hx hb dX3_save_56 rfl (lv_at hl 0 rfl) ?_
      refine tp_iald hx hb hK hR 209 0 (fun _ _ => rfl) rfl j rfl (by omega) (by decide) dX3_save_57 ?_
      rw [show (va_up I 212 (va_cpy (I 209) (I 212) 0 (32 * sv) j)) 209 j = I 209 j from (by rw [va_up_ne _ _ (by omega)])]
      refine tp_iast hx hb hK hR hS 212 0 (fun _ _ => rfl) rfl (32 * sv + j) rfl (by omega) (by decide) dX3_save_58 (fun H locs hR hS => ?_)
      rw [bx_uu, va_up_self, cpy_s] at hR
      refine lv_iinc (v := nI (j + 1)) (lv' := [(1, .int (nI (j + 1))), (0, .ref (ad 200))]) hx hb dX3_save_59 hl (k := 0) rfl (nI_1 _) (by decide) rfl (fun ls hl => ?_)
      refine lv_goto (tgt := 33) hx hb dX3_save_62 (by decide) ?_
      exact ih (j + 1)  H locs ls (by omega) (by omega)  hR hS (lv_sub hl [0, 1] rfl)
set_option maxHeartbeats 4000000 in
set_option maxRecDepth 100000 in
theorem lqX3_save {p : Program} {e : Env} {R : Room} {s : State} {m : MethodId} {args : Array Value} {below : List Frame} {meth : Method} {c : Code} {cells slots : Nat} {Q : State → Prop} (S0 : CallFix p m c cX3_save 2 s args wX3_save RX3) (hE : eV D cs base sa s) (hRf : 0 ≤ R.frames) (hRl : 0 ≤ R.locals) (hRc : cells ≤ R.cells) (hRs : slots ≤ R.slots) (I : tI) (L : tL) (sv : Nat) (hsv : I 200 21 = nI sv) (hv4 : sv < 4)
    (kx : ∀ (H : Heap) (locs : List Loc) (ls : Array Slot), tR D vwCl base ad (tC (wP n ad cs) I (va_up L 213 (va_cpy (L 210) (L 213) 0 (4 * sv) 4))) H → va_S (fun q => base ≤ q) s.heap H locs → lv_has ls 2 [(1, .int (nI 4)), (0, .ref (ad 200))] → W p l e R s m args below meth c H locs cells slots Q (F0 m 97 ls [])) :
    ∀ (k j : Nat) (H : Heap) (locs : List Loc) (ls : Array Slot), j ≤ 4 → 4 + 1 ≤ j + k → tR D vwCl base ad (tC (wP n ad cs) I (va_up L 213 (va_cpy (L 210) (L 213) 0 (4 * sv) j))) H → va_S (fun q => base ≤ q) s.heap H locs → lv_has ls 2 [(1, .int (nI j)), (0, .ref (ad 200))] → W p l e R s m args below meth c H locs cells slots Q (F0 m 67 ls []) := by
  obtain ⟨hx, hb, hml, hown, hts⟩ := S0
  have hK := hE.K
  intro k
  induction k with
  | zero => intro j  H locs ls h1 h2; exact absurd h2 (by omega)
  | succ k ih =>
    intro j  H locs ls hj hk  hR hS hl
    refine lv_iload_n hx hb dX3_save_67 rfl (lv_at hl 0 rfl) ?_
    refine lv_iconst (v := nI 4) hx hb dX3_save_68 (by decide) ?_
    refine lv_icmp_ge (tgt := 97) hx hb dX3_save_69 (by decide) (fun c1 => ?_) (fun c1 => ?_)
    · have hjN : j = 4 := by have e9 := (nI_leI (by omega) (by omega)).mp c1; omega
      subst hjN
      exact kx  H locs ls  hR hS (lv_sub hl [0, 1] rfl)
    · have hjN : j < 4 := by
        rcases Nat.lt_or_ge j 4 with q | q
        · exact q
        · exact absurd (nI_le (by omega) (by omega)) c1
      refine lv_aload_n hx hb dX3_save_72 rfl (lv_at hl 1 rfl) ?_
      refine tb_get hx hb hts (fun w h => List.mem_cons_of_mem _ (inX3 w h)) hown hK hR 200 rfl rfl 23 (by decide) (hts _ (List.mem_cons_of_mem _ k501)) (fun _ h => h) rfl dX3_save_73 ?_
      refine lv_iconst (v := nI 4) hx hb dX3_save_76 (by decide) ?_
      refine lv_aload_n hx hb dX3_save_77 rfl (lv_at hl 1 rfl) ?_
      refine tb_get hx hb hts (fun w h => List.mem_cons_of_mem _ (inX3 w h)) hown hK hR 200 rfl rfl 21 (by decide) (hts _ (List.mem_cons_of_mem _ k499)) (fun _ h => h) rfl dX3_save_78 ?_
      rw [show I 200 21 = nI sv from hsv]
      refine lv_imul hx hb dX3_save_81 ?_
      rw [pk_mul]
      refine lv_iload_n hx hb dX3_save_82 rfl (lv_at hl 0 rfl) ?_
      refine lv_iadd hx hb dX3_save_83 ?_
      rw [nI_add]
      refine lv_aload_n hx hb dX3_save_84 rfl (lv_at hl 1 rfl) ?_
      refine tb_get hx hb hts (fun w h => List.mem_cons_of_mem _ (inX3 w h)) hown hK hR 200 rfl rfl 19 (by decide) (hts _ (List.mem_cons_of_mem _ k497)) (fun _ h => h) rfl dX3_save_85 ?_
      refine lv_iload_n hx hb dX3_save_88 rfl (lv_at hl 0 rfl) ?_
      refine tp_lald hx hb hK hR 210 1 (fun _ _ => rfl) rfl j rfl (by omega) (by decide) dX3_save_89 ?_
      rw [show (va_up L 213 (va_cpy (L 210) (L 213) 0 (4 * sv) j)) 210 j = L 210 j from (by rw [va_up_ne _ _ (by omega)])]
      refine tp_last hx hb hK hR hS 213 1 (fun _ _ => rfl) rfl (4 * sv + j) rfl (by omega) (by decide) dX3_save_90 (fun H locs hR hS => ?_)
      rw [bx_uu, va_up_self, cpy_sL] at hR
      refine lv_iinc (v := nI (j + 1)) (lv' := [(1, .int (nI (j + 1))), (0, .ref (ad 200))]) hx hb dX3_save_91 hl (k := 0) rfl (nI_1 _) (by decide) rfl (fun ls hl => ?_)
      refine lv_goto (tgt := 67) hx hb dX3_save_94 (by decide) ?_
      exact ih (j + 1)  H locs ls (by omega) (by omega)  hR hS (lv_sub hl [0, 1] rfl)
set_option maxHeartbeats 4000000 in
set_option maxRecDepth 100000 in
theorem lrX3_save {p : Program} {e : Env} {R : Room} {s : State} {m : MethodId} {args : Array Value} {below : List Frame} {meth : Method} {c : Code} {cells slots : Nat} {Q : State → Prop} (S0 : CallFix p m c cX3_save 2 s args wX3_save RX3) (hE : eV D cs base sa s) (hRf : 0 ≤ R.frames) (hRl : 0 ≤ R.locals) (hRc : cells ≤ R.cells) (hRs : slots ≤ R.slots) (I : tI) (L : tL) (sv : Nat) (hsv : I 200 21 = nI sv) (hv4 : sv < 4)
    (kx : ∀ (H : Heap) (locs : List Loc) (ls : Array Slot), tR D vwCl base ad (tC (wP n ad cs) (va_up I 214 (va_cpy (I 211) (I 214) 0 (1920 * sv) 1920)) L) H → va_S (fun q => base ≤ q) s.heap H locs → lv_has ls 2 [(1, .int (nI 1920)), (0, .ref (ad 200))] → W p l e R s m args below meth c H locs cells slots Q (F0 m 133 ls [])) :
    ∀ (k j : Nat) (H : Heap) (locs : List Loc) (ls : Array Slot), j ≤ 1920 → 1920 + 1 ≤ j + k → tR D vwCl base ad (tC (wP n ad cs) (va_up I 214 (va_cpy (I 211) (I 214) 0 (1920 * sv) j)) L) H → va_S (fun q => base ≤ q) s.heap H locs → lv_has ls 2 [(1, .int (nI j)), (0, .ref (ad 200))] → W p l e R s m args below meth c H locs cells slots Q (F0 m 99 ls []) := by
  obtain ⟨hx, hb, hml, hown, hts⟩ := S0
  have hK := hE.K
  intro k
  induction k with
  | zero => intro j  H locs ls h1 h2; exact absurd h2 (by omega)
  | succ k ih =>
    intro j  H locs ls hj hk  hR hS hl
    refine lv_iload_n hx hb dX3_save_99 rfl (lv_at hl 0 rfl) ?_
    refine lv_sipush (v := nI 1920) hx hb dX3_save_100 (by decide) ?_
    refine lv_icmp_ge (tgt := 133) hx hb dX3_save_103 (by decide) (fun c1 => ?_) (fun c1 => ?_)
    · have hjN : j = 1920 := by have e9 := (nI_leI (by omega) (by omega)).mp c1; omega
      subst hjN
      exact kx  H locs ls  hR hS (lv_sub hl [0, 1] rfl)
    · have hjN : j < 1920 := by
        rcases Nat.lt_or_ge j 1920 with q | q
        · exact q
        · exact absurd (nI_le (by omega) (by omega)) c1
      refine lv_aload_n hx hb dX3_save_106 rfl (lv_at hl 1 rfl) ?_
      refine tb_get hx hb hts (fun w h => List.mem_cons_of_mem _ (inX3 w h)) hown hK hR 200 rfl rfl 24 (by decide) (hts _ (List.mem_cons_of_mem _ k502)) (fun _ h => h) rfl dX3_save_107 ?_
      refine lv_sipush (v := nI 1920) hx hb dX3_save_110 (by decide) ?_
      refine lv_aload_n hx hb dX3_save_113 rfl (lv_at hl 1 rfl) ?_
      refine tb_get hx hb hts (fun w h => List.mem_cons_of_mem _ (inX3 w h)) hown hK hR 200 rfl rfl 21 (by decide) (hts _ (List.mem_cons_of_mem _ k499)) (fun _ h => h) rfl dX3_save_114 ?_
      rw [show (va_up I 214 (va_cpy (I 211) (I 214) 0 (1920 * sv) j)) 200 21 = nI sv from (by rw [va_up_ne _ _ (by omega)]; exact hsv)]
      refine lv_imul hx hb dX3_save_117 ?_
      rw [pk_mul]
      refine lv_iload_n hx hb dX3_save_118 rfl (lv_at hl 0 rfl) ?_
      refine lv_iadd hx hb dX3_save_119 ?_
      rw [nI_add]
      refine lv_aload_n hx hb dX3_save_120 rfl (lv_at hl 1 rfl) ?_
      refine tb_get hx hb hts (fun w h => List.mem_cons_of_mem _ (inX3 w h)) hown hK hR 200 rfl rfl 20 (by decide) (hts _ (List.mem_cons_of_mem _ k498)) (fun _ h => h) rfl dX3_save_121 ?_
      refine lv_iload_n hx hb dX3_save_124 rfl (lv_at hl 0 rfl) ?_
      refine tp_iald hx hb hK hR 211 0 (fun _ _ => rfl) rfl j rfl (by omega) (by decide) dX3_save_125 ?_
      rw [show (va_up I 214 (va_cpy (I 211) (I 214) 0 (1920 * sv) j)) 211 j = I 211 j from (by rw [va_up_ne _ _ (by omega)])]
      refine tp_iast hx hb hK hR hS 214 0 (fun _ _ => rfl) rfl (1920 * sv + j) rfl (by omega) (by decide) dX3_save_126 (fun H locs hR hS => ?_)
      rw [bx_uu, va_up_self, cpy_s] at hR
      refine lv_iinc (v := nI (j + 1)) (lv' := [(1, .int (nI (j + 1))), (0, .ref (ad 200))]) hx hb dX3_save_127 hl (k := 0) rfl (nI_1 _) (by decide) rfl (fun ls hl => ?_)
      refine lv_goto (tgt := 99) hx hb dX3_save_130 (by decide) ?_
      exact ih (j + 1)  H locs ls (by omega) (by omega)  hR hS (lv_sub hl [0, 1] rfl)
set_option maxHeartbeats 4000000 in
set_option maxRecDepth 100000 in
theorem mX3_save (I : tI) (L : tL) {bu ev sd sv : Nat} {se : Int32} (hMf : cMf I n bu ev sd sv se) : Met l yX3_save wX3_save ({ frames := 3, cells := 0, slots := 0, locals := 90 }) (va_Pc [.ref (ad 200)] (kB D cs base sa n ad I L)) (va_Qi (fun (r : Int32) (u : tI × tL) => pM I L (¬ (sd = 1 ∧ sv < 4)) False False (fun r u => r = nI sv ∧ u = (gMv (gT I 0) sv, va_up L 213 (va_cpy (L 210) (L 213) 0 (4 * sv) 4))) r u) (kA D cs base n ad) (fun q => base ≤ q)) 0 0 (fun q => base ≤ q) := by
  refine Met.ofW (cc := cX3_save) (maxL := 2) (ret := (some .int)) (by decide) rfl ?_
  intro p e s m args below meth c s₁ Bd hml hv
  obtain ⟨rfl, hE, hR⟩ := hv
  have hx := Bd.exec
  have hb := Bd.bytes
  have hr := Bd.returns
  have hts := atoms_spec (ws := wX3_save) Bd.pre
  have hown : s.vm.findClass RX3 = some m.cls := findClass_of_methodNamed Bd.named
  have hlocks := Bd.notSynchronized
  have hK := hE.K
  have hS : va_S (fun q => base ≤ q) s.heap s.heap [] := va_S.rf
  have hR : tR D vwCl base ad (tC (wP n ad cs) I L) s.heap := hR
  have hl := lv_entry ([.ref (ad 200)]) (n := 2) (Nat.le_of_ble_eq_true rfl)
  rw [lg_entry_eq]
  generalize (lg_sl ([.ref (ad 200)]) ++ List.replicate (2 - (lg_sl ([.ref (ad 200)])).length) Slot.unset).toArray = ls at hl ⊢
  have hl : lv_has ls 2 [(0, .ref (ad 200))] := hl
  obtain ⟨h_f1, h_f2, h_f3, h_f4, h_f5, h_f6, h_n1, h_n4, h_bu, h_e1, h_e2, h_s1, h_v4⟩ := id hMf
  refine lv_aload_n hx hb dX3_save_0 rfl (lv_at hl 0 rfl) ?_
  refine jnW (P := ¬ (sd = 1 ∧ sv < 4)) 21 (fun x1 => .int x1 :: [.ref (ad 200)]) (fun H locs => tR D vwCl base ad (tC (wP n ad cs) I L) H ∧ va_S (fun q => base ≤ q) s.heap H locs) (fun x1 H locs hx1 hT => ?_) (fun Kx1 => ?_)
  · obtain ⟨hR, hS⟩ := hT
    refine lv_iconst (v := 0) hx hb dX3_save_21 (by decide) ?_
    refine lv_iconst (v := 0) hx hb dX3_save_22 (by decide) ?_
    refine kc_i (va_runV (As := [.int x1, .int 0, .int 0]) (rest := []) ⟨hx, hb, hml, hown, hts⟩ (mX3_throwing I L x1 0 0 (P1 := (¬ (sd = 1 ∧ sv < 4))) (P2 := False) (P3 := False) hx1 (bZ0 (fun z => z)) (bZ0 (fun z => z))) (cwV 3 hts (kw_V k571 k573 ks25 k5 k574) rfl rfl rfl (by decide +kernel) ⟨Nat.le_of_ble_eq_true rfl, Nat.le_of_ble_eq_true rfl⟩) (kB_preV hE hR hS 200 rfl rfl [.int x1, .int 0, .int 0]) rfl rfl hl.1 rfl (lv_room (Nat.le_of_ble_eq_true rfl)) dX3_save_23 ⟨Nat.le_of_ble_eq_true rfl, Nat.le_of_ble_eq_true rfl⟩) hS (fun r u H locs hw hR hS => ?_)
    rcases hw with ⟨t1, rfl, rfl⟩ | ⟨t1, t2, rfl, rfl⟩ | ⟨t1, t2, t3, rfl, rfl⟩ | ⟨t1, t2, t3, rfl, rfl⟩
    · have hR : tR D vwCl base ad (tC (wP n ad cs) (gT I 1) L) H := hR
      refine lv_if_eq (tgt := 31) hx hb dX3_save_26 (by decide) (fun c9 => absurd c9 (by decide)) (fun c9 => ?_)
      refine lv_iconst (v := 0) hx hb dX3_save_29 (by decide) ?_
      exact W.iret (v := 0) hx hb hr (fun t ht hW => ⟨⟨_, (gT I 1, L), rfl, Or.inl ⟨t1, rfl, rfl⟩, by show tR _ _ _ _ _ t.heap; rw [ht]; exact hR⟩, hS.F ht⟩) hS.2.2 dX3_save_30
    · exact t2.elim
    · exact t3.elim
    · have hR : tR D vwCl base ad (tC (wP n ad cs) (gT I 0) L) H := hR
      refine lv_if_eq (tgt := 31) hx hb dX3_save_26 (by decide) (fun c9 => ?_) (fun c9 => absurd rfl c9)
      obtain ⟨hs, hlt⟩ := Classical.byContradiction (fun z => t1 z)
      have hMf := hMf.gT 0
      have hsv := hMf.2.2.2.2.2.1
      refine lv_iconst (v := 0) hx hb dX3_save_31 (by decide) ?_
      rw [show (0 : Int32) = nI 0 from nI_0.symm]
      refine lv_istore_n (lv' := [(1, .int (nI 0)), (0, .ref (ad 200))]) hx hb dX3_save_32 rfl hl (by decide) rfl (fun ls hl => ?_)
      have hR : tR D vwCl base ad (tC (wP n ad cs) (va_up (gT I 0) 212 (va_cpy ((gT I 0) 209) ((gT I 0) 212) 0 (32 * sv) 0)) L) H := by rw [cpy_0, va_up_id]; exact hR
      refine lpX3_save ⟨hx, hb, hml, hown, hts⟩ hE (Nat.zero_le _) (Nat.zero_le _) (Nat.le_of_ble_eq_true rfl) (Nat.le_of_ble_eq_true rfl) (gT I 0) L sv hsv hlt (fun H locs ls hR hS hl => ?_) 33 0 _ _ ls (Nat.zero_le _) (by omega) hR hS (lv_sub hl [0, 1] rfl)
      refine lv_iconst (v := 0) hx hb dX3_save_65 (by decide) ?_
      rw [show (0 : Int32) = nI 0 from nI_0.symm]
      refine lv_istore_n (lv' := [(1, .int (nI 0)), (0, .ref (ad 200))]) hx hb dX3_save_66 rfl hl (by decide) rfl (fun ls hl => ?_)
      have hR : tR D vwCl base ad (tC (wP n ad cs) (va_up (gT I 0) 212 (va_cpy ((gT I 0) 209) ((gT I 0) 212) 0 (32 * sv) 32)) (va_up L 213 (va_cpy (L 210) (L 213) 0 (4 * sv) 0))) H := by rw [cpy_0, va_up_id]; exact hR
      refine lqX3_save ⟨hx, hb, hml, hown, hts⟩ hE (Nat.zero_le _) (Nat.zero_le _) (Nat.le_of_ble_eq_true rfl) (Nat.le_of_ble_eq_true rfl) (va_up (gT I 0) 212 (va_cpy ((gT I 0) 209) ((gT I 0) 212) 0 (32 * sv) 32)) L sv (by rw [va_up_ne _ _ (by omega)]; exact hsv) hlt (fun H locs ls hR hS hl => ?_) 5 0 _ _ ls (Nat.zero_le _) (by omega) hR hS (lv_sub hl [0, 1] rfl)
      refine lv_iconst (v := 0) hx hb dX3_save_97 (by decide) ?_
      rw [show (0 : Int32) = nI 0 from nI_0.symm]
      refine lv_istore_n (lv' := [(1, .int (nI 0)), (0, .ref (ad 200))]) hx hb dX3_save_98 rfl hl (by decide) rfl (fun ls hl => ?_)
      have hR : tR D vwCl base ad (tC (wP n ad cs) (va_up (va_up (gT I 0) 212 (va_cpy ((gT I 0) 209) ((gT I 0) 212) 0 (32 * sv) 32)) 214 (va_cpy ((va_up (gT I 0) 212 (va_cpy ((gT I 0) 209) ((gT I 0) 212) 0 (32 * sv) 32)) 211) ((va_up (gT I 0) 212 (va_cpy ((gT I 0) 209) ((gT I 0) 212) 0 (32 * sv) 32)) 214) 0 (1920 * sv) 0)) (va_up L 213 (va_cpy (L 210) (L 213) 0 (4 * sv) 4))) H := by rw [cpy_0, va_up_id]; exact hR
      refine lrX3_save ⟨hx, hb, hml, hown, hts⟩ hE (Nat.zero_le _) (Nat.zero_le _) (Nat.le_of_ble_eq_true rfl) (Nat.le_of_ble_eq_true rfl) (va_up (gT I 0) 212 (va_cpy ((gT I 0) 209) ((gT I 0) 212) 0 (32 * sv) 32)) (va_up L 213 (va_cpy (L 210) (L 213) 0 (4 * sv) 4)) sv (by rw [va_up_ne _ _ (by omega)]; exact hsv) hlt (fun H locs ls hR hS hl => ?_) 1921 0 _ _ ls (Nat.zero_le _) (by omega) hR hS (lv_sub hl [0, 1] rfl)
      rw [va_up_ne _ _ (show (211 : Nat) ≠ 212 by omega), va_up_ne _ _ (show (214 : Nat) ≠ 212 by omega)] at hR
      have hR : tR D vwCl base ad (tC (wP n ad cs) (gV1 (gT I 0) sv) (va_up L 213 (va_cpy (L 210) (L 213) 0 (4 * sv) 4))) H := hR
      refine lv_aload_n hx hb dX3_save_133 rfl (lv_at hl 1 rfl) ?_
      refine tb_get hx hb hts (fun w h => List.mem_cons_of_mem _ (inX3 w h)) hown hK hR 200 rfl rfl 25 (by decide) (hts _ (List.mem_cons_of_mem _ k503)) (fun _ h => h) rfl dX3_save_134 ?_
      refine lv_aload_n hx hb dX3_save_137 rfl (lv_at hl 1 rfl) ?_
      refine tb_get hx hb hts (fun w h => List.mem_cons_of_mem _ (inX3 w h)) hown hK hR 200 rfl rfl 21 (by decide) (hts _ (List.mem_cons_of_mem _ k499)) (fun _ h => h) rfl dX3_save_138 ?_
      rw [show (gV1 (gT I 0) sv) 200 21 = nI sv from (by first | (rw [va_up_ne _ _ (show (200 : Nat) ≠ 216 by omega), va_up_ne _ _ (show (200 : Nat) ≠ 215 by omega), gV1_ne _ _ (show (200 : Nat) ≠ 212 ∧ (200 : Nat) ≠ 214 by omega)]; exact hsv) | (rw [va_up_ne _ _ (show (200 : Nat) ≠ 215 by omega), gV1_ne _ _ (show (200 : Nat) ≠ 212 ∧ (200 : Nat) ≠ 214 by omega)]; exact hsv) | (rw [gV1_ne _ _ (show (200 : Nat) ≠ 212 ∧ (200 : Nat) ≠ 214 by omega)]; exact hsv))]
      refine lv_aload_n hx hb dX3_save_141 rfl (lv_at hl 1 rfl) ?_
      refine tb_get hx hb hts (fun w h => List.mem_cons_of_mem _ (inX3 w h)) hown hK hR 200 rfl rfl 17 (by decide) (hts _ (List.mem_cons_of_mem _ k495)) (fun _ h => h) rfl dX3_save_142 ?_
      rw [show (gV1 (gT I 0) sv) 200 17 = (gT I 0) 200 17 from (by first | (rw [va_up_ne _ _ (show (200 : Nat) ≠ 216 by omega), va_up_ne _ _ (show (200 : Nat) ≠ 215 by omega), gV1_ne _ _ (show (200 : Nat) ≠ 212 ∧ (200 : Nat) ≠ 214 by omega)]) | (rw [va_up_ne _ _ (show (200 : Nat) ≠ 215 by omega), gV1_ne _ _ (show (200 : Nat) ≠ 212 ∧ (200 : Nat) ≠ 214 by omega)]) | (rw [gV1_ne _ _ (show (200 : Nat) ≠ 212 ∧ (200 : Nat) ≠ 214 by omega)]))]
      refine tp_iast hx hb hK hR hS 215 0 (fun _ _ => rfl) rfl sv rfl (by omega) (by decide) dX3_save_145 (fun H locs hR hS => ?_)
      refine lv_aload_n hx hb dX3_save_146 rfl (lv_at hl 1 rfl) ?_
      refine tb_get hx hb hts (fun w h => List.mem_cons_of_mem _ (inX3 w h)) hown hK hR 200 rfl rfl 26 (by decide) (hts _ (List.mem_cons_of_mem _ k504)) (fun _ h => h) rfl dX3_save_147 ?_
      refine lv_aload_n hx hb dX3_save_150 rfl (lv_at hl 1 rfl) ?_
      refine tb_get hx hb hts (fun w h => List.mem_cons_of_mem _ (inX3 w h)) hown hK hR 200 rfl rfl 21 (by decide) (hts _ (List.mem_cons_of_mem _ k499)) (fun _ h => h) rfl dX3_save_151 ?_
      rw [show (va_up (gV1 (gT I 0) sv) 215 (upd ((gV1 (gT I 0) sv) 215) sv ((gT I 0) 200 17))) 200 21 = nI sv from (by first | (rw [va_up_ne _ _ (show (200 : Nat) ≠ 216 by omega), va_up_ne _ _ (show (200 : Nat) ≠ 215 by omega), gV1_ne _ _ (show (200 : Nat) ≠ 212 ∧ (200 : Nat) ≠ 214 by omega)]; exact hsv) | (rw [va_up_ne _ _ (show (200 : Nat) ≠ 215 by omega), gV1_ne _ _ (show (200 : Nat) ≠ 212 ∧ (200 : Nat) ≠ 214 by omega)]; exact hsv) | (rw [gV1_ne _ _ (show (200 : Nat) ≠ 212 ∧ (200 : Nat) ≠ 214 by omega)]; exact hsv))]
      refine lv_aload_n hx hb dX3_save_154 rfl (lv_at hl 1 rfl) ?_
      refine tb_get hx hb hts (fun w h => List.mem_cons_of_mem _ (inX3 w h)) hown hK hR 200 rfl rfl 16 (by decide) (hts _ (List.mem_cons_of_mem _ k494)) (fun _ h => h) rfl dX3_save_155 ?_
      rw [show (va_up (gV1 (gT I 0) sv) 215 (upd ((gV1 (gT I 0) sv) 215) sv ((gT I 0) 200 17))) 200 16 = (gT I 0) 200 16 from (by first | (rw [va_up_ne _ _ (show (200 : Nat) ≠ 216 by omega), va_up_ne _ _ (show (200 : Nat) ≠ 215 by omega), gV1_ne _ _ (show (200 : Nat) ≠ 212 ∧ (200 : Nat) ≠ 214 by omega)]) | (rw [va_up_ne _ _ (show (200 : Nat) ≠ 215 by omega), gV1_ne _ _ (show (200 : Nat) ≠ 212 ∧ (200 : Nat) ≠ 214 by omega)]) | (rw [gV1_ne _ _ (show (200 : Nat) ≠ 212 ∧ (200 : Nat) ≠ 214 by omega)]))]
      refine tp_iast hx hb hK hR hS 216 0 (fun _ _ => rfl) rfl sv rfl (by omega) (by decide) dX3_save_158 (fun H locs hR hS => ?_)
      refine lv_aload_n hx hb dX3_save_159 rfl (lv_at hl 1 rfl) ?_
      refine lv_dup hx hb dX3_save_160 rfl ?_
      refine tb_get hx hb hts (fun w h => List.mem_cons_of_mem _ (inX3 w h)) hown hK hR 200 rfl rfl 21 (by decide) (hts _ (List.mem_cons_of_mem _ k499)) (fun _ h => h) rfl dX3_save_161 ?_
      rw [show (va_up (va_up (gV1 (gT I 0) sv) 215 (upd ((gV1 (gT I 0) sv) 215) sv ((gT I 0) 200 17))) 216 (upd ((va_up (gV1 (gT I 0) sv) 215 (upd ((gV1 (gT I 0) sv) 215) sv ((gT I 0) 200 17))) 216) sv ((gT I 0) 200 16))) 200 21 = nI sv from (by first | (rw [va_up_ne _ _ (show (200 : Nat) ≠ 216 by omega), va_up_ne _ _ (show (200 : Nat) ≠ 215 by omega), gV1_ne _ _ (show (200 : Nat) ≠ 212 ∧ (200 : Nat) ≠ 214 by omega)]; exact hsv) | (rw [va_up_ne _ _ (show (200 : Nat) ≠ 215 by omega), gV1_ne _ _ (show (200 : Nat) ≠ 212 ∧ (200 : Nat) ≠ 214 by omega)]; exact hsv) | (rw [gV1_ne _ _ (show (200 : Nat) ≠ 212 ∧ (200 : Nat) ≠ 214 by omega)]; exact hsv))]
      refine lv_iconst (v := 1) hx hb dX3_save_164 (by decide) ?_
      refine lv_iadd hx hb dX3_save_165 ?_
      rw [nI_1]
      refine tp_put hx hb hts (fun w h => List.mem_cons_of_mem _ (inX3 w h)) tyX3 tyX3_ok nmX3 hown hK hR hS 200 (fun r => [.int (r 0), .int (r 1), .int (r 2), .int (r 3), .ref (ad 201), .ref (ad 202), .ref (ad 203), .ref (ad 204), .int (r 8), .ref (ad 205), .ref (ad 206), .ref (ad 207), .ref (ad 208), .int (r 13), .int (r 14), .int (r 15), .int (r 16), .int (r 17), .ref (ad 209), .ref (ad 210), .ref (ad 211), .int (r 21), .ref (ad 212), .ref (ad 213), .ref (ad 214), .ref (ad 215), .ref (ad 216)]) (fun _ _ => rfl) rfl 21 (by decide) (hts _ (List.mem_cons_of_mem _ k499)) (fun _ h => h) rfl (ty := .int) rfl rfl rfl (by simp) (fun _ => rfl) dX3_save_166 (fun H locs hR hS => ?_)
      have hR : tR D vwCl base ad (tC (wP n ad cs) (gMv (gT I 0) sv) (va_up L 213 (va_cpy (L 210) (L 213) 0 (4 * sv) 4))) H := by
        rw [va_up_ne _ _ (show (200 : Nat) ≠ 216 by omega), va_up_ne _ _ (show (200 : Nat) ≠ 215 by omega), va_up_ne _ _ (show (216 : Nat) ≠ 215 by omega), gV1_ne _ _ (show (200 : Nat) ≠ 212 ∧ (200 : Nat) ≠ 214 by omega), gV1_ne _ _ (show (216 : Nat) ≠ 212 ∧ (216 : Nat) ≠ 214 by omega), gV1_ne _ _ (show (215 : Nat) ≠ 212 ∧ (215 : Nat) ≠ 214 by omega)] at hR; exact hR
      refine lv_aload_n hx hb dX3_save_169 rfl (lv_at hl 1 rfl) ?_
      refine tb_get hx hb hts (fun w h => List.mem_cons_of_mem _ (inX3 w h)) hown hK hR 200 rfl rfl 21 (by decide) (hts _ (List.mem_cons_of_mem _ k499)) (fun _ h => h) rfl dX3_save_170 ?_
      rw [show (gMv (gT I 0) sv) 200 21 = nI (sv + 1) from (by unfold gMv; rw [va_up_self, pk_us])]
      refine lv_iconst (v := 1) hx hb dX3_save_173 (by decide) ?_
      refine lv_isub hx hb dX3_save_174 ?_
      rw [nI_pred]
      exact W.iret (v := nI sv) hx hb hr (fun t ht hW => ⟨⟨_, (gMv (gT I 0) sv, va_up L 213 (va_cpy (L 210) (L 213) 0 (4 * sv) 4)), rfl, Or.inr (Or.inr (Or.inr ⟨t1, t2, t3, rfl, rfl⟩)), by show tR _ _ _ _ _ t.heap; rw [ht]; exact hR⟩, hS.F ht⟩) hS.2.2 dX3_save_175
  · refine lv_aload_n hx hb dX3_save_1 rfl (lv_at hl 0 rfl) ?_
    refine tb_get hx hb hts (fun w h => List.mem_cons_of_mem _ (inX3 w h)) hown hK hR 200 rfl rfl 15 (by decide) (hts _ (List.mem_cons_of_mem _ k493)) (fun _ h => h) rfl dX3_save_2 ?_
    rw [show I 200 15 = nI sd from hMf.2.2.2.2.1]
    refine lv_if_eq (tgt := 16) hx hb dX3_save_5 (by decide) (fun c1 => ?_) (fun c1 => ?_)
    · refine lv_iconst (v := 1) hx hb dX3_save_16 (by decide) ?_
      refine lv_goto (tgt := 21) hx hb dX3_save_17 (by decide) ?_
      exact Kx1 _ _ _ (bZ1 (fun z => absurd c1 (by rw [z.1]; decide))) ⟨hR, hS⟩
    · have hs : sd = 1 := by have q : ¬ sd = 0 := fun z => c1 (by rw [z]; rfl); omega
      refine lv_aload_n hx hb dX3_save_8 rfl (lv_at hl 0 rfl) ?_
      refine tb_get hx hb hts (fun w h => List.mem_cons_of_mem _ (inX3 w h)) hown hK hR 200 rfl rfl 21 (by decide) (hts _ (List.mem_cons_of_mem _ k499)) (fun _ h => h) rfl dX3_save_9 ?_
      rw [show I 200 21 = nI sv from hMf.2.2.2.2.2.1]
      refine lv_iconst (v := 4) hx hb dX3_save_12 (by decide) ?_
      refine lv_icmp_ne (tgt := 20) hx hb dX3_save_13 (by decide) (fun c2 => ?_) (fun c2 => ?_)
      · refine lv_iconst (v := 0) hx hb dX3_save_20 (by decide) ?_
        exact Kx1 _ _ _ (bZ0 (fun z => z ⟨hs, by have q : ¬ sv = 4 := fun e => c2 (by rw [e]; rfl); omega⟩)) ⟨hR, hS⟩
      · refine lv_iconst (v := 1) hx hb dX3_save_16 (by decide) ?_
        refine lv_goto (tgt := 21) hx hb dX3_save_17 (by decide) ?_
        exact Kx1 _ _ _ (bZ1 (fun z => absurd ((nI_eq (by omega) (by decide)).mp (show nI sv = nI 4 from c2)) (by omega))) ⟨hR, hS⟩
set_option maxHeartbeats 4000000 in
set_option maxRecDepth 100000 in
theorem lpX3_back {p : Program} {e : Env} {R : Room} {s : State} {m : MethodId} {args : Array Value} {below : List Frame} {meth : Method} {c : Code} {cells slots : Nat} {Q : State → Prop} (S0 : CallFix p m c cX3_back 3 s args wX3_back RX3) (hE : eV D cs base sa s) (hRf : 0 ≤ R.frames) (hRl : 0 ≤ R.locals) (hRc : cells ≤ R.cells) (hRs : slots ≤ R.slots) (I : tI) (L : tL) (i9 : Nat) (hi4 : i9 < 4)
    (kx : ∀ (H : Heap) (locs : List Loc) (ls : Array Slot), tR D vwCl base ad (tC (wP n ad cs) (va_up I 209 (va_cpy (I 212) (I 209) (32 * i9) 0 32)) L) H → va_S (fun q => base ≤ q) s.heap H locs → lv_has ls 3 [(2, .int (nI 32)), (0, .ref (ad 200)), (1, .int (nI i9))] → W p l e R s m args below meth c H locs cells slots Q (F0 m 61 ls [])) :
    ∀ (k j : Nat) (H : Heap) (locs : List Loc) (ls : Array Slot), j ≤ 32 → 32 + 1 ≤ j + k → tR D vwCl base ad (tC (wP n ad cs) (va_up I 209 (va_cpy (I 212) (I 209) (32 * i9) 0 j)) L) H → va_S (fun q => base ≤ q) s.heap H locs → lv_has ls 3 [(2, .int (nI j)), (0, .ref (ad 200)), (1, .int (nI i9))] → W p l e R s m args below meth c H locs cells slots Q (F0 m 32 ls []) := by
  obtain ⟨hx, hb, hml, hown, hts⟩ := S0
  have hK := hE.K
  intro k
  induction k with
  | zero => intro j  H locs ls h1 h2; exact absurd h2 (by omega)
  | succ k ih =>
    intro j  H locs ls hj hk  hR hS hl
    refine lv_iload_n hx hb dX3_back_32 rfl (lv_at hl 0 rfl) ?_
    refine lv_bipush (v := nI 32) hx hb dX3_back_33 (by decide) ?_
    refine lv_icmp_ge (tgt := 61) hx hb dX3_back_35 (by decide) (fun c1 => ?_) (fun c1 => ?_)
    · have hjN : j = 32 := by have e9 := (nI_leI (by omega) (by omega)).mp c1; omega
      subst hjN
      exact kx  H locs ls  hR hS (lv_sub hl [0, 1, 2] rfl)
    · have hjN : j < 32 := by
        rcases Nat.lt_or_ge j 32 with q | q
        · exact q
        · exact absurd (nI_le (by omega) (by omega)) c1
      refine lv_aload_n hx hb dX3_back_38 rfl (lv_at hl 1 rfl) ?_
      refine tb_get hx hb hts (fun w h => List.mem_cons_of_mem _ (inX3 w h)) hown hK hR 200 rfl rfl 18 (by decide) (hts _ (List.mem_cons_of_mem _ k496)) (fun _ h => h) rfl dX3_back_39 ?_
      refine lv_iload_n hx hb dX3_back_42 rfl (lv_at hl 0 rfl) ?_
      refine lv_aload_n hx hb dX3_back_43 rfl (lv_at hl 1 rfl) ?_
      refine tb_get hx hb hts (fun w h => List.mem_cons_of_mem _ (inX3 w h)) hown hK hR 200 rfl rfl 22 (by decide) (hts _ (List.mem_cons_of_mem _ k500)) (fun _ h => h) rfl dX3_back_44 ?_
      refine lv_bipush (v := nI 32) hx hb dX3_back_47 (by decide) ?_
      refine lv_iload_n hx hb dX3_back_49 rfl (lv_at hl 2 rfl) ?_
      refine lv_imul hx hb dX3_back_50 ?_
      rw [pk_mul]
      refine lv_iload_n hx hb dX3_back_51 rfl (lv_at hl 0 rfl) ?_
      refine lv_iadd hx hb dX3_back_52 ?_
      rw [nI_add]
      refine tp_iald hx hb hK hR 212 0 (fun _ _ => rfl) rfl (32 * i9 + j) rfl (by omega) (by decide) dX3_back_53 ?_
      rw [show (va_up I 209 (va_cpy (I 212) (I 209) (32 * i9) 0 j)) 212 (32 * i9 + j) = I 212 (32 * i9 + j) from (by rw [va_up_ne _ _ (by omega)])]
      refine tp_iast hx hb hK hR hS 209 0 (fun _ _ => rfl) rfl j rfl (by omega) (by decide) dX3_back_54 (fun H locs hR hS => ?_)
      rw [bx_uu, va_up_self, cpy_b] at hR
      refine lv_iinc (v := nI (j + 1)) (lv' := [(2, .int (nI (j + 1))), (0, .ref (ad 200)), (1, .int (nI i9))]) hx hb dX3_back_55 hl (k := 0) rfl (nI_1 _) (by decide) rfl (fun ls hl => ?_)
      refine lv_goto (tgt := 32) hx hb dX3_back_58 (by decide) ?_
      exact ih (j + 1)  H locs ls (by omega) (by omega)  hR hS (lv_sub hl [0, 1, 2] rfl)
set_option maxHeartbeats 4000000 in
set_option maxRecDepth 100000 in
theorem lqX3_back {p : Program} {e : Env} {R : Room} {s : State} {m : MethodId} {args : Array Value} {below : List Frame} {meth : Method} {c : Code} {cells slots : Nat} {Q : State → Prop} (S0 : CallFix p m c cX3_back 3 s args wX3_back RX3) (hE : eV D cs base sa s) (hRf : 0 ≤ R.frames) (hRl : 0 ≤ R.locals) (hRc : cells ≤ R.cells) (hRs : slots ≤ R.slots) (I : tI) (L : tL) (i9 : Nat) (hi4 : i9 < 4)
    (kx : ∀ (H : Heap) (locs : List Loc) (ls : Array Slot), tR D vwCl base ad (tC (wP n ad cs) I (va_up L 210 (va_cpy (L 213) (L 210) (4 * i9) 0 4))) H → va_S (fun q => base ≤ q) s.heap H locs → lv_has ls 3 [(2, .int (nI 4)), (0, .ref (ad 200)), (1, .int (nI i9))] → W p l e R s m args below meth c H locs cells slots Q (F0 m 90 ls [])) :
    ∀ (k j : Nat) (H : Heap) (locs : List Loc) (ls : Array Slot), j ≤ 4 → 4 + 1 ≤ j + k → tR D vwCl base ad (tC (wP n ad cs) I (va_up L 210 (va_cpy (L 213) (L 210) (4 * i9) 0 j))) H → va_S (fun q => base ≤ q) s.heap H locs → lv_has ls 3 [(2, .int (nI j)), (0, .ref (ad 200)), (1, .int (nI i9))] → W p l e R s m args below meth c H locs cells slots Q (F0 m 63 ls []) := by
  obtain ⟨hx, hb, hml, hown, hts⟩ := S0
  have hK := hE.K
  intro k
  induction k with
  | zero => intro j  H locs ls h1 h2; exact absurd h2 (by omega)
  | succ k ih =>
    intro j  H locs ls hj hk  hR hS hl
    refine lv_iload_n hx hb dX3_back_63 rfl (lv_at hl 0 rfl) ?_
    refine lv_iconst (v := nI 4) hx hb dX3_back_64 (by decide) ?_
    refine lv_icmp_ge (tgt := 90) hx hb dX3_back_65 (by decide) (fun c1 => ?_) (fun c1 => ?_)
    · have hjN : j = 4 := by have e9 := (nI_leI (by omega) (by omega)).mp c1; omega
      subst hjN
      exact kx  H locs ls  hR hS (lv_sub hl [0, 1, 2] rfl)
    · have hjN : j < 4 := by
        rcases Nat.lt_or_ge j 4 with q | q
        · exact q
        · exact absurd (nI_le (by omega) (by omega)) c1
      refine lv_aload_n hx hb dX3_back_68 rfl (lv_at hl 1 rfl) ?_
      refine tb_get hx hb hts (fun w h => List.mem_cons_of_mem _ (inX3 w h)) hown hK hR 200 rfl rfl 19 (by decide) (hts _ (List.mem_cons_of_mem _ k497)) (fun _ h => h) rfl dX3_back_69 ?_
      refine lv_iload_n hx hb dX3_back_72 rfl (lv_at hl 0 rfl) ?_
      refine lv_aload_n hx hb dX3_back_73 rfl (lv_at hl 1 rfl) ?_
      refine tb_get hx hb hts (fun w h => List.mem_cons_of_mem _ (inX3 w h)) hown hK hR 200 rfl rfl 23 (by decide) (hts _ (List.mem_cons_of_mem _ k501)) (fun _ h => h) rfl dX3_back_74 ?_
      refine lv_iconst (v := nI 4) hx hb dX3_back_77 (by decide) ?_
      refine lv_iload_n hx hb dX3_back_78 rfl (lv_at hl 2 rfl) ?_
      refine lv_imul hx hb dX3_back_79 ?_
      rw [pk_mul]
      refine lv_iload_n hx hb dX3_back_80 rfl (lv_at hl 0 rfl) ?_
      refine lv_iadd hx hb dX3_back_81 ?_
      rw [nI_add]
      refine tp_lald hx hb hK hR 213 1 (fun _ _ => rfl) rfl (4 * i9 + j) rfl (by omega) (by decide) dX3_back_82 ?_
      rw [show (va_up L 210 (va_cpy (L 213) (L 210) (4 * i9) 0 j)) 213 (4 * i9 + j) = L 213 (4 * i9 + j) from (by rw [va_up_ne _ _ (by omega)])]
      refine tp_last hx hb hK hR hS 210 1 (fun _ _ => rfl) rfl j rfl (by omega) (by decide) dX3_back_83 (fun H locs hR hS => ?_)
      rw [bx_uu, va_up_self, cpy_bL] at hR
      refine lv_iinc (v := nI (j + 1)) (lv' := [(2, .int (nI (j + 1))), (0, .ref (ad 200)), (1, .int (nI i9))]) hx hb dX3_back_84 hl (k := 0) rfl (nI_1 _) (by decide) rfl (fun ls hl => ?_)
      refine lv_goto (tgt := 63) hx hb dX3_back_87 (by decide) ?_
      exact ih (j + 1)  H locs ls (by omega) (by omega)  hR hS (lv_sub hl [0, 1, 2] rfl)
set_option maxHeartbeats 4000000 in
set_option maxRecDepth 100000 in
theorem lrX3_back {p : Program} {e : Env} {R : Room} {s : State} {m : MethodId} {args : Array Value} {below : List Frame} {meth : Method} {c : Code} {cells slots : Nat} {Q : State → Prop} (S0 : CallFix p m c cX3_back 3 s args wX3_back RX3) (hE : eV D cs base sa s) (hRf : 0 ≤ R.frames) (hRl : 0 ≤ R.locals) (hRc : cells ≤ R.cells) (hRs : slots ≤ R.slots) (I : tI) (L : tL) (i9 : Nat) (hi4 : i9 < 4)
    (kx : ∀ (H : Heap) (locs : List Loc) (ls : Array Slot), tR D vwCl base ad (tC (wP n ad cs) (va_up I 211 (va_cpy (I 214) (I 211) (1920 * i9) 0 1920)) L) H → va_S (fun q => base ≤ q) s.heap H locs → lv_has ls 3 [(2, .int (nI 1920)), (0, .ref (ad 200)), (1, .int (nI i9))] → W p l e R s m args below meth c H locs cells slots Q (F0 m 123 ls [])) :
    ∀ (k j : Nat) (H : Heap) (locs : List Loc) (ls : Array Slot), j ≤ 1920 → 1920 + 1 ≤ j + k → tR D vwCl base ad (tC (wP n ad cs) (va_up I 211 (va_cpy (I 214) (I 211) (1920 * i9) 0 j)) L) H → va_S (fun q => base ≤ q) s.heap H locs → lv_has ls 3 [(2, .int (nI j)), (0, .ref (ad 200)), (1, .int (nI i9))] → W p l e R s m args below meth c H locs cells slots Q (F0 m 92 ls []) := by
  obtain ⟨hx, hb, hml, hown, hts⟩ := S0
  have hK := hE.K
  intro k
  induction k with
  | zero => intro j  H locs ls h1 h2; exact absurd h2 (by omega)
  | succ k ih =>
    intro j  H locs ls hj hk  hR hS hl
    refine lv_iload_n hx hb dX3_back_92 rfl (lv_at hl 0 rfl) ?_
    refine lv_sipush (v := nI 1920) hx hb dX3_back_93 (by decide) ?_
    refine lv_icmp_ge (tgt := 123) hx hb dX3_back_96 (by decide) (fun c1 => ?_) (fun c1 => ?_)
    · have hjN : j = 1920 := by have e9 := (nI_leI (by omega) (by omega)).mp c1; omega
      subst hjN
      exact kx  H locs ls  hR hS (lv_sub hl [0, 1, 2] rfl)
    · have hjN : j < 1920 := by
        rcases Nat.lt_or_ge j 1920 with q | q
        · exact q
        · exact absurd (nI_le (by omega) (by omega)) c1
      refine lv_aload_n hx hb dX3_back_99 rfl (lv_at hl 1 rfl) ?_
      refine tb_get hx hb hts (fun w h => List.mem_cons_of_mem _ (inX3 w h)) hown hK hR 200 rfl rfl 20 (by decide) (hts _ (List.mem_cons_of_mem _ k498)) (fun _ h => h) rfl dX3_back_100 ?_
      refine lv_iload_n hx hb dX3_back_103 rfl (lv_at hl 0 rfl) ?_
      refine lv_aload_n hx hb dX3_back_104 rfl (lv_at hl 1 rfl) ?_
      refine tb_get hx hb hts (fun w h => List.mem_cons_of_mem _ (inX3 w h)) hown hK hR 200 rfl rfl 24 (by decide) (hts _ (List.mem_cons_of_mem _ k502)) (fun _ h => h) rfl dX3_back_105 ?_
      refine lv_sipush (v := nI 1920) hx hb dX3_back_108 (by decide) ?_
      refine lv_iload_n hx hb dX3_back_111 rfl (lv_at hl 2 rfl) ?_
      refine lv_imul hx hb dX3_back_112 ?_
      rw [pk_mul]
      refine lv_iload_n hx hb dX3_back_113 rfl (lv_at hl 0 rfl) ?_
      refine lv_iadd hx hb dX3_back_114 ?_
      rw [nI_add]
      refine tp_iald hx hb hK hR 214 0 (fun _ _ => rfl) rfl (1920 * i9 + j) rfl (by omega) (by decide) dX3_back_115 ?_
      rw [show (va_up I 211 (va_cpy (I 214) (I 211) (1920 * i9) 0 j)) 214 (1920 * i9 + j) = I 214 (1920 * i9 + j) from (by rw [va_up_ne _ _ (by omega)])]
      refine tp_iast hx hb hK hR hS 211 0 (fun _ _ => rfl) rfl j rfl (by omega) (by decide) dX3_back_116 (fun H locs hR hS => ?_)
      rw [bx_uu, va_up_self, cpy_b] at hR
      refine lv_iinc (v := nI (j + 1)) (lv' := [(2, .int (nI (j + 1))), (0, .ref (ad 200)), (1, .int (nI i9))]) hx hb dX3_back_117 hl (k := 0) rfl (nI_1 _) (by decide) rfl (fun ls hl => ?_)
      refine lv_goto (tgt := 92) hx hb dX3_back_120 (by decide) ?_
      exact ih (j + 1)  H locs ls (by omega) (by omega)  hR hS (lv_sub hl [0, 1, 2] rfl)
set_option maxHeartbeats 4000000 in
set_option maxRecDepth 100000 in
theorem mX3_back (I : tI) (L : tL) {bu ev sd sv : Nat} {se : Int32} (p0 : Int32) (hMf : cMf I n bu ev sd sv se) : Met l yX3_back wX3_back ({ frames := 3, cells := 0, slots := 0, locals := 90 }) (va_Pc [.ref (ad 200), .int p0] (kB D cs base sa n ad I L)) (va_Qi (fun (r : Int32) (u : tI × tL) => pM I L (¬ inN sv p0) False False (fun r u => ∃ i9, i9 < sv ∧ p0 = nI i9 ∧ r = I 215 i9 ∧ u = (gMb (gT I 0) i9, va_up L 210 (va_cpy (L 213) (L 210) (4 * i9) 0 4))) r u) (kA D cs base n ad) (fun q => base ≤ q)) 0 0 (fun q => base ≤ q) := by
  refine Met.ofW (cc := cX3_back) (maxL := 3) (ret := (some .int)) (by decide) rfl ?_
  intro p e s m args below meth c s₁ Bd hml hv
  obtain ⟨rfl, hE, hR⟩ := hv
  have hx := Bd.exec
  have hb := Bd.bytes
  have hr := Bd.returns
  have hts := atoms_spec (ws := wX3_back) Bd.pre
  have hown : s.vm.findClass RX3 = some m.cls := findClass_of_methodNamed Bd.named
  have hlocks := Bd.notSynchronized
  have hK := hE.K
  have hS : va_S (fun q => base ≤ q) s.heap s.heap [] := va_S.rf
  have hR : tR D vwCl base ad (tC (wP n ad cs) I L) s.heap := hR
  have hl := lv_entry ([.ref (ad 200), .int p0]) (n := 3) (Nat.le_of_ble_eq_true rfl)
  rw [lg_entry_eq]
  generalize (lg_sl ([.ref (ad 200), .int p0]) ++ List.replicate (3 - (lg_sl ([.ref (ad 200), .int p0])).length) Slot.unset).toArray = ls at hl ⊢
  have hl : lv_has ls 3 [(0, .ref (ad 200)), (1, .int p0)] := hl
  obtain ⟨h_f1, h_f2, h_f3, h_f4, h_f5, h_f6, h_n1, h_n4, h_bu, h_e1, h_e2, h_s1, h_v4⟩ := id hMf
  refine lv_aload_n hx hb dX3_back_0 rfl (lv_at hl 0 rfl) ?_
  refine jnW (P := ¬ inN sv p0) 20 (fun x1 => .int x1 :: [.ref (ad 200)]) (fun H locs => tR D vwCl base ad (tC (wP n ad cs) I L) H ∧ va_S (fun q => base ≤ q) s.heap H locs) (fun x1 H locs hx1 hT => ?_) (fun Kx1 => ?_)
  · obtain ⟨hR, hS⟩ := hT
    refine lv_iconst (v := 0) hx hb dX3_back_20 (by decide) ?_
    refine lv_iconst (v := 0) hx hb dX3_back_21 (by decide) ?_
    refine kc_i (va_runV (As := [.int x1, .int 0, .int 0]) (rest := []) ⟨hx, hb, hml, hown, hts⟩ (mX3_throwing I L x1 0 0 (P1 := (¬ inN sv p0)) (P2 := False) (P3 := False) hx1 (bZ0 (fun z => z)) (bZ0 (fun z => z))) (cwV 3 hts (kw_V k571 k573 ks25 k5 k574) rfl rfl rfl (by decide +kernel) ⟨Nat.le_of_ble_eq_true rfl, Nat.le_of_ble_eq_true rfl⟩) (kB_preV hE hR hS 200 rfl rfl [.int x1, .int 0, .int 0]) rfl rfl hl.1 rfl (lv_room (Nat.le_of_ble_eq_true rfl)) dX3_back_22 ⟨Nat.le_of_ble_eq_true rfl, Nat.le_of_ble_eq_true rfl⟩) hS (fun r u H locs hw hR hS => ?_)
    rcases hw with ⟨t1, rfl, rfl⟩ | ⟨t1, t2, rfl, rfl⟩ | ⟨t1, t2, t3, rfl, rfl⟩ | ⟨t1, t2, t3, rfl, rfl⟩
    · have hR : tR D vwCl base ad (tC (wP n ad cs) (gT I 1) L) H := hR
      refine lv_if_eq (tgt := 30) hx hb dX3_back_25 (by decide) (fun c9 => absurd c9 (by decide)) (fun c9 => ?_)
      refine lv_iconst (v := 0) hx hb dX3_back_28 (by decide) ?_
      exact W.iret (v := 0) hx hb hr (fun t ht hW => ⟨⟨_, (gT I 1, L), rfl, Or.inl ⟨t1, rfl, rfl⟩, by show tR _ _ _ _ _ t.heap; rw [ht]; exact hR⟩, hS.F ht⟩) hS.2.2 dX3_back_29
    · exact t2.elim
    · exact t3.elim
    · have hR : tR D vwCl base ad (tC (wP n ad cs) (gT I 0) L) H := hR
      refine lv_if_eq (tgt := 30) hx hb dX3_back_25 (by decide) (fun c9 => ?_) (fun c9 => absurd rfl c9)
      have hp0 := Classical.byContradiction (fun z => t1 z)
      obtain ⟨i9, hi9, rfl⟩ := id hp0
      refine lv_iconst (v := 0) hx hb dX3_back_30 (by decide) ?_
      rw [show (0 : Int32) = nI 0 from nI_0.symm]
      refine lv_istore_n (lv' := [(2, .int (nI 0)), (0, .ref (ad 200)), (1, .int (nI i9))]) hx hb dX3_back_31 rfl hl (by decide) rfl (fun ls hl => ?_)
      have hR : tR D vwCl base ad (tC (wP n ad cs) (va_up (gT I 0) 209 (va_cpy ((gT I 0) 212) ((gT I 0) 209) (32 * i9) 0 0)) L) H := by rw [cpy_0, va_up_id]; exact hR
      refine lpX3_back ⟨hx, hb, hml, hown, hts⟩ hE (Nat.zero_le _) (Nat.zero_le _) (Nat.le_of_ble_eq_true rfl) (Nat.le_of_ble_eq_true rfl) (gT I 0) L i9 (by omega) (fun H locs ls hR hS hl => ?_) 33 0 _ _ ls (Nat.zero_le _) (by omega) hR hS (lv_sub hl [0, 1, 2] rfl)
      refine lv_iconst (v := 0) hx hb dX3_back_61 (by decide) ?_
      rw [show (0 : Int32) = nI 0 from nI_0.symm]
      refine lv_istore_n (lv' := [(2, .int (nI 0)), (0, .ref (ad 200)), (1, .int (nI i9))]) hx hb dX3_back_62 rfl hl (by decide) rfl (fun ls hl => ?_)
      have hR : tR D vwCl base ad (tC (wP n ad cs) (va_up (gT I 0) 209 (va_cpy ((gT I 0) 212) ((gT I 0) 209) (32 * i9) 0 32)) (va_up L 210 (va_cpy (L 213) (L 210) (4 * i9) 0 0))) H := by rw [cpy_0, va_up_id]; exact hR
      refine lqX3_back ⟨hx, hb, hml, hown, hts⟩ hE (Nat.zero_le _) (Nat.zero_le _) (Nat.le_of_ble_eq_true rfl) (Nat.le_of_ble_eq_true rfl) (va_up (gT I 0) 209 (va_cpy ((gT I 0) 212) ((gT I 0) 209) (32 * i9) 0 32)) L i9 (by omega) (fun H locs ls hR hS hl => ?_) 5 0 _ _ ls (Nat.zero_le _) (by omega) hR hS (lv_sub hl [0, 1, 2] rfl)
      refine lv_iconst (v := 0) hx hb dX3_back_90 (by decide) ?_
      rw [show (0 : Int32) = nI 0 from nI_0.symm]
      refine lv_istore_n (lv' := [(2, .int (nI 0)), (0, .ref (ad 200)), (1, .int (nI i9))]) hx hb dX3_back_91 rfl hl (by decide) rfl (fun ls hl => ?_)
      have hR : tR D vwCl base ad (tC (wP n ad cs) (va_up (va_up (gT I 0) 209 (va_cpy ((gT I 0) 212) ((gT I 0) 209) (32 * i9) 0 32)) 211 (va_cpy ((va_up (gT I 0) 209 (va_cpy ((gT I 0) 212) ((gT I 0) 209) (32 * i9) 0 32)) 214) ((va_up (gT I 0) 209 (va_cpy ((gT I 0) 212) ((gT I 0) 209) (32 * i9) 0 32)) 211) (1920 * i9) 0 0)) (va_up L 210 (va_cpy (L 213) (L 210) (4 * i9) 0 4))) H := by rw [cpy_0, va_up_id]; exact hR
      refine lrX3_back ⟨hx, hb, hml, hown, hts⟩ hE (Nat.zero_le _) (Nat.zero_le _) (Nat.le_of_ble_eq_true rfl) (Nat.le_of_ble_eq_true rfl) (va_up (gT I 0) 209 (va_cpy ((gT I 0) 212) ((gT I 0) 209) (32 * i9) 0 32)) (va_up L 210 (va_cpy (L 213) (L 210) (4 * i9) 0 4)) i9 (by omega) (fun H locs ls hR hS hl => ?_) 1921 0 _ _ ls (Nat.zero_le _) (by omega) hR hS (lv_sub hl [0, 1, 2] rfl)
      rw [va_up_ne _ _ (show (211 : Nat) ≠ 209 by omega), va_up_ne _ _ (show (214 : Nat) ≠ 209 by omega)] at hR
      have hR : tR D vwCl base ad (tC (wP n ad cs) (gB1 (gT I 0) i9) (va_up L 210 (va_cpy (L 213) (L 210) (4 * i9) 0 4))) H := hR
      refine lv_aload_n hx hb dX3_back_123 rfl (lv_at hl 1 rfl) ?_
      refine lv_aload_n hx hb dX3_back_124 rfl (lv_at hl 1 rfl) ?_
      refine tb_get hx hb hts (fun w h => List.mem_cons_of_mem _ (inX3 w h)) hown hK hR 200 rfl rfl 25 (by decide) (hts _ (List.mem_cons_of_mem _ k503)) (fun _ h => h) rfl dX3_back_125 ?_
      refine lv_iload_n hx hb dX3_back_128 rfl (lv_at hl 2 rfl) ?_
      refine tp_iald hx hb hK hR 215 0 (fun _ _ => rfl) rfl i9 rfl (by omega) (by decide) dX3_back_129 ?_
      rw [show (gB1 (gT I 0) i9) 215 i9 = I 215 i9 from (by first | (rw [gB1_ne _ _ (by omega), gT_ne _ _ (by omega)]) | (rw [va_up_ne _ _ (by omega), gB1_ne _ _ (by omega), gT_ne _ _ (by omega)]))]
      refine tp_put hx hb hts (fun w h => List.mem_cons_of_mem _ (inX3 w h)) tyX3 tyX3_ok nmX3 hown hK hR hS 200 (fun r => [.int (r 0), .int (r 1), .int (r 2), .int (r 3), .ref (ad 201), .ref (ad 202), .ref (ad 203), .ref (ad 204), .int (r 8), .ref (ad 205), .ref (ad 206), .ref (ad 207), .ref (ad 208), .int (r 13), .int (r 14), .int (r 15), .int (r 16), .int (r 17), .ref (ad 209), .ref (ad 210), .ref (ad 211), .int (r 21), .ref (ad 212), .ref (ad 213), .ref (ad 214), .ref (ad 215), .ref (ad 216)]) (fun _ _ => rfl) rfl 17 (by decide) (hts _ (List.mem_cons_of_mem _ k495)) (fun _ h => h) rfl (ty := .int) rfl rfl rfl (by simp) (fun _ => rfl) dX3_back_130 (fun H locs hR hS => ?_)
      refine lv_aload_n hx hb dX3_back_133 rfl (lv_at hl 1 rfl) ?_
      refine lv_aload_n hx hb dX3_back_134 rfl (lv_at hl 1 rfl) ?_
      refine tb_get hx hb hts (fun w h => List.mem_cons_of_mem _ (inX3 w h)) hown hK hR 200 rfl rfl 26 (by decide) (hts _ (List.mem_cons_of_mem _ k504)) (fun _ h => h) rfl dX3_back_135 ?_
      refine lv_iload_n hx hb dX3_back_138 rfl (lv_at hl 2 rfl) ?_
      refine tp_iald hx hb hK hR 216 0 (fun _ _ => rfl) rfl i9 rfl (by omega) (by decide) dX3_back_139 ?_
      rw [show (va_up (gB1 (gT I 0) i9) 200 (upd ((gB1 (gT I 0) i9) 200) 17 (I 215 i9))) 216 i9 = I 216 i9 from (by first | (rw [gB1_ne _ _ (by omega), gT_ne _ _ (by omega)]) | (rw [va_up_ne _ _ (by omega), gB1_ne _ _ (by omega), gT_ne _ _ (by omega)]))]
      refine tp_put hx hb hts (fun w h => List.mem_cons_of_mem _ (inX3 w h)) tyX3 tyX3_ok nmX3 hown hK hR hS 200 (fun r => [.int (r 0), .int (r 1), .int (r 2), .int (r 3), .ref (ad 201), .ref (ad 202), .ref (ad 203), .ref (ad 204), .int (r 8), .ref (ad 205), .ref (ad 206), .ref (ad 207), .ref (ad 208), .int (r 13), .int (r 14), .int (r 15), .int (r 16), .int (r 17), .ref (ad 209), .ref (ad 210), .ref (ad 211), .int (r 21), .ref (ad 212), .ref (ad 213), .ref (ad 214), .ref (ad 215), .ref (ad 216)]) (fun _ _ => rfl) rfl 16 (by decide) (hts _ (List.mem_cons_of_mem _ k494)) (fun _ h => h) rfl (ty := .int) rfl rfl rfl (by simp) (fun _ => rfl) dX3_back_140 (fun H locs hR hS => ?_)
      refine lv_aload_n hx hb dX3_back_143 rfl (lv_at hl 1 rfl) ?_
      refine lv_iconst (v := 1) hx hb dX3_back_144 (by decide) ?_
      refine tp_put hx hb hts (fun w h => List.mem_cons_of_mem _ (inX3 w h)) tyX3 tyX3_ok nmX3 hown hK hR hS 200 (fun r => [.int (r 0), .int (r 1), .int (r 2), .int (r 3), .ref (ad 201), .ref (ad 202), .ref (ad 203), .ref (ad 204), .int (r 8), .ref (ad 205), .ref (ad 206), .ref (ad 207), .ref (ad 208), .int (r 13), .int (r 14), .int (r 15), .int (r 16), .int (r 17), .ref (ad 209), .ref (ad 210), .ref (ad 211), .int (r 21), .ref (ad 212), .ref (ad 213), .ref (ad 214), .ref (ad 215), .ref (ad 216)]) (fun _ _ => rfl) rfl 15 (by decide) (hts _ (List.mem_cons_of_mem _ k493)) (fun _ h => h) rfl (ty := .boolean) rfl rfl rfl (by simp) (fun _ => rfl) dX3_back_145 (fun H locs hR hS => ?_)
      have hR : tR D vwCl base ad (tC (wP n ad cs) (gMb (gT I 0) i9) (va_up L 210 (va_cpy (L 213) (L 210) (4 * i9) 0 4))) H := by
        rw [bx_uu, bx_uu, va_up_self, va_up_self, gB1_ne _ _ (show (200 : Nat) ≠ 209 ∧ (200 : Nat) ≠ 211 by omega)] at hR; unfold gMb; rw [gT_ne _ _ (show (215 : Nat) ≠ 200 by omega), gT_ne _ _ (show (216 : Nat) ≠ 200 by omega)]; exact hR
      refine lv_aload_n hx hb dX3_back_148 rfl (lv_at hl 1 rfl) ?_
      refine tb_get hx hb hts (fun w h => List.mem_cons_of_mem _ (inX3 w h)) hown hK hR 200 rfl rfl 17 (by decide) (hts _ (List.mem_cons_of_mem _ k495)) (fun _ h => h) rfl dX3_back_149 ?_
      rw [show (gMb (gT I 0) i9) 200 17 = I 215 i9 from (by unfold gMb; rw [va_up_self, pk_un (by omega), pk_un (by omega), pk_us, gT_ne _ _ (by omega)])]
      exact W.iret (v := I 215 i9) hx hb hr (fun t ht hW => ⟨⟨_, (gMb (gT I 0) i9, va_up L 210 (va_cpy (L 213) (L 210) (4 * i9) 0 4)), rfl, Or.inr (Or.inr (Or.inr ⟨t1, t2, t3, i9, hi9, rfl, rfl, rfl⟩)), by show tR _ _ _ _ _ t.heap; rw [ht]; exact hR⟩, hS.F ht⟩) hS.2.2 dX3_back_152
  · refine lv_iload_n hx hb dX3_back_1 rfl (lv_at hl 1 rfl) ?_
    refine lv_iconst (v := 0) hx hb dX3_back_2 (by decide) ?_
    refine lv_aload_n hx hb dX3_back_3 rfl (lv_at hl 0 rfl) ?_
    refine tb_get hx hb hts (fun w h => List.mem_cons_of_mem _ (inX3 w h)) hown hK hR 200 rfl rfl 21 (by decide) (hts _ (List.mem_cons_of_mem _ k499)) (fun _ h => h) rfl dX3_back_4 ?_
    rw [show I 200 21 = nI sv from hMf.2.2.2.2.2.1]
    refine lv_iconst (v := 1) hx hb dX3_back_7 (by decide) ?_
    refine lv_isub hx hb dX3_back_8 ?_
    refine kc_i (va_runS (As := [.int p0, .int 0, .int ((nI sv) - 1)]) (rest := [.ref (ad 200)]) ⟨hx, hb, hml, hown, hts⟩ (mX3_in I L p0 0 ((nI sv) - 1)) (va_cwS 3 hts (kw_S k568 k569 k5 k570) rfl rfl rfl (by decide +kernel) ⟨Nat.le_of_ble_eq_true rfl, Nat.le_of_ble_eq_true rfl⟩) (kB_pre hE hR hS [.int p0, .int 0, .int ((nI sv) - 1)]) rfl rfl hl.1 rfl (lv_room (Nat.le_of_ble_eq_true rfl)) dX3_back_9 ⟨Nat.le_of_ble_eq_true rfl, Nat.le_of_ble_eq_true rfl⟩) hS (fun r u H locs hw hR hS => ?_)
    obtain ⟨q1, rfl⟩ := hw
    have hR : tR D vwCl base ad (tC (wP n ad cs) I L) H := hR
    have q1 : bZ (inN sv p0) r := q1.iff (inN_iff (by omega))
    refine lv_if_ne (tgt := 19) hx hb dX3_back_12 (by decide) (fun c2 => ?_) (fun c2 => ?_)
    · refine lv_iconst (v := 0) hx hb dX3_back_19 (by decide) ?_
      exact Kx1 _ _ _ (bZ0 (fun z => z (q1.t c2))) ⟨hR, hS⟩
    · refine lv_iconst (v := 1) hx hb dX3_back_15 (by decide) ?_
      refine lv_goto (tgt := 20) hx hb dX3_back_16 (by decide) ?_
      exact Kx1 _ _ _ (bZ1 (q1.f c2)) ⟨hR, hS⟩
set_option maxHeartbeats 4000000 in
set_option maxRecDepth 100000 in
theorem mX3_count (I : tI) (L : tL) {nd no : Nat} {f la : Nat → Nat} {ph : Nat → Int32} {w : Nat → Nat → Nat} {ea lt le mo : Nat → Nat} {bu ev sd sv : Nat} {se : Int32} {Y : Nat → Nat → Nat} {st : Nat → Int64} {Rw : Nat → Nat → Nat → Nat} {kp sp : Nat} (B : Nat) (p0 : Int32) (hMs : cMs I nd no f la ph w ea lt le mo) (hwf : wfS nd no f la w ea lt le mo) (hMf : cMf I n bu ev sd sv se) (hC : sd = 1 → cMo I L n nd Y st Rw kp sp ∧ wCo n nd no f la ea lt le mo B Y Rw kp sp) : Met l yX3_count wX3_count ({ frames := 3, cells := 0, slots := 0, locals := 90 }) (va_Pc [.ref (ad 200), .int p0] (kB D cs base sa n ad I L)) (va_Qi (fun (r : Int32) (u : tI × tL) => pM I L (¬ inN 6 p0) False False (fun r u => u = (gT I 0, L) ∧ r = cnV nd no n sd kp sp sv p0) r u) (kA D cs base n ad) (fun q => base ≤ q)) 0 0 (fun q => base ≤ q) := by
  refine Met.ofW (cc := cX3_count) (maxL := 2) (ret := (some .int)) (by decide) rfl ?_
  intro p e s m args below meth c s₁ Bd hml hv
  obtain ⟨rfl, hE, hR⟩ := hv
  have hx := Bd.exec
  have hb := Bd.bytes
  have hr := Bd.returns
  have hts := atoms_spec (ws := wX3_count) Bd.pre
  have hown : s.vm.findClass RX3 = some m.cls := findClass_of_methodNamed Bd.named
  have hlocks := Bd.notSynchronized
  have hK := hE.K
  have hS : va_S (fun q => base ≤ q) s.heap s.heap [] := va_S.rf
  have hR : tR D vwCl base ad (tC (wP n ad cs) I L) s.heap := hR
  have hl := lv_entry ([.ref (ad 200), .int p0]) (n := 2) (Nat.le_of_ble_eq_true rfl)
  rw [lg_entry_eq]
  generalize (lg_sl ([.ref (ad 200), .int p0]) ++ List.replicate (2 - (lg_sl ([.ref (ad 200), .int p0])).length) Slot.unset).toArray = ls at hl ⊢
  have hl : lv_has ls 2 [(0, .ref (ad 200)), (1, .int p0)] := hl
  obtain ⟨h_nd, h_no, h_d, h_o⟩ := id hwf
  obtain ⟨h_f1, h_f2, h_f3, h_f4, h_f5, h_f6, h_n1, h_n4, h_bu, h_e1, h_e2, h_s1, h_v4⟩ := id hMf
  refine lv_aload_n hx hb dX3_count_0 rfl (lv_at hl 0 rfl) ?_
  refine jnW (P := ¬ inN 6 p0) 15 (fun x1 => .int x1 :: [.ref (ad 200)]) (fun H locs => tR D vwCl base ad (tC (wP n ad cs) I L) H ∧ va_S (fun q => base ≤ q) s.heap H locs) (fun x1 H locs hx1 hT => ?_) (fun Kx1 => ?_)
  · obtain ⟨hR, hS⟩ := hT
    refine lv_iconst (v := 0) hx hb dX3_count_15 (by decide) ?_
    refine lv_iconst (v := 0) hx hb dX3_count_16 (by decide) ?_
    refine kc_i (va_runV (As := [.int x1, .int 0, .int 0]) (rest := []) ⟨hx, hb, hml, hown, hts⟩ (mX3_throwing I L x1 0 0 (P1 := (¬ inN 6 p0)) (P2 := False) (P3 := False) hx1 (bZ0 (fun z => z)) (bZ0 (fun z => z))) (cwV 3 hts (kw_V k571 k573 ks25 k5 k574) rfl rfl rfl (by decide +kernel) ⟨Nat.le_of_ble_eq_true rfl, Nat.le_of_ble_eq_true rfl⟩) (kB_preV hE hR hS 200 rfl rfl [.int x1, .int 0, .int 0]) rfl rfl hl.1 rfl (lv_room (Nat.le_of_ble_eq_true rfl)) dX3_count_17 ⟨Nat.le_of_ble_eq_true rfl, Nat.le_of_ble_eq_true rfl⟩) hS (fun r u H locs hw hR hS => ?_)
    rcases hw with ⟨t1, rfl, rfl⟩ | ⟨t1, t2, rfl, rfl⟩ | ⟨t1, t2, t3, rfl, rfl⟩ | ⟨t1, t2, t3, rfl, rfl⟩
    · have hR : tR D vwCl base ad (tC (wP n ad cs) (gT I 1) L) H := hR
      refine lv_if_eq (tgt := 25) hx hb dX3_count_20 (by decide) (fun c9 => absurd c9 (by decide)) (fun c9 => ?_)
      refine lv_iconst (v := 0) hx hb dX3_count_23 (by decide) ?_
      exact W.iret (v := 0) hx hb hr (fun t ht hW => ⟨⟨_, (gT I 1, L), rfl, Or.inl ⟨t1, rfl, rfl⟩, by show tR _ _ _ _ _ t.heap; rw [ht]; exact hR⟩, hS.F ht⟩) hS.2.2 dX3_count_24
    · exact t2.elim
    · exact t3.elim
    · have hR : tR D vwCl base ad (tC (wP n ad cs) (gT I 0) L) H := hR
      refine lv_if_eq (tgt := 25) hx hb dX3_count_20 (by decide) (fun c9 => ?_) (fun c9 => absurd rfl c9)
      have hp0 := Classical.byContradiction (fun z => t1 z)
      have hMs := hMs.gT 0
      have hMf := hMf.gT 0
      refine lv_iload_n hx hb dX3_count_25 rfl (lv_at hl 1 rfl) ?_
      rcases cn_of p0 with hq | rfl | rfl | rfl | rfl | rfl | rfl
      · exact absurd hp0 hq
      · refine lv_tableIn (tgt := 60) hx hb dX3_count_26 (by decide) (by decide) rfl (by decide) ?_
        refine lv_aload_n hx hb dX3_count_60 rfl (lv_at hl 0 rfl) ?_
        refine tb_get hx hb hts (fun w h => List.mem_cons_of_mem _ (inX3 w h)) hown hK hR 200 rfl rfl 3 (by decide) (hts _ (List.mem_cons_of_mem _ k481)) (fun _ h => h) rfl dX3_count_61 ?_
        rw [show (gT I 0) 200 3 = nI nd from hMs.1]
        exact W.iret (v := nI nd) hx hb hr (fun t ht hW => ⟨⟨_, (gT I 0, L), rfl, Or.inr (Or.inr (Or.inr ⟨t1, t2, t3, rfl, (rfl).symm⟩)), by show tR _ _ _ _ _ t.heap; rw [ht]; exact hR⟩, hS.F ht⟩) hS.2.2 dX3_count_64
      · refine lv_tableIn (tgt := 65) hx hb dX3_count_26 (by decide) (by decide) rfl (by decide) ?_
        refine lv_aload_n hx hb dX3_count_65 rfl (lv_at hl 0 rfl) ?_
        refine tb_get hx hb hts (fun w h => List.mem_cons_of_mem _ (inX3 w h)) hown hK hR 200 rfl rfl 8 (by decide) (hts _ (List.mem_cons_of_mem _ k486)) (fun _ h => h) rfl dX3_count_66 ?_
        rw [show (gT I 0) 200 8 = nI no from hMs.2.1]
        exact W.iret (v := nI no) hx hb hr (fun t ht hW => ⟨⟨_, (gT I 0, L), rfl, Or.inr (Or.inr (Or.inr ⟨t1, t2, t3, rfl, (rfl).symm⟩)), by show tR _ _ _ _ _ t.heap; rw [ht]; exact hR⟩, hS.F ht⟩) hS.2.2 dX3_count_69
      · refine lv_tableIn (tgt := 70) hx hb dX3_count_26 (by decide) (by decide) rfl (by decide) ?_
        refine lv_aload_n hx hb dX3_count_70 rfl (lv_at hl 0 rfl) ?_
        refine tb_get hx hb hts (fun w h => List.mem_cons_of_mem _ (inX3 w h)) hown hK hR 200 rfl rfl 2 (by decide) (hts _ (List.mem_cons_of_mem _ k480)) (fun _ h => h) rfl dX3_count_71 ?_
        rw [show (gT I 0) 200 2 = nI n from hMf.2.1]
        exact W.iret (v := nI n) hx hb hr (fun t ht hW => ⟨⟨_, (gT I 0, L), rfl, Or.inr (Or.inr (Or.inr ⟨t1, t2, t3, rfl, (rfl).symm⟩)), by show tR _ _ _ _ _ t.heap; rw [ht]; exact hR⟩, hS.F ht⟩) hS.2.2 dX3_count_74
      · refine lv_tableIn (tgt := 75) hx hb dX3_count_26 (by decide) (by decide) rfl (by decide) ?_
        refine lv_aload_n hx hb dX3_count_75 rfl (lv_at hl 0 rfl) ?_
        refine tb_get hx hb hts (fun w h => List.mem_cons_of_mem _ (inX3 w h)) hown hK hR 200 rfl rfl 15 (by decide) (hts _ (List.mem_cons_of_mem _ k493)) (fun _ h => h) rfl dX3_count_76 ?_
        rw [show (gT I 0) 200 15 = nI sd from hMf.2.2.2.2.1]
        refine lv_if_eq (tgt := 89) hx hb dX3_count_79 (by decide) (fun c1 => ?_) (fun c1 => ?_)
        · have hq : ¬ sd = 1 := fun z => absurd c1 (by rw [z]; decide)
          refine lv_iconst (v := 0) hx hb dX3_count_89 (by decide) ?_
          exact W.iret (v := 0) hx hb hr (fun t ht hW => ⟨⟨_, (gT I 0, L), rfl, Or.inr (Or.inr (Or.inr ⟨t1, t2, t3, rfl, ((cn_3 _ _ _ _ _ _ _).trans (if_neg hq)).symm⟩)), by show tR _ _ _ _ _ t.heap; rw [ht]; exact hR⟩, hS.F ht⟩) hS.2.2 dX3_count_90
        · have hq : sd = 1 := by have q : ¬ sd = 0 := fun z => c1 (by rw [z]; rfl); omega
          obtain ⟨hMo, hwY, hk60, hspB, hRb⟩ := hC hq
          have hMo := hMo.gT 0
          refine lv_aload_n hx hb dX3_count_82 rfl (lv_at hl 0 rfl) ?_
          refine tb_get hx hb hts (fun w h => List.mem_cons_of_mem _ (inX3 w h)) hown hK hR 200 rfl rfl 17 (by decide) (hts _ (List.mem_cons_of_mem _ k495)) (fun _ h => h) rfl dX3_count_83 ?_
          rw [show (gT I 0) 200 17 = nI kp from hMo.1]
          refine lv_goto (tgt := 90) hx hb dX3_count_86 (by decide) ?_
          exact W.iret (v := nI kp) hx hb hr (fun t ht hW => ⟨⟨_, (gT I 0, L), rfl, Or.inr (Or.inr (Or.inr ⟨t1, t2, t3, rfl, ((cn_3 _ _ _ _ _ _ _).trans (if_pos hq)).symm⟩)), by show tR _ _ _ _ _ t.heap; rw [ht]; exact hR⟩, hS.F ht⟩) hS.2.2 dX3_count_90
      · refine lv_tableIn (tgt := 91) hx hb dX3_count_26 (by decide) (by decide) rfl (by decide) ?_
        refine lv_aload_n hx hb dX3_count_91 rfl (lv_at hl 0 rfl) ?_
        refine tb_get hx hb hts (fun w h => List.mem_cons_of_mem _ (inX3 w h)) hown hK hR 200 rfl rfl 15 (by decide) (hts _ (List.mem_cons_of_mem _ k493)) (fun _ h => h) rfl dX3_count_92 ?_
        rw [show (gT I 0) 200 15 = nI sd from hMf.2.2.2.2.1]
        refine lv_if_eq (tgt := 105) hx hb dX3_count_95 (by decide) (fun c2 => ?_) (fun c2 => ?_)
        · have hq : ¬ sd = 1 := fun z => absurd c2 (by rw [z]; decide)
          refine lv_iconst (v := 0) hx hb dX3_count_105 (by decide) ?_
          exact W.iret (v := 0) hx hb hr (fun t ht hW => ⟨⟨_, (gT I 0, L), rfl, Or.inr (Or.inr (Or.inr ⟨t1, t2, t3, rfl, ((cn_4 _ _ _ _ _ _ _).trans (if_neg hq)).symm⟩)), by show tR _ _ _ _ _ t.heap; rw [ht]; exact hR⟩, hS.F ht⟩) hS.2.2 dX3_count_106
        · have hq : sd = 1 := by have q : ¬ sd = 0 := fun z => c2 (by rw [z]; rfl); omega
          obtain ⟨hMo, hwY, hk60, hspB, hRb⟩ := hC hq
          have hMo := hMo.gT 0
          refine lv_aload_n hx hb dX3_count_98 rfl (lv_at hl 0 rfl) ?_
          refine tb_get hx hb hts (fun w h => List.mem_cons_of_mem _ (inX3 w h)) hown hK hR 200 rfl rfl 16 (by decide) (hts _ (List.mem_cons_of_mem _ k494)) (fun _ h => h) rfl dX3_count_99 ?_
          rw [show (gT I 0) 200 16 = nI sp from hMo.2.1]
          refine lv_goto (tgt := 106) hx hb dX3_count_102 (by decide) ?_
          exact W.iret (v := nI sp) hx hb hr (fun t ht hW => ⟨⟨_, (gT I 0, L), rfl, Or.inr (Or.inr (Or.inr ⟨t1, t2, t3, rfl, ((cn_4 _ _ _ _ _ _ _).trans (if_pos hq)).symm⟩)), by show tR _ _ _ _ _ t.heap; rw [ht]; exact hR⟩, hS.F ht⟩) hS.2.2 dX3_count_106
      · refine lv_tableOut (tgt := 107) hx hb dX3_count_26 (by decide) (by decide) ?_
        refine lv_aload_n hx hb dX3_count_107 rfl (lv_at hl 0 rfl) ?_
        refine tb_get hx hb hts (fun w h => List.mem_cons_of_mem _ (inX3 w h)) hown hK hR 200 rfl rfl 21 (by decide) (hts _ (List.mem_cons_of_mem _ k499)) (fun _ h => h) rfl dX3_count_108 ?_
        rw [show (gT I 0) 200 21 = nI sv from hMf.2.2.2.2.2.1]
        exact W.iret (v := nI sv) hx hb hr (fun t ht hW => ⟨⟨_, (gT I 0, L), rfl, Or.inr (Or.inr (Or.inr ⟨t1, t2, t3, rfl, (rfl).symm⟩)), by show tR _ _ _ _ _ t.heap; rw [ht]; exact hR⟩, hS.F ht⟩) hS.2.2 dX3_count_111
  · refine lv_iload_n hx hb dX3_count_1 rfl (lv_at hl 1 rfl) ?_
    refine lv_iconst (v := 0) hx hb dX3_count_2 (by decide) ?_
    refine lv_iconst (v := 5) hx hb dX3_count_3 (by decide) ?_
    refine kc_i (va_runS (As := [.int p0, .int 0, .int 5]) (rest := [.ref (ad 200)]) ⟨hx, hb, hml, hown, hts⟩ (mX3_in I L p0 0 5) (va_cwS 3 hts (kw_S k568 k569 k5 k570) rfl rfl rfl (by decide +kernel) ⟨Nat.le_of_ble_eq_true rfl, Nat.le_of_ble_eq_true rfl⟩) (kB_pre hE hR hS [.int p0, .int 0, .int 5]) rfl rfl hl.1 rfl (lv_room (Nat.le_of_ble_eq_true rfl)) dX3_count_4 ⟨Nat.le_of_ble_eq_true rfl, Nat.le_of_ble_eq_true rfl⟩) hS (fun r u H locs hw hR hS => ?_)
    obtain ⟨q3, rfl⟩ := hw
    have hR : tR D vwCl base ad (tC (wP n ad cs) I L) H := hR
    have q3 : bZ (inN 6 p0) r := q3.iff ((inR_iff (a := 0) (b := 5) (by decide) (by decide)).trans (inRN (N := 6) (by decide)))
    refine lv_if_ne (tgt := 14) hx hb dX3_count_7 (by decide) (fun c4 => ?_) (fun c4 => ?_)
    · refine lv_iconst (v := 0) hx hb dX3_count_14 (by decide) ?_
      exact Kx1 _ _ _ (bZ0 (fun z => z (q3.t c4))) ⟨hR, hS⟩
    · refine lv_iconst (v := 1) hx hb dX3_count_10 (by decide) ?_
      refine lv_goto (tgt := 15) hx hb dX3_count_11 (by decide) ?_
      exact Kx1 _ _ _ (bZ1 (q3.f c4)) ⟨hR, hS⟩
end M7
