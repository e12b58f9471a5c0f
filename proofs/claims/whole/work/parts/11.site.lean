section C1
variable {l : Launch} {D : va_G} {cs : Nat → ClassId} {base : Nat} {sa : Nat → Nat} {n : Nat} {ad : Nat → Nat}
set_option maxHeartbeats 4000000 in
set_option maxRecDepth 100000 in
/-- Site.weightOf(d, y): the weight at y less the first year -/
theorem mX1_weightOf (I : tI) (L : tL) (d j : Nat) (y : Int32) (hd : d < 8) (hy : y - I 2 d = nI j) (hj : j < 64) : Met l yX1_weightOf wX1_weightOf ({ frames := 0, cells := 0, slots := 0, locals := 0 }) (va_Pc [.ref (ad 1), .int (nI d), .int y] (kB D cs base sa n ad I L)) (va_Qi (fun (r : Int32) (u : tI × tL) => r = I (10 + d) j ∧ u = (I, L)) (kA D cs base n ad) (fun q => base ≤ q)) 0 0 (fun q => base ≤ q) := by
  refine Met.ofW (cc := cX1_weightOf) (maxL := 3) (ret := (some .int)) (by decide) rfl ?_
  intro p e s m args below meth c s₁ B hml hv
  obtain ⟨rfl, hE, hR⟩ := hv
  have hx := B.exec
  have hb := B.bytes
  have hr := B.returns
  have hts := atoms_spec (ws := wX1_weightOf) B.pre
  have hown : s.vm.findClass RX1 = some m.cls := findClass_of_methodNamed B.named
  have hlocks := B.notSynchronized
  have hK := hE.K
  have hS : va_S (fun q => base ≤ q) s.heap s.heap [] := va_S.rf
  have hR : tR D vwCl base ad (tC (wP n ad cs) I L) s.heap := hR
  have hl := lv_entry ([.ref (ad 1), .int (nI d), .int y]) (n := 3) (Nat.le_of_ble_eq_true rfl)
  rw [lg_entry_eq]
  generalize (lg_sl ([.ref (ad 1), .int (nI d), .int y]) ++ List.replicate (3 - (lg_sl ([.ref (ad 1), .int (nI d), .int y])).length) Slot.unset).toArray = ls at hl ⊢
  have hl : lv_has ls 3 [(0, .ref (ad 1)), (1, .int (nI d)), (2, .int y)] := hl
  refine lv_aload_n hx hb dX1_weightOf_0 rfl (lv_at hl 0 rfl) ?_
  refine tb_get hx hb hts (fun w h => List.mem_cons_of_mem _ (inX1 w h)) hown hK hR 1 rfl rfl 3 (by decide) (hts _ (List.mem_cons_of_mem _ k41)) (fun _ h => h) rfl dX1_weightOf_1 ?_
  refine lv_iload_n hx hb dX1_weightOf_4 rfl (lv_at hl 1 rfl) ?_
  refine tb_aald hx hb hK hR 5 2 rfl rfl d rfl (by omega) (by decide) (if_pos (by omega)) dX1_weightOf_5 ?_
  refine lv_iload_n hx hb dX1_weightOf_6 rfl (lv_at hl 2 rfl) ?_
  refine lv_aload_n hx hb dX1_weightOf_7 rfl (lv_at hl 0 rfl) ?_
  refine tb_get hx hb hts (fun w h => List.mem_cons_of_mem _ (inX1 w h)) hown hK hR 1 rfl rfl 0 (by decide) (hts _ (List.mem_cons_of_mem _ k35)) (fun _ h => h) rfl dX1_weightOf_8 ?_
  refine lv_iload_n hx hb dX1_weightOf_11 rfl (lv_at hl 1 rfl) ?_
  refine tp_iald hx hb hK hR 2 0 (fun _ _ => rfl) rfl d rfl (by omega) (by decide) dX1_weightOf_12 ?_
  refine lv_isub hx hb dX1_weightOf_13 ?_
  rw [hy]
  refine tp_iald hx hb hK hR (10 + d) 0 (fun _ _ => wP_w (by omega) _ _) rfl j rfl (by omega) (by decide) dX1_weightOf_14 ?_
  exact W.iret (v := I (10 + d) j) hx hb hr (fun t ht hW => ⟨⟨_, (I, L), rfl, ⟨rfl, rfl⟩, by show tR _ _ _ _ _ t.heap; rw [ht]; exact hR⟩, hS.F ht⟩) hS.2.2 dX1_weightOf_15
set_option maxHeartbeats 4000000 in
set_option maxRecDepth 100000 in
theorem lpX1_lowYear {p : Program} {e : Env} {R : Room} {s : State} {m : MethodId} {args : Array Value} {below : List Frame} {meth : Method} {c : Code} {cells slots : Nat} {Q : State → Prop} (S0 : CallFix p m c cX1_lowYear 5 s args wX1_lowYear RX1) (hE : eV D cs base sa s) (hRf : 1 ≤ R.frames) (hRl : 30 ≤ R.locals) (hRc : cells ≤ R.cells) (hRs : slots ≤ R.slots) (I : tI) (L : tL) {nd no : Nat} {f la : Nat → Nat} {ph : Nat → Int32} {w : Nat → Nat → Nat} {ea lt le mo : Nat → Nat} (ky d : Nat) (y : Nat → Nat) (hSi : cSi I nd no f la ph w ea lt le mo) (hwf : wfS nd no f la w ea lt le mo) (hd : d < nd) (hky : ∀ r q, wP n ad cs ky r q = some (.inl (cs 0, 8, .inl r))) (hy : ∀ i, i < nd → I ky i = nI (y i)) (hyb : ∀ i, i < nd → y i ≤ 255)
    (kx : ∀ (H : Heap) (locs : List Loc) (ls : Array Slot), tR D vwCl base ad (tC (wP n ad cs) I L) H → va_S (fun q => base ≤ q) s.heap H locs → lv_has ls 5 [(4, .int (nI no)), (3, .int (nI (sLo f ea lt le mo d y no))), (0, .ref (ad 1)), (1, .int (nI d)), (2, .ref (ad ky))] → W p l e R s m args below meth c H locs cells slots Q (F0 m 94 ls [])) :
    ∀ (k j : Nat) (H : Heap) (locs : List Loc) (ls : Array Slot), j ≤ no → no + 1 ≤ j + k → tR D vwCl base ad (tC (wP n ad cs) I L) H → va_S (fun q => base ≤ q) s.heap H locs → lv_has ls 5 [(4, .int (nI j)), (3, .int (nI (sLo f ea lt le mo d y j))), (0, .ref (ad 1)), (1, .int (nI d)), (2, .ref (ad ky))] → W p l e R s m args below meth c H locs cells slots Q (F0 m 10 ls []) := by
  obtain ⟨hx, hb, hml, hown, hts⟩ := S0
  have hK := hE.K
  obtain ⟨h_nd, h_no, h_d, h_o⟩ := id hwf
  intro k
  induction k with
  | zero => intro j  H locs ls h1 h2; exact absurd h2 (by omega)
  | succ k ih =>
    intro j  H locs ls hj hk  hR hS hl
    refine lv_iload hx hb dX1_lowYear_10 (lv_at hl 0 rfl) ?_
    refine lv_aload_n hx hb dX1_lowYear_12 rfl (lv_at hl 2 rfl) ?_
    refine tb_get hx hb hts (fun w h => List.mem_cons_of_mem _ (inX1 w h)) hown hK hR 1 rfl rfl 9 (by decide) (hts _ (List.mem_cons_of_mem _ k48)) (fun _ h => h) rfl dX1_lowYear_13 ?_
    rw [show I 1 9 = nI no from hSi.2.1]
    refine lv_icmp_ge (tgt := 94) hx hb dX1_lowYear_16 (by decide) (fun c1 => ?_) (fun c1 => ?_)
    · have hjN : j = no := by have e9 := (nI_leI (by omega) (by omega)).mp c1; omega
      subst hjN
      exact kx  H locs ls  hR hS (lv_sub hl [0, 1, 2, 3, 4] rfl)
    · have hjN : j < no := by
        rcases Nat.lt_or_ge j no with q | q
        · exact q
        · exact absurd (nI_le (by omega) (by omega)) c1
      obtain ⟨h_ea, h_lt, h_ne, h_lm, h_mo⟩ := hwf.2.2.2 j hjN
      have h_y1 := hyb _ h_ea
      have h_y2 := hyb _ h_lt
      have h_S : sLo f ea lt le mo d y j ≤ 510 := sLo_le hwf hyb hd (by omega)
      refine lv_aload_n hx hb dX1_lowYear_19 rfl (lv_at hl 2 rfl) ?_
      refine tb_get hx hb hts (fun w h => List.mem_cons_of_mem _ (inX1 w h)) hown hK hR 1 rfl rfl 5 (by decide) (hts _ (List.mem_cons_of_mem _ k43)) (fun _ h => h) rfl dX1_lowYear_20 ?_
      refine lv_iload hx hb dX1_lowYear_23 (lv_at hl 0 rfl) ?_
      refine tp_iald hx hb hK hR 7 0 (fun _ _ => rfl) rfl j rfl (by omega) (by decide) dX1_lowYear_25 ?_
      rw [show I 7 j = nI (lt j) from (hSi.2.2.2 j (by omega)).2.1]
      refine lv_iload_n hx hb dX1_lowYear_26 rfl (lv_at hl 3 rfl) ?_
      refine lv_icmp_ne (tgt := 55) hx hb dX1_lowYear_27 (by decide) (fun c2 => ?_) (fun c2 => ?_)
      · have hq : ¬ lt j = d := fun z => c2 (by rw [z])
        refine lv_aload_n hx hb dX1_lowYear_55 rfl (lv_at hl 2 rfl) ?_
        refine tb_get hx hb hts (fun w h => List.mem_cons_of_mem _ (inX1 w h)) hown hK hR 1 rfl rfl 4 (by decide) (hts _ (List.mem_cons_of_mem _ k42)) (fun _ h => h) rfl dX1_lowYear_56 ?_
        refine lv_iload hx hb dX1_lowYear_59 (lv_at hl 0 rfl) ?_
        refine tp_iald hx hb hK hR 6 0 (fun _ _ => rfl) rfl j rfl (by omega) (by decide) dX1_lowYear_61 ?_
        rw [show I 6 j = nI (ea j) from (hSi.2.2.2 j (by omega)).1]
        refine lv_iload_n hx hb dX1_lowYear_62 rfl (lv_at hl 3 rfl) ?_
        refine lv_icmp_ne (tgt := 88) hx hb dX1_lowYear_63 (by decide) (fun c3 => ?_) (fun c3 => ?_)
        · have hq2 : ¬ ea j = d := fun z => c3 (by rw [z])
          rw [show sLo f ea lt le mo d y j = sLo f ea lt le mo d y (j + 1) from by simp only [sLo]; rw [if_neg hq, if_neg hq2]] at hl
          refine lv_iinc (v := nI (j + 1)) (lv' := [(4, .int (nI (j + 1))), (3, .int (nI (sLo f ea lt le mo d y (j + 1)))), (0, .ref (ad 1)), (1, .int (nI d)), (2, .ref (ad ky))]) hx hb dX1_lowYear_88 hl (k := 0) rfl (nI_1 _) (by decide) rfl (fun ls hl => ?_)
          refine lv_goto (tgt := 10) hx hb dX1_lowYear_91 (by decide) ?_
          exact ih (j + 1)  H locs ls (by omega) (by omega)  hR hS (lv_sub hl [0, 1, 2, 3, 4] rfl)
        · have hq2 : ea j = d := (nI_eq (by omega) (by omega)).mp c3
          refine lv_iload_n hx hb dX1_lowYear_66 rfl (lv_at hl 1 rfl) ?_
          refine lv_aload_n hx hb dX1_lowYear_67 rfl (lv_at hl 4 rfl) ?_
          refine lv_aload_n hx hb dX1_lowYear_68 rfl (lv_at hl 2 rfl) ?_
          refine tb_get hx hb hts (fun w h => List.mem_cons_of_mem _ (inX1 w h)) hown hK hR 1 rfl rfl 5 (by decide) (hts _ (List.mem_cons_of_mem _ k43)) (fun _ h => h) rfl dX1_lowYear_69 ?_
          refine lv_iload hx hb dX1_lowYear_72 (lv_at hl 0 rfl) ?_
          refine tp_iald hx hb hK hR 7 0 (fun _ _ => rfl) rfl j rfl (by omega) (by decide) dX1_lowYear_74 ?_
          rw [show I 7 j = nI (lt j) from (hSi.2.2.2 j (by omega)).2.1]
          refine tp_iald hx hb hK hR ky 0 hky rfl (lt j) rfl (by omega) (by decide) dX1_lowYear_75 ?_
          rw [show I ky (lt j) = nI (y (lt j)) from hy (lt j) (by omega)]
          refine lv_aload_n hx hb dX1_lowYear_76 rfl (lv_at hl 2 rfl) ?_
          refine tb_get hx hb hts (fun w h => List.mem_cons_of_mem _ (inX1 w h)) hown hK hR 1 rfl rfl 7 (by decide) (hts _ (List.mem_cons_of_mem _ k45)) (fun _ h => h) rfl dX1_lowYear_77 ?_
          refine lv_iload hx hb dX1_lowYear_80 (lv_at hl 0 rfl) ?_
          refine tp_iald hx hb hK hR 9 0 (fun _ _ => rfl) rfl j rfl (by omega) (by decide) dX1_lowYear_82 ?_
          rw [show I 9 j = nI (mo j) from (hSi.2.2.2 j (by omega)).2.2.2]
          refine lv_isub hx hb dX1_lowYear_83 ?_
          refine va_mmax hx hb (hml.trans hl.1.symm) hown (hts _ (List.mem_cons_of_mem _ k376)) (hts _ (List.mem_cons_of_mem _ k25)) (hts _ (List.mem_cons_of_mem _ k2)) (hts _ (List.mem_cons_of_mem _ k26)) (Nat.le_trans (Nat.le_of_ble_eq_true rfl) hRf) (Nat.le_trans (Nat.le_of_ble_eq_true rfl) hRl) hRc hRs dX1_lowYear_84 ?_
          rw [show (if nI (sLo f ea lt le mo d y j) < (nI (y (lt j))) - (nI (mo j)) then (nI (y (lt j))) - (nI (mo j)) else nI (sLo f ea lt le mo d y j)) = nI (sLo f ea lt le mo d y (j + 1)) from by rw [mx_sub (by omega) (by omega) (by omega)]; simp only [sLo]; rw [if_neg hq, if_pos hq2]]
          refine lv_istore_n (lv' := [(3, .int (nI (sLo f ea lt le mo d y (j + 1)))), (4, .int (nI j)), (0, .ref (ad 1)), (1, .int (nI d)), (2, .ref (ad ky))]) hx hb dX1_lowYear_87 rfl hl (by decide) rfl (fun ls hl => ?_)
          refine lv_iinc (v := nI (j + 1)) (lv' := [(4, .int (nI (j + 1))), (3, .int (nI (sLo f ea lt le mo d y (j + 1)))), (0, .ref (ad 1)), (1, .int (nI d)), (2, .ref (ad ky))]) hx hb dX1_lowYear_88 hl (k := 1) rfl (nI_1 _) (by decide) rfl (fun ls hl => ?_)
          refine lv_goto (tgt := 10) hx hb dX1_lowYear_91 (by decide) ?_
          exact ih (j + 1)  H locs ls (by omega) (by omega)  hR hS (lv_sub hl [0, 1, 2, 3, 4] rfl)
      · have hq : lt j = d := (nI_eq (by omega) (by omega)).mp c2
        refine lv_iload_n hx hb dX1_lowYear_30 rfl (lv_at hl 1 rfl) ?_
        refine lv_aload_n hx hb dX1_lowYear_31 rfl (lv_at hl 4 rfl) ?_
        refine lv_aload_n hx hb dX1_lowYear_32 rfl (lv_at hl 2 rfl) ?_
        refine tb_get hx hb hts (fun w h => List.mem_cons_of_mem _ (inX1 w h)) hown hK hR 1 rfl rfl 4 (by decide) (hts _ (List.mem_cons_of_mem _ k42)) (fun _ h => h) rfl dX1_lowYear_33 ?_
        refine lv_iload hx hb dX1_lowYear_36 (lv_at hl 0 rfl) ?_
        refine tp_iald hx hb hK hR 6 0 (fun _ _ => rfl) rfl j rfl (by omega) (by decide) dX1_lowYear_38 ?_
        rw [show I 6 j = nI (ea j) from (hSi.2.2.2 j (by omega)).1]
        refine tp_iald hx hb hK hR ky 0 hky rfl (ea j) rfl (by omega) (by decide) dX1_lowYear_39 ?_
        rw [show I ky (ea j) = nI (y (ea j)) from hy (ea j) (by omega)]
        refine lv_aload_n hx hb dX1_lowYear_40 rfl (lv_at hl 2 rfl) ?_
        refine tb_get hx hb hts (fun w h => List.mem_cons_of_mem _ (inX1 w h)) hown hK hR 1 rfl rfl 6 (by decide) (hts _ (List.mem_cons_of_mem _ k44)) (fun _ h => h) rfl dX1_lowYear_41 ?_
        refine lv_iload hx hb dX1_lowYear_44 (lv_at hl 0 rfl) ?_
        refine tp_iald hx hb hK hR 8 0 (fun _ _ => rfl) rfl j rfl (by omega) (by decide) dX1_lowYear_46 ?_
        rw [show I 8 j = nI (le j) from (hSi.2.2.2 j (by omega)).2.2.1]
        refine lv_iadd hx hb dX1_lowYear_47 ?_
        refine va_mmax hx hb (hml.trans hl.1.symm) hown (hts _ (List.mem_cons_of_mem _ k376)) (hts _ (List.mem_cons_of_mem _ k25)) (hts _ (List.mem_cons_of_mem _ k2)) (hts _ (List.mem_cons_of_mem _ k26)) (Nat.le_trans (Nat.le_of_ble_eq_true rfl) hRf) (Nat.le_trans (Nat.le_of_ble_eq_true rfl) hRl) hRc hRs dX1_lowYear_48 ?_
        rw [show (if nI (sLo f ea lt le mo d y j) < (nI (y (ea j))) + (nI (le j)) then (nI (y (ea j))) + (nI (le j)) else nI (sLo f ea lt le mo d y j)) = nI (sLo f ea lt le mo d y (j + 1)) from by rw [mx_add (by omega) (by omega) (by omega)]; simp only [sLo]; rw [if_pos hq]]
        refine lv_istore_n (lv' := [(3, .int (nI (sLo f ea lt le mo d y (j + 1)))), (4, .int (nI j)), (0, .ref (ad 1)), (1, .int (nI d)), (2, .ref (ad ky))]) hx hb dX1_lowYear_51 rfl hl (by decide) rfl (fun ls hl => ?_)
        refine lv_goto (tgt := 88) hx hb dX1_lowYear_52 (by decide) ?_
        refine lv_iinc (v := nI (j + 1)) (lv' := [(4, .int (nI (j + 1))), (3, .int (nI (sLo f ea lt le mo d y (j + 1)))), (0, .ref (ad 1)), (1, .int (nI d)), (2, .ref (ad ky))]) hx hb dX1_lowYear_88 hl (k := 1) rfl (nI_1 _) (by decide) rfl (fun ls hl => ?_)
        refine lv_goto (tgt := 10) hx hb dX1_lowYear_91 (by decide) ?_
        exact ih (j + 1)  H locs ls (by omega) (by omega)  hR hS (lv_sub hl [0, 1, 2, 3, 4] rfl)
set_option maxHeartbeats 4000000 in
set_option maxRecDepth 100000 in
theorem mX1_lowYear (I : tI) (L : tL) {nd no : Nat} {f la : Nat → Nat} {ph : Nat → Int32} {w : Nat → Nat → Nat} {ea lt le mo : Nat → Nat} (ky d : Nat) (y : Nat → Nat) (hSi : cSi I nd no f la ph w ea lt le mo) (hwf : wfS nd no f la w ea lt le mo) (hd : d < nd) (hky : ∀ r q, wP n ad cs ky r q = some (.inl (cs 0, 8, .inl r))) (hy : ∀ i, i < nd → I ky i = nI (y i)) (hyb : ∀ i, i < nd → y i ≤ 255) : Met l yX1_lowYear wX1_lowYear ({ frames := 1, cells := 0, slots := 0, locals := 30 }) (va_Pc [.ref (ad 1), .int (nI d), .ref (ad ky)] (kB D cs base sa n ad I L)) (va_Qi (fun (r : Int32) (u : tI × tL) => r = nI (sLo f ea lt le mo d y no) ∧ u = (I, L)) (kA D cs base n ad) (fun q => base ≤ q)) 0 0 (fun q => base ≤ q) := by
  refine Met.ofW (cc := cX1_lowYear) (maxL := 5) (ret := (some .int)) (by decide) rfl ?_
  intro p e s m args below meth c s₁ B hml hv
  obtain ⟨rfl, hE, hR⟩ := hv
  have hx := B.exec
  have hb := B.bytes
  have hr := B.returns
  have hts := atoms_spec (ws := wX1_lowYear) B.pre
  have hown : s.vm.findClass RX1 = some m.cls := findClass_of_methodNamed B.named
  have hlocks := B.notSynchronized
  have hK := hE.K
  have hS : va_S (fun q => base ≤ q) s.heap s.heap [] := va_S.rf
  have hR : tR D vwCl base ad (tC (wP n ad cs) I L) s.heap := hR
  have hl := lv_entry ([.ref (ad 1), .int (nI d), .ref (ad ky)]) (n := 5) (Nat.le_of_ble_eq_true rfl)
  rw [lg_entry_eq]
  generalize (lg_sl ([.ref (ad 1), .int (nI d), .ref (ad ky)]) ++ List.replicate (5 - (lg_sl ([.ref (ad 1), .int (nI d), .ref (ad ky)])).length) Slot.unset).toArray = ls at hl ⊢
  have hl : lv_has ls 5 [(0, .ref (ad 1)), (1, .int (nI d)), (2, .ref (ad ky))] := hl
  obtain ⟨h_nd, h_no, h_d, h_o⟩ := id hwf
  refine lv_aload_n hx hb dX1_lowYear_0 rfl (lv_at hl 0 rfl) ?_
  refine tb_get hx hb hts (fun w h => List.mem_cons_of_mem _ (inX1 w h)) hown hK hR 1 rfl rfl 0 (by decide) (hts _ (List.mem_cons_of_mem _ k35)) (fun _ h => h) rfl dX1_lowYear_1 ?_
  refine lv_iload_n hx hb dX1_lowYear_4 rfl (lv_at hl 1 rfl) ?_
  refine tp_iald hx hb hK hR 2 0 (fun _ _ => rfl) rfl d rfl (by omega) (by decide) dX1_lowYear_5 ?_
  rw [show I 2 d = nI (f d) from (hSi.2.2.1 d (by omega)).1]
  refine lv_istore_n (lv' := [(3, .int (nI (f d))), (0, .ref (ad 1)), (1, .int (nI d)), (2, .ref (ad ky))]) hx hb dX1_lowYear_6 rfl hl (by decide) rfl (fun ls hl => ?_)
  refine lv_iconst (v := 0) hx hb dX1_lowYear_7 (by decide) ?_
  rw [show (0 : Int32) = nI 0 from nI_0.symm]
  refine lv_istore (lv' := [(4, .int (nI 0)), (3, .int (nI (f d))), (0, .ref (ad 1)), (1, .int (nI d)), (2, .ref (ad ky))]) hx hb dX1_lowYear_8 hl (by decide) rfl (fun ls hl => ?_)
  refine lpX1_lowYear ⟨hx, hb, hml, hown, hts⟩ hE (Nat.le_of_ble_eq_true rfl) (Nat.le_of_ble_eq_true rfl) (Nat.zero_le _) (Nat.zero_le _) I L ky d y hSi hwf hd hky hy hyb (fun H locs ls hR hS hl => ?_) (no + 1) 0 _ _ ls (Nat.zero_le _) (by omega) hR hS (lv_sub hl [0, 1, 2, 3, 4] rfl)
  refine lv_iload_n hx hb dX1_lowYear_94 rfl (lv_at hl 1 rfl) ?_
  exact W.iret (v := nI (sLo f ea lt le mo d y no)) hx hb hr (fun t ht hW => ⟨⟨_, (I, L), rfl, ⟨rfl, rfl⟩, by show tR _ _ _ _ _ t.heap; rw [ht]; exact hR⟩, hS.F ht⟩) hS.2.2 dX1_lowYear_95
set_option maxHeartbeats 4000000 in
set_option maxRecDepth 100000 in
theorem lpX1_highYear {p : Program} {e : Env} {R : Room} {s : State} {m : MethodId} {args : Array Value} {below : List Frame} {meth : Method} {c : Code} {cells slots : Nat} {Q : State → Prop} (S0 : CallFix p m c cX1_highYear 5 s args wX1_highYear RX1) (hE : eV D cs base sa s) (hRf : 1 ≤ R.frames) (hRl : 30 ≤ R.locals) (hRc : cells ≤ R.cells) (hRs : slots ≤ R.slots) (I : tI) (L : tL) {nd no : Nat} {f la : Nat → Nat} {ph : Nat → Int32} {w : Nat → Nat → Nat} {ea lt le mo : Nat → Nat} (ky d : Nat) (y : Nat → Nat) (hSi : cSi I nd no f la ph w ea lt le mo) (hwf : wfS nd no f la w ea lt le mo) (hd : d < nd) (hky : ∀ r q, wP n ad cs ky r q = some (.inl (cs 0, 8, .inl r))) (hy : ∀ i, i < nd → I ky i = nI (y i)) (hyb : ∀ i, i < nd → y i ≤ 255) (hO : ∀ j, j < no → y (ea j) + le j ≤ y (lt j))
    (kx : ∀ (H : Heap) (locs : List Loc) (ls : Array Slot), tR D vwCl base ad (tC (wP n ad cs) I L) H → va_S (fun q => base ≤ q) s.heap H locs → lv_has ls 5 [(4, .int (nI no)), (3, .int (nI (sHi la ea lt le mo d y no))), (0, .ref (ad 1)), (1, .int (nI d)), (2, .ref (ad ky))] → W p l e R s m args below meth c H locs cells slots Q (F0 m 94 ls [])) :
    ∀ (k j : Nat) (H : Heap) (locs : List Loc) (ls : Array Slot), j ≤ no → no + 1 ≤ j + k → tR D vwCl base ad (tC (wP n ad cs) I L) H → va_S (fun q => base ≤ q) s.heap H locs → lv_has ls 5 [(4, .int (nI j)), (3, .int (nI (sHi la ea lt le mo d y j))), (0, .ref (ad 1)), (1, .int (nI d)), (2, .ref (ad ky))] → W p l e R s m args below meth c H locs cells slots Q (F0 m 10 ls []) := by
  obtain ⟨hx, hb, hml, hown, hts⟩ := S0
  have hK := hE.K
  obtain ⟨h_nd, h_no, h_d, h_o⟩ := id hwf
  intro k
  induction k with
  | zero => intro j  H locs ls h1 h2; exact absurd h2 (by omega)
  | succ k ih =>
    intro j  H locs ls hj hk  hR hS hl
    refine lv_iload hx hb dX1_highYear_10 (lv_at hl 0 rfl) ?_
    refine lv_aload_n hx hb dX1_highYear_12 rfl (lv_at hl 2 rfl) ?_
    refine tb_get hx hb hts (fun w h => List.mem_cons_of_mem _ (inX1 w h)) hown hK hR 1 rfl rfl 9 (by decide) (hts _ (List.mem_cons_of_mem _ k48)) (fun _ h => h) rfl dX1_highYear_13 ?_
    rw [show I 1 9 = nI no from hSi.2.1]
    refine lv_icmp_ge (tgt := 94) hx hb dX1_highYear_16 (by decide) (fun c1 => ?_) (fun c1 => ?_)
    · have hjN : j = no := by have e9 := (nI_leI (by omega) (by omega)).mp c1; omega
      subst hjN
      exact kx  H locs ls  hR hS (lv_sub hl [0, 1, 2, 3, 4] rfl)
    · have hjN : j < no := by
        rcases Nat.lt_or_ge j no with q | q
        · exact q
        · exact absurd (nI_le (by omega) (by omega)) c1
      obtain ⟨h_ea, h_lt, h_ne, h_lm, h_mo⟩ := hwf.2.2.2 j hjN
      have h_y1 := hyb _ h_ea
      have h_y2 := hyb _ h_lt
      have h_S : sHi la ea lt le mo d y j ≤ 510 := sHi_le hwf hyb hd (by omega)
      have h_O := hO j hjN
      refine lv_aload_n hx hb dX1_highYear_19 rfl (lv_at hl 2 rfl) ?_
      refine tb_get hx hb hts (fun w h => List.mem_cons_of_mem _ (inX1 w h)) hown hK hR 1 rfl rfl 5 (by decide) (hts _ (List.mem_cons_of_mem _ k43)) (fun _ h => h) rfl dX1_highYear_20 ?_
      refine lv_iload hx hb dX1_highYear_23 (lv_at hl 0 rfl) ?_
      refine tp_iald hx hb hK hR 7 0 (fun _ _ => rfl) rfl j rfl (by omega) (by decide) dX1_highYear_25 ?_
      rw [show I 7 j = nI (lt j) from (hSi.2.2.2 j (by omega)).2.1]
      refine lv_iload_n hx hb dX1_highYear_26 rfl (lv_at hl 3 rfl) ?_
      refine lv_icmp_ne (tgt := 55) hx hb dX1_highYear_27 (by decide) (fun c2 => ?_) (fun c2 => ?_)
      · have hq : ¬ lt j = d := fun z => c2 (by rw [z])
        refine lv_aload_n hx hb dX1_highYear_55 rfl (lv_at hl 2 rfl) ?_
        refine tb_get hx hb hts (fun w h => List.mem_cons_of_mem _ (inX1 w h)) hown hK hR 1 rfl rfl 4 (by decide) (hts _ (List.mem_cons_of_mem _ k42)) (fun _ h => h) rfl dX1_highYear_56 ?_
        refine lv_iload hx hb dX1_highYear_59 (lv_at hl 0 rfl) ?_
        refine tp_iald hx hb hK hR 6 0 (fun _ _ => rfl) rfl j rfl (by omega) (by decide) dX1_highYear_61 ?_
        rw [show I 6 j = nI (ea j) from (hSi.2.2.2 j (by omega)).1]
        refine lv_iload_n hx hb dX1_highYear_62 rfl (lv_at hl 3 rfl) ?_
        refine lv_icmp_ne (tgt := 88) hx hb dX1_highYear_63 (by decide) (fun c3 => ?_) (fun c3 => ?_)
        · have hq2 : ¬ ea j = d := fun z => c3 (by rw [z])
          rw [show sHi la ea lt le mo d y j = sHi la ea lt le mo d y (j + 1) from by simp only [sHi]; rw [if_neg hq, if_neg hq2]] at hl
          refine lv_iinc (v := nI (j + 1)) (lv' := [(4, .int (nI (j + 1))), (3, .int (nI (sHi la ea lt le mo d y (j + 1)))), (0, .ref (ad 1)), (1, .int (nI d)), (2, .ref (ad ky))]) hx hb dX1_highYear_88 hl (k := 0) rfl (nI_1 _) (by decide) rfl (fun ls hl => ?_)
          refine lv_goto (tgt := 10) hx hb dX1_highYear_91 (by decide) ?_
          exact ih (j + 1)  H locs ls (by omega) (by omega)  hR hS (lv_sub hl [0, 1, 2, 3, 4] rfl)
        · have hq2 : ea j = d := (nI_eq (by omega) (by omega)).mp c3
          refine lv_iload_n hx hb dX1_highYear_66 rfl (lv_at hl 1 rfl) ?_
          refine lv_aload_n hx hb dX1_highYear_67 rfl (lv_at hl 4 rfl) ?_
          refine lv_aload_n hx hb dX1_highYear_68 rfl (lv_at hl 2 rfl) ?_
          refine tb_get hx hb hts (fun w h => List.mem_cons_of_mem _ (inX1 w h)) hown hK hR 1 rfl rfl 5 (by decide) (hts _ (List.mem_cons_of_mem _ k43)) (fun _ h => h) rfl dX1_highYear_69 ?_
          refine lv_iload hx hb dX1_highYear_72 (lv_at hl 0 rfl) ?_
          refine tp_iald hx hb hK hR 7 0 (fun _ _ => rfl) rfl j rfl (by omega) (by decide) dX1_highYear_74 ?_
          rw [show I 7 j = nI (lt j) from (hSi.2.2.2 j (by omega)).2.1]
          refine tp_iald hx hb hK hR ky 0 hky rfl (lt j) rfl (by omega) (by decide) dX1_highYear_75 ?_
          rw [show I ky (lt j) = nI (y (lt j)) from hy (lt j) (by omega)]
          refine lv_aload_n hx hb dX1_highYear_76 rfl (lv_at hl 2 rfl) ?_
          refine tb_get hx hb hts (fun w h => List.mem_cons_of_mem _ (inX1 w h)) hown hK hR 1 rfl rfl 6 (by decide) (hts _ (List.mem_cons_of_mem _ k44)) (fun _ h => h) rfl dX1_highYear_77 ?_
          refine lv_iload hx hb dX1_highYear_80 (lv_at hl 0 rfl) ?_
          refine tp_iald hx hb hK hR 8 0 (fun _ _ => rfl) rfl j rfl (by omega) (by decide) dX1_highYear_82 ?_
          rw [show I 8 j = nI (le j) from (hSi.2.2.2 j (by omega)).2.2.1]
          refine lv_isub hx hb dX1_highYear_83 ?_
          refine va_mmin hx hb (hml.trans hl.1.symm) hown (hts _ (List.mem_cons_of_mem _ k381)) (hts _ (List.mem_cons_of_mem _ k22)) (hts _ (List.mem_cons_of_mem _ k2)) (hts _ (List.mem_cons_of_mem _ k23)) (Nat.le_trans (Nat.le_of_ble_eq_true rfl) hRf) (Nat.le_trans (Nat.le_of_ble_eq_true rfl) hRl) hRc hRs dX1_highYear_84 ?_
          rw [show (if (nI (y (lt j))) - (nI (le j)) < nI (sHi la ea lt le mo d y j) then (nI (y (lt j))) - (nI (le j)) else nI (sHi la ea lt le mo d y j)) = nI (sHi la ea lt le mo d y (j + 1)) from by rw [mn_sub (by omega) (by omega) (by omega)]; simp only [sHi]; rw [if_neg hq, if_pos hq2]]
          refine lv_istore_n (lv' := [(3, .int (nI (sHi la ea lt le mo d y (j + 1)))), (4, .int (nI j)), (0, .ref (ad 1)), (1, .int (nI d)), (2, .ref (ad ky))]) hx hb dX1_highYear_87 rfl hl (by decide) rfl (fun ls hl => ?_)
          refine lv_iinc (v := nI (j + 1)) (lv' := [(4, .int (nI (j + 1))), (3, .int (nI (sHi la ea lt le mo d y (j + 1)))), (0, .ref (ad 1)), (1, .int (nI d)), (2, .ref (ad ky))]) hx hb dX1_highYear_88 hl (k := 1) rfl (nI_1 _) (by decide) rfl (fun ls hl => ?_)
          refine lv_goto (tgt := 10) hx hb dX1_highYear_91 (by decide) ?_
          exact ih (j + 1)  H locs ls (by omega) (by omega)  hR hS (lv_sub hl [0, 1, 2, 3, 4] rfl)
      · have hq : lt j = d := (nI_eq (by omega) (by omega)).mp c2
        refine lv_iload_n hx hb dX1_highYear_30 rfl (lv_at hl 1 rfl) ?_
        refine lv_aload_n hx hb dX1_highYear_31 rfl (lv_at hl 4 rfl) ?_
        refine lv_aload_n hx hb dX1_highYear_32 rfl (lv_at hl 2 rfl) ?_
        refine tb_get hx hb hts (fun w h => List.mem_cons_of_mem _ (inX1 w h)) hown hK hR 1 rfl rfl 4 (by decide) (hts _ (List.mem_cons_of_mem _ k42)) (fun _ h => h) rfl dX1_highYear_33 ?_
        refine lv_iload hx hb dX1_highYear_36 (lv_at hl 0 rfl) ?_
        refine tp_iald hx hb hK hR 6 0 (fun _ _ => rfl) rfl j rfl (by omega) (by decide) dX1_highYear_38 ?_
        rw [show I 6 j = nI (ea j) from (hSi.2.2.2 j (by omega)).1]
        refine tp_iald hx hb hK hR ky 0 hky rfl (ea j) rfl (by omega) (by decide) dX1_highYear_39 ?_
        rw [show I ky (ea j) = nI (y (ea j)) from hy (ea j) (by omega)]
        refine lv_aload_n hx hb dX1_highYear_40 rfl (lv_at hl 2 rfl) ?_
        refine tb_get hx hb hts (fun w h => List.mem_cons_of_mem _ (inX1 w h)) hown hK hR 1 rfl rfl 7 (by decide) (hts _ (List.mem_cons_of_mem _ k45)) (fun _ h => h) rfl dX1_highYear_41 ?_
        refine lv_iload hx hb dX1_highYear_44 (lv_at hl 0 rfl) ?_
        refine tp_iald hx hb hK hR 9 0 (fun _ _ => rfl) rfl j rfl (by omega) (by decide) dX1_highYear_46 ?_
        rw [show I 9 j = nI (mo j) from (hSi.2.2.2 j (by omega)).2.2.2]
        refine lv_iadd hx hb dX1_highYear_47 ?_
        refine va_mmin hx hb (hml.trans hl.1.symm) hown (hts _ (List.mem_cons_of_mem _ k381)) (hts _ (List.mem_cons_of_mem _ k22)) (hts _ (List.mem_cons_of_mem _ k2)) (hts _ (List.mem_cons_of_mem _ k23)) (Nat.le_trans (Nat.le_of_ble_eq_true rfl) hRf) (Nat.le_trans (Nat.le_of_ble_eq_true rfl) hRl) hRc hRs dX1_highYear_48 ?_
        rw [show (if (nI (y (ea j))) + (nI (mo j)) < nI (sHi la ea lt le mo d y j) then (nI (y (ea j))) + (nI (mo j)) else nI (sHi la ea lt le mo d y j)) = nI (sHi la ea lt le mo d y (j + 1)) from by rw [mn_add (by omega) (by omega) (by omega)]; simp only [sHi]; rw [if_pos hq]]
        refine lv_istore_n (lv' := [(3, .int (nI (sHi la ea lt le mo d y (j + 1)))), (4, .int (nI j)), (0, .ref (ad 1)), (1, .int (nI d)), (2, .ref (ad ky))]) hx hb dX1_highYear_51 rfl hl (by decide) rfl (fun ls hl => ?_)
        refine lv_goto (tgt := 88) hx hb dX1_highYear_52 (by decide) ?_
        refine lv_iinc (v := nI (j + 1)) (lv' := [(4, .int (nI (j + 1))), (3, .int (nI (sHi la ea lt le mo d y (j + 1)))), (0, .ref (ad 1)), (1, .int (nI d)), (2, .ref (ad ky))]) hx hb dX1_highYear_88 hl (k := 1) rfl (nI_1 _) (by decide) rfl (fun ls hl => ?_)
        refine lv_goto (tgt := 10) hx hb dX1_highYear_91 (by decide) ?_
        exact ih (j + 1)  H locs ls (by omega) (by omega)  hR hS (lv_sub hl [0, 1, 2, 3, 4] rfl)
set_option maxHeartbeats 4000000 in
set_option maxRecDepth 100000 in
theorem mX1_highYear (I : tI) (L : tL) {nd no : Nat} {f la : Nat → Nat} {ph : Nat → Int32} {w : Nat → Nat → Nat} {ea lt le mo : Nat → Nat} (ky d : Nat) (y : Nat → Nat) (hSi : cSi I nd no f la ph w ea lt le mo) (hwf : wfS nd no f la w ea lt le mo) (hd : d < nd) (hky : ∀ r q, wP n ad cs ky r q = some (.inl (cs 0, 8, .inl r))) (hy : ∀ i, i < nd → I ky i = nI (y i)) (hyb : ∀ i, i < nd → y i ≤ 255) (hO : ∀ j, j < no → y (ea j) + le j ≤ y (lt j)) : Met l yX1_highYear wX1_highYear ({ frames := 1, cells := 0, slots := 0, locals := 30 }) (va_Pc [.ref (ad 1), .int (nI d), .ref (ad ky)] (kB D cs base sa n ad I L)) (va_Qi (fun (r : Int32) (u : tI × tL) => r = nI (sHi la ea lt le mo d y no) ∧ u = (I, L)) (kA D cs base n ad) (fun q => base ≤ q)) 0 0 (fun q => base ≤ q) := by
  refine Met.ofW (cc := cX1_highYear) (maxL := 5) (ret := (some .int)) (by decide) rfl ?_
  intro p e s m args below meth c s₁ B hml hv
  obtain ⟨rfl, hE, hR⟩ := hv
  have hx := B.exec
  have hb := B.bytes
  have hr := B.returns
  have hts := atoms_spec (ws := wX1_highYear) B.pre
  have hown : s.vm.findClass RX1 = some m.cls := findClass_of_methodNamed B.named
  have hlocks := B.notSynchronized
  have hK := hE.K
  have hS : va_S (fun q => base ≤ q) s.heap s.heap [] := va_S.rf
  have hR : tR D vwCl base ad (tC (wP n ad cs) I L) s.heap := hR
  have hl := lv_entry ([.ref (ad 1), .int (nI d), .ref (ad ky)]) (n := 5) (Nat.le_of_ble_eq_true rfl)
  rw [lg_entry_eq]
  generalize (lg_sl ([.ref (ad 1), .int (nI d), .ref (ad ky)]) ++ List.replicate (5 - (lg_sl ([.ref (ad 1), .int (nI d), .ref (ad ky)])).length) Slot.unset).toArray = ls at hl ⊢
  have hl : lv_has ls 5 [(0, .ref (ad 1)), (1, .int (nI d)), (2, .ref (ad ky))] := hl
  obtain ⟨h_nd, h_no, h_d, h_o⟩ := id hwf
  refine lv_aload_n hx hb dX1_highYear_0 rfl (lv_at hl 0 rfl) ?_
  refine tb_get hx hb hts (fun w h => List.mem_cons_of_mem _ (inX1 w h)) hown hK hR 1 rfl rfl 1 (by decide) (hts _ (List.mem_cons_of_mem _ k37)) (fun _ h => h) rfl dX1_highYear_1 ?_
  refine lv_iload_n hx hb dX1_highYear_4 rfl (lv_at hl 1 rfl) ?_
  refine tp_iald hx hb hK hR 3 0 (fun _ _ => rfl) rfl d rfl (by omega) (by decide) dX1_highYear_5 ?_
  rw [show I 3 d = nI (la d) from (hSi.2.2.1 d (by omega)).2.1]
  refine lv_istore_n (lv' := [(3, .int (nI (la d))), (0, .ref (ad 1)), (1, .int (nI d)), (2, .ref (ad ky))]) hx hb dX1_highYear_6 rfl hl (by decide) rfl (fun ls hl => ?_)
  refine lv_iconst (v := 0) hx hb dX1_highYear_7 (by decide) ?_
  rw [show (0 : Int32) = nI 0 from nI_0.symm]
  refine lv_istore (lv' := [(4, .int (nI 0)), (3, .int (nI (la d))), (0, .ref (ad 1)), (1, .int (nI d)), (2, .ref (ad ky))]) hx hb dX1_highYear_8 hl (by decide) rfl (fun ls hl => ?_)
  refine lpX1_highYear ⟨hx, hb, hml, hown, hts⟩ hE (Nat.le_of_ble_eq_true rfl) (Nat.le_of_ble_eq_true rfl) (Nat.zero_le _) (Nat.zero_le _) I L ky d y hSi hwf hd hky hy hyb hO (fun H locs ls hR hS hl => ?_) (no + 1) 0 _ _ ls (Nat.zero_le _) (by omega) hR hS (lv_sub hl [0, 1, 2, 3, 4] rfl)
  refine lv_iload_n hx hb dX1_highYear_94 rfl (lv_at hl 1 rfl) ?_
  exact W.iret (v := nI (sHi la ea lt le mo d y no)) hx hb hr (fun t ht hW => ⟨⟨_, (I, L), rfl, ⟨rfl, rfl⟩, by show tR _ _ _ _ _ t.heap; rw [ht]; exact hR⟩, hS.F ht⟩) hS.2.2 dX1_highYear_95
end C1
