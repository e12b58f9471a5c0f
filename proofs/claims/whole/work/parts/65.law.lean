/-! THE LAW -/
theorem and15 (x : Int32) : ∃ q, q < 16 ∧ x &&& 15 = nI q := by
  refine ⟨(x &&& 15).toBitVec.toNat, ?_, ?_⟩
  · rw [Int32.toBitVec_and, BitVec.toNat_and]
    exact Nat.and_lt_two_pow (n := 4) _ (by decide)
  · apply Int32.toBitVec_inj.mp
    unfold nI
    rw [show (Int32.ofNat (x &&& 15).toBitVec.toNat).toBitVec = BitVec.ofNat 32 (x &&& 15).toBitVec.toNat from rfl, BitVec.ofNat_toNat, BitVec.setWidth_eq]
theorem hd_f {N j : Nat} (hN : N < 2 ^ 30) (hj : j < 2 ^ 30) (h : ¬ nI N - nI 5 < nI j) : j + 5 ≤ N := by
  rw [Int32.lt_iff_toInt_lt, pk_sub_toInt hN (by omega), nI_tri hj] at h
  omega
theorem kw_SW {X : Cond} {own : String} {idx : Nat} {y : MethodName} {bytes : ByteArray} {maxL : Nat} {ret : Option FieldType} {hh : List (Nat × Nat × Nat × Nat)} (h1 : Cond.methodLink own idx y ∈ wAll) (h2 : Cond.static y ∈ wAll) (h4 : Cond.initialized y.cls ∈ wAll) (h5 : Cond.codeWith y bytes maxL ret hh ∈ wAll) : GoodIn (X :: wAll) (va_wsS own idx y (.codeWith y bytes maxL ret hh :: wAll)) :=
  gAll (gCons h1 (gCons h2 (gCons h4 (gCons h5 gSelf))))
theorem kw_I {X : Cond} {y : MethodName} {bytes : ByteArray} {maxL : Nat} {ret : Option FieldType} (h5 : Cond.code y bytes maxL ret ∈ wAll) : GoodIn (X :: wAll) (.code y bytes maxL ret :: wAll) := gAll (gCons h5 gSelf)
abbrev wLw : List Cond := Cond.initialized "SeedChainsLaw" :: wAll
/-- what the law's cell() starts from -/
def kL (D : va_G) (base : Nat) (ad : Nat → Nat) (C : Nat → Option va_E) (sb N : Nat) (xs : Nat → Int32) (U : State) : Prop := tR D vwCl base ad C U.heap ∧ va_X sb N xs U U.heap ∧ sb < U.heap.size ∧ ¬ base ≤ sb
theorem kL_pre {D : va_G} {base : Nat} {ad : Nat → Nat} {C : Nat → Option va_E} {sb N : Nat} {xs : Nat → Int32} {s : State} {H : Heap} {locs : List Loc} (hX : va_X sb N xs s s.heap) (hbl : sb < s.heap.size) (hbA : ¬ base ≤ sb) (hR : tR D vwCl base ad C H) (hS : va_S (fun q => base ≤ q) s.heap H locs) (As : List Value) : PreS s H (va_Pc As (kL D base ad C sb N xs)) As :=
  ⟨fun _ U _ _ q => ⟨q.1, q.2.1, va_X.moved (u := U) (Vm.Alike.refl U.vm) q.2.2.1, q.2.2.2⟩, fun U hU hW => ⟨rfl, by rw [hU]; exact hR, by rw [hU]; exact va_X.moved hW.alike (hX.kept (hS.2.1 sb hbl hbA)), by rw [hU]; exact Nat.lt_of_lt_of_le hbl hS.1, hbA⟩⟩
section LC
variable {p : Program} {l : Launch} {e : Env} {R : Room} {s : State} {m : MethodId} {args : Array Value} {below : List Frame} {meth : Method} {c : Code} {H : Heap} {locs : List Loc} {cells slots : Nat} {Q : State → Prop}
variable {pc : Nat} {ls : Array Slot} {rest st0 : List Value} {D : va_G} {base : Nat} {ad : Nat → Nat} {C : Nat → Option va_E} {H0 : Heap} {mc ms : Nat} {a : Array Value}
theorem kl_i {post : Int32 → Unit → Prop} (hr : va_Run p l e R s m args below meth c H locs cells slots mc ms (F0 m pc ls st0) rest (va_Qi post (fun (_ : Unit) (t : State) => tR D vwCl base ad C t.heap) (fun q => base ≤ q) a) (fun q => base ≤ q)) (hS : va_S (fun q => base ≤ q) H0 H locs)
    (kk : ∀ (r : Int32) (H1 : Heap) (locs1 : List Loc), post r () → tR D vwCl base ad C H1 → va_S (fun q => base ≤ q) H0 H1 locs1 → W p l e R s m args below meth c H1 locs1 (cells + mc) (slots + ms) Q (F0 m (pc + 3) ls (.int r :: rest))) : W p l e R s m args below meth c H locs cells slots Q (F0 m pc ls st0) :=
  va_calli hr hS (fun _ _ h => h) (fun _ h => h) (fun r _ t H1 locs1 ht _ hw hB _ _ hS1 => kk r H1 locs1 hw (by rw [← ht]; exact hB) hS1)
end LC
section L1
variable {l : Launch} {D : va_G} {cs : Nat → ClassId} {base : Nat} {sa : Nat → Nat} {n : Nat} {ad : Nat → Nat}
set_option maxHeartbeats 4000000 in
theorem mL_cell (sb N j : Nat) (xs : Nat → Int32) (C : Nat → Option va_E) (hN : N < 2 ^ 31) (hj : j < 2 ^ 31) : Met l yL_cell wL_cell ({ frames := 0, cells := 0, slots := 0, locals := 0 }) (va_Pc [.ref sb, .int (nI j)] (kL D base ad C sb N xs)) (va_Qi (fun (r : Int32) (_ : Unit) => r = if j < N then xs j else 0) (fun (_ : Unit) (t : State) => tR D vwCl base ad C t.heap) (fun q => base ≤ q)) 0 0 (fun q => base ≤ q) := by
  refine Met.ofW (cc := cL_cell) (maxL := 2) (ret := (some .int)) (by decide) rfl ?_
  intro p e s m args below meth c s₁ Bd hml hv
  obtain ⟨rfl, hR, hX, hbl, hbA⟩ := hv
  have hx := Bd.exec
  have hb := Bd.bytes
  have hr := Bd.returns
  have hlocks := Bd.notSynchronized
  have hS : va_S (fun q => base ≤ q) s.heap s.heap [] := va_S.rf
  have hR : tR D vwCl base ad C s.heap := hR
  have hl := lv_entry ([.ref sb, .int (nI j)]) (n := 2) (Nat.le_of_ble_eq_true rfl)
  rw [lg_entry_eq]
  generalize (lg_sl ([.ref sb, .int (nI j)]) ++ List.replicate (2 - (lg_sl ([.ref sb, .int (nI j)])).length) Slot.unset).toArray = ls at hl ⊢
  have hl : lv_has ls 2 [(0, .ref sb), (1, .int (nI j))] := hl
  refine lv_iload_n hx hb dL_cell_0 rfl (lv_at hl 1 rfl) ?_
  refine lv_aload_n hx hb dL_cell_1 rfl (lv_at hl 0 rfl) ?_
  refine va_slen hx hb hX hbl hbA hS dL_cell_2 ?_
  refine lv_icmp_ge (tgt := 12) hx hb dL_cell_3 (by decide) (fun c1 => ?_) (fun c1 => ?_)
  · have hjN : ¬ j < N := fun q => absurd (nI_lt q hN) (i_le_n c1)
    refine lv_iconst (v := nI 0) hx hb dL_cell_12 (by decide) ?_
    exact W.iret (v := nI 0) hx hb hr (fun t ht hW => ⟨⟨_, (), rfl, by rw [if_neg hjN]; rfl, by show tR _ _ _ _ _ t.heap; rw [ht]; exact hR⟩, hS.F ht⟩) hS.2.2 dL_cell_13
  · have hjN : j < N := by
      rcases Nat.lt_or_ge j N with q | q
      · exact q
      · exact absurd (nI_le q hj) c1
    refine lv_aload_n hx hb dL_cell_6 rfl (lv_at hl 0 rfl) ?_
    refine lv_iload_n hx hb dL_cell_7 rfl (lv_at hl 1 rfl) ?_
    refine va_sld hx hb hX hbl hbA hS (vp_in_nI (by omega) (by omega)) dL_cell_8 ?_
    rw [nI_clamp (by omega)]
    refine lv_goto (tgt := 13) hx hb dL_cell_9 (by decide) ?_
    exact W.iret (v := xs j) hx hb hr (fun t ht hW => ⟨⟨_, (), rfl, by rw [if_pos hjN], by show tR _ _ _ _ _ t.heap; rw [ht]; exact hR⟩, hS.F ht⟩) hS.2.2 dL_cell_13
end L1
section L2
variable {p : Program} {l : Launch} {e : Env} {R : Room} {s : State} {m : MethodId} {args : Array Value} {below : List Frame} {meth : Method} {c : Code} {Q : State → Prop} {D : va_G} {cs : Nat → ClassId} {base : Nat} {sa : Nat → Nat} {n : Nat} {ad : Nat → Nat}
set_option maxHeartbeats 4000000 in
set_option maxRecDepth 100000 in
theorem sg_date (S0 : CallFix p m c cL_law 7 s args wLw RL) (hE : eV D cs base sa s) (hl0 : l.stackTraces = false) {sb N : Nat} {xs : Nat → Int32} (hX : va_X sb N xs s s.heap) (hbl : sb < s.heap.size) (hbA : ¬ base ≤ sb) (hN : N ≤ 2600) {cells slots : Nat} (hRf : 11 ≤ R.frames) (hRl : 300 ≤ R.locals) (hRc : cells + 5 ≤ R.cells) (hRs : slots + 30 ≤ R.slots) {se : Int32} {B j : Nat} (hB : B + 100 < 2 ^ 19) (hj : j + 5 ≤ N) (I : tI) (L : tL) (hJ : lJ n B se I L)
    (kx : ∀ (u : tI × tL) (H : Heap) (locs : List Loc) (ls : Array Slot), lJ n (B + 100) se u.1 u.2 → tR D vwCl base ad (tC (wP n ad cs) u.1 u.2) H → va_S (fun q => base ≤ q) s.heap H locs → lv_has ls 7 [(0, .ref sb), (1, .ref (ad 0)), (2, .ref (ad 200)), (3, .ref (ad 220)), (4, .int (nI j))] → W p l e R s m args below meth c H locs (cells + 5) (slots + 30) Q (F0 m 1109 ls []))
    (H : Heap) (locs : List Loc) (ls : Array Slot) (hR : tR D vwCl base ad (tC (wP n ad cs) I L) H) (hS : va_S (fun q => base ≤ q) s.heap H locs) (hl : lv_has ls 7 [(0, .ref sb), (1, .ref (ad 0)), (2, .ref (ad 200)), (3, .ref (ad 220)), (4, .int (nI j))]) : W p l e R s m args below meth c H locs cells slots Q (F0 m 136 ls []) := by
  obtain ⟨hx, hb, hml, hown, hts⟩ := S0
  have hK0 := hE.K
  obtain ⟨nd, no, f, la, ph, w, ea, lt, le, mo, bu, ev, sd, sv, Y, st, Rw, kp, sp, Ys, ss, Rs, ks, ps, hW, hK, hM⟩ := hJ
  refine lv_aload_n hx hb dL_law_136 rfl (lv_at hl 1 rfl) ?_
  refine lv_aload_n hx hb dL_law_137 rfl (lv_at hl 0 rfl) ?_
  refine lv_iload hx hb dL_law_138 (lv_at hl 4 rfl) ?_
  refine lv_iconst (v := nI 1) hx hb dL_law_140 (by decide) ?_
  refine lv_iadd hx hb dL_law_141 ?_
  rw [nI_add]
  refine va_sld hx hb hX hbl hbA hS (vp_in_nI (by omega) (by omega)) dL_law_142 ?_
  rw [nI_clamp (by omega)]
  refine lv_aload_n hx hb dL_law_143 rfl (lv_at hl 0 rfl) ?_
  refine lv_iload hx hb dL_law_144 (lv_at hl 4 rfl) ?_
  refine lv_iconst (v := nI 2) hx hb dL_law_146 (by decide) ?_
  refine lv_iadd hx hb dL_law_147 ?_
  rw [nI_add]
  refine va_sld hx hb hX hbl hbA hS (vp_in_nI (by omega) (by omega)) dL_law_148 ?_
  rw [nI_clamp (by omega)]
  refine lv_aload_n hx hb dL_law_149 rfl (lv_at hl 3 rfl) ?_
  refine kc_i (vx_runSW (As := [.ref (ad 0), .int (xs (j + 1)), .int (xs (j + 2)), .ref (ad 220)]) (rest := []) ⟨hx, hb, hml, hown, hts⟩ (mL_date I L (xs (j + 1)) (xs (j + 2)) (mX2_date hl0 I L nd (xs (j + 1)) (xs (j + 2)) hK.1.1 hW.d8) (fun E h => h.elim (fun q => Or.inl q.1) (fun q => Or.inr q.1))) (vx_cwSW 4 hts (kw_SW k149 k150 k0 k151) rfl rfl rfl (by decide +kernel) ⟨Nat.le_trans (Nat.le_of_ble_eq_true rfl) hRf, Nat.le_trans (Nat.le_of_ble_eq_true rfl) hRl⟩) (kB_pre hE hR hS [.ref (ad 0), .int (xs (j + 1)), .int (xs (j + 2)), .ref (ad 220)]) rfl rfl hl.1 rfl (lv_room (Nat.le_of_ble_eq_true rfl)) dL_law_150 ⟨by omega, by omega⟩) hS (fun r v9 H locs hw hR hS => ?_)
  refine W.widen (k := cells + 5) (n := slots + 30) (by omega) (by omega) ?_
  have hM9 := fr_date hW hK hM hw
  refine lv_istore (lv' := [(5, .int r), (0, .ref sb), (1, .ref (ad 0)), (2, .ref (ad 200)), (3, .ref (ad 220)), (4, .int (nI j))]) hx hb dL_law_153 hl (by decide) rfl (fun ls hl => ?_)
  refine lv_aload_n hx hb dL_law_155 rfl (lv_at hl 3 rfl) ?_
  refine lv_aload_n hx hb dL_law_156 rfl (lv_at hl 1 rfl) ?_
  refine lv_iload hx hb dL_law_157 (lv_at hl 5 rfl) ?_
  refine lv_iconst (v := nI 1) hx hb dL_law_159 (by decide) ?_
  refine lv_iadd hx hb dL_law_160 ?_
  rw [nI_add]
  refine va_sld hx hb hX hbl hbA hS (vp_in_nI (by omega) (by omega)) dL_law_161 ?_
  rw [nI_clamp (by omega)]
  refine lv_aload_n hx hb dL_law_162 rfl (lv_at hl 1 rfl) ?_
  refine lv_iload hx hb dL_law_163 (lv_at hl 5 rfl) ?_
  refine lv_iconst (v := nI 2) hx hb dL_law_165 (by decide) ?_
  refine lv_iadd hx hb dL_law_166 ?_
  rw [nI_add]
  refine va_sld hx hb hX hbl hbA hS (vp_in_nI (by omega) (by omega)) dL_law_167 ?_
  rw [nI_clamp (by omega)]
  refine kc_i (va_runV (As := [.int (xs (j + 1)), .int (xs (j + 2))]) (rest := []) ⟨hx, hb, hml, hown, hts⟩ (mX3_date v9.1 v9.2 nd (xs (j + 1)) (xs (j + 2)) hM9.1.1 hW.d8) (cwV 2 hts (kw_V k564 k565 k566 k5 k567) rfl rfl rfl (by decide +kernel) ⟨Nat.le_trans (Nat.le_of_ble_eq_true rfl) hRf, Nat.le_trans (Nat.le_of_ble_eq_true rfl) hRl⟩) (kB_preV hE hR hS 200 rfl rfl [.int (xs (j + 1)), .int (xs (j + 2))]) rfl rfl hl.1 rfl (lv_room (Nat.le_of_ble_eq_true rfl)) dL_law_168 ⟨by omega, by omega⟩) hS (fun r2 u2 H locs hm hR hS => ?_)
  have hop := op_date hW hK hM hw hm
  refine lv_istore (lv' := [(6, .int r2), (5, .int r), (0, .ref sb), (1, .ref (ad 0)), (2, .ref (ad 200)), (3, .ref (ad 220)), (4, .int (nI j))]) hx hb dL_law_171 hl (by decide) rfl (fun ls hl => ?_)
  refine lv_aload_n hx hb dL_law_173 rfl (lv_at hl 4 rfl) ?_
  refine kc_i (va_runV (As := []) (rest := []) ⟨hx, hb, hml, hown, hts⟩ (mX3_thrown u2.1 u2.2) (cwV 0 hts (kw_V k560 k561 k562 k5 k563) rfl rfl rfl (by decide +kernel) ⟨Nat.le_trans (Nat.le_of_ble_eq_true rfl) hRf, Nat.le_trans (Nat.le_of_ble_eq_true rfl) hRl⟩) (kB_preV hE hR hS 200 rfl rfl []) rfl rfl hl.1 rfl (lv_room (Nat.le_of_ble_eq_true rfl)) dL_law_174 ⟨by omega, by omega⟩) hS (fun r3 u3 H locs ht hR hS => ?_)
  obtain ⟨ht, rfl⟩ := ht
  have hR : tR D vwCl base ad (tC (wP n ad cs) u2.1 u2.2) H := hR
  refine lv_iload hx hb dL_law_177 (lv_at hl 1 rfl) ?_
  refine lv_icmp_eq (tgt := 184) hx hb dL_law_179 (by decide) (fun _ => ?_) (fun c9 => absurd (ht.trans hop.1) c9)
  refine lv_iload hx hb dL_law_184 (lv_at hl 1 rfl) ?_
  refine lv_if_ne (tgt := 201) hx hb dL_law_186 (by decide) (fun c1 => ?_) (fun c1 => ?_)
  · refine lv_goto (tgt := 1109) hx hb dL_law_201 (by decide) ?_
    exact kx u2 H locs ls hop.2.2 hR hS (lv_sub hl [2, 3, 4, 5, 6] rfl)
  · refine lv_aload_n hx hb dL_law_189 rfl (lv_at hl 5 rfl) ?_
    refine lv_iconst (v := nI 0) hx hb dL_law_190 (by decide) ?_
    refine tp_lald hx hb hK0 hR 220 1 (fun _ _ => rfl) rfl 0 rfl (by omega) (by decide) dL_law_191 ?_
    refine lv_iload hx hb dL_law_192 (lv_at hl 0 rfl) ?_
    refine lv_i2l hx hb dL_law_194 rfl ?_
    refine W.lcmp hx hb dL_law_195 ?_
    refine lv_if_eq (tgt := 201) hx hb dL_law_196 (by decide) (fun _ => ?_) (fun c9 => absurd ((lg_cmp_eq _ _).mpr (hop.2.1 c1)) c9)
    refine lv_goto (tgt := 1109) hx hb dL_law_201 (by decide) ?_
    exact kx u2 H locs ls hop.2.2 hR hS (lv_sub hl [2, 3, 4, 5, 6] rfl)
set_option maxHeartbeats 4000000 in
set_option maxRecDepth 100000 in
theorem sg_weight (S0 : CallFix p m c cL_law 7 s args wLw RL) (hE : eV D cs base sa s) (hl0 : l.stackTraces = false) {sb N : Nat} {xs : Nat → Int32} (hX : va_X sb N xs s s.heap) (hbl : sb < s.heap.size) (hbA : ¬ base ≤ sb) (hN : N ≤ 2600) {cells slots : Nat} (hRf : 11 ≤ R.frames) (hRl : 300 ≤ R.locals) (hRc : cells + 5 ≤ R.cells) (hRs : slots + 30 ≤ R.slots) {se : Int32} {B j : Nat} (hB : B + 100 < 2 ^ 19) (hj : j + 5 ≤ N) (I : tI) (L : tL) (hJ : lJ n B se I L)
    (kx : ∀ (u : tI × tL) (H : Heap) (locs : List Loc) (ls : Array Slot), lJ n (B + 100) se u.1 u.2 → tR D vwCl base ad (tC (wP n ad cs) u.1 u.2) H → va_S (fun q => base ≤ q) s.heap H locs → lv_has ls 7 [(0, .ref sb), (1, .ref (ad 0)), (2, .ref (ad 200)), (3, .ref (ad 220)), (4, .int (nI j))] → W p l e R s m args below meth c H locs (cells + 5) (slots + 30) Q (F0 m 1109 ls []))
    (H : Heap) (locs : List Loc) (ls : Array Slot) (hR : tR D vwCl base ad (tC (wP n ad cs) I L) H) (hS : va_S (fun q => base ≤ q) s.heap H locs) (hl : lv_has ls 7 [(0, .ref sb), (1, .ref (ad 0)), (2, .ref (ad 200)), (3, .ref (ad 220)), (4, .int (nI j))]) : W p l e R s m args below meth c H locs cells slots Q (F0 m 204 ls []) := by
  obtain ⟨hx, hb, hml, hown, hts⟩ := S0
  have hK0 := hE.K
  obtain ⟨nd, no, f, la, ph, w, ea, lt, le, mo, bu, ev, sd, sv, Y, st, Rw, kp, sp, Ys, ss, Rs, ks, ps, hW, hK, hM⟩ := hJ
  refine lv_aload_n hx hb dL_law_204 rfl (lv_at hl 1 rfl) ?_
  refine lv_aload_n hx hb dL_law_205 rfl (lv_at hl 0 rfl) ?_
  refine lv_iload hx hb dL_law_206 (lv_at hl 4 rfl) ?_
  refine lv_iconst (v := nI 1) hx hb dL_law_208 (by decide) ?_
  refine lv_iadd hx hb dL_law_209 ?_
  rw [nI_add]
  refine va_sld hx hb hX hbl hbA hS (vp_in_nI (by omega) (by omega)) dL_law_210 ?_
  rw [nI_clamp (by omega)]
  refine lv_aload_n hx hb dL_law_211 rfl (lv_at hl 0 rfl) ?_
  refine lv_iload hx hb dL_law_212 (lv_at hl 4 rfl) ?_
  refine lv_iconst (v := nI 2) hx hb dL_law_214 (by decide) ?_
  refine lv_iadd hx hb dL_law_215 ?_
  rw [nI_add]
  refine va_sld hx hb hX hbl hbA hS (vp_in_nI (by omega) (by omega)) dL_law_216 ?_
  rw [nI_clamp (by omega)]
  refine lv_aload_n hx hb dL_law_217 rfl (lv_at hl 0 rfl) ?_
  refine lv_iload hx hb dL_law_218 (lv_at hl 4 rfl) ?_
  refine lv_iconst (v := nI 3) hx hb dL_law_220 (by decide) ?_
  refine lv_iadd hx hb dL_law_221 ?_
  rw [nI_add]
  refine va_sld hx hb hX hbl hbA hS (vp_in_nI (by omega) (by omega)) dL_law_222 ?_
  rw [nI_clamp (by omega)]
  refine lv_aload_n hx hb dL_law_223 rfl (lv_at hl 3 rfl) ?_
  refine kc_i (vx_runSW (As := [.ref (ad 0), .int (xs (j + 1)), .int (xs (j + 2)), .int (xs (j + 3)), .ref (ad 220)]) (rest := []) ⟨hx, hb, hml, hown, hts⟩ (mL_weight I L (xs (j + 1)) (xs (j + 2)) (xs (j + 3)) (mX2_weight hl0 I L (xs (j + 1)) (xs (j + 2)) (xs (j + 3)) hK.1 hW.1) (fun E h => h.elim (fun q => Or.inl q.1) (fun q => Or.inr q.1))) (vx_cwSW 5 hts (kw_SW k254 k255 k0 k256) rfl rfl rfl (by decide +kernel) ⟨Nat.le_trans (Nat.le_of_ble_eq_true rfl) hRf, Nat.le_trans (Nat.le_of_ble_eq_true rfl) hRl⟩) (kB_pre hE hR hS [.ref (ad 0), .int (xs (j + 1)), .int (xs (j + 2)), .int (xs (j + 3)), .ref (ad 220)]) rfl rfl hl.1 rfl (lv_room (Nat.le_of_ble_eq_true rfl)) dL_law_224 ⟨by omega, by omega⟩) hS (fun r v9 H locs hw hR hS => ?_)
  refine W.widen (k := cells + 5) (n := slots + 30) (by omega) (by omega) ?_
  have hM9 := fr_weight hW hK hM hw
  refine lv_istore (lv' := [(5, .int r), (0, .ref sb), (1, .ref (ad 0)), (2, .ref (ad 200)), (3, .ref (ad 220)), (4, .int (nI j))]) hx hb dL_law_227 hl (by decide) rfl (fun ls hl => ?_)
  refine lv_aload_n hx hb dL_law_229 rfl (lv_at hl 3 rfl) ?_
  refine lv_aload_n hx hb dL_law_230 rfl (lv_at hl 1 rfl) ?_
  refine lv_iload hx hb dL_law_231 (lv_at hl 5 rfl) ?_
  refine lv_iconst (v := nI 1) hx hb dL_law_233 (by decide) ?_
  refine lv_iadd hx hb dL_law_234 ?_
  rw [nI_add]
  refine va_sld hx hb hX hbl hbA hS (vp_in_nI (by omega) (by omega)) dL_law_235 ?_
  rw [nI_clamp (by omega)]
  refine lv_aload_n hx hb dL_law_236 rfl (lv_at hl 1 rfl) ?_
  refine lv_iload hx hb dL_law_237 (lv_at hl 5 rfl) ?_
  refine lv_iconst (v := nI 2) hx hb dL_law_239 (by decide) ?_
  refine lv_iadd hx hb dL_law_240 ?_
  rw [nI_add]
  refine va_sld hx hb hX hbl hbA hS (vp_in_nI (by omega) (by omega)) dL_law_241 ?_
  rw [nI_clamp (by omega)]
  refine lv_aload_n hx hb dL_law_242 rfl (lv_at hl 1 rfl) ?_
  refine lv_iload hx hb dL_law_243 (lv_at hl 5 rfl) ?_
  refine lv_iconst (v := nI 3) hx hb dL_law_245 (by decide) ?_
  refine lv_iadd hx hb dL_law_246 ?_
  rw [nI_add]
  refine va_sld hx hb hX hbl hbA hS (vp_in_nI (by omega) (by omega)) dL_law_247 ?_
  rw [nI_clamp (by omega)]
  refine kc_i (va_runV (As := [.int (xs (j + 1)), .int (xs (j + 2)), .int (xs (j + 3))]) (rest := []) ⟨hx, hb, hml, hown, hts⟩ (mX3_weight v9.1 v9.2 (xs (j + 1)) (xs (j + 2)) (xs (j + 3)) hM9.1 hW.1) (cwV 3 hts (kw_V k579 k580 k581 k5 k582) rfl rfl rfl (by decide +kernel) ⟨Nat.le_trans (Nat.le_of_ble_eq_true rfl) hRf, Nat.le_trans (Nat.le_of_ble_eq_true rfl) hRl⟩) (kB_preV hE hR hS 200 rfl rfl [.int (xs (j + 1)), .int (xs (j + 2)), .int (xs (j + 3))]) rfl rfl hl.1 rfl (lv_room (Nat.le_of_ble_eq_true rfl)) dL_law_248 ⟨by omega, by omega⟩) hS (fun r2 u2 H locs hm hR hS => ?_)
  have hop := op_weight hW hK hM hw hm
  refine lv_istore (lv' := [(6, .int r2), (5, .int r), (0, .ref sb), (1, .ref (ad 0)), (2, .ref (ad 200)), (3, .ref (ad 220)), (4, .int (nI j))]) hx hb dL_law_251 hl (by decide) rfl (fun ls hl => ?_)
  refine lv_aload_n hx hb dL_law_253 rfl (lv_at hl 4 rfl) ?_
  refine kc_i (va_runV (As := []) (rest := []) ⟨hx, hb, hml, hown, hts⟩ (mX3_thrown u2.1 u2.2) (cwV 0 hts (kw_V k560 k561 k562 k5 k563) rfl rfl rfl (by decide +kernel) ⟨Nat.le_trans (Nat.le_of_ble_eq_true rfl) hRf, Nat.le_trans (Nat.le_of_ble_eq_true rfl) hRl⟩) (kB_preV hE hR hS 200 rfl rfl []) rfl rfl hl.1 rfl (lv_room (Nat.le_of_ble_eq_true rfl)) dL_law_254 ⟨by omega, by omega⟩) hS (fun r3 u3 H locs ht hR hS => ?_)
  obtain ⟨ht, rfl⟩ := ht
  have hR : tR D vwCl base ad (tC (wP n ad cs) u2.1 u2.2) H := hR
  refine lv_iload hx hb dL_law_257 (lv_at hl 1 rfl) ?_
  refine lv_icmp_eq (tgt := 264) hx hb dL_law_259 (by decide) (fun _ => ?_) (fun c9 => absurd (ht.trans hop.1) c9)
  refine lv_iload hx hb dL_law_264 (lv_at hl 1 rfl) ?_
  refine lv_if_ne (tgt := 281) hx hb dL_law_266 (by decide) (fun c1 => ?_) (fun c1 => ?_)
  · refine lv_goto (tgt := 1109) hx hb dL_law_281 (by decide) ?_
    exact kx u2 H locs ls hop.2.2 hR hS (lv_sub hl [2, 3, 4, 5, 6] rfl)
  · refine lv_aload_n hx hb dL_law_269 rfl (lv_at hl 5 rfl) ?_
    refine lv_iconst (v := nI 0) hx hb dL_law_270 (by decide) ?_
    refine tp_lald hx hb hK0 hR 220 1 (fun _ _ => rfl) rfl 0 rfl (by omega) (by decide) dL_law_271 ?_
    refine lv_iload hx hb dL_law_272 (lv_at hl 0 rfl) ?_
    refine lv_i2l hx hb dL_law_274 rfl ?_
    refine W.lcmp hx hb dL_law_275 ?_
    refine lv_if_eq (tgt := 281) hx hb dL_law_276 (by decide) (fun _ => ?_) (fun c9 => absurd ((lg_cmp_eq _ _).mpr (hop.2.1 c1)) c9)
    refine lv_goto (tgt := 1109) hx hb dL_law_281 (by decide) ?_
    exact kx u2 H locs ls hop.2.2 hR hS (lv_sub hl [2, 3, 4, 5, 6] rfl)
set_option maxHeartbeats 4000000 in
set_option maxRecDepth 100000 in
theorem sg_before (S0 : CallFix p m c cL_law 7 s args wLw RL) (hE : eV D cs base sa s) (hl0 : l.stackTraces = false) {sb N : Nat} {xs : Nat → Int32} (hX : va_X sb N xs s s.heap) (hbl : sb < s.heap.size) (hbA : ¬ base ≤ sb) (hN : N ≤ 2600) {cells slots : Nat} (hRf : 11 ≤ R.frames) (hRl : 300 ≤ R.locals) (hRc : cells + 5 ≤ R.cells) (hRs : slots + 30 ≤ R.slots) {se : Int32} {B j : Nat} (hB : B + 100 < 2 ^ 19) (hj : j + 5 ≤ N) (I : tI) (L : tL) (hJ : lJ n B se I L)
    (kx : ∀ (u : tI × tL) (H : Heap) (locs : List Loc) (ls : Array Slot), lJ n (B + 100) se u.1 u.2 → tR D vwCl base ad (tC (wP n ad cs) u.1 u.2) H → va_S (fun q => base ≤ q) s.heap H locs → lv_has ls 7 [(0, .ref sb), (1, .ref (ad 0)), (2, .ref (ad 200)), (3, .ref (ad 220)), (4, .int (nI j))] → W p l e R s m args below meth c H locs (cells + 5) (slots + 30) Q (F0 m 1109 ls []))
    (H : Heap) (locs : List Loc) (ls : Array Slot) (hR : tR D vwCl base ad (tC (wP n ad cs) I L) H) (hS : va_S (fun q => base ≤ q) s.heap H locs) (hl : lv_has ls 7 [(0, .ref sb), (1, .ref (ad 0)), (2, .ref (ad 200)), (3, .ref (ad 220)), (4, .int (nI j))]) : W p l e R s m args below meth c H locs cells slots Q (F0 m 284 ls []) := by
  obtain ⟨hx, hb, hml, hown, hts⟩ := S0
  have hK0 := hE.K
  obtain ⟨nd, no, f, la, ph, w, ea, lt, le, mo, bu, ev, sd, sv, Y, st, Rw, kp, sp, Ys, ss, Rs, ks, ps, hW, hK, hM⟩ := hJ
  refine lv_aload_n hx hb dL_law_284 rfl (lv_at hl 1 rfl) ?_
  refine lv_aload_n hx hb dL_law_285 rfl (lv_at hl 0 rfl) ?_
  refine lv_iload hx hb dL_law_286 (lv_at hl 4 rfl) ?_
  refine lv_iconst (v := nI 1) hx hb dL_law_288 (by decide) ?_
  refine lv_iadd hx hb dL_law_289 ?_
  rw [nI_add]
  refine va_sld hx hb hX hbl hbA hS (vp_in_nI (by omega) (by omega)) dL_law_290 ?_
  rw [nI_clamp (by omega)]
  refine lv_aload_n hx hb dL_law_291 rfl (lv_at hl 0 rfl) ?_
  refine lv_iload hx hb dL_law_292 (lv_at hl 4 rfl) ?_
  refine lv_iconst (v := nI 2) hx hb dL_law_294 (by decide) ?_
  refine lv_iadd hx hb dL_law_295 ?_
  rw [nI_add]
  refine va_sld hx hb hX hbl hbA hS (vp_in_nI (by omega) (by omega)) dL_law_296 ?_
  rw [nI_clamp (by omega)]
  refine lv_aload_n hx hb dL_law_297 rfl (lv_at hl 0 rfl) ?_
  refine lv_iload hx hb dL_law_298 (lv_at hl 4 rfl) ?_
  refine lv_iconst (v := nI 3) hx hb dL_law_300 (by decide) ?_
  refine lv_iadd hx hb dL_law_301 ?_
  rw [nI_add]
  refine va_sld hx hb hX hbl hbA hS (vp_in_nI (by omega) (by omega)) dL_law_302 ?_
  rw [nI_clamp (by omega)]
  refine lv_aload_n hx hb dL_law_303 rfl (lv_at hl 0 rfl) ?_
  refine lv_iload hx hb dL_law_304 (lv_at hl 4 rfl) ?_
  refine lv_iconst (v := nI 4) hx hb dL_law_306 (by decide) ?_
  refine lv_iadd hx hb dL_law_307 ?_
  rw [nI_add]
  refine va_sld hx hb hX hbl hbA hS (vp_in_nI (by omega) (by omega)) dL_law_308 ?_
  rw [nI_clamp (by omega)]
  refine lv_aload_n hx hb dL_law_309 rfl (lv_at hl 3 rfl) ?_
  refine kc_i (vx_runSW (As := [.ref (ad 0), .int (xs (j + 1)), .int (xs (j + 2)), .int (xs (j + 3)), .int (xs (j + 4)), .ref (ad 220)]) (rest := []) ⟨hx, hb, hml, hown, hts⟩ (mL_before I L (xs (j + 1)) (xs (j + 2)) (xs (j + 3)) (xs (j + 4)) (mX2_before hl0 I L nd no (xs (j + 1)) (xs (j + 2)) (xs (j + 3)) (xs (j + 4)) hK.1.1 hW.d8 hK.1.2.1 hW.1.2.1) (fun E h => h.elim (fun q => Or.inl q.1) (fun h => h.elim (fun q => Or.inr (Or.inl q.1)) (fun q => Or.inr (Or.inr q.1))))) (vx_cwSW 6 hts (kw_SW k296 k297 k0 k298) rfl rfl rfl (by decide +kernel) ⟨Nat.le_trans (Nat.le_of_ble_eq_true rfl) hRf, Nat.le_trans (Nat.le_of_ble_eq_true rfl) hRl⟩) (kB_pre hE hR hS [.ref (ad 0), .int (xs (j + 1)), .int (xs (j + 2)), .int (xs (j + 3)), .int (xs (j + 4)), .ref (ad 220)]) rfl rfl hl.1 rfl (lv_room (Nat.le_of_ble_eq_true rfl)) dL_law_310 ⟨by omega, by omega⟩) hS (fun r v9 H locs hw hR hS => ?_)
  refine W.widen (k := cells + 5) (n := slots + 30) (by omega) (by omega) ?_
  have hM9 := fr_before hW hK hM hw
  refine lv_istore (lv' := [(5, .int r), (0, .ref sb), (1, .ref (ad 0)), (2, .ref (ad 200)), (3, .ref (ad 220)), (4, .int (nI j))]) hx hb dL_law_313 hl (by decide) rfl (fun ls hl => ?_)
  refine lv_aload_n hx hb dL_law_315 rfl (lv_at hl 3 rfl) ?_
  refine lv_aload_n hx hb dL_law_316 rfl (lv_at hl 1 rfl) ?_
  refine lv_iload hx hb dL_law_317 (lv_at hl 5 rfl) ?_
  refine lv_iconst (v := nI 1) hx hb dL_law_319 (by decide) ?_
  refine lv_iadd hx hb dL_law_320 ?_
  rw [nI_add]
  refine va_sld hx hb hX hbl hbA hS (vp_in_nI (by omega) (by omega)) dL_law_321 ?_
  rw [nI_clamp (by omega)]
  refine lv_aload_n hx hb dL_law_322 rfl (lv_at hl 1 rfl) ?_
  refine lv_iload hx hb dL_law_323 (lv_at hl 5 rfl) ?_
  refine lv_iconst (v := nI 2) hx hb dL_law_325 (by decide) ?_
  refine lv_iadd hx hb dL_law_326 ?_
  rw [nI_add]
  refine va_sld hx hb hX hbl hbA hS (vp_in_nI (by omega) (by omega)) dL_law_327 ?_
  rw [nI_clamp (by omega)]
  refine lv_aload_n hx hb dL_law_328 rfl (lv_at hl 1 rfl) ?_
  refine lv_iload hx hb dL_law_329 (lv_at hl 5 rfl) ?_
  refine lv_iconst (v := nI 3) hx hb dL_law_331 (by decide) ?_
  refine lv_iadd hx hb dL_law_332 ?_
  rw [nI_add]
  refine va_sld hx hb hX hbl hbA hS (vp_in_nI (by omega) (by omega)) dL_law_333 ?_
  rw [nI_clamp (by omega)]
  refine lv_aload_n hx hb dL_law_334 rfl (lv_at hl 1 rfl) ?_
  refine lv_iload hx hb dL_law_335 (lv_at hl 5 rfl) ?_
  refine lv_iconst (v := nI 4) hx hb dL_law_337 (by decide) ?_
  refine lv_iadd hx hb dL_law_338 ?_
  rw [nI_add]
  refine va_sld hx hb hX hbl hbA hS (vp_in_nI (by omega) (by omega)) dL_law_339 ?_
  rw [nI_clamp (by omega)]
  refine kc_i (va_runV (As := [.int (xs (j + 1)), .int (xs (j + 2)), .int (xs (j + 3)), .int (xs (j + 4))]) (rest := []) ⟨hx, hb, hml, hown, hts⟩ (mX3_before v9.1 v9.2 nd no (xs (j + 1)) (xs (j + 2)) (xs (j + 3)) (xs (j + 4)) hM9.1.1 hW.d8 hM9.1.2.1 hW.1.2.1) (cwV 4 hts (kw_V k595 k596 k597 k5 k598) rfl rfl rfl (by decide +kernel) ⟨Nat.le_trans (Nat.le_of_ble_eq_true rfl) hRf, Nat.le_trans (Nat.le_of_ble_eq_true rfl) hRl⟩) (kB_preV hE hR hS 200 rfl rfl [.int (xs (j + 1)), .int (xs (j + 2)), .int (xs (j + 3)), .int (xs (j + 4))]) rfl rfl hl.1 rfl (lv_room (Nat.le_of_ble_eq_true rfl)) dL_law_340 ⟨by omega, by omega⟩) hS (fun r2 u2 H locs hm hR hS => ?_)
  have hop := op_before hW hK hM hw hm
  refine lv_istore (lv' := [(6, .int r2), (5, .int r), (0, .ref sb), (1, .ref (ad 0)), (2, .ref (ad 200)), (3, .ref (ad 220)), (4, .int (nI j))]) hx hb dL_law_343 hl (by decide) rfl (fun ls hl => ?_)
  refine lv_aload_n hx hb dL_law_345 rfl (lv_at hl 4 rfl) ?_
  refine kc_i (va_runV (As := []) (rest := []) ⟨hx, hb, hml, hown, hts⟩ (mX3_thrown u2.1 u2.2) (cwV 0 hts (kw_V k560 k561 k562 k5 k563) rfl rfl rfl (by decide +kernel) ⟨Nat.le_trans (Nat.le_of_ble_eq_true rfl) hRf, Nat.le_trans (Nat.le_of_ble_eq_true rfl) hRl⟩) (kB_preV hE hR hS 200 rfl rfl []) rfl rfl hl.1 rfl (lv_room (Nat.le_of_ble_eq_true rfl)) dL_law_346 ⟨by omega, by omega⟩) hS (fun r3 u3 H locs ht hR hS => ?_)
  obtain ⟨ht, rfl⟩ := ht
  have hR : tR D vwCl base ad (tC (wP n ad cs) u2.1 u2.2) H := hR
  refine lv_iload hx hb dL_law_349 (lv_at hl 1 rfl) ?_
  refine lv_icmp_eq (tgt := 356) hx hb dL_law_351 (by decide) (fun _ => ?_) (fun c9 => absurd (ht.trans hop.1) c9)
  refine lv_iload hx hb dL_law_356 (lv_at hl 1 rfl) ?_
  refine lv_if_ne (tgt := 373) hx hb dL_law_358 (by decide) (fun c1 => ?_) (fun c1 => ?_)
  · refine lv_goto (tgt := 1109) hx hb dL_law_373 (by decide) ?_
    exact kx u2 H locs ls hop.2.2 hR hS (lv_sub hl [2, 3, 4, 5, 6] rfl)
  · refine lv_aload_n hx hb dL_law_361 rfl (lv_at hl 5 rfl) ?_
    refine lv_iconst (v := nI 0) hx hb dL_law_362 (by decide) ?_
    refine tp_lald hx hb hK0 hR 220 1 (fun _ _ => rfl) rfl 0 rfl (by omega) (by decide) dL_law_363 ?_
    refine lv_iload hx hb dL_law_364 (lv_at hl 0 rfl) ?_
    refine lv_i2l hx hb dL_law_366 rfl ?_
    refine W.lcmp hx hb dL_law_367 ?_
    refine lv_if_eq (tgt := 373) hx hb dL_law_368 (by decide) (fun _ => ?_) (fun c9 => absurd ((lg_cmp_eq _ _).mpr (hop.2.1 c1)) c9)
    refine lv_goto (tgt := 1109) hx hb dL_law_373 (by decide) ?_
    exact kx u2 H locs ls hop.2.2 hR hS (lv_sub hl [2, 3, 4, 5, 6] rfl)
set_option maxHeartbeats 4000000 in
set_option maxRecDepth 100000 in
theorem sg_member (S0 : CallFix p m c cL_law 7 s args wLw RL) (hE : eV D cs base sa s) (hl0 : l.stackTraces = false) {sb N : Nat} {xs : Nat → Int32} (hX : va_X sb N xs s s.heap) (hbl : sb < s.heap.size) (hbA : ¬ base ≤ sb) (hN : N ≤ 2600) {cells slots : Nat} (hRf : 11 ≤ R.frames) (hRl : 300 ≤ R.locals) (hRc : cells + 5 ≤ R.cells) (hRs : slots + 30 ≤ R.slots) {se : Int32} {B j : Nat} (hB : B + 100 < 2 ^ 19) (hj : j + 5 ≤ N) (I : tI) (L : tL) (hJ : lJ n B se I L)
    (kx : ∀ (u : tI × tL) (H : Heap) (locs : List Loc) (ls : Array Slot), lJ n (B + 100) se u.1 u.2 → tR D vwCl base ad (tC (wP n ad cs) u.1 u.2) H → va_S (fun q => base ≤ q) s.heap H locs → lv_has ls 7 [(0, .ref sb), (1, .ref (ad 0)), (2, .ref (ad 200)), (3, .ref (ad 220)), (4, .int (nI j))] → W p l e R s m args below meth c H locs (cells + 5) (slots + 30) Q (F0 m 1109 ls []))
    (H : Heap) (locs : List Loc) (ls : Array Slot) (hR : tR D vwCl base ad (tC (wP n ad cs) I L) H) (hS : va_S (fun q => base ≤ q) s.heap H locs) (hl : lv_has ls 7 [(0, .ref sb), (1, .ref (ad 0)), (2, .ref (ad 200)), (3, .ref (ad 220)), (4, .int (nI j))]) : W p l e R s m args below meth c H locs cells slots Q (F0 m 376 ls []) := by
  obtain ⟨hx, hb, hml, hown, hts⟩ := S0
  have hK0 := hE.K
  obtain ⟨nd, no, f, la, ph, w, ea, lt, le, mo, bu, ev, sd, sv, Y, st, Rw, kp, sp, Ys, ss, Rs, ks, ps, hW, hK, hM⟩ := hJ
  refine lv_aload_n hx hb dL_law_376 rfl (lv_at hl 1 rfl) ?_
  refine lv_aload_n hx hb dL_law_377 rfl (lv_at hl 0 rfl) ?_
  refine lv_iload hx hb dL_law_378 (lv_at hl 4 rfl) ?_
  refine lv_iconst (v := nI 1) hx hb dL_law_380 (by decide) ?_
  refine lv_iadd hx hb dL_law_381 ?_
  rw [nI_add]
  refine va_sld hx hb hX hbl hbA hS (vp_in_nI (by omega) (by omega)) dL_law_382 ?_
  rw [nI_clamp (by omega)]
  refine lv_aload_n hx hb dL_law_383 rfl (lv_at hl 0 rfl) ?_
  refine lv_iload hx hb dL_law_384 (lv_at hl 4 rfl) ?_
  refine lv_iconst (v := nI 2) hx hb dL_law_386 (by decide) ?_
  refine lv_iadd hx hb dL_law_387 ?_
  rw [nI_add]
  refine va_sld hx hb hX hbl hbA hS (vp_in_nI (by omega) (by omega)) dL_law_388 ?_
  rw [nI_clamp (by omega)]
  refine lv_aload_n hx hb dL_law_389 rfl (lv_at hl 3 rfl) ?_
  refine kc_i (vx_runSW (As := [.ref (ad 0), .int (xs (j + 1)), .int (xs (j + 2)), .ref (ad 220)]) (rest := []) ⟨hx, hb, hml, hown, hts⟩ (mL_member I L (xs (j + 1)) (xs (j + 2)) (mX2_member hl0 I L (xs (j + 1)) (xs (j + 2)) hK.1 hW.1) (fun E h => h.1)) (vx_cwSW 4 hts (kw_SW k309 k310 k0 k311) rfl rfl rfl (by decide +kernel) ⟨Nat.le_trans (Nat.le_of_ble_eq_true rfl) hRf, Nat.le_trans (Nat.le_of_ble_eq_true rfl) hRl⟩) (kB_pre hE hR hS [.ref (ad 0), .int (xs (j + 1)), .int (xs (j + 2)), .ref (ad 220)]) rfl rfl hl.1 rfl (lv_room (Nat.le_of_ble_eq_true rfl)) dL_law_390 ⟨by omega, by omega⟩) hS (fun r v9 H locs hw hR hS => ?_)
  refine W.widen (k := cells + 5) (n := slots + 30) (by omega) (by omega) ?_
  have hM9 := fr_member hW hK hM hw
  refine lv_istore (lv' := [(5, .int r), (0, .ref sb), (1, .ref (ad 0)), (2, .ref (ad 200)), (3, .ref (ad 220)), (4, .int (nI j))]) hx hb dL_law_393 hl (by decide) rfl (fun ls hl => ?_)
  refine lv_aload_n hx hb dL_law_395 rfl (lv_at hl 3 rfl) ?_
  refine lv_aload_n hx hb dL_law_396 rfl (lv_at hl 1 rfl) ?_
  refine lv_iload hx hb dL_law_397 (lv_at hl 5 rfl) ?_
  refine lv_iconst (v := nI 1) hx hb dL_law_399 (by decide) ?_
  refine lv_iadd hx hb dL_law_400 ?_
  rw [nI_add]
  refine va_sld hx hb hX hbl hbA hS (vp_in_nI (by omega) (by omega)) dL_law_401 ?_
  rw [nI_clamp (by omega)]
  refine lv_aload_n hx hb dL_law_402 rfl (lv_at hl 1 rfl) ?_
  refine lv_iload hx hb dL_law_403 (lv_at hl 5 rfl) ?_
  refine lv_iconst (v := nI 2) hx hb dL_law_405 (by decide) ?_
  refine lv_iadd hx hb dL_law_406 ?_
  rw [nI_add]
  refine va_sld hx hb hX hbl hbA hS (vp_in_nI (by omega) (by omega)) dL_law_407 ?_
  rw [nI_clamp (by omega)]
  refine kc_i (va_runV (As := [.int (xs (j + 1)), .int (xs (j + 2))]) (rest := []) ⟨hx, hb, hml, hown, hts⟩ (mX3_member v9.1 v9.2 (xs (j + 1)) (xs (j + 2)) hM9.1 hW.1) (cwV 2 hts (kw_V k599 k600 k601 k5 k602) rfl rfl rfl (by decide +kernel) ⟨Nat.le_trans (Nat.le_of_ble_eq_true rfl) hRf, Nat.le_trans (Nat.le_of_ble_eq_true rfl) hRl⟩) (kB_preV hE hR hS 200 rfl rfl [.int (xs (j + 1)), .int (xs (j + 2))]) rfl rfl hl.1 rfl (lv_room (Nat.le_of_ble_eq_true rfl)) dL_law_408 ⟨by omega, by omega⟩) hS (fun r2 u2 H locs hm hR hS => ?_)
  have hop := op_member hW hK hM hw hm
  refine lv_istore (lv' := [(6, .int r2), (5, .int r), (0, .ref sb), (1, .ref (ad 0)), (2, .ref (ad 200)), (3, .ref (ad 220)), (4, .int (nI j))]) hx hb dL_law_411 hl (by decide) rfl (fun ls hl => ?_)
  refine lv_aload_n hx hb dL_law_413 rfl (lv_at hl 4 rfl) ?_
  refine kc_i (va_runV (As := []) (rest := []) ⟨hx, hb, hml, hown, hts⟩ (mX3_thrown u2.1 u2.2) (cwV 0 hts (kw_V k560 k561 k562 k5 k563) rfl rfl rfl (by decide +kernel) ⟨Nat.le_trans (Nat.le_of_ble_eq_true rfl) hRf, Nat.le_trans (Nat.le_of_ble_eq_true rfl) hRl⟩) (kB_preV hE hR hS 200 rfl rfl []) rfl rfl hl.1 rfl (lv_room (Nat.le_of_ble_eq_true rfl)) dL_law_414 ⟨by omega, by omega⟩) hS (fun r3 u3 H locs ht hR hS => ?_)
  obtain ⟨ht, rfl⟩ := ht
  have hR : tR D vwCl base ad (tC (wP n ad cs) u2.1 u2.2) H := hR
  refine lv_iload hx hb dL_law_417 (lv_at hl 1 rfl) ?_
  refine lv_icmp_eq (tgt := 424) hx hb dL_law_419 (by decide) (fun _ => ?_) (fun c9 => absurd (ht.trans hop.1) c9)
  refine lv_iload hx hb dL_law_424 (lv_at hl 1 rfl) ?_
  refine lv_if_ne (tgt := 441) hx hb dL_law_426 (by decide) (fun c1 => ?_) (fun c1 => ?_)
  · refine lv_goto (tgt := 1109) hx hb dL_law_441 (by decide) ?_
    exact kx u2 H locs ls hop.2.2 hR hS (lv_sub hl [2, 3, 4, 5, 6] rfl)
  · refine lv_aload_n hx hb dL_law_429 rfl (lv_at hl 5 rfl) ?_
    refine lv_iconst (v := nI 0) hx hb dL_law_430 (by decide) ?_
    refine tp_lald hx hb hK0 hR 220 1 (fun _ _ => rfl) rfl 0 rfl (by omega) (by decide) dL_law_431 ?_
    refine lv_iload hx hb dL_law_432 (lv_at hl 0 rfl) ?_
    refine lv_i2l hx hb dL_law_434 rfl ?_
    refine W.lcmp hx hb dL_law_435 ?_
    refine lv_if_eq (tgt := 441) hx hb dL_law_436 (by decide) (fun _ => ?_) (fun c9 => absurd ((lg_cmp_eq _ _).mpr (hop.2.1 c1)) c9)
    refine lv_goto (tgt := 1109) hx hb dL_law_441 (by decide) ?_
    exact kx u2 H locs ls hop.2.2 hR hS (lv_sub hl [2, 3, 4, 5, 6] rfl)
set_option maxHeartbeats 4000000 in
set_option maxRecDepth 100000 in
theorem sg_burn (S0 : CallFix p m c cL_law 7 s args wLw RL) (hE : eV D cs base sa s) (hl0 : l.stackTraces = false) {sb N : Nat} {xs : Nat → Int32} (hX : va_X sb N xs s s.heap) (hbl : sb < s.heap.size) (hbA : ¬ base ≤ sb) (hN : N ≤ 2600) {cells slots : Nat} (hRf : 11 ≤ R.frames) (hRl : 300 ≤ R.locals) (hRc : cells + 5 ≤ R.cells) (hRs : slots + 30 ≤ R.slots) {se : Int32} {B j : Nat} (hB : B + 100 < 2 ^ 19) (hj : j + 5 ≤ N) (I : tI) (L : tL) (hJ : lJ n B se I L)
    (kx : ∀ (u : tI × tL) (H : Heap) (locs : List Loc) (ls : Array Slot), lJ n (B + 100) se u.1 u.2 → tR D vwCl base ad (tC (wP n ad cs) u.1 u.2) H → va_S (fun q => base ≤ q) s.heap H locs → lv_has ls 7 [(0, .ref sb), (1, .ref (ad 0)), (2, .ref (ad 200)), (3, .ref (ad 220)), (4, .int (nI j))] → W p l e R s m args below meth c H locs (cells + 5) (slots + 30) Q (F0 m 1109 ls []))
    (H : Heap) (locs : List Loc) (ls : Array Slot) (hR : tR D vwCl base ad (tC (wP n ad cs) I L) H) (hS : va_S (fun q => base ≤ q) s.heap H locs) (hl : lv_has ls 7 [(0, .ref sb), (1, .ref (ad 0)), (2, .ref (ad 200)), (3, .ref (ad 220)), (4, .int (nI j))]) : W p l e R s m args below meth c H locs cells slots Q (F0 m 444 ls []) := by
  obtain ⟨hx, hb, hml, hown, hts⟩ := S0
  have hK0 := hE.K
  obtain ⟨nd, no, f, la, ph, w, ea, lt, le, mo, bu, ev, sd, sv, Y, st, Rw, kp, sp, Ys, ss, Rs, ks, ps, hW, hK, hM⟩ := hJ
  refine lv_aload_n hx hb dL_law_444 rfl (lv_at hl 1 rfl) ?_
  refine lv_aload_n hx hb dL_law_445 rfl (lv_at hl 0 rfl) ?_
  refine lv_iload hx hb dL_law_446 (lv_at hl 4 rfl) ?_
  refine lv_iconst (v := nI 1) hx hb dL_law_448 (by decide) ?_
  refine lv_iadd hx hb dL_law_449 ?_
  rw [nI_add]
  refine va_sld hx hb hX hbl hbA hS (vp_in_nI (by omega) (by omega)) dL_law_450 ?_
  rw [nI_clamp (by omega)]
  refine lv_aload_n hx hb dL_law_451 rfl (lv_at hl 3 rfl) ?_
  refine kc_i (vx_runSW (As := [.ref (ad 0), .int (xs (j + 1)), .ref (ad 220)]) (rest := []) ⟨hx, hb, hml, hown, hts⟩ (mL_burn I L (xs (j + 1)) (mX2_burn hl0 I L (xs (j + 1))) (fun E h => h.1)) (vx_cwSW 3 hts (kw_SW k320 k321 k0 k322) rfl rfl rfl (by decide +kernel) ⟨Nat.le_trans (Nat.le_of_ble_eq_true rfl) hRf, Nat.le_trans (Nat.le_of_ble_eq_true rfl) hRl⟩) (kB_pre hE hR hS [.ref (ad 0), .int (xs (j + 1)), .ref (ad 220)]) rfl rfl hl.1 rfl (lv_room (Nat.le_of_ble_eq_true rfl)) dL_law_452 ⟨by omega, by omega⟩) hS (fun r v9 H locs hw hR hS => ?_)
  refine W.widen (k := cells + 5) (n := slots + 30) (by omega) (by omega) ?_
  have hM9 := fr_burn hW hK hM hw
  refine lv_istore (lv' := [(5, .int r), (0, .ref sb), (1, .ref (ad 0)), (2, .ref (ad 200)), (3, .ref (ad 220)), (4, .int (nI j))]) hx hb dL_law_455 hl (by decide) rfl (fun ls hl => ?_)
  refine lv_aload_n hx hb dL_law_457 rfl (lv_at hl 3 rfl) ?_
  refine lv_aload_n hx hb dL_law_458 rfl (lv_at hl 1 rfl) ?_
  refine lv_iload hx hb dL_law_459 (lv_at hl 5 rfl) ?_
  refine lv_iconst (v := nI 1) hx hb dL_law_461 (by decide) ?_
  refine lv_iadd hx hb dL_law_462 ?_
  rw [nI_add]
  refine va_sld hx hb hX hbl hbA hS (vp_in_nI (by omega) (by omega)) dL_law_463 ?_
  rw [nI_clamp (by omega)]
  refine kc_i (va_runV (As := [.int (xs (j + 1))]) (rest := []) ⟨hx, hb, hml, hown, hts⟩ (mX3_burn v9.1 v9.2 (xs (j + 1))) (cwV 1 hts (kw_V k603 k604 k605 k5 k606) rfl rfl rfl (by decide +kernel) ⟨Nat.le_trans (Nat.le_of_ble_eq_true rfl) hRf, Nat.le_trans (Nat.le_of_ble_eq_true rfl) hRl⟩) (kB_preV hE hR hS 200 rfl rfl [.int (xs (j + 1))]) rfl rfl hl.1 rfl (lv_room (Nat.le_of_ble_eq_true rfl)) dL_law_464 ⟨by omega, by omega⟩) hS (fun r2 u2 H locs hm hR hS => ?_)
  have hop := op_burn hW hK hM hw hm
  refine lv_istore (lv' := [(6, .int r2), (5, .int r), (0, .ref sb), (1, .ref (ad 0)), (2, .ref (ad 200)), (3, .ref (ad 220)), (4, .int (nI j))]) hx hb dL_law_467 hl (by decide) rfl (fun ls hl => ?_)
  refine lv_aload_n hx hb dL_law_469 rfl (lv_at hl 4 rfl) ?_
  refine kc_i (va_runV (As := []) (rest := []) ⟨hx, hb, hml, hown, hts⟩ (mX3_thrown u2.1 u2.2) (cwV 0 hts (kw_V k560 k561 k562 k5 k563) rfl rfl rfl (by decide +kernel) ⟨Nat.le_trans (Nat.le_of_ble_eq_true rfl) hRf, Nat.le_trans (Nat.le_of_ble_eq_true rfl) hRl⟩) (kB_preV hE hR hS 200 rfl rfl []) rfl rfl hl.1 rfl (lv_room (Nat.le_of_ble_eq_true rfl)) dL_law_470 ⟨by omega, by omega⟩) hS (fun r3 u3 H locs ht hR hS => ?_)
  obtain ⟨ht, rfl⟩ := ht
  have hR : tR D vwCl base ad (tC (wP n ad cs) u2.1 u2.2) H := hR
  refine lv_iload hx hb dL_law_473 (lv_at hl 1 rfl) ?_
  refine lv_icmp_eq (tgt := 480) hx hb dL_law_475 (by decide) (fun _ => ?_) (fun c9 => absurd (ht.trans hop.1) c9)
  refine lv_iload hx hb dL_law_480 (lv_at hl 1 rfl) ?_
  refine lv_if_ne (tgt := 497) hx hb dL_law_482 (by decide) (fun c1 => ?_) (fun c1 => ?_)
  · refine lv_goto (tgt := 1109) hx hb dL_law_497 (by decide) ?_
    exact kx u2 H locs ls hop.2.2 hR hS (lv_sub hl [2, 3, 4, 5, 6] rfl)
  · refine lv_aload_n hx hb dL_law_485 rfl (lv_at hl 5 rfl) ?_
    refine lv_iconst (v := nI 0) hx hb dL_law_486 (by decide) ?_
    refine tp_lald hx hb hK0 hR 220 1 (fun _ _ => rfl) rfl 0 rfl (by omega) (by decide) dL_law_487 ?_
    refine lv_iload hx hb dL_law_488 (lv_at hl 0 rfl) ?_
    refine lv_i2l hx hb dL_law_490 rfl ?_
    refine W.lcmp hx hb dL_law_491 ?_
    refine lv_if_eq (tgt := 497) hx hb dL_law_492 (by decide) (fun _ => ?_) (fun c9 => absurd ((lg_cmp_eq _ _).mpr (hop.2.1 c1)) c9)
    refine lv_goto (tgt := 1109) hx hb dL_law_497 (by decide) ?_
    exact kx u2 H locs ls hop.2.2 hR hS (lv_sub hl [2, 3, 4, 5, 6] rfl)
set_option maxHeartbeats 4000000 in
set_option maxRecDepth 100000 in
theorem sg_thin (S0 : CallFix p m c cL_law 7 s args wLw RL) (hE : eV D cs base sa s) (hl0 : l.stackTraces = false) {sb N : Nat} {xs : Nat → Int32} (hX : va_X sb N xs s s.heap) (hbl : sb < s.heap.size) (hbA : ¬ base ≤ sb) (hN : N ≤ 2600) {cells slots : Nat} (hRf : 11 ≤ R.frames) (hRl : 300 ≤ R.locals) (hRc : cells + 5 ≤ R.cells) (hRs : slots + 30 ≤ R.slots) {se : Int32} {B j : Nat} (hB : B + 100 < 2 ^ 19) (hj : j + 5 ≤ N) (I : tI) (L : tL) (hJ : lJ n B se I L)
    (kx : ∀ (u : tI × tL) (H : Heap) (locs : List Loc) (ls : Array Slot), lJ n (B + 100) se u.1 u.2 → tR D vwCl base ad (tC (wP n ad cs) u.1 u.2) H → va_S (fun q => base ≤ q) s.heap H locs → lv_has ls 7 [(0, .ref sb), (1, .ref (ad 0)), (2, .ref (ad 200)), (3, .ref (ad 220)), (4, .int (nI j))] → W p l e R s m args below meth c H locs (cells + 5) (slots + 30) Q (F0 m 1109 ls []))
    (H : Heap) (locs : List Loc) (ls : Array Slot) (hR : tR D vwCl base ad (tC (wP n ad cs) I L) H) (hS : va_S (fun q => base ≤ q) s.heap H locs) (hl : lv_has ls 7 [(0, .ref sb), (1, .ref (ad 0)), (2, .ref (ad 200)), (3, .ref (ad 220)), (4, .int (nI j))]) : W p l e R s m args below meth c H locs cells slots Q (F0 m 500 ls []) := by
  obtain ⟨hx, hb, hml, hown, hts⟩ := S0
  have hK0 := hE.K
  obtain ⟨nd, no, f, la, ph, w, ea, lt, le, mo, bu, ev, sd, sv, Y, st, Rw, kp, sp, Ys, ss, Rs, ks, ps, hW, hK, hM⟩ := hJ
  refine lv_aload_n hx hb dL_law_500 rfl (lv_at hl 1 rfl) ?_
  refine lv_aload_n hx hb dL_law_501 rfl (lv_at hl 0 rfl) ?_
  refine lv_iload hx hb dL_law_502 (lv_at hl 4 rfl) ?_
  refine lv_iconst (v := nI 1) hx hb dL_law_504 (by decide) ?_
  refine lv_iadd hx hb dL_law_505 ?_
  rw [nI_add]
  refine va_sld hx hb hX hbl hbA hS (vp_in_nI (by omega) (by omega)) dL_law_506 ?_
  rw [nI_clamp (by omega)]
  refine lv_aload_n hx hb dL_law_507 rfl (lv_at hl 3 rfl) ?_
  refine kc_i (vx_runSW (As := [.ref (ad 0), .int (xs (j + 1)), .ref (ad 220)]) (rest := []) ⟨hx, hb, hml, hown, hts⟩ (mL_thin I L (xs (j + 1)) (mX2_thin hl0 I L (xs (j + 1))) (fun E h => h.1)) (vx_cwSW 3 hts (kw_SW k328 k329 k0 k330) rfl rfl rfl (by decide +kernel) ⟨Nat.le_trans (Nat.le_of_ble_eq_true rfl) hRf, Nat.le_trans (Nat.le_of_ble_eq_true rfl) hRl⟩) (kB_pre hE hR hS [.ref (ad 0), .int (xs (j + 1)), .ref (ad 220)]) rfl rfl hl.1 rfl (lv_room (Nat.le_of_ble_eq_true rfl)) dL_law_508 ⟨by omega, by omega⟩) hS (fun r v9 H locs hw hR hS => ?_)
  refine W.widen (k := cells + 5) (n := slots + 30) (by omega) (by omega) ?_
  have hM9 := fr_thin hW hK hM hw
  refine lv_istore (lv' := [(5, .int r), (0, .ref sb), (1, .ref (ad 0)), (2, .ref (ad 200)), (3, .ref (ad 220)), (4, .int (nI j))]) hx hb dL_law_511 hl (by decide) rfl (fun ls hl => ?_)
  refine lv_aload_n hx hb dL_law_513 rfl (lv_at hl 3 rfl) ?_
  refine lv_aload_n hx hb dL_law_514 rfl (lv_at hl 1 rfl) ?_
  refine lv_iload hx hb dL_law_515 (lv_at hl 5 rfl) ?_
  refine lv_iconst (v := nI 1) hx hb dL_law_517 (by decide) ?_
  refine lv_iadd hx hb dL_law_518 ?_
  rw [nI_add]
  refine va_sld hx hb hX hbl hbA hS (vp_in_nI (by omega) (by omega)) dL_law_519 ?_
  rw [nI_clamp (by omega)]
  refine kc_i (va_runV (As := [.int (xs (j + 1))]) (rest := []) ⟨hx, hb, hml, hown, hts⟩ (mX3_thin v9.1 v9.2 (xs (j + 1))) (cwV 1 hts (kw_V k607 k608 k609 k5 k610) rfl rfl rfl (by decide +kernel) ⟨Nat.le_trans (Nat.le_of_ble_eq_true rfl) hRf, Nat.le_trans (Nat.le_of_ble_eq_true rfl) hRl⟩) (kB_preV hE hR hS 200 rfl rfl [.int (xs (j + 1))]) rfl rfl hl.1 rfl (lv_room (Nat.le_of_ble_eq_true rfl)) dL_law_520 ⟨by omega, by omega⟩) hS (fun r2 u2 H locs hm hR hS => ?_)
  have hop := op_thin hW hK hM hw hm
  refine lv_istore (lv' := [(6, .int r2), (5, .int r), (0, .ref sb), (1, .ref (ad 0)), (2, .ref (ad 200)), (3, .ref (ad 220)), (4, .int (nI j))]) hx hb dL_law_523 hl (by decide) rfl (fun ls hl => ?_)
  refine lv_aload_n hx hb dL_law_525 rfl (lv_at hl 4 rfl) ?_
  refine kc_i (va_runV (As := []) (rest := []) ⟨hx, hb, hml, hown, hts⟩ (mX3_thrown u2.1 u2.2) (cwV 0 hts (kw_V k560 k561 k562 k5 k563) rfl rfl rfl (by decide +kernel) ⟨Nat.le_trans (Nat.le_of_ble_eq_true rfl) hRf, Nat.le_trans (Nat.le_of_ble_eq_true rfl) hRl⟩) (kB_preV hE hR hS 200 rfl rfl []) rfl rfl hl.1 rfl (lv_room (Nat.le_of_ble_eq_true rfl)) dL_law_526 ⟨by omega, by omega⟩) hS (fun r3 u3 H locs ht hR hS => ?_)
  obtain ⟨ht, rfl⟩ := ht
  have hR : tR D vwCl base ad (tC (wP n ad cs) u2.1 u2.2) H := hR
  refine lv_iload hx hb dL_law_529 (lv_at hl 1 rfl) ?_
  refine lv_icmp_eq (tgt := 536) hx hb dL_law_531 (by decide) (fun _ => ?_) (fun c9 => absurd (ht.trans hop.1) c9)
  refine lv_iload hx hb dL_law_536 (lv_at hl 1 rfl) ?_
  refine lv_if_ne (tgt := 553) hx hb dL_law_538 (by decide) (fun c1 => ?_) (fun c1 => ?_)
  · refine lv_goto (tgt := 1109) hx hb dL_law_553 (by decide) ?_
    exact kx u2 H locs ls hop.2.2 hR hS (lv_sub hl [2, 3, 4, 5, 6] rfl)
  · refine lv_aload_n hx hb dL_law_541 rfl (lv_at hl 5 rfl) ?_
    refine lv_iconst (v := nI 0) hx hb dL_law_542 (by decide) ?_
    refine tp_lald hx hb hK0 hR 220 1 (fun _ _ => rfl) rfl 0 rfl (by omega) (by decide) dL_law_543 ?_
    refine lv_iload hx hb dL_law_544 (lv_at hl 0 rfl) ?_
    refine lv_i2l hx hb dL_law_546 rfl ?_
    refine W.lcmp hx hb dL_law_547 ?_
    refine lv_if_eq (tgt := 553) hx hb dL_law_548 (by decide) (fun _ => ?_) (fun c9 => absurd ((lg_cmp_eq _ _).mpr (hop.2.1 c1)) c9)
    refine lv_goto (tgt := 1109) hx hb dL_law_553 (by decide) ?_
    exact kx u2 H locs ls hop.2.2 hR hS (lv_sub hl [2, 3, 4, 5, 6] rfl)
set_option maxHeartbeats 4000000 in
set_option maxRecDepth 100000 in
theorem sg_start (S0 : CallFix p m c cL_law 7 s args wLw RL) (hE : eV D cs base sa s) (hl0 : l.stackTraces = false) {sb N : Nat} {xs : Nat → Int32} (hX : va_X sb N xs s s.heap) (hbl : sb < s.heap.size) (hbA : ¬ base ≤ sb) (hN : N ≤ 2600) {cells slots : Nat} (hRf : 11 ≤ R.frames) (hRl : 300 ≤ R.locals) (hRc : cells + 5 ≤ R.cells) (hRs : slots + 30 ≤ R.slots) {se : Int32} {B j : Nat} (hB : B + 100 < 2 ^ 19) (hj : j + 5 ≤ N) (I : tI) (L : tL) (hJ : lJ n B se I L)
    (kx : ∀ (u : tI × tL) (H : Heap) (locs : List Loc) (ls : Array Slot), lJ n (B + 100) se u.1 u.2 → tR D vwCl base ad (tC (wP n ad cs) u.1 u.2) H → va_S (fun q => base ≤ q) s.heap H locs → lv_has ls 7 [(0, .ref sb), (1, .ref (ad 0)), (2, .ref (ad 200)), (3, .ref (ad 220)), (4, .int (nI j))] → W p l e R s m args below meth c H locs (cells + 5) (slots + 30) Q (F0 m 1109 ls []))
    (H : Heap) (locs : List Loc) (ls : Array Slot) (hR : tR D vwCl base ad (tC (wP n ad cs) I L) H) (hS : va_S (fun q => base ≤ q) s.heap H locs) (hl : lv_has ls 7 [(0, .ref sb), (1, .ref (ad 0)), (2, .ref (ad 200)), (3, .ref (ad 220)), (4, .int (nI j))]) : W p l e R s m args below meth c H locs cells slots Q (F0 m 556 ls []) := by
  obtain ⟨hx, hb, hml, hown, hts⟩ := S0
  have hK0 := hE.K
  obtain ⟨nd, no, f, la, ph, w, ea, lt, le, mo, bu, ev, sd, sv, Y, st, Rw, kp, sp, Ys, ss, Rs, ks, ps, hW, hK, hM⟩ := hJ
  refine lv_aload_n hx hb dL_law_556 rfl (lv_at hl 1 rfl) ?_
  refine W.widen (k := cells + 5) (n := slots + 30) (by omega) (by omega) ?_
  refine kc_i (va_runV (As := []) (rest := []) ⟨hx, hb, hml, hown, hts⟩ (mX2_start I L se hK.1 hW.1 bu ev hK.2.1 hK.2.2.1) (cwV 0 hts (kw_V k129 k130 k131 k1 k132) rfl rfl rfl (by decide +kernel) ⟨Nat.le_trans (Nat.le_of_ble_eq_true rfl) hRf, Nat.le_trans (Nat.le_of_ble_eq_true rfl) hRl⟩) (kB_preV hE hR hS 0 rfl rfl []) rfl rfl hl.1 rfl (lv_room (Nat.le_of_ble_eq_true rfl)) dL_law_557 ⟨by omega, by omega⟩) hS (fun r v9 H locs hw hR hS => ?_)
  have hM9 := fr_start hM hw
  refine lv_aload_n hx hb dL_law_560 rfl (lv_at hl 2 rfl) ?_
  refine kc_i (va_runV (As := []) (rest := [.int r]) ⟨hx, hb, hml, hown, hts⟩ (mX3_start v9.1 v9.2 hM9.1 hW.1 hM9.2.1) (cwV 0 hts (kw_V k611 k612 k613 k5 k614) rfl rfl rfl (by decide +kernel) ⟨Nat.le_trans (Nat.le_of_ble_eq_true rfl) hRf, Nat.le_trans (Nat.le_of_ble_eq_true rfl) hRl⟩) (kB_preV hE hR hS 200 rfl rfl []) rfl rfl hl.1 rfl (lv_room (Nat.le_of_ble_eq_true rfl)) dL_law_561 ⟨by omega, by omega⟩) hS (fun r2 u2 H locs hm hR hS => ?_)
  have hop := op_start hW hK hM hw hm
  refine lv_icmp_eq (tgt := 1109) hx hb dL_law_564 (by decide) (fun _ => ?_) (fun c9 => absurd hop.1 c9)
  exact kx u2 H locs ls hop.2 hR hS (lv_sub hl [0, 1, 2, 3, 4] rfl)
set_option maxHeartbeats 4000000 in
set_option maxRecDepth 100000 in
theorem sg_run (S0 : CallFix p m c cL_law 7 s args wLw RL) (hE : eV D cs base sa s) (hl0 : l.stackTraces = false) {sb N : Nat} {xs : Nat → Int32} (hX : va_X sb N xs s s.heap) (hbl : sb < s.heap.size) (hbA : ¬ base ≤ sb) (hN : N ≤ 2600) {cells slots : Nat} (hRf : 11 ≤ R.frames) (hRl : 300 ≤ R.locals) (hRc : cells + 5 ≤ R.cells) (hRs : slots + 30 ≤ R.slots) {se : Int32} {B j : Nat} (hB : B + 100 < 2 ^ 19) (hj : j + 5 ≤ N) (I : tI) (L : tL) (hJ : lJ n B se I L)
    (kx : ∀ (u : tI × tL) (H : Heap) (locs : List Loc) (ls : Array Slot), lJ n (B + 100) se u.1 u.2 → tR D vwCl base ad (tC (wP n ad cs) u.1 u.2) H → va_S (fun q => base ≤ q) s.heap H locs → lv_has ls 7 [(0, .ref sb), (1, .ref (ad 0)), (2, .ref (ad 200)), (3, .ref (ad 220)), (4, .int (nI j))] → W p l e R s m args below meth c H locs (cells + 5) (slots + 30) Q (F0 m 1109 ls []))
    (H : Heap) (locs : List Loc) (ls : Array Slot) (hR : tR D vwCl base ad (tC (wP n ad cs) I L) H) (hS : va_S (fun q => base ≤ q) s.heap H locs) (hl : lv_has ls 7 [(0, .ref sb), (1, .ref (ad 0)), (2, .ref (ad 200)), (3, .ref (ad 220)), (4, .int (nI j))]) : W p l e R s m args below meth c H locs cells slots Q (F0 m 569 ls []) := by
  obtain ⟨hx, hb, hml, hown, hts⟩ := S0
  have hK0 := hE.K
  obtain ⟨nd, no, f, la, ph, w, ea, lt, le, mo, bu, ev, sd, sv, Y, st, Rw, kp, sp, Ys, ss, Rs, ks, ps, hW, hK, hM⟩ := hJ
  refine lv_aload_n hx hb dL_law_569 rfl (lv_at hl 1 rfl) ?_
  refine lv_aload_n hx hb dL_law_570 rfl (lv_at hl 0 rfl) ?_
  refine lv_iload hx hb dL_law_571 (lv_at hl 4 rfl) ?_
  refine lv_iconst (v := nI 1) hx hb dL_law_573 (by decide) ?_
  refine lv_iadd hx hb dL_law_574 ?_
  rw [nI_add]
  refine va_sld hx hb hX hbl hbA hS (vp_in_nI (by omega) (by omega)) dL_law_575 ?_
  rw [nI_clamp (by omega)]
  refine lv_aload_n hx hb dL_law_576 rfl (lv_at hl 3 rfl) ?_
  refine kc_i (vx_runSW (As := [.ref (ad 0), .int (xs (j + 1)), .ref (ad 220)]) (rest := []) ⟨hx, hb, hml, hown, hts⟩ (mL_run I L (xs (j + 1)) (mX2_run hl0 I L bu ev B (xs (j + 1)) hK.1 hW.1 hK.2.1 sd hK.2.2.2.1 hM.n4.2.2.1 (fun q => ⟨hK.2.2.2.2.2.1 q, hW.2.1 q⟩) hB) (fun E h => h.elim (fun q => Or.inl q.1) (fun q => Or.inr q.1))) (vx_cwSW 3 hts (kw_SW k336 k337 k0 k338) rfl rfl rfl (by decide +kernel) ⟨Nat.le_trans (Nat.le_of_ble_eq_true rfl) hRf, Nat.le_trans (Nat.le_of_ble_eq_true rfl) hRl⟩) (kB_pre hE hR hS [.ref (ad 0), .int (xs (j + 1)), .ref (ad 220)]) rfl rfl hl.1 rfl (lv_room (Nat.le_of_ble_eq_true rfl)) dL_law_577 ⟨by omega, by omega⟩) hS (fun r v9 H locs hw hR hS => ?_)
  refine W.widen (k := cells + 5) (n := slots + 30) (by omega) (by omega) ?_
  have hM9 := fr_run hW hK hM hw
  refine lv_istore (lv' := [(5, .int r), (0, .ref sb), (1, .ref (ad 0)), (2, .ref (ad 200)), (3, .ref (ad 220)), (4, .int (nI j))]) hx hb dL_law_580 hl (by decide) rfl (fun ls hl => ?_)
  refine lv_aload_n hx hb dL_law_582 rfl (lv_at hl 3 rfl) ?_
  refine lv_aload_n hx hb dL_law_583 rfl (lv_at hl 1 rfl) ?_
  refine lv_iload hx hb dL_law_584 (lv_at hl 5 rfl) ?_
  refine lv_iconst (v := nI 1) hx hb dL_law_586 (by decide) ?_
  refine lv_iadd hx hb dL_law_587 ?_
  rw [nI_add]
  refine va_sld hx hb hX hbl hbA hS (vp_in_nI (by omega) (by omega)) dL_law_588 ?_
  rw [nI_clamp (by omega)]
  obtain ⟨s0, hs0, hs0B⟩ := hM9.2.2.1
  refine kc_i (va_runV (As := [.int (xs (j + 1))]) (rest := []) ⟨hx, hb, hml, hown, hts⟩ (mX3_run v9.1 v9.2 B s0 (xs (j + 1)) hM9.1 hW.1 hM9.2.1 hs0 hs0B (fun q => ⟨hM9.2.2.2.1 q, hW.2.1 q⟩) hB) (cwV 1 hts (kw_V k624 k625 k626 k5 k627) rfl rfl rfl (by decide +kernel) ⟨Nat.le_trans (Nat.le_of_ble_eq_true rfl) hRf, Nat.le_trans (Nat.le_of_ble_eq_true rfl) hRl⟩) (kB_preV hE hR hS 200 rfl rfl [.int (xs (j + 1))]) rfl rfl hl.1 rfl (lv_room (Nat.le_of_ble_eq_true rfl)) dL_law_589 ⟨by omega, by omega⟩) hS (fun r2 u2 H locs hm hR hS => ?_)
  have hop := op_run hW hK hM hw hm
  refine lv_istore (lv' := [(6, .int r2), (5, .int r), (0, .ref sb), (1, .ref (ad 0)), (2, .ref (ad 200)), (3, .ref (ad 220)), (4, .int (nI j))]) hx hb dL_law_592 hl (by decide) rfl (fun ls hl => ?_)
  refine lv_aload_n hx hb dL_law_594 rfl (lv_at hl 4 rfl) ?_
  refine kc_i (va_runV (As := []) (rest := []) ⟨hx, hb, hml, hown, hts⟩ (mX3_thrown u2.1 u2.2) (cwV 0 hts (kw_V k560 k561 k562 k5 k563) rfl rfl rfl (by decide +kernel) ⟨Nat.le_trans (Nat.le_of_ble_eq_true rfl) hRf, Nat.le_trans (Nat.le_of_ble_eq_true rfl) hRl⟩) (kB_preV hE hR hS 200 rfl rfl []) rfl rfl hl.1 rfl (lv_room (Nat.le_of_ble_eq_true rfl)) dL_law_595 ⟨by omega, by omega⟩) hS (fun r3 u3 H locs ht hR hS => ?_)
  obtain ⟨ht, rfl⟩ := ht
  have hR : tR D vwCl base ad (tC (wP n ad cs) u2.1 u2.2) H := hR
  refine lv_iload hx hb dL_law_598 (lv_at hl 1 rfl) ?_
  refine lv_icmp_eq (tgt := 605) hx hb dL_law_600 (by decide) (fun _ => ?_) (fun c9 => absurd (ht.trans hop.1) c9)
  refine lv_iload hx hb dL_law_605 (lv_at hl 1 rfl) ?_
  refine lv_if_ne (tgt := 622) hx hb dL_law_607 (by decide) (fun c1 => ?_) (fun c1 => ?_)
  · refine lv_goto (tgt := 1109) hx hb dL_law_622 (by decide) ?_
    exact kx u2 H locs ls hop.2.2 hR hS (lv_sub hl [2, 3, 4, 5, 6] rfl)
  · refine lv_aload_n hx hb dL_law_610 rfl (lv_at hl 5 rfl) ?_
    refine lv_iconst (v := nI 0) hx hb dL_law_611 (by decide) ?_
    refine tp_lald hx hb hK0 hR 220 1 (fun _ _ => rfl) rfl 0 rfl (by omega) (by decide) dL_law_612 ?_
    refine lv_iload hx hb dL_law_613 (lv_at hl 0 rfl) ?_
    refine lv_i2l hx hb dL_law_615 rfl ?_
    refine W.lcmp hx hb dL_law_616 ?_
    refine lv_if_eq (tgt := 622) hx hb dL_law_617 (by decide) (fun _ => ?_) (fun c9 => absurd ((lg_cmp_eq _ _).mpr (hop.2.1 c1)) c9)
    refine lv_goto (tgt := 1109) hx hb dL_law_622 (by decide) ?_
    exact kx u2 H locs ls hop.2.2 hR hS (lv_sub hl [2, 3, 4, 5, 6] rfl)
set_option maxHeartbeats 4000000 in
set_option maxRecDepth 100000 in
theorem sg_at (S0 : CallFix p m c cL_law 7 s args wLw RL) (hE : eV D cs base sa s) (hl0 : l.stackTraces = false) {sb N : Nat} {xs : Nat → Int32} (hX : va_X sb N xs s s.heap) (hbl : sb < s.heap.size) (hbA : ¬ base ≤ sb) (hN : N ≤ 2600) {cells slots : Nat} (hRf : 11 ≤ R.frames) (hRl : 300 ≤ R.locals) (hRc : cells + 5 ≤ R.cells) (hRs : slots + 30 ≤ R.slots) {se : Int32} {B j : Nat} (hB : B + 100 < 2 ^ 19) (hj : j + 5 ≤ N) (I : tI) (L : tL) (hJ : lJ n B se I L)
    (kx : ∀ (u : tI × tL) (H : Heap) (locs : List Loc) (ls : Array Slot), lJ n (B + 100) se u.1 u.2 → tR D vwCl base ad (tC (wP n ad cs) u.1 u.2) H → va_S (fun q => base ≤ q) s.heap H locs → lv_has ls 7 [(0, .ref sb), (1, .ref (ad 0)), (2, .ref (ad 200)), (3, .ref (ad 220)), (4, .int (nI j))] → W p l e R s m args below meth c H locs (cells + 5) (slots + 30) Q (F0 m 1109 ls []))
    (H : Heap) (locs : List Loc) (ls : Array Slot) (hR : tR D vwCl base ad (tC (wP n ad cs) I L) H) (hS : va_S (fun q => base ≤ q) s.heap H locs) (hl : lv_has ls 7 [(0, .ref sb), (1, .ref (ad 0)), (2, .ref (ad 200)), (3, .ref (ad 220)), (4, .int (nI j))]) : W p l e R s m args below meth c H locs cells slots Q (F0 m 625 ls []) := by
  obtain ⟨hx, hb, hml, hown, hts⟩ := S0
  have hK0 := hE.K
  obtain ⟨nd, no, f, la, ph, w, ea, lt, le, mo, bu, ev, sd, sv, Y, st, Rw, kp, sp, Ys, ss, Rs, ks, ps, hW, hK, hM⟩ := hJ
  refine lv_aload_n hx hb dL_law_625 rfl (lv_at hl 1 rfl) ?_
  refine lv_aload_n hx hb dL_law_626 rfl (lv_at hl 0 rfl) ?_
  refine lv_iload hx hb dL_law_627 (lv_at hl 4 rfl) ?_
  refine lv_iconst (v := nI 1) hx hb dL_law_629 (by decide) ?_
  refine lv_iadd hx hb dL_law_630 ?_
  rw [nI_add]
  refine va_sld hx hb hX hbl hbA hS (vp_in_nI (by omega) (by omega)) dL_law_631 ?_
  rw [nI_clamp (by omega)]
  refine lv_aload_n hx hb dL_law_632 rfl (lv_at hl 0 rfl) ?_
  refine lv_iload hx hb dL_law_633 (lv_at hl 4 rfl) ?_
  refine lv_iconst (v := nI 2) hx hb dL_law_635 (by decide) ?_
  refine lv_iadd hx hb dL_law_636 ?_
  rw [nI_add]
  refine va_sld hx hb hX hbl hbA hS (vp_in_nI (by omega) (by omega)) dL_law_637 ?_
  rw [nI_clamp (by omega)]
  refine lv_aload_n hx hb dL_law_638 rfl (lv_at hl 0 rfl) ?_
  refine lv_iload hx hb dL_law_639 (lv_at hl 4 rfl) ?_
  refine lv_iconst (v := nI 3) hx hb dL_law_641 (by decide) ?_
  refine lv_iadd hx hb dL_law_642 ?_
  rw [nI_add]
  refine va_sld hx hb hX hbl hbA hS (vp_in_nI (by omega) (by omega)) dL_law_643 ?_
  rw [nI_clamp (by omega)]
  refine lv_aload_n hx hb dL_law_644 rfl (lv_at hl 3 rfl) ?_
  refine kc_i (vx_runSW (As := [.ref (ad 0), .int (xs (j + 1)), .int (xs (j + 2)), .int (xs (j + 3)), .ref (ad 220)]) (rest := []) ⟨hx, hb, hml, hown, hts⟩ (mL_at I L (xs (j + 1)) (xs (j + 2)) (xs (j + 3)) (mX2_at hl0 I L bu ev B (xs (j + 1)) (xs (j + 2)) (xs (j + 3)) hK.1 hW.1 hK.2.1 sd hK.2.2.2.1 hM.n4.2.2.1 (fun q => ⟨hK.2.2.2.2.2.1 q, hW.2.1 q⟩)) (fun E h => h.elim (fun q => Or.inl q.1) (fun q => Or.inr q.1))) (vx_cwSW 5 hts (kw_SW k389 k390 k0 k391) rfl rfl rfl (by decide +kernel) ⟨Nat.le_trans (Nat.le_of_ble_eq_true rfl) hRf, Nat.le_trans (Nat.le_of_ble_eq_true rfl) hRl⟩) (kB_pre hE hR hS [.ref (ad 0), .int (xs (j + 1)), .int (xs (j + 2)), .int (xs (j + 3)), .ref (ad 220)]) rfl rfl hl.1 rfl (lv_room (Nat.le_of_ble_eq_true rfl)) dL_law_645 ⟨by omega, by omega⟩) hS (fun r v9 H locs hw hR hS => ?_)
  refine W.widen (k := cells + 5) (n := slots + 30) (by omega) (by omega) ?_
  have hM9 := fr_at hW hK hM hw
  refine lv_istore (lv' := [(5, .int r), (0, .ref sb), (1, .ref (ad 0)), (2, .ref (ad 200)), (3, .ref (ad 220)), (4, .int (nI j))]) hx hb dL_law_648 hl (by decide) rfl (fun ls hl => ?_)
  refine lv_aload_n hx hb dL_law_650 rfl (lv_at hl 3 rfl) ?_
  refine lv_aload_n hx hb dL_law_651 rfl (lv_at hl 1 rfl) ?_
  refine lv_iload hx hb dL_law_652 (lv_at hl 5 rfl) ?_
  refine lv_iconst (v := nI 1) hx hb dL_law_654 (by decide) ?_
  refine lv_iadd hx hb dL_law_655 ?_
  rw [nI_add]
  refine va_sld hx hb hX hbl hbA hS (vp_in_nI (by omega) (by omega)) dL_law_656 ?_
  rw [nI_clamp (by omega)]
  refine lv_aload_n hx hb dL_law_657 rfl (lv_at hl 1 rfl) ?_
  refine lv_iload hx hb dL_law_658 (lv_at hl 5 rfl) ?_
  refine lv_iconst (v := nI 2) hx hb dL_law_660 (by decide) ?_
  refine lv_iadd hx hb dL_law_661 ?_
  rw [nI_add]
  refine va_sld hx hb hX hbl hbA hS (vp_in_nI (by omega) (by omega)) dL_law_662 ?_
  rw [nI_clamp (by omega)]
  refine lv_aload_n hx hb dL_law_663 rfl (lv_at hl 1 rfl) ?_
  refine lv_iload hx hb dL_law_664 (lv_at hl 5 rfl) ?_
  refine lv_iconst (v := nI 3) hx hb dL_law_666 (by decide) ?_
  refine lv_iadd hx hb dL_law_667 ?_
  rw [nI_add]
  refine va_sld hx hb hX hbl hbA hS (vp_in_nI (by omega) (by omega)) dL_law_668 ?_
  rw [nI_clamp (by omega)]
  refine kc_i (va_runV (As := [.int (xs (j + 1)), .int (xs (j + 2)), .int (xs (j + 3))]) (rest := []) ⟨hx, hb, hml, hown, hts⟩ (mX3_at v9.1 v9.2 B (xs (j + 1)) (xs (j + 2)) (xs (j + 3)) hM9.1 hW.1 hM9.2.1 (fun q => ⟨hM9.2.2.2.1 q, hW.2.1 q⟩)) (cwV 3 hts (kw_V k650 k651 k652 k5 k653) rfl rfl rfl (by decide +kernel) ⟨Nat.le_trans (Nat.le_of_ble_eq_true rfl) hRf, Nat.le_trans (Nat.le_of_ble_eq_true rfl) hRl⟩) (kB_preV hE hR hS 200 rfl rfl [.int (xs (j + 1)), .int (xs (j + 2)), .int (xs (j + 3))]) rfl rfl hl.1 rfl (lv_room (Nat.le_of_ble_eq_true rfl)) dL_law_669 ⟨by omega, by omega⟩) hS (fun r2 u2 H locs hm hR hS => ?_)
  have hop := op_at hW hK hM hw hm
  refine lv_istore (lv' := [(6, .int r2), (5, .int r), (0, .ref sb), (1, .ref (ad 0)), (2, .ref (ad 200)), (3, .ref (ad 220)), (4, .int (nI j))]) hx hb dL_law_672 hl (by decide) rfl (fun ls hl => ?_)
  refine lv_aload_n hx hb dL_law_674 rfl (lv_at hl 4 rfl) ?_
  refine kc_i (va_runV (As := []) (rest := []) ⟨hx, hb, hml, hown, hts⟩ (mX3_thrown u2.1 u2.2) (cwV 0 hts (kw_V k560 k561 k562 k5 k563) rfl rfl rfl (by decide +kernel) ⟨Nat.le_trans (Nat.le_of_ble_eq_true rfl) hRf, Nat.le_trans (Nat.le_of_ble_eq_true rfl) hRl⟩) (kB_preV hE hR hS 200 rfl rfl []) rfl rfl hl.1 rfl (lv_room (Nat.le_of_ble_eq_true rfl)) dL_law_675 ⟨by omega, by omega⟩) hS (fun r3 u3 H locs ht hR hS => ?_)
  obtain ⟨ht, rfl⟩ := ht
  have hR : tR D vwCl base ad (tC (wP n ad cs) u2.1 u2.2) H := hR
  refine lv_iload hx hb dL_law_678 (lv_at hl 1 rfl) ?_
  refine lv_icmp_eq (tgt := 685) hx hb dL_law_680 (by decide) (fun _ => ?_) (fun c9 => absurd (ht.trans hop.1) c9)
  refine lv_iload hx hb dL_law_685 (lv_at hl 1 rfl) ?_
  refine lv_if_ne (tgt := 702) hx hb dL_law_687 (by decide) (fun c1 => ?_) (fun c1 => ?_)
  · refine lv_goto (tgt := 1109) hx hb dL_law_702 (by decide) ?_
    exact kx u2 H locs ls hop.2.2 hR hS (lv_sub hl [2, 3, 4, 5, 6] rfl)
  · refine lv_aload_n hx hb dL_law_690 rfl (lv_at hl 5 rfl) ?_
    refine lv_iconst (v := nI 0) hx hb dL_law_691 (by decide) ?_
    refine tp_lald hx hb hK0 hR 220 1 (fun _ _ => rfl) rfl 0 rfl (by omega) (by decide) dL_law_692 ?_
    refine lv_iload hx hb dL_law_693 (lv_at hl 0 rfl) ?_
    refine lv_i2l hx hb dL_law_695 rfl ?_
    refine W.lcmp hx hb dL_law_696 ?_
    refine lv_if_eq (tgt := 702) hx hb dL_law_697 (by decide) (fun _ => ?_) (fun c9 => absurd ((lg_cmp_eq _ _).mpr (hop.2.1 c1)) c9)
    refine lv_goto (tgt := 1109) hx hb dL_law_702 (by decide) ?_
    exact kx u2 H locs ls hop.2.2 hR hS (lv_sub hl [2, 3, 4, 5, 6] rfl)
set_option maxHeartbeats 4000000 in
set_option maxRecDepth 100000 in
theorem sg_counted (S0 : CallFix p m c cL_law 7 s args wLw RL) (hE : eV D cs base sa s) (hl0 : l.stackTraces = false) {sb N : Nat} {xs : Nat → Int32} (hX : va_X sb N xs s s.heap) (hbl : sb < s.heap.size) (hbA : ¬ base ≤ sb) (hN : N ≤ 2600) {cells slots : Nat} (hRf : 11 ≤ R.frames) (hRl : 300 ≤ R.locals) (hRc : cells + 5 ≤ R.cells) (hRs : slots + 30 ≤ R.slots) {se : Int32} {B j : Nat} (hB : B + 100 < 2 ^ 19) (hj : j + 5 ≤ N) (I : tI) (L : tL) (hJ : lJ n B se I L)
    (kx : ∀ (u : tI × tL) (H : Heap) (locs : List Loc) (ls : Array Slot), lJ n (B + 100) se u.1 u.2 → tR D vwCl base ad (tC (wP n ad cs) u.1 u.2) H → va_S (fun q => base ≤ q) s.heap H locs → lv_has ls 7 [(0, .ref sb), (1, .ref (ad 0)), (2, .ref (ad 200)), (3, .ref (ad 220)), (4, .int (nI j))] → W p l e R s m args below meth c H locs (cells + 5) (slots + 30) Q (F0 m 1109 ls []))
    (H : Heap) (locs : List Loc) (ls : Array Slot) (hR : tR D vwCl base ad (tC (wP n ad cs) I L) H) (hS : va_S (fun q => base ≤ q) s.heap H locs) (hl : lv_has ls 7 [(0, .ref sb), (1, .ref (ad 0)), (2, .ref (ad 200)), (3, .ref (ad 220)), (4, .int (nI j))]) : W p l e R s m args below meth c H locs cells slots Q (F0 m 705 ls []) := by
  obtain ⟨hx, hb, hml, hown, hts⟩ := S0
  have hK0 := hE.K
  obtain ⟨nd, no, f, la, ph, w, ea, lt, le, mo, bu, ev, sd, sv, Y, st, Rw, kp, sp, Ys, ss, Rs, ks, ps, hW, hK, hM⟩ := hJ
  refine lv_aload_n hx hb dL_law_705 rfl (lv_at hl 1 rfl) ?_
  refine lv_aload_n hx hb dL_law_706 rfl (lv_at hl 0 rfl) ?_
  refine lv_iload hx hb dL_law_707 (lv_at hl 4 rfl) ?_
  refine lv_iconst (v := nI 1) hx hb dL_law_709 (by decide) ?_
  refine lv_iadd hx hb dL_law_710 ?_
  rw [nI_add]
  refine va_sld hx hb hX hbl hbA hS (vp_in_nI (by omega) (by omega)) dL_law_711 ?_
  rw [nI_clamp (by omega)]
  refine lv_aload_n hx hb dL_law_712 rfl (lv_at hl 0 rfl) ?_
  refine lv_iload hx hb dL_law_713 (lv_at hl 4 rfl) ?_
  refine lv_iconst (v := nI 2) hx hb dL_law_715 (by decide) ?_
  refine lv_iadd hx hb dL_law_716 ?_
  rw [nI_add]
  refine va_sld hx hb hX hbl hbA hS (vp_in_nI (by omega) (by omega)) dL_law_717 ?_
  rw [nI_clamp (by omega)]
  refine lv_aload_n hx hb dL_law_718 rfl (lv_at hl 3 rfl) ?_
  refine kc_i (vx_runSW (As := [.ref (ad 0), .int (xs (j + 1)), .int (xs (j + 2)), .ref (ad 220)]) (rest := []) ⟨hx, hb, hml, hown, hts⟩ (mL_counted I L (xs (j + 1)) (xs (j + 2)) (mX2_counted hl0 I L bu ev B (xs (j + 1)) (xs (j + 2)) hK.1 hW.1 hK.2.1 sd hK.2.2.2.1 hM.n4.2.2.1 (fun q => ⟨hK.2.2.2.2.2.1 q, hW.2.1 q⟩)) (fun E h => h.elim (fun q => Or.inl q.1) (fun q => Or.inr q.1))) (vx_cwSW 4 hts (kw_SW k402 k403 k0 k404) rfl rfl rfl (by decide +kernel) ⟨Nat.le_trans (Nat.le_of_ble_eq_true rfl) hRf, Nat.le_trans (Nat.le_of_ble_eq_true rfl) hRl⟩) (kB_pre hE hR hS [.ref (ad 0), .int (xs (j + 1)), .int (xs (j + 2)), .ref (ad 220)]) rfl rfl hl.1 rfl (lv_room (Nat.le_of_ble_eq_true rfl)) dL_law_719 ⟨by omega, by omega⟩) hS (fun r v9 H locs hw hR hS => ?_)
  refine W.widen (k := cells + 5) (n := slots + 30) (by omega) (by omega) ?_
  have hM9 := fr_counted hW hK hM hw
  refine lv_istore (lv' := [(5, .int r), (0, .ref sb), (1, .ref (ad 0)), (2, .ref (ad 200)), (3, .ref (ad 220)), (4, .int (nI j))]) hx hb dL_law_722 hl (by decide) rfl (fun ls hl => ?_)
  refine lv_aload_n hx hb dL_law_724 rfl (lv_at hl 3 rfl) ?_
  refine lv_aload_n hx hb dL_law_725 rfl (lv_at hl 1 rfl) ?_
  refine lv_iload hx hb dL_law_726 (lv_at hl 5 rfl) ?_
  refine lv_iconst (v := nI 1) hx hb dL_law_728 (by decide) ?_
  refine lv_iadd hx hb dL_law_729 ?_
  rw [nI_add]
  refine va_sld hx hb hX hbl hbA hS (vp_in_nI (by omega) (by omega)) dL_law_730 ?_
  rw [nI_clamp (by omega)]
  refine lv_aload_n hx hb dL_law_731 rfl (lv_at hl 1 rfl) ?_
  refine lv_iload hx hb dL_law_732 (lv_at hl 5 rfl) ?_
  refine lv_iconst (v := nI 2) hx hb dL_law_734 (by decide) ?_
  refine lv_iadd hx hb dL_law_735 ?_
  rw [nI_add]
  refine va_sld hx hb hX hbl hbA hS (vp_in_nI (by omega) (by omega)) dL_law_736 ?_
  rw [nI_clamp (by omega)]
  refine kc_i (va_runV (As := [.int (xs (j + 1)), .int (xs (j + 2))]) (rest := []) ⟨hx, hb, hml, hown, hts⟩ (mX3_counted v9.1 v9.2 B (xs (j + 1)) (xs (j + 2)) hM9.1 hW.1 hM9.2.1 (fun q => ⟨hM9.2.2.2.1 q, hW.2.1 q⟩)) (cwV 2 hts (kw_V k654 k655 k656 k5 k657) rfl rfl rfl (by decide +kernel) ⟨Nat.le_trans (Nat.le_of_ble_eq_true rfl) hRf, Nat.le_trans (Nat.le_of_ble_eq_true rfl) hRl⟩) (kB_preV hE hR hS 200 rfl rfl [.int (xs (j + 1)), .int (xs (j + 2))]) rfl rfl hl.1 rfl (lv_room (Nat.le_of_ble_eq_true rfl)) dL_law_737 ⟨by omega, by omega⟩) hS (fun r2 u2 H locs hm hR hS => ?_)
  have hop := op_counted hW hK hM hw hm
  refine lv_istore (lv' := [(6, .int r2), (5, .int r), (0, .ref sb), (1, .ref (ad 0)), (2, .ref (ad 200)), (3, .ref (ad 220)), (4, .int (nI j))]) hx hb dL_law_740 hl (by decide) rfl (fun ls hl => ?_)
  refine lv_aload_n hx hb dL_law_742 rfl (lv_at hl 4 rfl) ?_
  refine kc_i (va_runV (As := []) (rest := []) ⟨hx, hb, hml, hown, hts⟩ (mX3_thrown u2.1 u2.2) (cwV 0 hts (kw_V k560 k561 k562 k5 k563) rfl rfl rfl (by decide +kernel) ⟨Nat.le_trans (Nat.le_of_ble_eq_true rfl) hRf, Nat.le_trans (Nat.le_of_ble_eq_true rfl) hRl⟩) (kB_preV hE hR hS 200 rfl rfl []) rfl rfl hl.1 rfl (lv_room (Nat.le_of_ble_eq_true rfl)) dL_law_743 ⟨by omega, by omega⟩) hS (fun r3 u3 H locs ht hR hS => ?_)
  obtain ⟨ht, rfl⟩ := ht
  have hR : tR D vwCl base ad (tC (wP n ad cs) u2.1 u2.2) H := hR
  refine lv_iload hx hb dL_law_746 (lv_at hl 1 rfl) ?_
  refine lv_icmp_eq (tgt := 753) hx hb dL_law_748 (by decide) (fun _ => ?_) (fun c9 => absurd (ht.trans hop.1) c9)
  refine lv_iload hx hb dL_law_753 (lv_at hl 1 rfl) ?_
  refine lv_if_ne (tgt := 770) hx hb dL_law_755 (by decide) (fun c1 => ?_) (fun c1 => ?_)
  · refine lv_goto (tgt := 1109) hx hb dL_law_770 (by decide) ?_
    exact kx u2 H locs ls hop.2.2 hR hS (lv_sub hl [2, 3, 4, 5, 6] rfl)
  · refine lv_aload_n hx hb dL_law_758 rfl (lv_at hl 5 rfl) ?_
    refine lv_iconst (v := nI 0) hx hb dL_law_759 (by decide) ?_
    refine tp_lald hx hb hK0 hR 220 1 (fun _ _ => rfl) rfl 0 rfl (by omega) (by decide) dL_law_760 ?_
    refine lv_iload hx hb dL_law_761 (lv_at hl 0 rfl) ?_
    refine lv_i2l hx hb dL_law_763 rfl ?_
    refine W.lcmp hx hb dL_law_764 ?_
    refine lv_if_eq (tgt := 770) hx hb dL_law_765 (by decide) (fun _ => ?_) (fun c9 => absurd ((lg_cmp_eq _ _).mpr (hop.2.1 c1)) c9)
    refine lv_goto (tgt := 1109) hx hb dL_law_770 (by decide) ?_
    exact kx u2 H locs ls hop.2.2 hR hS (lv_sub hl [2, 3, 4, 5, 6] rfl)
set_option maxHeartbeats 4000000 in
set_option maxRecDepth 100000 in
theorem sg_apart (S0 : CallFix p m c cL_law 7 s args wLw RL) (hE : eV D cs base sa s) (hl0 : l.stackTraces = false) {sb N : Nat} {xs : Nat → Int32} (hX : va_X sb N xs s s.heap) (hbl : sb < s.heap.size) (hbA : ¬ base ≤ sb) (hN : N ≤ 2600) {cells slots : Nat} (hRf : 11 ≤ R.frames) (hRl : 300 ≤ R.locals) (hRc : cells + 5 ≤ R.cells) (hRs : slots + 30 ≤ R.slots) {se : Int32} {B j : Nat} (hB : B + 100 < 2 ^ 19) (hj : j + 5 ≤ N) (I : tI) (L : tL) (hJ : lJ n B se I L)
    (kx : ∀ (u : tI × tL) (H : Heap) (locs : List Loc) (ls : Array Slot), lJ n (B + 100) se u.1 u.2 → tR D vwCl base ad (tC (wP n ad cs) u.1 u.2) H → va_S (fun q => base ≤ q) s.heap H locs → lv_has ls 7 [(0, .ref sb), (1, .ref (ad 0)), (2, .ref (ad 200)), (3, .ref (ad 220)), (4, .int (nI j))] → W p l e R s m args below meth c H locs (cells + 5) (slots + 30) Q (F0 m 1109 ls []))
    (H : Heap) (locs : List Loc) (ls : Array Slot) (hR : tR D vwCl base ad (tC (wP n ad cs) I L) H) (hS : va_S (fun q => base ≤ q) s.heap H locs) (hl : lv_has ls 7 [(0, .ref sb), (1, .ref (ad 0)), (2, .ref (ad 200)), (3, .ref (ad 220)), (4, .int (nI j))]) : W p l e R s m args below meth c H locs cells slots Q (F0 m 773 ls []) := by
  obtain ⟨hx, hb, hml, hown, hts⟩ := S0
  have hK0 := hE.K
  obtain ⟨nd, no, f, la, ph, w, ea, lt, le, mo, bu, ev, sd, sv, Y, st, Rw, kp, sp, Ys, ss, Rs, ks, ps, hW, hK, hM⟩ := hJ
  refine lv_aload_n hx hb dL_law_773 rfl (lv_at hl 1 rfl) ?_
  refine lv_aload_n hx hb dL_law_774 rfl (lv_at hl 0 rfl) ?_
  refine lv_iload hx hb dL_law_775 (lv_at hl 4 rfl) ?_
  refine lv_iconst (v := nI 1) hx hb dL_law_777 (by decide) ?_
  refine lv_iadd hx hb dL_law_778 ?_
  rw [nI_add]
  refine va_sld hx hb hX hbl hbA hS (vp_in_nI (by omega) (by omega)) dL_law_779 ?_
  rw [nI_clamp (by omega)]
  refine lv_aload_n hx hb dL_law_780 rfl (lv_at hl 3 rfl) ?_
  refine kc_i (vx_runSW (As := [.ref (ad 0), .int (xs (j + 1)), .ref (ad 220)]) (rest := []) ⟨hx, hb, hml, hown, hts⟩ (mL_apart I L (xs (j + 1)) (mX2_apart hl0 I L bu ev B (xs (j + 1)) hK.1 hW.1 hK.2.1 sd hK.2.2.2.1 hM.n4.2.2.1 (fun q => ⟨hK.2.2.2.2.2.1 q, hW.2.1 q⟩)) (fun E h => h.elim (fun q => Or.inl q.1) (fun q => Or.inr q.1))) (vx_cwSW 3 hts (kw_SW k409 k410 k0 k411) rfl rfl rfl (by decide +kernel) ⟨Nat.le_trans (Nat.le_of_ble_eq_true rfl) hRf, Nat.le_trans (Nat.le_of_ble_eq_true rfl) hRl⟩) (kB_pre hE hR hS [.ref (ad 0), .int (xs (j + 1)), .ref (ad 220)]) rfl rfl hl.1 rfl (lv_room (Nat.le_of_ble_eq_true rfl)) dL_law_781 ⟨by omega, by omega⟩) hS (fun r v9 H locs hw hR hS => ?_)
  refine W.widen (k := cells + 5) (n := slots + 30) (by omega) (by omega) ?_
  have hM9 := fr_apart hW hK hM hw
  refine lv_istore (lv' := [(5, .int r), (0, .ref sb), (1, .ref (ad 0)), (2, .ref (ad 200)), (3, .ref (ad 220)), (4, .int (nI j))]) hx hb dL_law_784 hl (by decide) rfl (fun ls hl => ?_)
  refine lv_aload_n hx hb dL_law_786 rfl (lv_at hl 3 rfl) ?_
  refine lv_aload_n hx hb dL_law_787 rfl (lv_at hl 1 rfl) ?_
  refine lv_iload hx hb dL_law_788 (lv_at hl 5 rfl) ?_
  refine lv_iconst (v := nI 1) hx hb dL_law_790 (by decide) ?_
  refine lv_iadd hx hb dL_law_791 ?_
  rw [nI_add]
  refine va_sld hx hb hX hbl hbA hS (vp_in_nI (by omega) (by omega)) dL_law_792 ?_
  rw [nI_clamp (by omega)]
  refine kc_i (va_runV (As := [.int (xs (j + 1))]) (rest := []) ⟨hx, hb, hml, hown, hts⟩ (mX3_apart v9.1 v9.2 B (xs (j + 1)) hM9.1 hW.1 hM9.2.1 (fun q => ⟨hM9.2.2.2.1 q, hW.2.1 q⟩)) (cwV 1 hts (kw_V k658 k659 k660 k5 k661) rfl rfl rfl (by decide +kernel) ⟨Nat.le_trans (Nat.le_of_ble_eq_true rfl) hRf, Nat.le_trans (Nat.le_of_ble_eq_true rfl) hRl⟩) (kB_preV hE hR hS 200 rfl rfl [.int (xs (j + 1))]) rfl rfl hl.1 rfl (lv_room (Nat.le_of_ble_eq_true rfl)) dL_law_793 ⟨by omega, by omega⟩) hS (fun r2 u2 H locs hm hR hS => ?_)
  have hop := op_apart hW hK hM hw hm
  refine lv_istore (lv' := [(6, .int r2), (5, .int r), (0, .ref sb), (1, .ref (ad 0)), (2, .ref (ad 200)), (3, .ref (ad 220)), (4, .int (nI j))]) hx hb dL_law_796 hl (by decide) rfl (fun ls hl => ?_)
  refine lv_aload_n hx hb dL_law_798 rfl (lv_at hl 4 rfl) ?_
  refine kc_i (va_runV (As := []) (rest := []) ⟨hx, hb, hml, hown, hts⟩ (mX3_thrown u2.1 u2.2) (cwV 0 hts (kw_V k560 k561 k562 k5 k563) rfl rfl rfl (by decide +kernel) ⟨Nat.le_trans (Nat.le_of_ble_eq_true rfl) hRf, Nat.le_trans (Nat.le_of_ble_eq_true rfl) hRl⟩) (kB_preV hE hR hS 200 rfl rfl []) rfl rfl hl.1 rfl (lv_room (Nat.le_of_ble_eq_true rfl)) dL_law_799 ⟨by omega, by omega⟩) hS (fun r3 u3 H locs ht hR hS => ?_)
  obtain ⟨ht, rfl⟩ := ht
  have hR : tR D vwCl base ad (tC (wP n ad cs) u2.1 u2.2) H := hR
  refine lv_iload hx hb dL_law_802 (lv_at hl 1 rfl) ?_
  refine lv_icmp_eq (tgt := 809) hx hb dL_law_804 (by decide) (fun _ => ?_) (fun c9 => absurd (ht.trans hop.1) c9)
  refine lv_iload hx hb dL_law_809 (lv_at hl 1 rfl) ?_
  refine lv_if_ne (tgt := 826) hx hb dL_law_811 (by decide) (fun c1 => ?_) (fun c1 => ?_)
  · refine lv_goto (tgt := 1109) hx hb dL_law_826 (by decide) ?_
    exact kx u2 H locs ls hop.2.2 hR hS (lv_sub hl [2, 3, 4, 5, 6] rfl)
  · refine lv_aload_n hx hb dL_law_814 rfl (lv_at hl 5 rfl) ?_
    refine lv_iconst (v := nI 0) hx hb dL_law_815 (by decide) ?_
    refine tp_lald hx hb hK0 hR 220 1 (fun _ _ => rfl) rfl 0 rfl (by omega) (by decide) dL_law_816 ?_
    refine lv_iload hx hb dL_law_817 (lv_at hl 0 rfl) ?_
    refine lv_i2l hx hb dL_law_819 rfl ?_
    refine W.lcmp hx hb dL_law_820 ?_
    refine lv_if_eq (tgt := 826) hx hb dL_law_821 (by decide) (fun _ => ?_) (fun c9 => absurd ((lg_cmp_eq _ _).mpr (hop.2.1 c1)) c9)
    refine lv_goto (tgt := 1109) hx hb dL_law_826 (by decide) ?_
    exact kx u2 H locs ls hop.2.2 hR hS (lv_sub hl [2, 3, 4, 5, 6] rfl)
set_option maxHeartbeats 4000000 in
set_option maxRecDepth 100000 in
theorem sg_agreement (S0 : CallFix p m c cL_law 7 s args wLw RL) (hE : eV D cs base sa s) (hl0 : l.stackTraces = false) {sb N : Nat} {xs : Nat → Int32} (hX : va_X sb N xs s s.heap) (hbl : sb < s.heap.size) (hbA : ¬ base ≤ sb) (hN : N ≤ 2600) {cells slots : Nat} (hRf : 11 ≤ R.frames) (hRl : 300 ≤ R.locals) (hRc : cells + 5 ≤ R.cells) (hRs : slots + 30 ≤ R.slots) {se : Int32} {B j : Nat} (hB : B + 100 < 2 ^ 19) (hj : j + 5 ≤ N) (I : tI) (L : tL) (hJ : lJ n B se I L)
    (kx : ∀ (u : tI × tL) (H : Heap) (locs : List Loc) (ls : Array Slot), lJ n (B + 100) se u.1 u.2 → tR D vwCl base ad (tC (wP n ad cs) u.1 u.2) H → va_S (fun q => base ≤ q) s.heap H locs → lv_has ls 7 [(0, .ref sb), (1, .ref (ad 0)), (2, .ref (ad 200)), (3, .ref (ad 220)), (4, .int (nI j))] → W p l e R s m args below meth c H locs (cells + 5) (slots + 30) Q (F0 m 1109 ls []))
    (H : Heap) (locs : List Loc) (ls : Array Slot) (hR : tR D vwCl base ad (tC (wP n ad cs) I L) H) (hS : va_S (fun q => base ≤ q) s.heap H locs) (hl : lv_has ls 7 [(0, .ref sb), (1, .ref (ad 0)), (2, .ref (ad 200)), (3, .ref (ad 220)), (4, .int (nI j))]) : W p l e R s m args below meth c H locs cells slots Q (F0 m 829 ls []) := by
  obtain ⟨hx, hb, hml, hown, hts⟩ := S0
  have hK0 := hE.K
  obtain ⟨nd, no, f, la, ph, w, ea, lt, le, mo, bu, ev, sd, sv, Y, st, Rw, kp, sp, Ys, ss, Rs, ks, ps, hW, hK, hM⟩ := hJ
  refine lv_aload_n hx hb dL_law_829 rfl (lv_at hl 1 rfl) ?_
  refine lv_aload_n hx hb dL_law_830 rfl (lv_at hl 0 rfl) ?_
  refine lv_iload hx hb dL_law_831 (lv_at hl 4 rfl) ?_
  refine lv_iconst (v := nI 1) hx hb dL_law_833 (by decide) ?_
  refine lv_iadd hx hb dL_law_834 ?_
  rw [nI_add]
  refine va_sld hx hb hX hbl hbA hS (vp_in_nI (by omega) (by omega)) dL_law_835 ?_
  rw [nI_clamp (by omega)]
  refine lv_aload_n hx hb dL_law_836 rfl (lv_at hl 3 rfl) ?_
  refine kc_i (vx_runSW (As := [.ref (ad 0), .int (xs (j + 1)), .ref (ad 220)]) (rest := []) ⟨hx, hb, hml, hown, hts⟩ (mL_agreement I L (xs (j + 1)) (mX2_agreement hl0 I L bu ev B (xs (j + 1)) hK.1 hW.1 hK.2.1 sd hK.2.2.2.1 hM.n4.2.2.1 (fun q => ⟨hK.2.2.2.2.2.1 q, hW.2.1 q⟩)) (fun E h => h.elim (fun q => Or.inl q.1) (fun q => Or.inr q.1))) (vx_cwSW 3 hts (kw_SW k420 k421 k0 k422) rfl rfl rfl (by decide +kernel) ⟨Nat.le_trans (Nat.le_of_ble_eq_true rfl) hRf, Nat.le_trans (Nat.le_of_ble_eq_true rfl) hRl⟩) (kB_pre hE hR hS [.ref (ad 0), .int (xs (j + 1)), .ref (ad 220)]) rfl rfl hl.1 rfl (lv_room (Nat.le_of_ble_eq_true rfl)) dL_law_837 ⟨by omega, by omega⟩) hS (fun r v9 H locs hw hR hS => ?_)
  refine W.widen (k := cells + 5) (n := slots + 30) (by omega) (by omega) ?_
  have hM9 := fr_agreement hW hK hM hw
  refine lv_istore (lv' := [(5, .int r), (0, .ref sb), (1, .ref (ad 0)), (2, .ref (ad 200)), (3, .ref (ad 220)), (4, .int (nI j))]) hx hb dL_law_840 hl (by decide) rfl (fun ls hl => ?_)
  refine lv_aload_n hx hb dL_law_842 rfl (lv_at hl 3 rfl) ?_
  refine lv_aload_n hx hb dL_law_843 rfl (lv_at hl 1 rfl) ?_
  refine lv_iload hx hb dL_law_844 (lv_at hl 5 rfl) ?_
  refine lv_iconst (v := nI 1) hx hb dL_law_846 (by decide) ?_
  refine lv_iadd hx hb dL_law_847 ?_
  rw [nI_add]
  refine va_sld hx hb hX hbl hbA hS (vp_in_nI (by omega) (by omega)) dL_law_848 ?_
  rw [nI_clamp (by omega)]
  refine kc_i (va_runV (As := [.int (xs (j + 1))]) (rest := []) ⟨hx, hb, hml, hown, hts⟩ (mX3_agreement v9.1 v9.2 B (xs (j + 1)) hM9.1 hW.1 hM9.2.1 (fun q => ⟨hM9.2.2.2.1 q, hW.2.1 q⟩)) (cwV 1 hts (kw_V k662 k663 k664 k5 k665) rfl rfl rfl (by decide +kernel) ⟨Nat.le_trans (Nat.le_of_ble_eq_true rfl) hRf, Nat.le_trans (Nat.le_of_ble_eq_true rfl) hRl⟩) (kB_preV hE hR hS 200 rfl rfl [.int (xs (j + 1))]) rfl rfl hl.1 rfl (lv_room (Nat.le_of_ble_eq_true rfl)) dL_law_849 ⟨by omega, by omega⟩) hS (fun r2 u2 H locs hm hR hS => ?_)
  have hop := op_agreement hW hK hM hw hm
  refine lv_istore (lv' := [(6, .int r2), (5, .int r), (0, .ref sb), (1, .ref (ad 0)), (2, .ref (ad 200)), (3, .ref (ad 220)), (4, .int (nI j))]) hx hb dL_law_852 hl (by decide) rfl (fun ls hl => ?_)
  refine lv_aload_n hx hb dL_law_854 rfl (lv_at hl 4 rfl) ?_
  refine kc_i (va_runV (As := []) (rest := []) ⟨hx, hb, hml, hown, hts⟩ (mX3_thrown u2.1 u2.2) (cwV 0 hts (kw_V k560 k561 k562 k5 k563) rfl rfl rfl (by decide +kernel) ⟨Nat.le_trans (Nat.le_of_ble_eq_true rfl) hRf, Nat.le_trans (Nat.le_of_ble_eq_true rfl) hRl⟩) (kB_preV hE hR hS 200 rfl rfl []) rfl rfl hl.1 rfl (lv_room (Nat.le_of_ble_eq_true rfl)) dL_law_855 ⟨by omega, by omega⟩) hS (fun r3 u3 H locs ht hR hS => ?_)
  obtain ⟨ht, rfl⟩ := ht
  have hR : tR D vwCl base ad (tC (wP n ad cs) u2.1 u2.2) H := hR
  refine lv_iload hx hb dL_law_858 (lv_at hl 1 rfl) ?_
  refine lv_icmp_eq (tgt := 865) hx hb dL_law_860 (by decide) (fun _ => ?_) (fun c9 => absurd (ht.trans hop.1) c9)
  refine lv_iload hx hb dL_law_865 (lv_at hl 1 rfl) ?_
  refine lv_if_ne (tgt := 882) hx hb dL_law_867 (by decide) (fun c1 => ?_) (fun c1 => ?_)
  · refine lv_goto (tgt := 1109) hx hb dL_law_882 (by decide) ?_
    exact kx u2 H locs ls hop.2.2 hR hS (lv_sub hl [2, 3, 4, 5, 6] rfl)
  · refine lv_aload_n hx hb dL_law_870 rfl (lv_at hl 5 rfl) ?_
    refine lv_iconst (v := nI 0) hx hb dL_law_871 (by decide) ?_
    refine tp_lald hx hb hK0 hR 220 1 (fun _ _ => rfl) rfl 0 rfl (by omega) (by decide) dL_law_872 ?_
    refine lv_iload hx hb dL_law_873 (lv_at hl 0 rfl) ?_
    refine lv_i2l hx hb dL_law_875 rfl ?_
    refine W.lcmp hx hb dL_law_876 ?_
    refine lv_if_eq (tgt := 882) hx hb dL_law_877 (by decide) (fun _ => ?_) (fun c9 => absurd ((lg_cmp_eq _ _).mpr (hop.2.1 c1)) c9)
    refine lv_goto (tgt := 1109) hx hb dL_law_882 (by decide) ?_
    exact kx u2 H locs ls hop.2.2 hR hS (lv_sub hl [2, 3, 4, 5, 6] rfl)
set_option maxHeartbeats 4000000 in
set_option maxRecDepth 100000 in
theorem sg_spans (S0 : CallFix p m c cL_law 7 s args wLw RL) (hE : eV D cs base sa s) (hl0 : l.stackTraces = false) {sb N : Nat} {xs : Nat → Int32} (hX : va_X sb N xs s s.heap) (hbl : sb < s.heap.size) (hbA : ¬ base ≤ sb) (hN : N ≤ 2600) {cells slots : Nat} (hRf : 11 ≤ R.frames) (hRl : 300 ≤ R.locals) (hRc : cells + 5 ≤ R.cells) (hRs : slots + 30 ≤ R.slots) {se : Int32} {B j : Nat} (hB : B + 100 < 2 ^ 19) (hj : j + 5 ≤ N) (I : tI) (L : tL) (hJ : lJ n B se I L)
    (kx : ∀ (u : tI × tL) (H : Heap) (locs : List Loc) (ls : Array Slot), lJ n (B + 100) se u.1 u.2 → tR D vwCl base ad (tC (wP n ad cs) u.1 u.2) H → va_S (fun q => base ≤ q) s.heap H locs → lv_has ls 7 [(0, .ref sb), (1, .ref (ad 0)), (2, .ref (ad 200)), (3, .ref (ad 220)), (4, .int (nI j))] → W p l e R s m args below meth c H locs (cells + 5) (slots + 30) Q (F0 m 1109 ls []))
    (H : Heap) (locs : List Loc) (ls : Array Slot) (hR : tR D vwCl base ad (tC (wP n ad cs) I L) H) (hS : va_S (fun q => base ≤ q) s.heap H locs) (hl : lv_has ls 7 [(0, .ref sb), (1, .ref (ad 0)), (2, .ref (ad 200)), (3, .ref (ad 220)), (4, .int (nI j))]) : W p l e R s m args below meth c H locs cells slots Q (F0 m 885 ls []) := by
  obtain ⟨hx, hb, hml, hown, hts⟩ := S0
  have hK0 := hE.K
  obtain ⟨nd, no, f, la, ph, w, ea, lt, le, mo, bu, ev, sd, sv, Y, st, Rw, kp, sp, Ys, ss, Rs, ks, ps, hW, hK, hM⟩ := hJ
  refine lv_aload_n hx hb dL_law_885 rfl (lv_at hl 1 rfl) ?_
  refine lv_aload_n hx hb dL_law_886 rfl (lv_at hl 0 rfl) ?_
  refine lv_iload hx hb dL_law_887 (lv_at hl 4 rfl) ?_
  refine lv_iconst (v := nI 1) hx hb dL_law_889 (by decide) ?_
  refine lv_iadd hx hb dL_law_890 ?_
  rw [nI_add]
  refine va_sld hx hb hX hbl hbA hS (vp_in_nI (by omega) (by omega)) dL_law_891 ?_
  rw [nI_clamp (by omega)]
  refine lv_aload_n hx hb dL_law_892 rfl (lv_at hl 0 rfl) ?_
  refine lv_iload hx hb dL_law_893 (lv_at hl 4 rfl) ?_
  refine lv_iconst (v := nI 2) hx hb dL_law_895 (by decide) ?_
  refine lv_iadd hx hb dL_law_896 ?_
  rw [nI_add]
  refine va_sld hx hb hX hbl hbA hS (vp_in_nI (by omega) (by omega)) dL_law_897 ?_
  rw [nI_clamp (by omega)]
  refine lv_aload_n hx hb dL_law_898 rfl (lv_at hl 3 rfl) ?_
  refine kc_i (vx_runSW (As := [.ref (ad 0), .int (xs (j + 1)), .int (xs (j + 2)), .ref (ad 220)]) (rest := []) ⟨hx, hb, hml, hown, hts⟩ (mL_spans I L (xs (j + 1)) (xs (j + 2)) (mX2_spans hl0 I L bu ev B (xs (j + 1)) (xs (j + 2)) hK.1 hW.1 hK.2.1 sd hK.2.2.2.1 hM.n4.2.2.1 (fun q => ⟨hK.2.2.2.2.2.1 q, hW.2.1 q⟩)) (fun E h => h.elim (fun q => Or.inl q.1) (fun h => h.elim (fun q => Or.inr (Or.inl q.1)) (fun q => Or.inr (Or.inr q.1))))) (vx_cwSW 4 hts (kw_SW k433 k434 k0 k435) rfl rfl rfl (by decide +kernel) ⟨Nat.le_trans (Nat.le_of_ble_eq_true rfl) hRf, Nat.le_trans (Nat.le_of_ble_eq_true rfl) hRl⟩) (kB_pre hE hR hS [.ref (ad 0), .int (xs (j + 1)), .int (xs (j + 2)), .ref (ad 220)]) rfl rfl hl.1 rfl (lv_room (Nat.le_of_ble_eq_true rfl)) dL_law_899 ⟨by omega, by omega⟩) hS (fun r v9 H locs hw hR hS => ?_)
  refine W.widen (k := cells + 5) (n := slots + 30) (by omega) (by omega) ?_
  have hM9 := fr_spans hW hK hM hw
  refine lv_istore (lv' := [(5, .int r), (0, .ref sb), (1, .ref (ad 0)), (2, .ref (ad 200)), (3, .ref (ad 220)), (4, .int (nI j))]) hx hb dL_law_902 hl (by decide) rfl (fun ls hl => ?_)
  refine lv_aload_n hx hb dL_law_904 rfl (lv_at hl 3 rfl) ?_
  refine lv_aload_n hx hb dL_law_905 rfl (lv_at hl 1 rfl) ?_
  refine lv_iload hx hb dL_law_906 (lv_at hl 5 rfl) ?_
  refine lv_iconst (v := nI 1) hx hb dL_law_908 (by decide) ?_
  refine lv_iadd hx hb dL_law_909 ?_
  rw [nI_add]
  refine va_sld hx hb hX hbl hbA hS (vp_in_nI (by omega) (by omega)) dL_law_910 ?_
  rw [nI_clamp (by omega)]
  refine lv_aload_n hx hb dL_law_911 rfl (lv_at hl 1 rfl) ?_
  refine lv_iload hx hb dL_law_912 (lv_at hl 5 rfl) ?_
  refine lv_iconst (v := nI 2) hx hb dL_law_914 (by decide) ?_
  refine lv_iadd hx hb dL_law_915 ?_
  rw [nI_add]
  refine va_sld hx hb hX hbl hbA hS (vp_in_nI (by omega) (by omega)) dL_law_916 ?_
  rw [nI_clamp (by omega)]
  refine kc_i (va_runV (As := [.int (xs (j + 1)), .int (xs (j + 2))]) (rest := []) ⟨hx, hb, hml, hown, hts⟩ (mX3_spans v9.1 v9.2 B (xs (j + 1)) (xs (j + 2)) hM9.1 hW.1 hM9.2.1 (fun q => ⟨hM9.2.2.2.1 q, hW.2.1 q⟩)) (cwV 2 hts (kw_V k667 k668 k669 k5 k670) rfl rfl rfl (by decide +kernel) ⟨Nat.le_trans (Nat.le_of_ble_eq_true rfl) hRf, Nat.le_trans (Nat.le_of_ble_eq_true rfl) hRl⟩) (kB_preV hE hR hS 200 rfl rfl [.int (xs (j + 1)), .int (xs (j + 2))]) rfl rfl hl.1 rfl (lv_room (Nat.le_of_ble_eq_true rfl)) dL_law_917 ⟨by omega, by omega⟩) hS (fun r2 u2 H locs hm hR hS => ?_)
  have hop := op_spans hW hK hM hw hm
  refine lv_istore (lv' := [(6, .int r2), (5, .int r), (0, .ref sb), (1, .ref (ad 0)), (2, .ref (ad 200)), (3, .ref (ad 220)), (4, .int (nI j))]) hx hb dL_law_920 hl (by decide) rfl (fun ls hl => ?_)
  refine lv_aload_n hx hb dL_law_922 rfl (lv_at hl 4 rfl) ?_
  refine kc_i (va_runV (As := []) (rest := []) ⟨hx, hb, hml, hown, hts⟩ (mX3_thrown u2.1 u2.2) (cwV 0 hts (kw_V k560 k561 k562 k5 k563) rfl rfl rfl (by decide +kernel) ⟨Nat.le_trans (Nat.le_of_ble_eq_true rfl) hRf, Nat.le_trans (Nat.le_of_ble_eq_true rfl) hRl⟩) (kB_preV hE hR hS 200 rfl rfl []) rfl rfl hl.1 rfl (lv_room (Nat.le_of_ble_eq_true rfl)) dL_law_923 ⟨by omega, by omega⟩) hS (fun r3 u3 H locs ht hR hS => ?_)
  obtain ⟨ht, rfl⟩ := ht
  have hR : tR D vwCl base ad (tC (wP n ad cs) u2.1 u2.2) H := hR
  refine lv_iload hx hb dL_law_926 (lv_at hl 1 rfl) ?_
  refine lv_icmp_eq (tgt := 933) hx hb dL_law_928 (by decide) (fun _ => ?_) (fun c9 => absurd (ht.trans hop.1) c9)
  refine lv_iload hx hb dL_law_933 (lv_at hl 1 rfl) ?_
  refine lv_if_ne (tgt := 950) hx hb dL_law_935 (by decide) (fun c1 => ?_) (fun c1 => ?_)
  · refine lv_goto (tgt := 1109) hx hb dL_law_950 (by decide) ?_
    exact kx u2 H locs ls hop.2.2 hR hS (lv_sub hl [2, 3, 4, 5, 6] rfl)
  · refine lv_aload_n hx hb dL_law_938 rfl (lv_at hl 5 rfl) ?_
    refine lv_iconst (v := nI 0) hx hb dL_law_939 (by decide) ?_
    refine tp_lald hx hb hK0 hR 220 1 (fun _ _ => rfl) rfl 0 rfl (by omega) (by decide) dL_law_940 ?_
    refine lv_iload hx hb dL_law_941 (lv_at hl 0 rfl) ?_
    refine lv_i2l hx hb dL_law_943 rfl ?_
    refine W.lcmp hx hb dL_law_944 ?_
    refine lv_if_eq (tgt := 950) hx hb dL_law_945 (by decide) (fun _ => ?_) (fun c9 => absurd ((lg_cmp_eq _ _).mpr (hop.2.1 c1)) c9)
    refine lv_goto (tgt := 1109) hx hb dL_law_950 (by decide) ?_
    exact kx u2 H locs ls hop.2.2 hR hS (lv_sub hl [2, 3, 4, 5, 6] rfl)
set_option maxHeartbeats 4000000 in
set_option maxRecDepth 100000 in
theorem sg_save (S0 : CallFix p m c cL_law 7 s args wLw RL) (hE : eV D cs base sa s) (hl0 : l.stackTraces = false) {sb N : Nat} {xs : Nat → Int32} (hX : va_X sb N xs s s.heap) (hbl : sb < s.heap.size) (hbA : ¬ base ≤ sb) (hN : N ≤ 2600) {cells slots : Nat} (hRf : 11 ≤ R.frames) (hRl : 300 ≤ R.locals) (hRc : cells + 5 ≤ R.cells) (hRs : slots + 30 ≤ R.slots) {se : Int32} {B j : Nat} (hB : B + 100 < 2 ^ 19) (hj : j + 5 ≤ N) (I : tI) (L : tL) (hJ : lJ n B se I L)
    (kx : ∀ (u : tI × tL) (H : Heap) (locs : List Loc) (ls : Array Slot), lJ n (B + 100) se u.1 u.2 → tR D vwCl base ad (tC (wP n ad cs) u.1 u.2) H → va_S (fun q => base ≤ q) s.heap H locs → lv_has ls 7 [(0, .ref sb), (1, .ref (ad 0)), (2, .ref (ad 200)), (3, .ref (ad 220)), (4, .int (nI j))] → W p l e R s m args below meth c H locs (cells + 5) (slots + 30) Q (F0 m 1109 ls []))
    (H : Heap) (locs : List Loc) (ls : Array Slot) (hR : tR D vwCl base ad (tC (wP n ad cs) I L) H) (hS : va_S (fun q => base ≤ q) s.heap H locs) (hl : lv_has ls 7 [(0, .ref sb), (1, .ref (ad 0)), (2, .ref (ad 200)), (3, .ref (ad 220)), (4, .int (nI j))]) : W p l e R s m args below meth c H locs cells slots Q (F0 m 953 ls []) := by
  obtain ⟨hx, hb, hml, hown, hts⟩ := S0
  have hK0 := hE.K
  obtain ⟨nd, no, f, la, ph, w, ea, lt, le, mo, bu, ev, sd, sv, Y, st, Rw, kp, sp, Ys, ss, Rs, ks, ps, hW, hK, hM⟩ := hJ
  refine lv_aload_n hx hb dL_law_953 rfl (lv_at hl 1 rfl) ?_
  refine lv_aload_n hx hb dL_law_954 rfl (lv_at hl 3 rfl) ?_
  refine kc_i (vx_runSW (As := [.ref (ad 0), .ref (ad 220)]) (rest := []) ⟨hx, hb, hml, hown, hts⟩ (mL_save I L  (mX2_save (ph := ph) (w := w) hl0 I L bu ev B sv hK.2.1 sd hK.2.2.2.1 hM.n4.2.2.1 (fun q => ⟨hK.2.2.2.2.2.1 q, hW.2.1 q⟩) hK.2.2.2.2.1 hM.n4.2.1) (fun E h => h.1)) (vx_cwSW 2 hts (kw_SW k444 k445 k0 k446) rfl rfl rfl (by decide +kernel) ⟨Nat.le_trans (Nat.le_of_ble_eq_true rfl) hRf, Nat.le_trans (Nat.le_of_ble_eq_true rfl) hRl⟩) (kB_pre hE hR hS [.ref (ad 0), .ref (ad 220)]) rfl rfl hl.1 rfl (lv_room (Nat.le_of_ble_eq_true rfl)) dL_law_955 ⟨by omega, by omega⟩) hS (fun r v9 H locs hw hR hS => ?_)
  refine W.widen (k := cells + 5) (n := slots + 30) (by omega) (by omega) ?_
  have hM9 := fr_save hW hK hM hw
  refine lv_istore (lv' := [(5, .int r), (0, .ref sb), (1, .ref (ad 0)), (2, .ref (ad 200)), (3, .ref (ad 220)), (4, .int (nI j))]) hx hb dL_law_958 hl (by decide) rfl (fun ls hl => ?_)
  refine lv_aload_n hx hb dL_law_960 rfl (lv_at hl 3 rfl) ?_
  refine kc_i (va_runV (As := []) (rest := []) ⟨hx, hb, hml, hown, hts⟩ (mX3_save v9.1 v9.2 hM9.2.1) (cwV 0 hts (kw_V k675 k676 k677 k5 k678) rfl rfl rfl (by decide +kernel) ⟨Nat.le_trans (Nat.le_of_ble_eq_true rfl) hRf, Nat.le_trans (Nat.le_of_ble_eq_true rfl) hRl⟩) (kB_preV hE hR hS 200 rfl rfl []) rfl rfl hl.1 rfl (lv_room (Nat.le_of_ble_eq_true rfl)) dL_law_961 ⟨by omega, by omega⟩) hS (fun r2 u2 H locs hm hR hS => ?_)
  have hop := op_save hW hK hM hw hm
  refine lv_istore (lv' := [(6, .int r2), (5, .int r), (0, .ref sb), (1, .ref (ad 0)), (2, .ref (ad 200)), (3, .ref (ad 220)), (4, .int (nI j))]) hx hb dL_law_964 hl (by decide) rfl (fun ls hl => ?_)
  refine lv_aload_n hx hb dL_law_966 rfl (lv_at hl 4 rfl) ?_
  refine kc_i (va_runV (As := []) (rest := []) ⟨hx, hb, hml, hown, hts⟩ (mX3_thrown u2.1 u2.2) (cwV 0 hts (kw_V k560 k561 k562 k5 k563) rfl rfl rfl (by decide +kernel) ⟨Nat.le_trans (Nat.le_of_ble_eq_true rfl) hRf, Nat.le_trans (Nat.le_of_ble_eq_true rfl) hRl⟩) (kB_preV hE hR hS 200 rfl rfl []) rfl rfl hl.1 rfl (lv_room (Nat.le_of_ble_eq_true rfl)) dL_law_967 ⟨by omega, by omega⟩) hS (fun r3 u3 H locs ht hR hS => ?_)
  obtain ⟨ht, rfl⟩ := ht
  have hR : tR D vwCl base ad (tC (wP n ad cs) u2.1 u2.2) H := hR
  refine lv_iload hx hb dL_law_970 (lv_at hl 1 rfl) ?_
  refine lv_icmp_eq (tgt := 977) hx hb dL_law_972 (by decide) (fun _ => ?_) (fun c9 => absurd (ht.trans hop.1) c9)
  refine lv_iload hx hb dL_law_977 (lv_at hl 1 rfl) ?_
  refine lv_if_ne (tgt := 994) hx hb dL_law_979 (by decide) (fun c1 => ?_) (fun c1 => ?_)
  · refine lv_goto (tgt := 1109) hx hb dL_law_994 (by decide) ?_
    exact kx u2 H locs ls hop.2.2 hR hS (lv_sub hl [2, 3, 4, 5, 6] rfl)
  · refine lv_aload_n hx hb dL_law_982 rfl (lv_at hl 5 rfl) ?_
    refine lv_iconst (v := nI 0) hx hb dL_law_983 (by decide) ?_
    refine tp_lald hx hb hK0 hR 220 1 (fun _ _ => rfl) rfl 0 rfl (by omega) (by decide) dL_law_984 ?_
    refine lv_iload hx hb dL_law_985 (lv_at hl 0 rfl) ?_
    refine lv_i2l hx hb dL_law_987 rfl ?_
    refine W.lcmp hx hb dL_law_988 ?_
    refine lv_if_eq (tgt := 994) hx hb dL_law_989 (by decide) (fun _ => ?_) (fun c9 => absurd ((lg_cmp_eq _ _).mpr (hop.2.1 c1)) c9)
    refine lv_goto (tgt := 1109) hx hb dL_law_994 (by decide) ?_
    exact kx u2 H locs ls hop.2.2 hR hS (lv_sub hl [2, 3, 4, 5, 6] rfl)
set_option maxHeartbeats 4000000 in
set_option maxRecDepth 100000 in
theorem sg_back (S0 : CallFix p m c cL_law 7 s args wLw RL) (hE : eV D cs base sa s) (hl0 : l.stackTraces = false) {sb N : Nat} {xs : Nat → Int32} (hX : va_X sb N xs s s.heap) (hbl : sb < s.heap.size) (hbA : ¬ base ≤ sb) (hN : N ≤ 2600) {cells slots : Nat} (hRf : 11 ≤ R.frames) (hRl : 300 ≤ R.locals) (hRc : cells + 5 ≤ R.cells) (hRs : slots + 30 ≤ R.slots) {se : Int32} {B j : Nat} (hB : B + 100 < 2 ^ 19) (hj : j + 5 ≤ N) (I : tI) (L : tL) (hJ : lJ n B se I L)
    (kx : ∀ (u : tI × tL) (H : Heap) (locs : List Loc) (ls : Array Slot), lJ n (B + 100) se u.1 u.2 → tR D vwCl base ad (tC (wP n ad cs) u.1 u.2) H → va_S (fun q => base ≤ q) s.heap H locs → lv_has ls 7 [(0, .ref sb), (1, .ref (ad 0)), (2, .ref (ad 200)), (3, .ref (ad 220)), (4, .int (nI j))] → W p l e R s m args below meth c H locs (cells + 5) (slots + 30) Q (F0 m 1109 ls []))
    (H : Heap) (locs : List Loc) (ls : Array Slot) (hR : tR D vwCl base ad (tC (wP n ad cs) I L) H) (hS : va_S (fun q => base ≤ q) s.heap H locs) (hl : lv_has ls 7 [(0, .ref sb), (1, .ref (ad 0)), (2, .ref (ad 200)), (3, .ref (ad 220)), (4, .int (nI j))]) : W p l e R s m args below meth c H locs cells slots Q (F0 m 997 ls []) := by
  obtain ⟨hx, hb, hml, hown, hts⟩ := S0
  have hK0 := hE.K
  obtain ⟨nd, no, f, la, ph, w, ea, lt, le, mo, bu, ev, sd, sv, Y, st, Rw, kp, sp, Ys, ss, Rs, ks, ps, hW, hK, hM⟩ := hJ
  refine lv_aload_n hx hb dL_law_997 rfl (lv_at hl 1 rfl) ?_
  refine lv_aload_n hx hb dL_law_998 rfl (lv_at hl 0 rfl) ?_
  refine lv_iload hx hb dL_law_999 (lv_at hl 4 rfl) ?_
  refine lv_iconst (v := nI 1) hx hb dL_law_1001 (by decide) ?_
  refine lv_iadd hx hb dL_law_1002 ?_
  rw [nI_add]
  refine va_sld hx hb hX hbl hbA hS (vp_in_nI (by omega) (by omega)) dL_law_1003 ?_
  rw [nI_clamp (by omega)]
  refine lv_aload_n hx hb dL_law_1004 rfl (lv_at hl 3 rfl) ?_
  refine kc_i (vx_runSW (As := [.ref (ad 0), .int (xs (j + 1)), .ref (ad 220)]) (rest := []) ⟨hx, hb, hml, hown, hts⟩ (mL_back I L (xs (j + 1)) (mX2_back hl0 I L bu ev sv ks (xs (j + 1)) hK.2.1 hK.2.2.2.2.1 hM.n4.2.1 (fun i hi => ⟨(hK.2.2.2.2.2.2 i hi).1, (hW.2.2 i hi).2.1⟩)) (fun E h => h.1)) (vx_cwSW 3 hts (kw_SW k456 k457 k0 k458) rfl rfl rfl (by decide +kernel) ⟨Nat.le_trans (Nat.le_of_ble_eq_true rfl) hRf, Nat.le_trans (Nat.le_of_ble_eq_true rfl) hRl⟩) (kB_pre hE hR hS [.ref (ad 0), .int (xs (j + 1)), .ref (ad 220)]) rfl rfl hl.1 rfl (lv_room (Nat.le_of_ble_eq_true rfl)) dL_law_1005 ⟨by omega, by omega⟩) hS (fun r v9 H locs hw hR hS => ?_)
  refine W.widen (k := cells + 5) (n := slots + 30) (by omega) (by omega) ?_
  have hM9 := fr_back hW hK hM hw
  refine lv_istore (lv' := [(5, .int r), (0, .ref sb), (1, .ref (ad 0)), (2, .ref (ad 200)), (3, .ref (ad 220)), (4, .int (nI j))]) hx hb dL_law_1008 hl (by decide) rfl (fun ls hl => ?_)
  refine lv_aload_n hx hb dL_law_1010 rfl (lv_at hl 3 rfl) ?_
  refine lv_aload_n hx hb dL_law_1011 rfl (lv_at hl 1 rfl) ?_
  refine lv_iload hx hb dL_law_1012 (lv_at hl 5 rfl) ?_
  refine lv_iconst (v := nI 1) hx hb dL_law_1014 (by decide) ?_
  refine lv_iadd hx hb dL_law_1015 ?_
  rw [nI_add]
  refine va_sld hx hb hX hbl hbA hS (vp_in_nI (by omega) (by omega)) dL_law_1016 ?_
  rw [nI_clamp (by omega)]
  refine kc_i (va_runV (As := [.int (xs (j + 1))]) (rest := []) ⟨hx, hb, hml, hown, hts⟩ (mX3_back v9.1 v9.2 (xs (j + 1)) hM9.2.1) (cwV 1 hts (kw_V k679 k680 k681 k5 k682) rfl rfl rfl (by decide +kernel) ⟨Nat.le_trans (Nat.le_of_ble_eq_true rfl) hRf, Nat.le_trans (Nat.le_of_ble_eq_true rfl) hRl⟩) (kB_preV hE hR hS 200 rfl rfl [.int (xs (j + 1))]) rfl rfl hl.1 rfl (lv_room (Nat.le_of_ble_eq_true rfl)) dL_law_1017 ⟨by omega, by omega⟩) hS (fun r2 u2 H locs hm hR hS => ?_)
  have hop := op_back hW hK hM hw hm
  refine lv_istore (lv' := [(6, .int r2), (5, .int r), (0, .ref sb), (1, .ref (ad 0)), (2, .ref (ad 200)), (3, .ref (ad 220)), (4, .int (nI j))]) hx hb dL_law_1020 hl (by decide) rfl (fun ls hl => ?_)
  refine lv_aload_n hx hb dL_law_1022 rfl (lv_at hl 4 rfl) ?_
  refine kc_i (va_runV (As := []) (rest := []) ⟨hx, hb, hml, hown, hts⟩ (mX3_thrown u2.1 u2.2) (cwV 0 hts (kw_V k560 k561 k562 k5 k563) rfl rfl rfl (by decide +kernel) ⟨Nat.le_trans (Nat.le_of_ble_eq_true rfl) hRf, Nat.le_trans (Nat.le_of_ble_eq_true rfl) hRl⟩) (kB_preV hE hR hS 200 rfl rfl []) rfl rfl hl.1 rfl (lv_room (Nat.le_of_ble_eq_true rfl)) dL_law_1023 ⟨by omega, by omega⟩) hS (fun r3 u3 H locs ht hR hS => ?_)
  obtain ⟨ht, rfl⟩ := ht
  have hR : tR D vwCl base ad (tC (wP n ad cs) u2.1 u2.2) H := hR
  refine lv_iload hx hb dL_law_1026 (lv_at hl 1 rfl) ?_
  refine lv_icmp_eq (tgt := 1033) hx hb dL_law_1028 (by decide) (fun _ => ?_) (fun c9 => absurd (ht.trans hop.1) c9)
  refine lv_iload hx hb dL_law_1033 (lv_at hl 1 rfl) ?_
  refine lv_if_ne (tgt := 1050) hx hb dL_law_1035 (by decide) (fun c1 => ?_) (fun c1 => ?_)
  · refine lv_goto (tgt := 1109) hx hb dL_law_1050 (by decide) ?_
    exact kx u2 H locs ls hop.2.2 hR hS (lv_sub hl [2, 3, 4, 5, 6] rfl)
  · refine lv_aload_n hx hb dL_law_1038 rfl (lv_at hl 5 rfl) ?_
    refine lv_iconst (v := nI 0) hx hb dL_law_1039 (by decide) ?_
    refine tp_lald hx hb hK0 hR 220 1 (fun _ _ => rfl) rfl 0 rfl (by omega) (by decide) dL_law_1040 ?_
    refine lv_iload hx hb dL_law_1041 (lv_at hl 0 rfl) ?_
    refine lv_i2l hx hb dL_law_1043 rfl ?_
    refine W.lcmp hx hb dL_law_1044 ?_
    refine lv_if_eq (tgt := 1050) hx hb dL_law_1045 (by decide) (fun _ => ?_) (fun c9 => absurd ((lg_cmp_eq _ _).mpr (hop.2.1 c1)) c9)
    refine lv_goto (tgt := 1109) hx hb dL_law_1050 (by decide) ?_
    exact kx u2 H locs ls hop.2.2 hR hS (lv_sub hl [2, 3, 4, 5, 6] rfl)
set_option maxHeartbeats 4000000 in
set_option maxRecDepth 100000 in
theorem sg_count (S0 : CallFix p m c cL_law 7 s args wLw RL) (hE : eV D cs base sa s) (hl0 : l.stackTraces = false) {sb N : Nat} {xs : Nat → Int32} (hX : va_X sb N xs s s.heap) (hbl : sb < s.heap.size) (hbA : ¬ base ≤ sb) (hN : N ≤ 2600) {cells slots : Nat} (hRf : 11 ≤ R.frames) (hRl : 300 ≤ R.locals) (hRc : cells + 5 ≤ R.cells) (hRs : slots + 30 ≤ R.slots) {se : Int32} {B j : Nat} (hB : B + 100 < 2 ^ 19) (hj : j + 5 ≤ N) (I : tI) (L : tL) (hJ : lJ n B se I L)
    (kx : ∀ (u : tI × tL) (H : Heap) (locs : List Loc) (ls : Array Slot), lJ n (B + 100) se u.1 u.2 → tR D vwCl base ad (tC (wP n ad cs) u.1 u.2) H → va_S (fun q => base ≤ q) s.heap H locs → lv_has ls 7 [(0, .ref sb), (1, .ref (ad 0)), (2, .ref (ad 200)), (3, .ref (ad 220)), (4, .int (nI j))] → W p l e R s m args below meth c H locs (cells + 5) (slots + 30) Q (F0 m 1109 ls []))
    (H : Heap) (locs : List Loc) (ls : Array Slot) (hR : tR D vwCl base ad (tC (wP n ad cs) I L) H) (hS : va_S (fun q => base ≤ q) s.heap H locs) (hl : lv_has ls 7 [(0, .ref sb), (1, .ref (ad 0)), (2, .ref (ad 200)), (3, .ref (ad 220)), (4, .int (nI j))]) : W p l e R s m args below meth c H locs cells slots Q (F0 m 1053 ls []) := by
  obtain ⟨hx, hb, hml, hown, hts⟩ := S0
  have hK0 := hE.K
  obtain ⟨nd, no, f, la, ph, w, ea, lt, le, mo, bu, ev, sd, sv, Y, st, Rw, kp, sp, Ys, ss, Rs, ks, ps, hW, hK, hM⟩ := hJ
  refine lv_aload_n hx hb dL_law_1053 rfl (lv_at hl 1 rfl) ?_
  refine lv_aload_n hx hb dL_law_1054 rfl (lv_at hl 0 rfl) ?_
  refine lv_iload hx hb dL_law_1055 (lv_at hl 4 rfl) ?_
  refine lv_iconst (v := nI 1) hx hb dL_law_1057 (by decide) ?_
  refine lv_iadd hx hb dL_law_1058 ?_
  rw [nI_add]
  refine va_sld hx hb hX hbl hbA hS (vp_in_nI (by omega) (by omega)) dL_law_1059 ?_
  rw [nI_clamp (by omega)]
  refine lv_aload_n hx hb dL_law_1060 rfl (lv_at hl 3 rfl) ?_
  refine kc_i (vx_runSW (As := [.ref (ad 0), .int (xs (j + 1)), .ref (ad 220)]) (rest := []) ⟨hx, hb, hml, hown, hts⟩ (mL_count I L (xs (j + 1)) (mX2_count hl0 I L bu ev B sv (xs (j + 1)) hK.1 hW.1 hK.2.1 sd hK.2.2.2.1 hM.n4.2.2.1 (fun q => ⟨hK.2.2.2.2.2.1 q, hW.2.1 q⟩) hK.2.2.2.2.1 hM.n4.2.1) (fun E h => h.1)) (vx_cwSW 3 hts (kw_SW k464 k465 k0 k466) rfl rfl rfl (by decide +kernel) ⟨Nat.le_trans (Nat.le_of_ble_eq_true rfl) hRf, Nat.le_trans (Nat.le_of_ble_eq_true rfl) hRl⟩) (kB_pre hE hR hS [.ref (ad 0), .int (xs (j + 1)), .ref (ad 220)]) rfl rfl hl.1 rfl (lv_room (Nat.le_of_ble_eq_true rfl)) dL_law_1061 ⟨by omega, by omega⟩) hS (fun r v9 H locs hw hR hS => ?_)
  refine W.widen (k := cells + 5) (n := slots + 30) (by omega) (by omega) ?_
  have hM9 := fr_count hW hK hM hw
  refine lv_istore (lv' := [(5, .int r), (0, .ref sb), (1, .ref (ad 0)), (2, .ref (ad 200)), (3, .ref (ad 220)), (4, .int (nI j))]) hx hb dL_law_1064 hl (by decide) rfl (fun ls hl => ?_)
  refine lv_aload_n hx hb dL_law_1066 rfl (lv_at hl 3 rfl) ?_
  refine lv_aload_n hx hb dL_law_1067 rfl (lv_at hl 1 rfl) ?_
  refine lv_iload hx hb dL_law_1068 (lv_at hl 5 rfl) ?_
  refine lv_iconst (v := nI 1) hx hb dL_law_1070 (by decide) ?_
  refine lv_iadd hx hb dL_law_1071 ?_
  rw [nI_add]
  refine va_sld hx hb hX hbl hbA hS (vp_in_nI (by omega) (by omega)) dL_law_1072 ?_
  rw [nI_clamp (by omega)]
  refine kc_i (va_runV (As := [.int (xs (j + 1))]) (rest := []) ⟨hx, hb, hml, hown, hts⟩ (mX3_count v9.1 v9.2 B (xs (j + 1)) hM9.1 hW.1 hM9.2.1 (fun q => ⟨hM9.2.2.2.1 q, hW.2.1 q⟩)) (cwV 1 hts (kw_V k683 k684 k685 k5 k686) rfl rfl rfl (by decide +kernel) ⟨Nat.le_trans (Nat.le_of_ble_eq_true rfl) hRf, Nat.le_trans (Nat.le_of_ble_eq_true rfl) hRl⟩) (kB_preV hE hR hS 200 rfl rfl [.int (xs (j + 1))]) rfl rfl hl.1 rfl (lv_room (Nat.le_of_ble_eq_true rfl)) dL_law_1073 ⟨by omega, by omega⟩) hS (fun r2 u2 H locs hm hR hS => ?_)
  have hop := op_count hW hK hM hw hm
  refine lv_istore (lv' := [(6, .int r2), (5, .int r), (0, .ref sb), (1, .ref (ad 0)), (2, .ref (ad 200)), (3, .ref (ad 220)), (4, .int (nI j))]) hx hb dL_law_1076 hl (by decide) rfl (fun ls hl => ?_)
  refine lv_aload_n hx hb dL_law_1078 rfl (lv_at hl 4 rfl) ?_
  refine kc_i (va_runV (As := []) (rest := []) ⟨hx, hb, hml, hown, hts⟩ (mX3_thrown u2.1 u2.2) (cwV 0 hts (kw_V k560 k561 k562 k5 k563) rfl rfl rfl (by decide +kernel) ⟨Nat.le_trans (Nat.le_of_ble_eq_true rfl) hRf, Nat.le_trans (Nat.le_of_ble_eq_true rfl) hRl⟩) (kB_preV hE hR hS 200 rfl rfl []) rfl rfl hl.1 rfl (lv_room (Nat.le_of_ble_eq_true rfl)) dL_law_1079 ⟨by omega, by omega⟩) hS (fun r3 u3 H locs ht hR hS => ?_)
  obtain ⟨ht, rfl⟩ := ht
  have hR : tR D vwCl base ad (tC (wP n ad cs) u2.1 u2.2) H := hR
  refine lv_iload hx hb dL_law_1082 (lv_at hl 1 rfl) ?_
  refine lv_icmp_eq (tgt := 1089) hx hb dL_law_1084 (by decide) (fun _ => ?_) (fun c9 => absurd (ht.trans hop.1) c9)
  refine lv_iload hx hb dL_law_1089 (lv_at hl 1 rfl) ?_
  refine lv_if_ne (tgt := 1106) hx hb dL_law_1091 (by decide) (fun c1 => ?_) (fun c1 => ?_)
  · refine lv_goto (tgt := 1109) hx hb dL_law_1106 (by decide) ?_
    exact kx u2 H locs ls hop.2.2 hR hS (lv_sub hl [2, 3, 4, 5, 6] rfl)
  · refine lv_aload_n hx hb dL_law_1094 rfl (lv_at hl 5 rfl) ?_
    refine lv_iconst (v := nI 0) hx hb dL_law_1095 (by decide) ?_
    refine tp_lald hx hb hK0 hR 220 1 (fun _ _ => rfl) rfl 0 rfl (by omega) (by decide) dL_law_1096 ?_
    refine lv_iload hx hb dL_law_1097 (lv_at hl 0 rfl) ?_
    refine lv_i2l hx hb dL_law_1099 rfl ?_
    refine W.lcmp hx hb dL_law_1100 ?_
    refine lv_if_eq (tgt := 1106) hx hb dL_law_1101 (by decide) (fun _ => ?_) (fun c9 => absurd ((lg_cmp_eq _ _).mpr (hop.2.1 c1)) c9)
    refine lv_goto (tgt := 1109) hx hb dL_law_1106 (by decide) ?_
    exact kx u2 H locs ls hop.2.2 hR hS (lv_sub hl [2, 3, 4, 5, 6] rfl)
set_option maxHeartbeats 4000000 in
set_option maxRecDepth 100000 in
/-- the law's loop: t calls are made, j is its place in the script -/
theorem lp_law (S0 : CallFix p m c cL_law 7 s args wLw RL) (hE : eV D cs base sa s) (hl0 : l.stackTraces = false) {sb N : Nat} {xs : Nat → Int32} (hX : va_X sb N xs s s.heap) (hbl : sb < s.heap.size) (hbA : ¬ base ≤ sb) (hN : N ≤ 2600) {c0 s0 : Nat} (hRf : 11 ≤ R.frames) (hRl : 300 ≤ R.locals) (hRc : c0 + 2700 ≤ R.cells) (hRs : s0 + 16000 ≤ R.slots) {se : Int32}
    (kx : ∀ (H : Heap) (locs : List Loc) (ls : Array Slot), va_S (fun q => base ≤ q) s.heap H locs → W p l e R s m args below meth c H locs (c0 + 2700) (s0 + 16000) Q (F0 m 1115 ls [])) :
    ∀ (k t : Nat) (I : tI) (L : tL) (H : Heap) (locs : List Loc) (ls : Array Slot), t ≤ 520 → 521 ≤ t + k → lJ n (100 * t) se I L → tR D vwCl base ad (tC (wP n ad cs) I L) H → va_S (fun q => base ≤ q) s.heap H locs → lv_has ls 7 [(0, .ref sb), (1, .ref (ad 0)), (2, .ref (ad 200)), (3, .ref (ad 220)), (4, .int (nI (2 + 5 * t)))] → W p l e R s m args below meth c H locs (c0 + 5 * t) (s0 + 30 * t) Q (F0 m 43 ls []) := by
  have S1 := S0
  obtain ⟨hx, hb, hml, hown, hts⟩ := S0
  intro k
  induction k with
  | zero => intro t I L H locs ls h1 h2; exact absurd h2 (by omega)
  | succ k ih =>
    intro t I L H locs ls ht hk hJ hR hS hl
    refine lv_iload hx hb dL_law_43 (lv_at hl 4 rfl) ?_
    refine lv_aload_n hx hb dL_law_45 rfl (lv_at hl 0 rfl) ?_
    refine va_slen hx hb hX hbl hbA hS dL_law_46 ?_
    refine lv_iconst (v := nI 5) hx hb dL_law_47 (by decide) ?_
    refine lv_isub hx hb dL_law_48 ?_
    refine lv_icmp_gt (tgt := 1115) hx hb dL_law_49 (by decide) (fun c1 => ?_) (fun c1 => ?_)
    · refine W.widen (k := c0 + 2700) (n := s0 + 16000) (by omega) (by omega) ?_
      exact kx H locs ls hS
    · have hj := hd_f (by omega) (by omega) c1
      refine lv_aload_n hx hb dL_law_52 rfl (lv_at hl 0 rfl) ?_
      refine lv_iload hx hb dL_law_53 (lv_at hl 4 rfl) ?_
      refine va_sld hx hb hX hbl hbA hS (vp_in_nI (by omega) (by omega)) dL_law_55 ?_
      rw [nI_clamp (by omega)]
      refine lv_bipush (v := 15) hx hb dL_law_56 (by decide) ?_
      refine lv_iand hx hb dL_law_58 ?_
      obtain ⟨q9, hq9, e9⟩ := and15 (xs (2 + 5 * t))
      rw [e9]
      have kx9 : ∀ (u : tI × tL) (H : Heap) (locs : List Loc) (ls : Array Slot), lJ n (100 * t + 100) se u.1 u.2 → tR D vwCl base ad (tC (wP n ad cs) u.1 u.2) H → va_S (fun q => base ≤ q) s.heap H locs → lv_has ls 7 [(0, .ref sb), (1, .ref (ad 0)), (2, .ref (ad 200)), (3, .ref (ad 220)), (4, .int (nI (2 + 5 * t)))] → W p l e R s m args below meth c H locs (c0 + 5 * t + 5) (s0 + 30 * t + 30) Q (F0 m 1109 ls []) := fun u H locs ls hJ hR hS hl => by
        refine lv_iinc (v := nI (2 + 5 * (t + 1))) (lv' := [(4, .int (nI (2 + 5 * (t + 1)))), (0, .ref sb), (1, .ref (ad 0)), (2, .ref (ad 200)), (3, .ref (ad 220))]) hx hb dL_law_1109 hl (k := 4) rfl (nI_add _ 5) (by decide) rfl (fun ls hl => ?_)
        refine lv_goto (tgt := 43) hx hb dL_law_1112 (by decide) ?_
        refine W.widen (k := c0 + 5 * (t + 1)) (n := s0 + 30 * (t + 1)) (by omega) (by omega) ?_
        exact ih (t + 1) u.1 u.2 H locs ls (by omega) (by omega) (by rw [show 100 * (t + 1) = 100 * t + 100 by omega]; exact hJ) hR hS (lv_sub hl [1, 2, 3, 4, 0] rfl)
      rcases (by omega : q9 = 0 ∨ q9 = 1 ∨ q9 = 2 ∨ q9 = 3 ∨ q9 = 4 ∨ q9 = 5 ∨ q9 = 6 ∨ q9 = 7 ∨ q9 = 8 ∨ q9 = 9 ∨ q9 = 10 ∨ q9 = 11 ∨ q9 = 12 ∨ q9 = 13 ∨ q9 = 14 ∨ q9 = 15) with rfl | rfl | rfl | rfl | rfl | rfl | rfl | rfl | rfl | rfl | rfl | rfl | rfl | rfl | rfl | rfl
      · refine lv_tableIn (tgt := 136) hx hb dL_law_59 (by decide) (by decide) rfl (by decide) ?_
        exact sg_date S1 hE hl0 hX hbl hbA hN hRf hRl (by omega) (by omega) (by omega) hj I L hJ kx9 H locs ls hR hS hl
      · refine lv_tableIn (tgt := 204) hx hb dL_law_59 (by decide) (by decide) rfl (by decide) ?_
        exact sg_weight S1 hE hl0 hX hbl hbA hN hRf hRl (by omega) (by omega) (by omega) hj I L hJ kx9 H locs ls hR hS hl
      · refine lv_tableIn (tgt := 284) hx hb dL_law_59 (by decide) (by decide) rfl (by decide) ?_
        exact sg_before S1 hE hl0 hX hbl hbA hN hRf hRl (by omega) (by omega) (by omega) hj I L hJ kx9 H locs ls hR hS hl
      · refine lv_tableIn (tgt := 376) hx hb dL_law_59 (by decide) (by decide) rfl (by decide) ?_
        exact sg_member S1 hE hl0 hX hbl hbA hN hRf hRl (by omega) (by omega) (by omega) hj I L hJ kx9 H locs ls hR hS hl
      · refine lv_tableIn (tgt := 444) hx hb dL_law_59 (by decide) (by decide) rfl (by decide) ?_
        exact sg_burn S1 hE hl0 hX hbl hbA hN hRf hRl (by omega) (by omega) (by omega) hj I L hJ kx9 H locs ls hR hS hl
      · refine lv_tableIn (tgt := 500) hx hb dL_law_59 (by decide) (by decide) rfl (by decide) ?_
        exact sg_thin S1 hE hl0 hX hbl hbA hN hRf hRl (by omega) (by omega) (by omega) hj I L hJ kx9 H locs ls hR hS hl
      · refine lv_tableIn (tgt := 556) hx hb dL_law_59 (by decide) (by decide) rfl (by decide) ?_
        exact sg_start S1 hE hl0 hX hbl hbA hN hRf hRl (by omega) (by omega) (by omega) hj I L hJ kx9 H locs ls hR hS hl
      · refine lv_tableIn (tgt := 569) hx hb dL_law_59 (by decide) (by decide) rfl (by decide) ?_
        exact sg_run S1 hE hl0 hX hbl hbA hN hRf hRl (by omega) (by omega) (by omega) hj I L hJ kx9 H locs ls hR hS hl
      · refine lv_tableIn (tgt := 625) hx hb dL_law_59 (by decide) (by decide) rfl (by decide) ?_
        exact sg_at S1 hE hl0 hX hbl hbA hN hRf hRl (by omega) (by omega) (by omega) hj I L hJ kx9 H locs ls hR hS hl
      · refine lv_tableIn (tgt := 705) hx hb dL_law_59 (by decide) (by decide) rfl (by decide) ?_
        exact sg_counted S1 hE hl0 hX hbl hbA hN hRf hRl (by omega) (by omega) (by omega) hj I L hJ kx9 H locs ls hR hS hl
      · refine lv_tableIn (tgt := 773) hx hb dL_law_59 (by decide) (by decide) rfl (by decide) ?_
        exact sg_apart S1 hE hl0 hX hbl hbA hN hRf hRl (by omega) (by omega) (by omega) hj I L hJ kx9 H locs ls hR hS hl
      · refine lv_tableIn (tgt := 829) hx hb dL_law_59 (by decide) (by decide) rfl (by decide) ?_
        exact sg_agreement S1 hE hl0 hX hbl hbA hN hRf hRl (by omega) (by omega) (by omega) hj I L hJ kx9 H locs ls hR hS hl
      · refine lv_tableIn (tgt := 885) hx hb dL_law_59 (by decide) (by decide) rfl (by decide) ?_
        exact sg_spans S1 hE hl0 hX hbl hbA hN hRf hRl (by omega) (by omega) (by omega) hj I L hJ kx9 H locs ls hR hS hl
      · refine lv_tableIn (tgt := 953) hx hb dL_law_59 (by decide) (by decide) rfl (by decide) ?_
        exact sg_save S1 hE hl0 hX hbl hbA hN hRf hRl (by omega) (by omega) (by omega) hj I L hJ kx9 H locs ls hR hS hl
      · refine lv_tableIn (tgt := 997) hx hb dL_law_59 (by decide) (by decide) rfl (by decide) ?_
        exact sg_back S1 hE hl0 hX hbl hbA hN hRf hRl (by omega) (by omega) (by omega) hj I L hJ kx9 H locs ls hR hS hl
      · refine lv_tableIn (tgt := 1053) hx hb dL_law_59 (by decide) (by decide) rfl (by decide) ?_
        exact sg_count S1 hE hl0 hX hbl hbA hN hRf hRl (by omega) (by omega) (by omega) hj I L hJ kx9 H locs ls hR hS hl
end L2
