/-! THE CLAIM OUT OF ONE WALK OF THE LAW'S BODY. Your part is whole_start (and what it stands on); all else here is the same for every law, but numbers. -/
def R_law : String := "SeedChainsLaw"
def lw_P (b : Addr) (xs : List Int32) (args : Array Value) (s : State) : Prop := args = #[.ref b] ∧ s.IntsAt b xs ∧ xs.length ≤ 2562 ∧ (Jvm.Cond.and given_1 narrow_1).before args s = true
def lw_Q (_ : Array Value) (s : State) (o : Outcome) (t : State) : Prop := o = .returned (some (.int 1)) ∧ Framed s o t [] 601024 7293000
def lw_Z (below : List Frame) (a : Array Value) (s : State) : State → Prop := fun t => ∃ o, t.status = .running ∧ Ended t below o ∧ lw_Q a s o t
/-- the law's own end, with 1 on the stack, nothing written that was there before, its room as the claim has it -/
theorem lw_ret {p : Program} {l : Launch} {e : Env} {s : State} {m : MethodId} {below : List Frame} {meth : Method} {c : Code} {b : Nat} (hx : p.tables.exec = Jvm.exec) (hb : c.code = code) (hr : meth.sig.returnType = ret) (hlocks : meth.locks = false) {pc : Nat} {H : Heap} {ls : Array Slot} (hdg : decode code pc = .ok (.ireturn, 1)) : W p l e room_1 s m #[Value.ref b] below meth c H [] 601024 7293000 (lw_Z below #[Value.ref b] s) (F0 m pc ls [.int 1]) := by
  intro T hT X
  obtain ⟨fs, hret, hrun, hended, hW, hframe⟩ := X.leave (v := some (.int 1)) (hlocks := hlocks) (fun h => by rw [hr] at h; cases h)
  have hmeth' : T.vm.method? m = some meth := X.method'
  refine ⟨T.setFrames fs, ?_, .returned (some (.int 1)), hrun, hended, rfl, ⟨_, rfl⟩, hW, hframe⟩
  jvm_step X.here [X.here.top, hx, hb, hdg, hmeth', hr, ret, narrow_b1]
  (try refine ⟨rfl, ?_⟩); (try refine ⟨rfl, ?_⟩)
  first | (intro acts; rw [hret _ acts rfl rfl rfl]) | rw [hret _ _ rfl rfl rfl]
  exact Steps.refl _
/-- what holds at the law's entry: the machine, the code, the tables' words (any of lw_tbl by 'hts w (by decide +kernel)'), the script of L ints xs at the cell b, what the Statement gives of the start (any of its parts by flat_of_before) -/
def lw_At (p : Program) (s : State) (m : MethodId) (meth : Method) (c : Code) (b L : Nat) (xs : Nat → Int32) : Prop :=
  p.tables.exec = Jvm.exec ∧ c.code = code ∧ meth.sig.returnType = ret ∧ c.maxLocals = 7 ∧ s.vm.findClass R_law = some m.cls ∧ (∀ w ∈ lw_tbl, w.before #[Value.ref b] s = true) ∧ va_X b L xs s s.heap ∧ b < s.heap.size ∧ meth.locks = false ∧ (Jvm.Cond.and given_1 narrow_1).before #[Value.ref b] s = true
/-! THE LAW FROM ITS ENTRY -/
set_option maxHeartbeats 4000000 in
set_option maxRecDepth 100000 in
theorem ev_start {s : State} {args : Array Value} (hts : ∀ w ∈ lw_tbl, w.before args s = true) (hgv : (Jvm.Cond.and given_1 narrow_1).before args s = true) : ∃ (D : va_G) (cs : Nat → ClassId) (sa : Nat → Nat), eV D cs s.heap.size sa s := by
  have hT : ∀ w ∈ tables_1, w.before args s = true := fun w h => hts w (List.mem_append_right _ h)
  have hF := flat_of_before _ hgv
  obtain ⟨c0, iS0, hKn0⟩ := u_known (C := RX0) (T := TX0) (N := 5) (n := 5) hts (fun w h => wAll_tbl (inX0 w h)) (hts _ (wAll_tbl k73))
  obtain ⟨c1, iS1, hKn1⟩ := u_known (C := RX1) (T := TX1) (N := 10) (n := 10) hts (fun w h => wAll_tbl (inX1 w h)) (hts _ (wAll_tbl k28))
  obtain ⟨c2, iS2, hKn2⟩ := u_known (C := RX2) (T := TX2) (N := 9) (n := 9) hts (fun w h => wAll_tbl (inX2 w h)) (hts _ (wAll_tbl k14))
  obtain ⟨c3, iS3, hKn3⟩ := u_known (C := RX3) (T := TX3) (N := 27) (n := 27) hts (fun w h => wAll_tbl (inX3 w h)) (hts _ (wAll_tbl k473))
  obtain ⟨a0, kA0, m0, g01, g02, g03⟩ := Cond.arrayClass_spec (type := .int) (hts _ (wAll_tbl k71))
  obtain ⟨a1, kA1, m1, g11, g12, g13⟩ := Cond.arrayClass_spec (type := .long) (hts _ (wAll_tbl k99))
  have hAO : va_AOA .int s := hT (Cond.arrayOver (.array .int)) (by decide +kernel)
  have hAO3 : va_AO "SeedChains$Course" s := hT (Cond.arrayOver (.object "SeedChains$Course")) (by decide +kernel)
  obtain ⟨m2, a2, kA2, _, _, g22, g23, g21⟩ := arrayOverA_spec hAO
  obtain ⟨m3, a3, kA3, g30, _, g32, g33, g31⟩ := Cond.arrayOver_spec hAO3
  refine ⟨(fun k => if k = 0 then c0 else if k = 1 then c1 else if k = 2 then c2 else c3, fun k => if k = 0 then iS0 else if k = 1 then iS1 else if k = 2 then iS2 else iS3), fun k => if k = 0 then a0 else if k = 1 then a1 else if k = 2 then a2 else a3, fun k => (match (Term.string "SeedChains" k).eval #[] s none [] s with | some (.ref a) => a | _ => 0), ⟨fun k q hq => ?_, fun k q hq => ?_⟩, ?_, ?_, ?_, ?_, ?_, hAO, hAO3, ?_, ?_⟩
  · match k, hq with
    | 0, hq => cases hq; exact hKn0
    | 1, hq => cases hq; exact hKn1
    | 2, hq => cases hq; exact hKn2
    | 3, hq => cases hq; exact hKn3
    | k + 4, hq => simp [vwCl] at hq
  · match k, hq with
    | 0, hq => cases hq; exact ⟨fun n z => ⟨fun k h => (by cases h), kA0, g02, m0, g03⟩, g01⟩
    | 1, hq => cases hq; exact ⟨fun n z => ⟨fun k h => (by cases h), kA1, g12, m1, g13⟩, g11⟩
    | 2, hq => cases hq; exact ⟨fun n z => ⟨fun k h => (by cases h), kA2, g22, m2, g23⟩, g21⟩
    | 3, hq => cases hq; exact ⟨fun n z => ⟨fun k h => (by cases h), kA3, g32, m3, g33⟩, kA3, m3, g32, g33, g30, g31⟩
    | k + 4, hq => simp [tyL] at hq
  · exact fun q hq => va_Nw.of rfl (hT _ ((by decide +kernel : ∀ q ∈ nF, Cond.fieldLinkNest "SeedChains" q.1 q.2.1 q.2.2.1 q.2.2.2 "SeedChains" ∈ tables_1) q hq))
  · exact fun q hq => va_Nw.of rfl (hT _ ((by decide +kernel : ∀ q ∈ nM, Cond.methodLinkNest "SeedChains" q.1 q.2 "SeedChains" ∈ tables_1) q hq))
  · intro q hq
    obtain ⟨a, _, _, _, h1, _⟩ := Cond.exactly_spec (args := args) (first := s) (o := none) (s := s) (idx := []) (t := .string "SeedChains" q.1) (cls := "java/lang/String") (hF _ ((by decide +kernel : ∀ q ∈ nT, Cond.exactly (.string "SeedChains" q.1) "java/lang/String" ∈ flatC (Jvm.Cond.and given_1 narrow_1)) q hq))
    have h2 : (Term.string "SeedChains" q.1).eval #[] s none [] s = some (.ref a) := h1
    refine vk_R.of (A := args) (hT _ ((by decide +kernel : ∀ q ∈ nT, Cond.stringRef "SeedChains" q.1 q.2 ∈ tables_1) q hq)) ?_
    show (Term.string "SeedChains" q.1).eval #[] s none [] s = some (.ref (match (Term.string "SeedChains" q.1).eval #[] s none [] s with | some (.ref a) => a | _ => 0))
    rw [h2]
  · exact vx_Zqof (C := Bundle.tN) (n := "UNASSIGNED_STACK") (d := Bundle.steD) (hT _ (by decide +kernel)) (hT _ (by decide +kernel)) (hF _ (by decide +kernel)) (fun a h => Nat.not_le.mpr h)
  · exact vx_Zqof (C := Bundle.tN) (n := "SUPPRESSED_SENTINEL") (d := Bundle.listD) (hT _ (by decide +kernel)) (hT _ (by decide +kernel)) (hF _ (by decide +kernel)) (fun a h => Nat.not_le.mpr h)
  · exact fun w hw => va_Nw.of ((by decide +kernel : ∀ w ∈ xW, w.onTables = true) w hw) (hT _ ((by decide +kernel : ∀ w ∈ xW, w ∈ tables_1) w hw))
  · exact fun q hq => va_Nc.of (hF _ ((by decide +kernel : ∀ q ∈ xN, Cond.not (.castable q.1 q.2) ∈ flatC (Jvm.Cond.and given_1 narrow_1)) q hq))
theorem law_go {p : Program} {l : Launch} {e : Env} {R : Room} {s : State} {m : MethodId} {args : Array Value} {below : List Frame} {meth : Method} {c : Code} {Q : State → Prop} {D : va_G} {cs : Nat → ClassId} {base : Nat} {sa : Nat → Nat} {n : Nat} {ad : Nat → Nat} (S0 : CallFix p m c cL_law 7 s args wLw RL) (hE : eV D cs base sa s) (hl0 : l.stackTraces = false) {sb N : Nat} {xs : Nat → Int32} (hX : va_X sb N xs s s.heap) (hbl : sb < s.heap.size) (hbA : ¬ base ≤ sb) (hN : N ≤ 2600) {c0 s0 : Nat} (hRf : 11 ≤ R.frames) (hRl : 300 ≤ R.locals) (hRc : c0 + 2700 ≤ R.cells) (hRs : s0 + 16000 ≤ R.slots) {se : Int32} {I : tI} {L : tL} {H : Heap} {locs : List Loc} {ls : Array Slot} {q0 q200 q220 : Nat} (e0 : ad 0 = q0) (e200 : ad 200 = q200) (e220 : ad 220 = q220) (hJ : lJ n 0 se I L) (hR : tR D vwCl base ad (tC (wP n ad cs) I L) H) (hS : va_S (fun q => base ≤ q) s.heap H locs) (hl : lv_has ls 7 [(4, .int (nI 2)), (3, .ref q220), (2, .ref q200), (1, .ref q0), (0, .ref sb)])
    (kx : ∀ (H : Heap) (locs : List Loc) (ls : Array Slot), va_S (fun q => base ≤ q) s.heap H locs → W p l e R s m args below meth c H locs (c0 + 2700) (s0 + 16000) Q (F0 m 1115 ls [])) : W p l e R s m args below meth c H locs c0 s0 Q (F0 m 43 ls []) := by
  subst e0
  subst e200
  subst e220
  exact lp_law S0 hE hl0 hX hbl hbA hN hRf hRl hRc hRs kx 521 0 I L H locs ls (by omega) (by omega) hJ hR hS (lv_sub hl [4, 3, 2, 1, 0] rfl)
set_option maxHeartbeats 4000000 in
set_option maxRecDepth 100000 in
/-- THE LAW, from its entry -/
theorem whole_start {p : Program} {e : Env} {s : State} {m : MethodId} {below : List Frame} {meth : Method} {c : Code} (l : Launch) (hl0 : l.stackTraces = false) {b L : Nat} {xs : Nat → Int32} (hL : L ≤ 2562) (C0 : lw_At p s m meth c b L xs) : W p l e room_1 s m #[Value.ref b] below meth c s.heap [] 0 0 (lw_Z below #[Value.ref b] s) (entryFrame m ([Value.ref b] : List Value).toArray 7) := by
  obtain ⟨hx, hb, hr, hml, hown, hts0, hX, hbl, hlocks, hgv⟩ := id C0
  obtain ⟨D, cs, sa, hE⟩ := ev_start hts0 hgv
  have hts : ∀ w ∈ wLw, w.before #[Value.ref b] s = true := fun w hw => hts0 w ((List.mem_cons.mp hw).elim (fun q => by rw [q]; exact wAll_tbl k0) wAll_tbl)
  have hbA : ¬ s.heap.size ≤ b := Nat.not_le.mpr hbl
  have hK := hE.K
  have hS : va_S (fun q => s.heap.size ≤ q) s.heap s.heap [] := va_S.rf
  have hA9 : s.heap.size ≤ s.heap.size := Nat.le_refl _
  have hR : tR D vwCl s.heap.size (fun _ => 0) (fun _ => none) s.heap := ⟨[], fun k q h => by simp at h, ⟨fun i j p q h => by simp at h, fun k q h => by simp at h⟩, fun k e h => (by cases h), fun i j ei ej h => (by cases h)⟩
  have hl := lv_entry ([.ref b]) (n := 7) (Nat.le_of_ble_eq_true rfl)
  rw [lg_entry_eq]
  generalize (lg_sl ([.ref b]) ++ List.replicate (7 - (lg_sl ([.ref b])).length) Slot.unset).toArray = ls at hl ⊢
  have hl : lv_has ls 7 [(0, .ref b)] := hl
  refine tb_new (fs := [.int 0, .int 0, .null, .null, .null, .int 0, .int 0, .int 0, .int 0]) hx hb hts (fun w h => List.mem_cons_of_mem _ (inX2 w h)) tyX2 tyX2_ok hown (hts _ (List.mem_cons_of_mem _ k13)) (hts _ (List.mem_cons_of_mem _ k14)) (hts _ (List.mem_cons_of_mem _ k1)) hK hR hS hA9 0 (rfl) (ci := 2) rfl (fun j hj => by rcases (show j = 0 ∨ j = 1 ∨ j = 2 ∨ j = 3 ∨ j = 4 ∨ j = 5 ∨ j = 6 ∨ j = 7 ∨ j = 8 by omega) with rfl | rfl | rfl | rfl | rfl | rfl | rfl | rfl | rfl <;> rfl) (Nat.le_of_ble_eq_true rfl) (Nat.le_of_ble_eq_true rfl) dL_law_0 (fun q0 H hR hS => ?_)
  refine lv_dup hx hb dL_law_3 rfl ?_
  refine lv_aload_n hx hb dL_law_4 rfl (lv_at hl 0 rfl) ?_
  refine lv_iconst (v := nI 0) hx hb dL_law_5 (by decide) ?_
  refine kl_i (va_runS (As := [.ref b, .int (nI 0)]) (rest := [.ref q0, .ref q0]) ⟨hx, hb, hml, hown, hts⟩ (mL_cell (ad := va_up (fun _ => 0) 0 q0) b L 0 xs (va_up (fun _ => none) 0 _) (by omega) (by decide)) (va_cwS 2 hts (kw_S k146 k147 k0 k148) rfl rfl rfl (by decide +kernel) ⟨(Nat.le_of_ble_eq_true rfl), (Nat.le_of_ble_eq_true rfl)⟩) (kL_pre hX hbl hbA hR hS [.ref b, .int (nI 0)]) rfl rfl hl.1 rfl (lv_room (Nat.le_of_ble_eq_true rfl)) dL_law_6 ⟨(Nat.le_of_ble_eq_true rfl), (Nat.le_of_ble_eq_true rfl)⟩) hS (fun ra H locs hra hR hS => ?_)
  refine lv_aload_n hx hb dL_law_9 rfl (lv_at hl 0 rfl) ?_
  refine lv_iconst (v := nI 1) hx hb dL_law_10 (by decide) ?_
  refine kl_i (va_runS (As := [.ref b, .int (nI 1)]) (rest := [.int ra, .ref q0, .ref q0]) ⟨hx, hb, hml, hown, hts⟩ (mL_cell (ad := va_up (fun _ => 0) 0 q0) b L 1 xs (va_up (fun _ => none) 0 _) (by omega) (by decide)) (va_cwS 2 hts (kw_S k146 k147 k0 k148) rfl rfl rfl (by decide +kernel) ⟨(Nat.le_of_ble_eq_true rfl), (Nat.le_of_ble_eq_true rfl)⟩) (kL_pre hX hbl hbA hR hS [.ref b, .int (nI 1)]) rfl rfl hl.1 rfl (lv_room (Nat.le_of_ble_eq_true rfl)) dL_law_11 ⟨(Nat.le_of_ble_eq_true rfl), (Nat.le_of_ble_eq_true rfl)⟩) hS (fun rb H locs hrb hR hS => ?_)
  refine kg_v (va_runI (As := [.int ra, .int rb]) (rest := [.ref q0]) ⟨hx, hb, hml, hown, hts⟩ (mX2_init (n := (chN rb)) (ad := va_up (fun _ => 0) 0 q0) q0 ra rb (va_up (fun _ => none) 0 _) up_s rfl up_s (fun k h1 h2 => up_n (by omega) rfl)) (cwI 2 hts (kw_I k17) rfl rfl rfl (hts _ (List.mem_cons_of_mem _ k1)) (hts _ (List.mem_cons_of_mem _ k15)) (hts _ (List.mem_cons_of_mem _ k16)) rfl (by decide +kernel) ⟨(Nat.le_of_ble_eq_true rfl), (Nat.le_of_ble_eq_true rfl)⟩) (kG_pre hE hR hS [.ref q0, .int ra, .int rb]) rfl rfl hl.1 rfl (lv_room (Nat.le_of_ble_eq_true rfl)) dL_law_14 ⟨(Nat.le_of_ble_eq_true rfl), (Nat.le_of_ble_eq_true rfl)⟩) hS (fun ad2 H locs hwad2 hR hS => ?_)
  refine lv_astore_n (lv' := [(1, .ref q0), (0, .ref b)]) hx hb dL_law_17 rfl hl (by decide) rfl (fun ls hl => ?_)
  refine tb_new (fs := [.int 0, .int 0, .int 0, .int 0, .null, .null, .null, .null, .int 0, .null, .null, .null, .null, .int 0, .int 0, .int 0, .int 0, .int 0, .null, .null, .null, .int 0, .null, .null, .null, .null, .null]) hx hb hts (fun w h => List.mem_cons_of_mem _ (inX3 w h)) tyX3 tyX3_ok hown (hts _ (List.mem_cons_of_mem _ k472)) (hts _ (List.mem_cons_of_mem _ k473)) (hts _ (List.mem_cons_of_mem _ k5)) hK hR hS hA9 200 (if_neg (by omega)) (ci := 3) rfl (fun j hj => by rcases (show j = 0 ∨ j = 1 ∨ j = 2 ∨ j = 3 ∨ j = 4 ∨ j = 5 ∨ j = 6 ∨ j = 7 ∨ j = 8 ∨ j = 9 ∨ j = 10 ∨ j = 11 ∨ j = 12 ∨ j = 13 ∨ j = 14 ∨ j = 15 ∨ j = 16 ∨ j = 17 ∨ j = 18 ∨ j = 19 ∨ j = 20 ∨ j = 21 ∨ j = 22 ∨ j = 23 ∨ j = 24 ∨ j = 25 ∨ j = 26 by omega) with rfl | rfl | rfl | rfl | rfl | rfl | rfl | rfl | rfl | rfl | rfl | rfl | rfl | rfl | rfl | rfl | rfl | rfl | rfl | rfl | rfl | rfl | rfl | rfl | rfl | rfl | rfl <;> rfl) (Nat.le_of_ble_eq_true rfl) (Nat.le_of_ble_eq_true rfl) dL_law_18 (fun q200 H hR hS => ?_)
  refine lv_dup hx hb dL_law_21 rfl ?_
  refine lv_aload_n hx hb dL_law_22 rfl (lv_at hl 1 rfl) ?_
  refine lv_iconst (v := nI 0) hx hb dL_law_23 (by decide) ?_
  refine kl_i (va_runS (As := [.ref b, .int (nI 0)]) (rest := [.ref q200, .ref q200]) ⟨hx, hb, hml, hown, hts⟩ (mL_cell (ad := va_up ad2 200 q200) b L 0 xs (va_up (fun k => if k < 200 then wP (chN rb) ad2 cs k (i0 ra (chN rb) k) (fun _ => 0) else none) 200 _) (by omega) (by decide)) (va_cwS 2 hts (kw_S k146 k147 k0 k148) rfl rfl rfl (by decide +kernel) ⟨(Nat.le_of_ble_eq_true rfl), (Nat.le_of_ble_eq_true rfl)⟩) (kL_pre hX hbl hbA hR hS [.ref b, .int (nI 0)]) rfl rfl hl.1 rfl (lv_room (Nat.le_of_ble_eq_true rfl)) dL_law_24 ⟨(Nat.le_of_ble_eq_true rfl), (Nat.le_of_ble_eq_true rfl)⟩) hS (fun rc H locs hrc hR hS => ?_)
  obtain rfl : ra = rc := hra.trans hrc.symm
  refine lv_aload_n hx hb dL_law_27 rfl (lv_at hl 1 rfl) ?_
  refine lv_iconst (v := nI 1) hx hb dL_law_28 (by decide) ?_
  refine kl_i (va_runS (As := [.ref b, .int (nI 1)]) (rest := [.int ra, .ref q200, .ref q200]) ⟨hx, hb, hml, hown, hts⟩ (mL_cell (ad := va_up ad2 200 q200) b L 1 xs (va_up (fun k => if k < 200 then wP (chN rb) ad2 cs k (i0 ra (chN rb) k) (fun _ => 0) else none) 200 _) (by omega) (by decide)) (va_cwS 2 hts (kw_S k146 k147 k0 k148) rfl rfl rfl (by decide +kernel) ⟨(Nat.le_of_ble_eq_true rfl), (Nat.le_of_ble_eq_true rfl)⟩) (kL_pre hX hbl hbA hR hS [.ref b, .int (nI 1)]) rfl rfl hl.1 rfl (lv_room (Nat.le_of_ble_eq_true rfl)) dL_law_29 ⟨(Nat.le_of_ble_eq_true rfl), (Nat.le_of_ble_eq_true rfl)⟩) hS (fun rd H locs hrd hR hS => ?_)
  obtain rfl : rb = rd := hrb.trans hrd.symm
  refine kg_v (va_runI (As := [.int ra, .int rb]) (rest := [.ref q200]) ⟨hx, hb, hml, hown, hts⟩ (mX3_init (n := (chN rb)) (ad := va_up ad2 200 q200) q200 ra rb (va_up (fun k => if k < 200 then wP (chN rb) ad2 cs k (i0 ra (chN rb) k) (fun _ => 0) else none) 200 _) up_s rfl up_s (fun k h1 h2 => up_n (by omega) (if_neg (by omega)))) (cwI 2 hts (kw_I k476) rfl rfl rfl (hts _ (List.mem_cons_of_mem _ k5)) (hts _ (List.mem_cons_of_mem _ k474)) (hts _ (List.mem_cons_of_mem _ k475)) rfl (by decide +kernel) ⟨(Nat.le_of_ble_eq_true rfl), (Nat.le_of_ble_eq_true rfl)⟩) (kG_pre hE hR hS [.ref q200, .int ra, .int rb]) rfl rfl hl.1 rfl (lv_room (Nat.le_of_ble_eq_true rfl)) dL_law_32 ⟨(Nat.le_of_ble_eq_true rfl), (Nat.le_of_ble_eq_true rfl)⟩) hS (fun ad3 H locs hwad3 hR hS => ?_)
  refine lv_astore_n (lv' := [(2, .ref q200), (1, .ref q0), (0, .ref b)]) hx hb dL_law_35 rfl hl (by decide) rfl (fun ls hl => ?_)
  refine lv_iconst (v := nI 1) hx hb dL_law_36 (by decide) ?_
  refine tb_newa (atype := .long) hx hb (hts _ (List.mem_cons_of_mem _ k99)) (ty := .long) rfl hK hR hS hA9 220 (moC_n (by omega) (up_n (by omega) (if_neg (by omega)))) 1 rfl (N' := 1) (a0 := (1, .inr (.inl (fun _ => 0)))) (fun _ => rfl) (by decide) (by decide) (by decide) (Nat.le_of_ble_eq_true rfl) (Nat.le_of_ble_eq_true rfl) dL_law_37 (fun q220 H hR hS => ?_)
  refine lv_astore_n (lv' := [(3, .ref q220), (2, .ref q200), (1, .ref q0), (0, .ref b)]) hx hb dL_law_39 rfl hl (by decide) rfl (fun ls hl => ?_)
  refine lv_iconst (v := nI 2) hx hb dL_law_40 (by decide) ?_
  refine lv_istore (lv' := [(4, .int (nI 2)), (3, .ref q220), (2, .ref q200), (1, .ref q0), (0, .ref b)]) hx hb dL_law_41 hl (by decide) rfl (fun ls hl => ?_)
  have hn4 := ch_b rb
  refine W.widen (k := 100) (n := 22100) (Nat.le_of_ble_eq_true rfl) (Nat.le_of_ble_eq_true rfl) ?_
  refine law_go (l := l) (se := ra) (n := (chN rb)) ⟨hx, hb, hml, hown, hts⟩ hE hl0 hX hbl hbA (by omega) (Nat.le_of_ble_eq_true rfl) (Nat.le_of_ble_eq_true rfl) (Nat.le_of_ble_eq_true rfl) (Nat.le_of_ble_eq_true rfl) (up_n (by omega) ((hwad3 0 (by omega)).trans (up_n (by omega) (hwad2.trans up_s)))) (up_n (by omega) ((hwad3 200 (by omega)).trans up_s)) up_s (lJ_0 ra hn4.1 hn4.2) (hR.less (l0_fin hn4.2 hwad3)) hS hl (fun H locs ls hS => ?_)
  refine lv_iconst (v := 1) hx hb dL_law_1115 (by decide) ?_
  refine va_forget (fun q hq => hS.2.2 q hq) ?_
  refine W.widen (k := 601024) (n := 7293000) (Nat.le_of_ble_eq_true rfl) (Nat.le_of_ble_eq_true rfl) ?_
  exact lw_ret hx hb hr hlocks dL_law_1116
