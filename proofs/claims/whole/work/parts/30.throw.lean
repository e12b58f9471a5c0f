section VN
variable {p : Program} {l : Launch} {e : Env} {R : Room} {s : State} {m : MethodId} {args : Array Value} {below : List Frame} {meth : Method} {c : Code} {H : Heap} {locs : List Loc} {cells slots : Nat} {Q : State → Prop}
variable {free : Addr → Prop} {ls : Array Slot} {rest : List Value} {Qc : Array Value → State → Outcome → State → Prop} {XC : String → State → State → Prop}
theorem vn_throw {cc : ByteArray} {pc : Nat} (hexec : p.tables.exec = Jvm.exec) (hb : c.code = cc) (hl : l.stackTraces = false) {text : String} {is mc ms sa : Nat} {A : Nat → Prop}
    (hown : s.vm.findClass "SeedChains" = some m.cls) 
    (hk : (Cond.classLink "SeedChains" 150 "java/util/NoSuchElementException").before args s = true) (hini : (Cond.initialized "java/util/NoSuchElementException").before args s = true) (hstr : vk_R "SeedChains" is text sa s) (hat : ∀ w ∈ nAt.filter vx_no, w.before args s = true)
    (hgood : ∀ w ∈ Cond.classLink "SeedChains" 150 "java/util/NoSuchElementException" :: Cond.initialized "java/util/NoSuchElementException" :: nAt.filter vx_no, vx_ot w = true)
    (hU : vx_Zq Bundle.tN "UNASSIGNED_STACK" Bundle.steD A s s.heap) (hN : vx_Zq Bundle.tN "SUPPRESSED_SENTINEL" Bundle.listD A s s.heap) (hS : va_S A s.heap H locs) (hsize : ls.size = c.maxLocals)
    (d0 : decode cc pc = .ok (.new 150, 3)) (d3 : decode cc (pc + 3) = .ok (.dup, 1)) (d4 : decode cc (pc + 4) = .ok (.ldc is, 2)) (d6 : decode cc (pc + 6) = .ok (.invokespecial 154, 3)) (d9 : decode cc (pc + 9) = .ok (.athrow, 1))
    (hout : ∀ x ∈ c.exceptionTable.toList, covers x (pc + 9) = false)
    (hRframes : 5 < R.frames) (hRlocals : (rest.map fun v => v.category).sum + 82 ≤ R.locals) (hRcells : cells + 1 ≤ R.cells) (hRslots : slots + 6 ≤ R.slots) (hlocks : meth.locks = false)
    (hx : ∀ t : State, s.vm.Alike t.vm → H.size ≤ t.heap.size → (∀ q : Nat, q < H.size → t.heap[q]? = H[q]?) → XC "java/util/NoSuchElementException" s t)
    (hf : ∀ z ∈ locs, free z.base) (hc : cells + 1 ≤ mc) (hs : slots + 6 ≤ ms) :
    W p l e R s m args below meth c H locs cells slots (vx_MQ below Qc XC args s mc ms free) (F0 m pc ls rest) := by
  intro T hT X
  have htr : e.platform.stackTraces = false := (show e.platform.stackTraces = l.stackTraces by rw [X.admits.platform]).trans hl
  have Y := vx_rebase X (R' := { frames := R.frames, locals := R.locals, cells := 1, slots := 6 }) (Nat.le_refl _) (Nat.le_refl _) hRcells hRslots
  obtain ⟨s', hA⟩ : ∃ z, z = (T.setVm s.vm).setFrames (.invoking m args :: below) := ⟨_, rfl⟩
  rw [← hA] at Y
  have hvm : s'.vm = s.vm := by rw [hA]; rfl
  have hhp : s'.heap = H := by rw [hA]; exact hT
  have hW0 : s.WarmedH s'.vm := by rw [hvm]; exact State.WarmedH.refl s
  have hat' : ∀ w ∈ nAt.filter vx_no, w.before args s' = true := fun w hw => vx_ot_at hW0 hvm.symm (hgood w (List.mem_cons_of_mem _ (List.mem_cons_of_mem _ hw))) (hat w hw)
  have hk' : (Cond.classLink "SeedChains" 150 "java/util/NoSuchElementException").before args s' = true := vx_ot_at hW0 hvm.symm (hgood _ List.mem_cons_self) hk
  have hini' : (Cond.initialized "java/util/NoSuchElementException").before args s' = true := vx_ot_at hW0 hvm.symm (hgood _ (List.mem_cons_of_mem _ List.mem_cons_self)) hini
  have hU' : vx_Zq Bundle.tN "UNASSIGNED_STACK" Bundle.steD A s' s'.heap := by rw [hhp]; exact vx_Zq.moved hW0.alike (hU.kept hS.2.1)
  have hN' : vx_Zq Bundle.tN "SUPPRESSED_SENTINEL" Bundle.listD A s' s'.heap := by rw [hhp]; exact vx_Zq.moved hW0.alike (hN.kept hS.2.1)
  have h : ∀ w ∈ nAt, w.before args s' = true := vx_own hat' (vx_isRefq hU'.1) (vx_isRefq hN'.1) hU'.2.word hN'.2.word
  have hown' : s'.vm.findClass "SeedChains" = some m.cls := by rw [hvm]; exact hown
  have hins : (Cond.instantiable "java/util/NoSuchElementException" 6).before args s' = true := h _ (nAt_5 (by simp [nTl]))
  obtain ⟨vm₁, cX, kX, hfX, hkX, -, -, X₁, st1⟩ := Y.newCold hexec (own := "SeedChains") (C := "java/util/NoSuchElementException") (index := 150) (n := 6) hown' hk' hins hini'
    (g := F0 m pc ls rest) rfl (by rw [hb]; exact d0) (Nat.le_refl _) (Nat.le_refl _)
  generalize hT1 : (T.setVm vm₁).pushCell { cls := cX, slots := kX.instanceTypes.map defaultValue, vm := .none } = T1 at X₁ st1
  have hcat : (Value.ref T.heap.size).category = 1 := rfl
  have hcellA : T1.heap[T.heap.size]? = some (freshCell cX kX) := by rw [← hT1]; exact State.heap_pushCell_size _ _
  have d3' : decode c.code (pc + 3) = .ok (.dup, 1) := by rw [hb]; exact d3
  have d4' : decode c.code (pc + 4) = .ok (.ldc is, 2) := by rw [hb]; exact d4
  have hstr' : vk_R "SeedChains" is text sa s' := vk_R.warm hW0 hstr
  obtain ⟨U, hsteps, hrun, hend, hW, hsame, ce, hce, hO1, hO2⟩ := ctorThrowN X₁ hexec htr hown' h (fun x hx => nomatch hx) hfX hkX hcellA (by rw [hhp, hT]; exact Nat.le_refl _) (msg := .ref sa) rfl
    (g := { method := m, pc := pc + 6, locals := ls, stack := .ref sa :: .ref T.heap.size :: .ref T.heap.size :: rest, locked := none }) rfl hsize rfl rfl (rest := rest) rfl
    (by rw [hb]; exact d6) (by rw [hb]; exact d9) hout hRframes (by simp only [List.map_cons, List.sum_cons, hcat]; omega) hlocks
  obtain ⟨f1, f2⟩ := vx_frame hsame
  rw [hhp] at f1 f2
  have hWs : s.WarmedH U.vm := State.WarmedH.trans hW0 hW
  have hcl : s.vm.findClass "java/util/NoSuchElementException" = some ce.cls := by
    have h9 := hO1
    rw [hvm] at h9
    exact h9
  have hall : s.sameButNew ({ U with vm := s.vm } : State) locs mc ms := by
    subst hA
    obtain ⟨e1, e2⟩ := hsame
    rw [State.setFrames_setFrames] at e1
    have h2 : (T.setVm s.vm).sameButNew ({ U with vm := s.vm } : State) [] (0 + 1) (0 + 6) := ⟨e1, e2⟩
    have h3 := X.same.trans h2
    rw [List.append_nil] at h3
    exact h3.mono hc hs
  refine ⟨U, ?_, .threw T.heap.size, hrun, hend, Or.inr ⟨T.heap.size, rfl, "java/util/NoSuchElementException", ce, locs, hx U hWs.alike f1 (fun q hq => f2 q hq (fun z hz => nomatch hz)), hce, hO2, hcl, hWs, hall, hf⟩⟩
  refine st1 _ ?_
  show Steps p.tables e below (T1.setTop { method := m, pc := pc + 3, locals := ls, stack := .ref T.heap.size :: rest, locked := none }) _
  jvm_step X₁.here [X₁.here.top, hexec, d3', Value.category]
  exact X₁.ldcString hexec (own := "SeedChains") (text := text) (index := is) (a := sa) hown' hstr'.1 hstr'.2
    (g := { method := m, pc := pc + 4, locals := ls, stack := .ref T.heap.size :: .ref T.heap.size :: rest, locked := none }) rfl d4' _ hsteps
end VN
theorem at_N {args : Array Value} {s : State} (hts : ∀ w ∈ wAll, w.before args s = true) (hx : ∀ w ∈ xW, va_Nw w s) : ∀ w ∈ nAt.filter vx_no, w.before args s = true :=
  vx_hat (B := xW) (fun w hw => hts w (wAll_of (List.mem_append_right _ ((by decide +kernel : ∀ w ∈ (nAt.filter vx_no).filter goodWord, w ∈ tables_1) w hw)) (List.mem_filter.mp hw).2)) (by decide +kernel) (xW_use hx)
theorem go_N : ∀ w ∈ Cond.classLink "SeedChains" 150 "java/util/NoSuchElementException" :: Cond.initialized "java/util/NoSuchElementException" :: nAt.filter vx_no, vx_ot w = true := by decide +kernel
section TH
variable {p : Program} {l : Launch} {e : Env} {R : Room} {s : State} {m : MethodId} {args : Array Value} {below : List Frame} {meth : Method} {c : Code} {H : Heap} {locs : List Loc} {cells slots : Nat}
variable {cc : ByteArray} {pc : Nat} {ls : Array Slot} {rest : List Value} {D : va_G} {cs : Nat → ClassId} {base : Nat} {sa : Nat → Nat} {n : Nat} {ad : Nat → Nat} {mc ms : Nat} {I : tI} {L : tL} {TH : String → Prop} {Qc : Array Value → State → Outcome → State → Prop}
theorem th_N (hexec : p.tables.exec = Jvm.exec) (hb : c.code = cc) (hl0 : l.stackTraces = false) (hown : s.vm.findClass "SeedChains" = some m.cls) {X9 : Cond} (hts : ∀ w ∈ X9 :: wAll, w.before args s = true) (hE : eV D cs base sa s) (hR : tR D vwCl base ad (tC (wP n ad cs) I L) H) (hS : va_S (fun q => base ≤ q) s.heap H locs) (hsize : ls.size = c.maxLocals) (is : Nat) (text : String) (hq : (is, text) ∈ nT) (d4 : decode cc (pc + 4) = .ok (.ldc is, 2)) (d3 : decode cc (pc + 3) = .ok (.dup, 1)) (d9 : decode cc (pc + 9) = .ok (.athrow, 1)) (htab : ∀ x ∈ c.exceptionTable.toList, False) (hlocks : meth.locks = false) (hRf : 5 < R.frames) (hRl : (rest.map fun v => v.category).sum + 82 ≤ R.locals) (hRc : cells + 1 ≤ R.cells) (hRs : slots + 6 ≤ R.slots) (hc : cells + 1 ≤ mc) (hs : slots + 6 ≤ ms) (hT : TH eN) (d0 : decode cc pc = .ok (.new 150, 3)) (d6 : decode cc (pc + 6) = .ok (.invokespecial 154, 3)) : W p l e R s m args below meth c H locs cells slots (vx_MQ below Qc (kX D cs base n ad I L TH) args s mc ms (fun q => base ≤ q)) (F0 m pc ls rest) :=
  vn_throw hexec hb hl0 hown (hts _ (List.mem_cons_of_mem _ k270)) (hts _ (List.mem_cons_of_mem _ k11)) (hE.2.2.2.1 (is, text) hq) (at_N (fun w h => hts w (List.mem_cons_of_mem _ h)) hE.2.2.2.2.2.2.2.2.1) go_N hE.2.2.2.2.1 hE.2.2.2.2.2.1 hS hsize d0 d3 d4 d6 d9 (fun x h => (htab x h).elim) hRf hRl hRc hRs hlocks (kX_mk hR hS hT) hS.2.2 hc hs
theorem th_I (hexec : p.tables.exec = Jvm.exec) (hb : c.code = cc) (hl0 : l.stackTraces = false) (hown : s.vm.findClass "SeedChains" = some m.cls) {X9 : Cond} (hts : ∀ w ∈ X9 :: wAll, w.before args s = true) (hE : eV D cs base sa s) (hR : tR D vwCl base ad (tC (wP n ad cs) I L) H) (hS : va_S (fun q => base ≤ q) s.heap H locs) (hsize : ls.size = c.maxLocals) (is : Nat) (text : String) (hq : (is, text) ∈ nT) (d4 : decode cc (pc + 4) = .ok (.ldc is, 2)) (d3 : decode cc (pc + 3) = .ok (.dup, 1)) (d9 : decode cc (pc + 9) = .ok (.athrow, 1)) (htab : ∀ x ∈ c.exceptionTable.toList, False) (hlocks : meth.locks = false) (hRf : 5 < R.frames) (hRl : (rest.map fun v => v.category).sum + 82 ≤ R.locals) (hRc : cells + 1 ≤ R.cells) (hRs : slots + 6 ≤ R.slots) (hc : cells + 1 ≤ mc) (hs : slots + 6 ≤ ms) (hT : TH eI) (d0 : decode cc pc = .ok (.new 61, 3)) (d6 : decode cc (pc + 6) = .ok (.invokespecial 65, 3)) : W p l e R s m args below meth c H locs cells slots (vx_MQ below Qc (kX D cs base n ad I L TH) args s mc ms (fun q => base ≤ q)) (F0 m pc ls rest) :=
  vx_throwS (names := xnm) hexec hb hl0 hown (by decide +kernel) fit_n (hts _ (List.mem_cons_of_mem _ k161)) (hts _ (List.mem_cons_of_mem _ k9)) (hE.2.2.2.1 (is, text) hq) (at_I (fun w h => hts w (List.mem_cons_of_mem _ h)) hE.2.2.2.2.2.2.2.2.1) go_I hE.2.2.2.2.1 hE.2.2.2.2.2.1 hS hsize d0 d3 d4 d6 d9 (fun x h => (htab x h).elim) hRf hRl hRc hRs hlocks (kX_mk hR hS hT) hS.2.2 hc hs
theorem th_S (hexec : p.tables.exec = Jvm.exec) (hb : c.code = cc) (hl0 : l.stackTraces = false) (hown : s.vm.findClass "SeedChains" = some m.cls) {X9 : Cond} (hts : ∀ w ∈ X9 :: wAll, w.before args s = true) (hE : eV D cs base sa s) (hR : tR D vwCl base ad (tC (wP n ad cs) I L) H) (hS : va_S (fun q => base ≤ q) s.heap H locs) (hsize : ls.size = c.maxLocals) (is : Nat) (text : String) (hq : (is, text) ∈ nT) (d4 : decode cc (pc + 4) = .ok (.ldc is, 2)) (d3 : decode cc (pc + 3) = .ok (.dup, 1)) (d9 : decode cc (pc + 9) = .ok (.athrow, 1)) (htab : ∀ x ∈ c.exceptionTable.toList, False) (hlocks : meth.locks = false) (hRf : 5 < R.frames) (hRl : (rest.map fun v => v.category).sum + 82 ≤ R.locals) (hRc : cells + 1 ≤ R.cells) (hRs : slots + 6 ≤ R.slots) (hc : cells + 1 ≤ mc) (hs : slots + 6 ≤ ms) (hT : TH eS) (d0 : decode cc pc = .ok (.new 71, 3)) (d6 : decode cc (pc + 6) = .ok (.invokespecial 75, 3)) : W p l e R s m args below meth c H locs cells slots (vx_MQ below Qc (kX D cs base n ad I L TH) args s mc ms (fun q => base ≤ q)) (F0 m pc ls rest) :=
  vx_throwS (names := xnm) hexec hb hl0 hown (by decide +kernel) fit_n (hts _ (List.mem_cons_of_mem _ k230)) (hts _ (List.mem_cons_of_mem _ k10)) (hE.2.2.2.1 (is, text) hq) (at_S (fun w h => hts w (List.mem_cons_of_mem _ h)) hE.2.2.2.2.2.2.2.2.1) go_S hE.2.2.2.2.1 hE.2.2.2.2.2.1 hS hsize d0 d3 d4 d6 d9 (fun x h => (htab x h).elim) hRf hRl hRc hRs hlocks (kX_mk hR hS hT) hS.2.2 hc hs
end TH
