/-! HOW THE CELLS LOOK. Codes: 0 SeedChains, 1 Site, 2 first, 3 last, 4 phase, 5 weights (outer), 6 earlier, 7 later, 8 least, 9 most, 10.. rows of weights, 18 saved; a course at b (20 now, 40, 60, 80, 100 saved): b itself, b+1 years (outer), b+2 states, b+3 rows (outer), b+4+i years of chain i, b+8+i rows of chain i; 200 the reference, 201.. its arrays; 220 the law's out. -/
def wO (f : Nat → Option Nat) : (Nat → Int32) ⊕ (Nat → Int64) ⊕ (Nat → UInt32) ⊕ (Nat → UInt64) ⊕ (Nat → Option Nat) := .inr (.inr (.inr (.inr f)))
def wC (n : Nat) (ad : Nat → Nat) (cs : Nat → ClassId) (k : Nat) (r : Nat → Int32) (q : Nat → Int64) : Nat → Option va_E
  | 0 => some (.inr (0, [.ref (ad (k + 1)), .ref (ad (k + 2)), .ref (ad (k + 3)), .int (r 3), .int (r 4)]))
  | 1 => some (.inl (cs 2, n, .inr (.inr (.inr (.inr (fun i => if i < n then some (ad (k + 3 + i)) else none))))))
  | 2 => some (.inl (cs 1, n, .inr (.inl q)))
  | 3 => some (.inl (cs 2, n, .inr (.inr (.inr (.inr (fun i => if i < n then some (ad (k + 5 + i)) else none))))))
  | 4 => if 0 < n then some (.inl (cs 0, 8, .inl r)) else none
  | 5 => if 1 < n then some (.inl (cs 0, 8, .inl r)) else none
  | 6 => if 2 < n then some (.inl (cs 0, 8, .inl r)) else none
  | 7 => if 3 < n then some (.inl (cs 0, 8, .inl r)) else none
  | 8 => if 0 < n then some (.inl (cs 0, 480, .inl r)) else none
  | 9 => if 1 < n then some (.inl (cs 0, 480, .inl r)) else none
  | 10 => if 2 < n then some (.inl (cs 0, 480, .inl r)) else none
  | 11 => if 3 < n then some (.inl (cs 0, 480, .inl r)) else none
  | _ => none
def wM (ad : Nat → Nat) (cs : Nat → ClassId) (r : Nat → Int32) (q : Nat → Int64) : Nat → Option va_E
  | 0 => some (.inr (3, [.int (r 0), .int (r 1), .int (r 2), .int (r 3), .ref (ad 201), .ref (ad 202), .ref (ad 203), .ref (ad 204), .int (r 8), .ref (ad 205), .ref (ad 206), .ref (ad 207), .ref (ad 208), .int (r 13), .int (r 14), .int (r 15), .int (r 16), .int (r 17), .ref (ad 209), .ref (ad 210), .ref (ad 211), .int (r 21), .ref (ad 212), .ref (ad 213), .ref (ad 214), .ref (ad 215), .ref (ad 216)]))
  | 1 => some (.inl (cs 0, 8, .inl r))
  | 2 => some (.inl (cs 0, 8, .inl r))
  | 3 => some (.inl (cs 0, 512, .inl r))
  | 4 => some (.inl (cs 0, 8, .inl r))
  | 5 => some (.inl (cs 0, 24, .inl r))
  | 6 => some (.inl (cs 0, 24, .inl r))
  | 7 => some (.inl (cs 0, 24, .inl r))
  | 8 => some (.inl (cs 0, 24, .inl r))
  | 9 => some (.inl (cs 0, 32, .inl r))
  | 10 => some (.inl (cs 1, 4, .inr (.inl q)))
  | 11 => some (.inl (cs 0, 1920, .inl r))
  | 12 => some (.inl (cs 0, 128, .inl r))
  | 13 => some (.inl (cs 1, 16, .inr (.inl q)))
  | 14 => some (.inl (cs 0, 7680, .inl r))
  | 15 => some (.inl (cs 0, 4, .inl r))
  | 16 => some (.inl (cs 0, 4, .inl r))
  | 20 => some (.inl (cs 1, 1, .inr (.inl q)))
  | _ => none
def wP (n : Nat) (ad : Nat → Nat) (cs : Nat → ClassId) : tP := fun k r q =>
  if k = 0 then some (.inr (2, [.int (r 0), .int (r 1), .ref (ad 1), .ref (ad 20), .ref (ad 18), .int (r 5), .int (r 6), .int (r 7), .int (r 8)]))
  else if k = 1 then some (.inr (1, [.ref (ad 2), .ref (ad 3), .ref (ad 4), .ref (ad 5), .ref (ad 6), .ref (ad 7), .ref (ad 8), .ref (ad 9), .int (r 8), .int (r 9)]))
  else if k < 5 then some (.inl (cs 0, 8, .inl r))
  else if k = 5 then some (.inl (cs 2, 8, .inr (.inr (.inr (.inr (fun i => if i < 8 then some (ad (10 + i)) else none))))))
  else if k < 10 then some (.inl (cs 0, 24, .inl r))
  else if k < 18 then some (.inl (cs 0, 64, .inl r))
  else if k = 18 then some (.inl (cs 3, 4, .inr (.inr (.inr (.inr (fun i => if i < 4 then some (ad (40 + 20 * i)) else none))))))
  else if k < 20 then none
  else if k < 120 then wC n ad cs k r q ((k - 20) % 20)
  else if k < 200 then none
  else wM ad cs r q (k - 200)
theorem wP_w {n : Nat} {ad : Nat → Nat} {cs : Nat → ClassId} {d : Nat} (h : d < 8) (r : Nat → Int32) (q : Nat → Int64) : wP n ad cs (10 + d) r q = some (.inl (cs 0, 64, .inl r)) := by
  unfold wP
  rw [if_neg (by omega), if_neg (by omega), if_neg (by omega), if_neg (by omega), if_neg (by omega), if_pos (by omega)]
/-- b is a course -/
def isB (b : Nat) : Prop := b = 20 ∨ b = 40 ∨ b = 60 ∨ b = 80 ∨ b = 100
section WB
variable {n : Nat} {ad : Nat → Nat} {cs : Nat → ClassId} {b : Nat}
theorem wP_b0 (hB : isB b) (r : Nat → Int32) (q : Nat → Int64) : wP n ad cs b r q = some (.inr (0, [.ref (ad (b + 1)), .ref (ad (b + 2)), .ref (ad (b + 3)), .int (r 3), .int (r 4)])) := by
  rcases hB with h | h | h | h | h <;> subst h <;> rfl
theorem wP_b1 (hB : isB b) (r : Nat → Int32) (q : Nat → Int64) : wP n ad cs (b + 1) r q = some (.inl (cs 2, n, .inr (.inr (.inr (.inr (fun i => if i < n then some (ad (b + 4 + i)) else none)))))) := by
  rcases hB with h | h | h | h | h <;> subst h <;> rfl
theorem wP_b2 (hB : isB b) (r : Nat → Int32) (q : Nat → Int64) : wP n ad cs (b + 2) r q = some (.inl (cs 1, n, .inr (.inl q))) := by
  rcases hB with h | h | h | h | h <;> subst h <;> rfl
theorem wP_b3 (hB : isB b) (r : Nat → Int32) (q : Nat → Int64) : wP n ad cs (b + 3) r q = some (.inl (cs 2, n, .inr (.inr (.inr (.inr (fun i => if i < n then some (ad (b + 8 + i)) else none)))))) := by
  rcases hB with h | h | h | h | h <;> subst h <;> rfl
theorem wP_b4 (hB : isB b) (hn : n ≤ 4) {i : Nat} (hi : i < n) (r : Nat → Int32) (q : Nat → Int64) : wP n ad cs (b + 4 + i) r q = some (.inl (cs 0, 8, .inl r)) := by
  have h4 : i = 0 ∨ i = 1 ∨ i = 2 ∨ i = 3 := by omega
  rcases h4 with e | e | e | e <;> subst e <;> rcases hB with h | h | h | h | h <;> subst h <;> exact if_pos hi
theorem wP_b8 (hB : isB b) (hn : n ≤ 4) {i : Nat} (hi : i < n) (r : Nat → Int32) (q : Nat → Int64) : wP n ad cs (b + 8 + i) r q = some (.inl (cs 0, 480, .inl r)) := by
  have h4 : i = 0 ∨ i = 1 ∨ i = 2 ∨ i = 3 := by omega
  rcases h4 with e | e | e | e <;> subst e <;> rcases hB with h | h | h | h | h <;> subst h <;> exact if_pos hi
end WB
/-! WHAT HOLDS OF A STATE beside its cells -/
def tyL (cs : Nat → ClassId) : List (ClassId × FieldType) := [(cs 0, .int), (cs 1, .long), (cs 2, .array .int), (cs 3, .object "SeedChains$Course")]
def nF : List (Nat × String × String × String) := [(186, "SeedChains$Site", "first", "[I"), (189, "SeedChains$Site", "last", "[I"), (109, "SeedChains$Site", "phase", "[I"), (68, "SeedChains$Site", "dates", "I"), (97, "SeedChains$Site", "orders", "I"), (129, "SeedChains$Course", "years", "[[I"), (123, "SeedChains$Course", "states", "[J"), (117, "SeedChains$Course", "kept", "I"), (120, "SeedChains$Course", "steps", "I")]
def nM : List (Nat × MethodName) := [(27, yX1_init), (34, yX0_init), (133, yX1_findLeastYears), (79, yX1_addDate), (88, yX1_changeWeight), (102, yX1_addOrder), (212, yX1_drawnYear), (205, yX0_keepYears), (157, yX0_keptYear), (163, yX1_weightOf), (166, yX1_greatestWeight), (176, yX0_take)]
def nT : List (Nat × String) := [(195, "years"), (63, "first and last year"), (73, "there are eight dates"), (184, "date"), (192, "year"), (86, "weight"), (95, "order"), (100, "there are 24 orders"), (194, "phase"), (113, "burn-in"), (115, "thin"), (137, "steps"), (196, "nothing is started"), (145, "more than 60 rows"), (152, "chain"), (155, "row"), (174, "there are four saved states"), (180, "saved state"), (182, "count")]
def eI : String := "java/lang/IllegalArgumentException"
def eS : String := "java/lang/IllegalStateException"
def eN : String := "java/util/NoSuchElementException"
def xW : List Cond := [.declares ⟨"java/lang/RuntimeException", "<init>", "(Ljava/lang/String;)V"⟩, .declares ⟨"java/lang/Exception", "<init>", "(Ljava/lang/String;)V"⟩, .declares ⟨"java/lang/Throwable", "<init>", "(Ljava/lang/String;)V"⟩, .castable "java/lang/IllegalArgumentException" "java/lang/IllegalArgumentException", .castable "java/lang/IllegalStateException" "java/lang/IllegalStateException", .castable "java/util/NoSuchElementException" "java/util/NoSuchElementException"]
theorem xW_mv {u U : State} (hvm : u.vm.Alike U.vm) (h : ∀ w ∈ xW, va_Nw w u) : ∀ w ∈ xW, va_Nw w U := by
  have tr : ∀ {c : Cond}, c.onTables = true → c.before #[] (u.setVm U.vm) = true → c.before #[] U = true := by
    intro c hc h
    have e := Cond.onTables_vm (A := #[]) (A' := #[]) (U := u) (U' := U) U.vm c hc
    have hU : U.setVm U.vm = U := rfl
    rw [hU] at e
    rw [← e]
    exact h
  have d : ∀ x : MethodName, va_Nw (.declares x) u → va_Nw (.declares x) U := fun x h1 => tr rfl (by rw [Cond.declares_setVm hvm]; exact h1)
  have k : ∀ a b : String, va_Nw (.castable a b) u → va_Nw (.castable a b) U := fun a b h1 => tr rfl (by rw [Cond.castable_setVm hvm]; exact h1)
  unfold xW at h ⊢
  simp only [List.forall_mem_cons] at h ⊢
  obtain ⟨h1, h2, h3, h4, h5, h6, h7⟩ := h
  exact ⟨d _ h1, d _ h2, d _ h3, k _ _ h4, k _ _ h5, k _ _ h6, fun _ hx => nomatch hx⟩
def xN : List (String × String) := [(eI, eS), (eI, eN), (eS, eI), (eS, eN), (eN, eI), (eN, eS)]
def eV (D : va_G) (cs : Nat → ClassId) (base : Nat) (sa : Nat → Nat) (U : State) : Prop :=
  va_K D vwCl (tyL cs) U ∧ (∀ q ∈ nF, va_Nw (.fieldLinkNest "SeedChains" q.1 q.2.1 q.2.2.1 q.2.2.2 "SeedChains") U) ∧ (∀ q ∈ nM, va_Nw (.methodLinkNest "SeedChains" q.1 q.2 "SeedChains") U) ∧ (∀ q ∈ nT, vk_R "SeedChains" q.1 q.2 (sa q.1) U) ∧
  vx_Zq Bundle.tN "UNASSIGNED_STACK" Bundle.steD (fun q => base ≤ q) U U.heap ∧ vx_Zq Bundle.tN "SUPPRESSED_SENTINEL" Bundle.listD (fun q => base ≤ q) U U.heap ∧ va_AOA .int U ∧ va_AO "SeedChains$Course" U ∧ (∀ w ∈ xW, va_Nw w U) ∧ ∀ q ∈ xN, va_Nc q.1 q.2 U
section EV
variable {D : va_G} {cs : Nat → ClassId} {base : Nat} {sa : Nat → Nat} {s U : State}
theorem eV.K (h : eV D cs base sa s) : va_K D vwCl (tyL cs) s := h.1
theorem eV.mv (h : eV D cs base sa s) (hW : s.WarmedH U.vm) (hq : ∀ q : Nat, q < s.heap.size → ¬ base ≤ q → U.heap[q]? = s.heap[q]?) : eV D cs base sa U := by
  obtain ⟨h1, h2, h3, h4, h5, h6, h7, h8, h9, h10⟩ := h
  exact ⟨va_K.moved hW.alike h1, fun q hm => va_Nw.warmF hW (h2 q hm), fun q hm => va_Nw.warmM hW (h3 q hm), fun q hm => vk_R.warm hW (h4 q hm), vx_Zq.moved hW.alike (h5.kept hq), vx_Zq.moved hW.alike (h6.kept hq), over_moved hW.alike h7, va_AO.moved hW.alike h8, xW_mv hW.alike h9, fun q hm => va_Nc.moved hW.alike (h10 q hm)⟩
/-- the same tables and heap, other frames -/
theorem eV.fr (h : eV D cs base sa s) (hv : U.vm = s.vm) (hh : U.heap = s.heap) : eV D cs base sa U :=
  h.mv (by rw [hv]; exact State.WarmedH.refl s) (fun q _ _ => by rw [hh])
end EV
/-- what a method of the class or of the reference starts from -/
def kB (D : va_G) (cs : Nat → ClassId) (base : Nat) (sa : Nat → Nat) (n : Nat) (ad : Nat → Nat) (I : tI) (L : tL) (U : State) : Prop := eV D cs base sa U ∧ tR D vwCl base ad (tC (wP n ad cs) I L) U.heap
/-- .. and what it leaves -/
def kA (D : va_G) (cs : Nat → ClassId) (base : Nat) (n : Nat) (ad : Nat → Nat) (u : tI × tL) (t : State) : Prop := tR D vwCl base ad (tC (wP n ad cs) u.1 u.2) t.heap
section KP
variable {D : va_G} {cs : Nat → ClassId} {base : Nat} {sa : Nat → Nat} {n : Nat} {ad : Nat → Nat} {I : tI} {L : tL} {s : State} {H : Heap} {locs : List Loc}
theorem kB_blind (av : List Value) : FrameBlind (va_Pc av (kB D cs base sa n ad I L)) := fun _ _ _ _ q => ⟨q.1, eV.fr q.2.1 rfl rfl, q.2.2⟩
theorem kB_pre (hE : eV D cs base sa s) (hR : tR D vwCl base ad (tC (wP n ad cs) I L) H) (hS : va_S (fun q => base ≤ q) s.heap H locs) (As : List Value) : PreS s H (va_Pc As (kB D cs base sa n ad I L)) As :=
  ⟨kB_blind As, fun U hU hW => ⟨rfl, hE.mv hW (fun q h1 h2 => by rw [hU]; exact hS.2.1 q h1 h2), by rw [hU]; exact hR⟩⟩
theorem kB_preV (hE : eV D cs base sa s) (hR : tR D vwCl base ad (tC (wP n ad cs) I L) H) (hS : va_S (fun q => base ≤ q) s.heap H locs) (k : Nat) {ci : Nat} {fs : List Value} {q : vw_C} (he : tC (wP n ad cs) I L k = some (.inr (ci, fs))) (hc : vwCl[ci]? = some q) (As : List Value) : PreV s H q.1 (ad k) (va_Pc (.ref (ad k) :: As) (kB D cs base sa n ad I L)) As := by
  refine ⟨kB_blind _, ?_, fun U hU hW => ⟨rfl, hE.mv hW (fun q h1 h2 => by rw [hU]; exact hS.2.1 q h1 h2), by rw [hU]; exact hR⟩⟩
  obtain ⟨ws, hP, hD, hM, hI⟩ := hR
  obtain ⟨i, hi⟩ := List.getElem?_of_mem (hM _ _ he)
  exact va_recv hE.1 hP hc hi
end KP
section KC
variable {p : Program} {l : Launch} {e : Env} {R : Room} {s : State} {m : MethodId} {args : Array Value} {below : List Frame} {meth : Method} {c : Code} {H : Heap} {locs : List Loc} {cells slots : Nat} {Q : State → Prop}
variable {pc : Nat} {ls : Array Slot} {rest st0 : List Value} {D : va_G} {cs : Nat → ClassId} {base : Nat} {n : Nat} {ad : Nat → Nat} {H0 : Heap} {mc ms : Nat} {a : Array Value}
/-- behind a call that answers an int -/
theorem kc_i {post : Int32 → tI × tL → Prop} (hr : va_Run p l e R s m args below meth c H locs cells slots mc ms (F0 m pc ls st0) rest (va_Qi post (kA D cs base n ad) (fun q => base ≤ q) a) (fun q => base ≤ q)) (hS : va_S (fun q => base ≤ q) H0 H locs)
    (kk : ∀ (r : Int32) (u : tI × tL) (H1 : Heap) (locs1 : List Loc), post r u → tR D vwCl base ad (tC (wP n ad cs) u.1 u.2) H1 → va_S (fun q => base ≤ q) H0 H1 locs1 → W p l e R s m args below meth c H1 locs1 (cells + mc) (slots + ms) Q (F0 m (pc + 3) ls (.int r :: rest))) : W p l e R s m args below meth c H locs cells slots Q (F0 m pc ls st0) :=
  va_calli hr hS (fun _ _ h => h) (fun _ h => h) (fun r u t H1 locs1 ht _ hw hB _ _ hS1 => kk r u H1 locs1 hw (by rw [← ht]; exact hB) hS1)
theorem kc_v {post : tI × tL → Prop} (hr : va_Run p l e R s m args below meth c H locs cells slots mc ms (F0 m pc ls st0) rest (va_Qv post (kA D cs base n ad) (fun q => base ≤ q) a) (fun q => base ≤ q)) (hS : va_S (fun q => base ≤ q) H0 H locs)
    (kk : ∀ (u : tI × tL) (H1 : Heap) (locs1 : List Loc), post u → tR D vwCl base ad (tC (wP n ad cs) u.1 u.2) H1 → va_S (fun q => base ≤ q) H0 H1 locs1 → W p l e R s m args below meth c H1 locs1 (cells + mc) (slots + ms) Q (F0 m (pc + 3) ls rest)) : W p l e R s m args below meth c H locs cells slots Q (F0 m pc ls st0) :=
  va_callv hr hS (fun _ _ h => h) (fun _ h => h) (fun u t H1 locs1 ht _ hw hB _ _ hS1 => kk u H1 locs1 hw (by rw [← ht]; exact hB) hS1)
/-- the words of a call by name, by the one list -/
theorem kw_V {X : Cond} {own C : String} {idx : Nat} {y : MethodName} {bytes : ByteArray} {maxL : Nat} {ret : Option FieldType} (h1 : Cond.methodLink own idx y ∈ wAll) (h2 : Cond.instanceMethod y ∈ wAll) (h3 : Cond.selects C y y ∈ wAll) (h4 : Cond.initialized C ∈ wAll) (h5 : Cond.code y bytes maxL ret ∈ wAll) : GoodIn (X :: wAll) (wsV own idx C y (.code y bytes maxL ret :: wAll)) :=
  gAll (gCons h1 (gCons h2 (gCons h3 (gCons h4 (gCons h5 gSelf)))))
theorem kw_S {X : Cond} {own : String} {idx : Nat} {y : MethodName} {bytes : ByteArray} {maxL : Nat} {ret : Option FieldType} (h1 : Cond.methodLink own idx y ∈ wAll) (h2 : Cond.static y ∈ wAll) (h4 : Cond.initialized y.cls ∈ wAll) (h5 : Cond.code y bytes maxL ret ∈ wAll) : GoodIn (X :: wAll) (va_wsS own idx y (.code y bytes maxL ret :: wAll)) :=
  gAll (gCons h1 (gCons h2 (gCons h4 (gCons h5 gSelf))))
theorem kw_N {X : Cond} {y : MethodName} {bytes : ByteArray} {maxL : Nat} {ret : Option FieldType} (h5 : Cond.code y bytes maxL ret ∈ wAll) : GoodIn (X :: wAll) (.code y bytes maxL ret :: wAll) := gAll (gCons h5 gSelf)
end KC
