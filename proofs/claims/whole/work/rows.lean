section
-- ===== PART A: goes FIRST, ahead of the names: the tables' words, and 'selects' of the private methods out of them =====
/-- a private method of a class that the tables say can be made, by its rows of tables_1 -/
def lw_okq (q : MethodName × Nat) : Prop := (q.1.cls ≠ "java/lang/invoke/MethodHandle" ∧ q.1.cls ≠ "java/lang/invoke/VarHandle") ∧ Cond.instantiable q.1.cls q.2 ∈ tables_1 ∧ Cond.privateMethod q.1 ∈ tables_1 ∧ Cond.instanceMethod q.1 ∈ tables_1
theorem lw_p0 : lw_okq (⟨"SeedChains$Site", "findLeastYears", "([I)Z"⟩, 10) := ⟨⟨by decide +kernel, by decide +kernel⟩, List.mem_of_getElem? (i := 28) (by decide +kernel), List.mem_of_getElem? (i := 135) (by decide +kernel), List.mem_of_getElem? (i := 136) (by decide +kernel)⟩
theorem lw_p1 : lw_okq (⟨"SeedChains$Site", "raiseByOrders", "([I)Z"⟩, 10) := ⟨⟨by decide +kernel, by decide +kernel⟩, List.mem_of_getElem? (i := 28) (by decide +kernel), List.mem_of_getElem? (i := 139) (by decide +kernel), List.mem_of_getElem? (i := 140) (by decide +kernel)⟩
theorem lw_p2 : lw_okq (⟨"SeedChains$Site", "noneIsPastLast", "([I)Z"⟩, 10) := ⟨⟨by decide +kernel, by decide +kernel⟩, List.mem_of_getElem? (i := 28) (by decide +kernel), List.mem_of_getElem? (i := 143) (by decide +kernel), List.mem_of_getElem? (i := 144) (by decide +kernel)⟩
theorem lw_p3 : lw_okq (⟨"java/lang/Throwable", "fillInStackTrace", "(I)Ljava/lang/Throwable;"⟩, 6) := ⟨⟨by decide +kernel, by decide +kernel⟩, List.mem_of_getElem? (i := 200) (by decide +kernel), List.mem_of_getElem? (i := 198) (by decide +kernel), List.mem_of_getElem? (i := 199) (by decide +kernel)⟩
theorem lw_p4 : lw_okq (⟨"SeedChains", "forget", "()V"⟩, 9) := ⟨⟨by decide +kernel, by decide +kernel⟩, List.mem_of_getElem? (i := 14) (by decide +kernel), List.mem_of_getElem? (i := 247) (by decide +kernel), List.mem_of_getElem? (i := 248) (by decide +kernel)⟩
theorem lw_p5 : lw_okq (⟨"SeedChains$Site", "addDate", "(II)I"⟩, 10) := ⟨⟨by decide +kernel, by decide +kernel⟩, List.mem_of_getElem? (i := 28) (by decide +kernel), List.mem_of_getElem? (i := 251) (by decide +kernel), List.mem_of_getElem? (i := 252) (by decide +kernel)⟩
theorem lw_p6 : lw_okq (⟨"SeedChains", "needYearOf", "(II)V"⟩, 9) := ⟨⟨by decide +kernel, by decide +kernel⟩, List.mem_of_getElem? (i := 14) (by decide +kernel), List.mem_of_getElem? (i := 263) (by decide +kernel), List.mem_of_getElem? (i := 264) (by decide +kernel)⟩
theorem lw_p7 : lw_okq (⟨"SeedChains", "needDate", "(I)V"⟩, 9) := ⟨⟨by decide +kernel, by decide +kernel⟩, List.mem_of_getElem? (i := 14) (by decide +kernel), List.mem_of_getElem? (i := 267) (by decide +kernel), List.mem_of_getElem? (i := 268) (by decide +kernel)⟩
theorem lw_p8 : lw_okq (⟨"SeedChains$Site", "changeWeight", "(III)I"⟩, 10) := ⟨⟨by decide +kernel, by decide +kernel⟩, List.mem_of_getElem? (i := 28) (by decide +kernel), List.mem_of_getElem? (i := 289) (by decide +kernel), List.mem_of_getElem? (i := 290) (by decide +kernel)⟩
theorem lw_p9 : lw_okq (⟨"SeedChains$Site", "weightOf", "(II)I"⟩, 10) := ⟨⟨by decide +kernel, by decide +kernel⟩, List.mem_of_getElem? (i := 28) (by decide +kernel), List.mem_of_getElem? (i := 293) (by decide +kernel), List.mem_of_getElem? (i := 294) (by decide +kernel)⟩
theorem lw_p10 : lw_okq (⟨"SeedChains$Site", "addOrder", "(IIII)I"⟩, 10) := ⟨⟨by decide +kernel, by decide +kernel⟩, List.mem_of_getElem? (i := 28) (by decide +kernel), List.mem_of_getElem? (i := 306) (by decide +kernel), List.mem_of_getElem? (i := 307) (by decide +kernel)⟩
theorem lw_p11 : lw_okq (⟨"SeedChains", "needStarted", "()V"⟩, 9) := ⟨⟨by decide +kernel, by decide +kernel⟩, List.mem_of_getElem? (i := 14) (by decide +kernel), List.mem_of_getElem? (i := 345) (by decide +kernel), List.mem_of_getElem? (i := 346) (by decide +kernel)⟩
theorem lw_p12 : lw_okq (⟨"SeedChains", "rowsToCome", "(I)I"⟩, 9) := ⟨⟨by decide +kernel, by decide +kernel⟩, List.mem_of_getElem? (i := 14) (by decide +kernel), List.mem_of_getElem? (i := 350) (by decide +kernel), List.mem_of_getElem? (i := 351) (by decide +kernel)⟩
theorem lw_p13 : lw_okq (⟨"SeedChains", "isKept", "(I)Z"⟩, 9) := ⟨⟨by decide +kernel, by decide +kernel⟩, List.mem_of_getElem? (i := 14) (by decide +kernel), List.mem_of_getElem? (i := 354) (by decide +kernel), List.mem_of_getElem? (i := 355) (by decide +kernel)⟩
theorem lw_p14 : lw_okq (⟨"SeedChains", "stepAll", "()V"⟩, 9) := ⟨⟨by decide +kernel, by decide +kernel⟩, List.mem_of_getElem? (i := 14) (by decide +kernel), List.mem_of_getElem? (i := 359) (by decide +kernel), List.mem_of_getElem? (i := 360) (by decide +kernel)⟩
theorem lw_p15 : lw_okq (⟨"SeedChains", "stepChain", "(I)V"⟩, 9) := ⟨⟨by decide +kernel, by decide +kernel⟩, List.mem_of_getElem? (i := 14) (by decide +kernel), List.mem_of_getElem? (i := 363) (by decide +kernel), List.mem_of_getElem? (i := 364) (by decide +kernel)⟩
def lw_privs_1 : List (MethodName × Nat) := [(⟨"SeedChains$Site", "findLeastYears", "([I)Z"⟩, 10), (⟨"SeedChains$Site", "raiseByOrders", "([I)Z"⟩, 10), (⟨"SeedChains$Site", "noneIsPastLast", "([I)Z"⟩, 10), (⟨"java/lang/Throwable", "fillInStackTrace", "(I)Ljava/lang/Throwable;"⟩, 6), (⟨"SeedChains", "forget", "()V"⟩, 9), (⟨"SeedChains$Site", "addDate", "(II)I"⟩, 10), (⟨"SeedChains", "needYearOf", "(II)V"⟩, 9), (⟨"SeedChains", "needDate", "(I)V"⟩, 9), (⟨"SeedChains$Site", "changeWeight", "(III)I"⟩, 10), (⟨"SeedChains$Site", "weightOf", "(II)I"⟩, 10), (⟨"SeedChains$Site", "addOrder", "(IIII)I"⟩, 10), (⟨"SeedChains", "needStarted", "()V"⟩, 9), (⟨"SeedChains", "rowsToCome", "(I)I"⟩, 9), (⟨"SeedChains", "isKept", "(I)Z"⟩, 9), (⟨"SeedChains", "stepAll", "()V"⟩, 9), (⟨"SeedChains", "stepChain", "(I)V"⟩, 9)]
theorem lw_r1 : ∀ q ∈ lw_privs_1, lw_okq q := List.forall_mem_cons.mpr ⟨lw_p0, List.forall_mem_cons.mpr ⟨lw_p1, List.forall_mem_cons.mpr ⟨lw_p2, List.forall_mem_cons.mpr ⟨lw_p3, List.forall_mem_cons.mpr ⟨lw_p4, List.forall_mem_cons.mpr ⟨lw_p5, List.forall_mem_cons.mpr ⟨lw_p6, List.forall_mem_cons.mpr ⟨lw_p7, List.forall_mem_cons.mpr ⟨lw_p8, List.forall_mem_cons.mpr ⟨lw_p9, List.forall_mem_cons.mpr ⟨lw_p10, List.forall_mem_cons.mpr ⟨lw_p11, List.forall_mem_cons.mpr ⟨lw_p12, List.forall_mem_cons.mpr ⟨lw_p13, List.forall_mem_cons.mpr ⟨lw_p14, List.forall_mem_cons.mpr ⟨lw_p15, fun _ h => absurd h List.not_mem_nil⟩⟩⟩⟩⟩⟩⟩⟩⟩⟩⟩⟩⟩⟩⟩⟩
theorem lw_p16 : lw_okq (⟨"SeedChains$Site", "drawnYear", "(I[IJ)I"⟩, 10) := ⟨⟨by decide +kernel, by decide +kernel⟩, List.mem_of_getElem? (i := 28) (by decide +kernel), List.mem_of_getElem? (i := 369) (by decide +kernel), List.mem_of_getElem? (i := 370) (by decide +kernel)⟩
theorem lw_p17 : lw_okq (⟨"SeedChains$Site", "lowYear", "(I[I)I"⟩, 10) := ⟨⟨by decide +kernel, by decide +kernel⟩, List.mem_of_getElem? (i := 28) (by decide +kernel), List.mem_of_getElem? (i := 373) (by decide +kernel), List.mem_of_getElem? (i := 374) (by decide +kernel)⟩
theorem lw_p18 : lw_okq (⟨"SeedChains$Site", "highYear", "(I[I)I"⟩, 10) := ⟨⟨by decide +kernel, by decide +kernel⟩, List.mem_of_getElem? (i := 28) (by decide +kernel), List.mem_of_getElem? (i := 378) (by decide +kernel), List.mem_of_getElem? (i := 379) (by decide +kernel)⟩
theorem lw_p19 : lw_okq (⟨"SeedChains$Course", "keepYears", "()V"⟩, 5) := ⟨⟨by decide +kernel, by decide +kernel⟩, List.mem_of_getElem? (i := 73) (by decide +kernel), List.mem_of_getElem? (i := 383) (by decide +kernel), List.mem_of_getElem? (i := 384) (by decide +kernel)⟩
theorem lw_p20 : lw_okq (⟨"SeedChains$Course", "keptYear", "(III)I"⟩, 5) := ⟨⟨by decide +kernel, by decide +kernel⟩, List.mem_of_getElem? (i := 73) (by decide +kernel), List.mem_of_getElem? (i := 399) (by decide +kernel), List.mem_of_getElem? (i := 400) (by decide +kernel)⟩
theorem lw_p21 : lw_okq (⟨"SeedChains", "sumOfYears", "(II)I"⟩, 9) := ⟨⟨by decide +kernel, by decide +kernel⟩, List.mem_of_getElem? (i := 14) (by decide +kernel), List.mem_of_getElem? (i := 417) (by decide +kernel), List.mem_of_getElem? (i := 418) (by decide +kernel)⟩
theorem lw_p22 : lw_okq (⟨"SeedChains$Site", "greatestWeight", "(I)I"⟩, 10) := ⟨⟨by decide +kernel, by decide +kernel⟩, List.mem_of_getElem? (i := 28) (by decide +kernel), List.mem_of_getElem? (i := 429) (by decide +kernel), List.mem_of_getElem? (i := 430) (by decide +kernel)⟩
theorem lw_p23 : lw_okq (⟨"SeedChains", "spanOf", "(III)I"⟩, 9) := ⟨⟨by decide +kernel, by decide +kernel⟩, List.mem_of_getElem? (i := 14) (by decide +kernel), List.mem_of_getElem? (i := 441) (by decide +kernel), List.mem_of_getElem? (i := 442) (by decide +kernel)⟩
theorem lw_p24 : lw_okq (⟨"SeedChains$Course", "take", "(LSeedChains$Course;)V"⟩, 5) := ⟨⟨by decide +kernel, by decide +kernel⟩, List.mem_of_getElem? (i := 73) (by decide +kernel), List.mem_of_getElem? (i := 453) (by decide +kernel), List.mem_of_getElem? (i := 454) (by decide +kernel)⟩
theorem lw_p25 : lw_okq (⟨"SeedChainsModel", "throwing", "(ZZZ)Z"⟩, 27) := ⟨⟨by decide +kernel, by decide +kernel⟩, List.mem_of_getElem? (i := 473) (by decide +kernel), List.mem_of_getElem? (i := 572) (by decide +kernel), List.mem_of_getElem? (i := 573) (by decide +kernel)⟩
theorem lw_p26 : lw_okq (⟨"SeedChainsModel", "gone", "()V"⟩, 27) := ⟨⟨by decide +kernel, by decide +kernel⟩, List.mem_of_getElem? (i := 473) (by decide +kernel), List.mem_of_getElem? (i := 576) (by decide +kernel), List.mem_of_getElem? (i := 577) (by decide +kernel)⟩
theorem lw_p27 : lw_okq (⟨"SeedChainsModel", "hasYear", "(II)Z"⟩, 27) := ⟨⟨by decide +kernel, by decide +kernel⟩, List.mem_of_getElem? (i := 473) (by decide +kernel), List.mem_of_getElem? (i := 584) (by decide +kernel), List.mem_of_getElem? (i := 585) (by decide +kernel)⟩
theorem lw_p28 : lw_okq (⟨"SeedChainsModel", "isDate", "(I)Z"⟩, 27) := ⟨⟨by decide +kernel, by decide +kernel⟩, List.mem_of_getElem? (i := 473) (by decide +kernel), List.mem_of_getElem? (i := 588) (by decide +kernel), List.mem_of_getElem? (i := 589) (by decide +kernel)⟩
theorem lw_p29 : lw_okq (⟨"SeedChainsModel", "weightOf", "(II)I"⟩, 27) := ⟨⟨by decide +kernel, by decide +kernel⟩, List.mem_of_getElem? (i := 473) (by decide +kernel), List.mem_of_getElem? (i := 592) (by decide +kernel), List.mem_of_getElem? (i := 593) (by decide +kernel)⟩
theorem lw_p30 : lw_okq (⟨"SeedChainsModel", "fits", "(I)Z"⟩, 27) := ⟨⟨by decide +kernel, by decide +kernel⟩, List.mem_of_getElem? (i := 473) (by decide +kernel), List.mem_of_getElem? (i := 616) (by decide +kernel), List.mem_of_getElem? (i := 617) (by decide +kernel)⟩
theorem lw_p31 : lw_okq (⟨"SeedChainsModel", "lifts", "(I)Z"⟩, 27) := ⟨⟨by decide +kernel, by decide +kernel⟩, List.mem_of_getElem? (i := 473) (by decide +kernel), List.mem_of_getElem? (i := 620) (by decide +kernel), List.mem_of_getElem? (i := 621) (by decide +kernel)⟩
def lw_privs_2 : List (MethodName × Nat) := [(⟨"SeedChains$Site", "drawnYear", "(I[IJ)I"⟩, 10), (⟨"SeedChains$Site", "lowYear", "(I[I)I"⟩, 10), (⟨"SeedChains$Site", "highYear", "(I[I)I"⟩, 10), (⟨"SeedChains$Course", "keepYears", "()V"⟩, 5), (⟨"SeedChains$Course", "keptYear", "(III)I"⟩, 5), (⟨"SeedChains", "sumOfYears", "(II)I"⟩, 9), (⟨"SeedChains$Site", "greatestWeight", "(I)I"⟩, 10), (⟨"SeedChains", "spanOf", "(III)I"⟩, 9), (⟨"SeedChains$Course", "take", "(LSeedChains$Course;)V"⟩, 5), (⟨"SeedChainsModel", "throwing", "(ZZZ)Z"⟩, 27), (⟨"SeedChainsModel", "gone", "()V"⟩, 27), (⟨"SeedChainsModel", "hasYear", "(II)Z"⟩, 27), (⟨"SeedChainsModel", "isDate", "(I)Z"⟩, 27), (⟨"SeedChainsModel", "weightOf", "(II)I"⟩, 27), (⟨"SeedChainsModel", "fits", "(I)Z"⟩, 27), (⟨"SeedChainsModel", "lifts", "(I)Z"⟩, 27)]
theorem lw_r2 : ∀ q ∈ lw_privs_2, lw_okq q := List.forall_mem_cons.mpr ⟨lw_p16, List.forall_mem_cons.mpr ⟨lw_p17, List.forall_mem_cons.mpr ⟨lw_p18, List.forall_mem_cons.mpr ⟨lw_p19, List.forall_mem_cons.mpr ⟨lw_p20, List.forall_mem_cons.mpr ⟨lw_p21, List.forall_mem_cons.mpr ⟨lw_p22, List.forall_mem_cons.mpr ⟨lw_p23, List.forall_mem_cons.mpr ⟨lw_p24, List.forall_mem_cons.mpr ⟨lw_p25, List.forall_mem_cons.mpr ⟨lw_p26, List.forall_mem_cons.mpr ⟨lw_p27, List.forall_mem_cons.mpr ⟨lw_p28, List.forall_mem_cons.mpr ⟨lw_p29, List.forall_mem_cons.mpr ⟨lw_p30, List.forall_mem_cons.mpr ⟨lw_p31, fun _ h => absurd h List.not_mem_nil⟩⟩⟩⟩⟩⟩⟩⟩⟩⟩⟩⟩⟩⟩⟩⟩
theorem lw_p32 : lw_okq (⟨"SeedChainsModel", "isKept", "(I)Z"⟩, 27) := ⟨⟨by decide +kernel, by decide +kernel⟩, List.mem_of_getElem? (i := 473) (by decide +kernel), List.mem_of_getElem? (i := 629) (by decide +kernel), List.mem_of_getElem? (i := 630) (by decide +kernel)⟩
theorem lw_p33 : lw_okq (⟨"SeedChainsModel", "step", "()V"⟩, 27) := ⟨⟨by decide +kernel, by decide +kernel⟩, List.mem_of_getElem? (i := 473) (by decide +kernel), List.mem_of_getElem? (i := 633) (by decide +kernel), List.mem_of_getElem? (i := 634) (by decide +kernel)⟩
theorem lw_p34 : lw_okq (⟨"SeedChainsModel", "draw", "(II)V"⟩, 27) := ⟨⟨by decide +kernel, by decide +kernel⟩, List.mem_of_getElem? (i := 473) (by decide +kernel), List.mem_of_getElem? (i := 637) (by decide +kernel), List.mem_of_getElem? (i := 638) (by decide +kernel)⟩
theorem lw_p35 : lw_okq (⟨"SeedChainsModel", "holds", "(II)Z"⟩, 27) := ⟨⟨by decide +kernel, by decide +kernel⟩, List.mem_of_getElem? (i := 473) (by decide +kernel), List.mem_of_getElem? (i := 641) (by decide +kernel), List.mem_of_getElem? (i := 642) (by decide +kernel)⟩
theorem lw_p36 : lw_okq (⟨"SeedChainsModel", "rowAt", "(II)I"⟩, 27) := ⟨⟨by decide +kernel, by decide +kernel⟩, List.mem_of_getElem? (i := 473) (by decide +kernel), List.mem_of_getElem? (i := 647) (by decide +kernel), List.mem_of_getElem? (i := 648) (by decide +kernel)⟩
theorem lw_p37 : lw_okq (⟨"SeedChainsModel", "spanOf", "(II)I"⟩, 27) := ⟨⟨by decide +kernel, by decide +kernel⟩, List.mem_of_getElem? (i := 473) (by decide +kernel), List.mem_of_getElem? (i := 672) (by decide +kernel), List.mem_of_getElem? (i := 673) (by decide +kernel)⟩
def lw_privs_3 : List (MethodName × Nat) := [(⟨"SeedChainsModel", "isKept", "(I)Z"⟩, 27), (⟨"SeedChainsModel", "step", "()V"⟩, 27), (⟨"SeedChainsModel", "draw", "(II)V"⟩, 27), (⟨"SeedChainsModel", "holds", "(II)Z"⟩, 27), (⟨"SeedChainsModel", "rowAt", "(II)I"⟩, 27), (⟨"SeedChainsModel", "spanOf", "(II)I"⟩, 27)]
theorem lw_r3 : ∀ q ∈ lw_privs_3, lw_okq q := List.forall_mem_cons.mpr ⟨lw_p32, List.forall_mem_cons.mpr ⟨lw_p33, List.forall_mem_cons.mpr ⟨lw_p34, List.forall_mem_cons.mpr ⟨lw_p35, List.forall_mem_cons.mpr ⟨lw_p36, List.forall_mem_cons.mpr ⟨lw_p37, fun _ h => absurd h List.not_mem_nil⟩⟩⟩⟩⟩⟩
def lw_privs : List (MethodName × Nat) := lw_privs_1 ++ (lw_privs_2 ++ (lw_privs_3))
def lw_tbl : List Cond := k2_sels lw_privs ++ tables_1
theorem lw_privs_ok : ∀ q ∈ lw_privs, lw_okq q := by
  show ∀ q ∈ lw_privs_1 ++ (lw_privs_2 ++ (lw_privs_3)), lw_okq q
  exact List.forall_mem_append.mpr ⟨lw_r1, List.forall_mem_append.mpr ⟨lw_r2, lw_r3⟩⟩
/-! two rows of my own that the printed rows below name and do not bring -/
def va_AOA (t : FieldType) (U : State) : Prop := (Cond.arrayOver (.array t)).before #[] U = true
theorem va_AOA.use {t : FieldType} {A : Array Value} {U : State} (h : va_AOA t U) : (Cond.arrayOver (.array t)).before A U = true := h
/-! ===== BEGIN words of one list among another's, by their places ===== -/
theorem goodIn_r {big : List Cond} (ws : List Cond) (ps : List Nat) (hp : ws = ps.filterMap (fun i => big[i]?)) (h : ws.all goodWord = true) : GoodIn big ws := by
  intro w hw
  have h1 := List.all_eq_true.mp h w hw
  rw [hp] at hw
  obtain ⟨i, -, hi⟩ := List.mem_filterMap.mp hw
  have hm : w ∈ big := by first | exact List.mem_of_getElem? hi | exact List.getElem?_mem hi
  exact ⟨hm, good_of_word h1⟩
theorem goodIn_app {big a b : List Cond} (ha : GoodIn big a) (hb : GoodIn big b) : GoodIn big (a ++ b) := fun w h => (List.mem_append.mp h).elim (ha w) (hb w)
theorem goodIn_ca {big a b : List Cond} {c : Cond} (ha : GoodIn big (c :: a)) (hb : GoodIn big b) : GoodIn big (c :: (a ++ b)) := fun w h => (List.mem_cons.mp h).elim (fun e => ha w (List.mem_cons.mpr (Or.inl e))) (fun h => (List.mem_append.mp h).elim (fun h => ha w (List.mem_cons.mpr (Or.inr h))) (hb w))
theorem goodIn_sub {big ws : List Cond} (hm : ∀ w ∈ ws, w ∈ big) (h : ws.all goodWord = true) : GoodIn big ws := fun w hw => ⟨hm w hw, good_of_word (List.all_eq_true.mp h w hw)⟩
/-! ===== END ===== -/

/-! ===== BEGIN new T[n][m]: the outer array a place, the inner ones among the pooled ===== -/
/-- f, but v at every address of l -/
def vr_up {α : Type} (f : Nat → α) (l : List Nat) (v : α) : Nat → α := fun a => if a ∈ l then v else f a
theorem vr_up_in {α : Type} {f : Nat → α} {l : List Nat} {v : α} {a : Nat} (h : a ∈ l) : vr_up f l v a = v := if_pos h
theorem vr_up_ne {α : Type} {f : Nat → α} {l : List Nat} {v : α} {a : Nat} (h : a ∉ l) : vr_up f l v a = f a := if_neg h
theorem vr_rows {L l : List Nat} {f : Nat → va_E} {e : va_E} (h : ∀ a, a ∈ l → a ∉ L) : va_pl L f ++ l.map (fun a => (a, e)) = va_pl (L ++ l) (vr_up f l e) := by
  unfold va_pl
  rw [List.map_append]
  congr 1
  · apply List.map_congr_left
    intro a ha
    rw [vr_up_ne (fun q => h a q ha)]
  · apply List.map_congr_left
    intro a ha
    rw [vr_up_in ha]
theorem vr_lay {X rows : va_W} {x : Nat × va_E} {pl : va_W} {D : va_G} {cl : List vw_C} {H : Heap} (hP : va_P D cl (((X ++ pl) ++ [x]) ++ rows) H) : va_P D cl ((X ++ [x]) ++ (pl ++ rows)) H := by
  rw [List.append_assoc (X ++ pl)] at hP
  have h := va_P.swap hP
  rw [← List.append_assoc X] at h
  have h2 := va_P.swap h
  rw [List.append_assoc (X ++ [x])] at h2
  exact h2
theorem vr_layD {X rows : va_W} {x : Nat × va_E} {pl : va_W} {A : Nat → Prop} (hD : va_D A (((X ++ pl) ++ [x]) ++ rows)) : va_D A ((X ++ [x]) ++ (pl ++ rows)) := by
  rw [List.append_assoc (X ++ pl)] at hD
  have h := va_D.swap hD
  rw [← List.append_assoc X] at h
  have h2 := va_D.swap h
  rw [List.append_assoc (X ++ [x])] at h2
  exact h2
theorem vr_outer (c : ClassId) (N h0 : Nat) : ∀ i : Nat, Jvm.Free.Multi.outerC c N h0 i = arrV c N (fun j => va_rf (if j < i then some (h0 + 1 + j) else none))
  | 0 => by
    show ({ cls := c, slots := Array.replicate N .null, vm := .none } : Cell) = _
    rw [arrV_new]
    refine congrArg (arrV c N) (funext fun j => ?_)
    simp [va_rf]
  | i + 1 => by
    show (Jvm.Free.Multi.outerC c N h0 i).setSlot i (.ref (h0 + 1 + i)) = _
    rw [vr_outer c N h0 i, arrV_store]
    refine congrArg (arrV c N) (funext fun j => ?_)
    by_cases e : j = i
    · subst e
      simp [updV, va_rf]
    · by_cases h : j < i
      · simp [updV, e, h, Nat.lt_succ_of_lt h]
      · simp [updV, e, h, show ¬ j < i + 1 by omega]
section VGM
variable {p : Program} {l : Launch} {e : Env} {R : Room} {s : State} {m : MethodId} {args : Array Value} {below : List Frame} {meth : Method} {c : Code} {H : Heap} {locs : List Loc} {cells slots : Nat} {Q : State → Prop}
variable {cc : ByteArray} {pc : Nat} {ls : Array Slot} {rest : List Value} {D : va_G} {cl : List vw_C} {A : Nat → Prop} {a : Nat} {tys : List (ClassId × FieldType)} {ws : va_W} {H0 : Heap}
theorem va_mna {X : va_W} {L : List Nat} {f : Nat → va_E} {cc : ByteArray} (hexec : p.tables.exec = Jvm.exec) (hb : c.code = cc) {own : String} {index : Nat} {ty : FieldType} {cy : ClassId} (hown : s.vm.findClass own = some m.cls) (hclink : (Cond.classLink own index ("[" ++ (FieldType.array ty).toString)).before args s = true) (hover : va_AOA ty s) (harr : (Cond.arrayClass ty).before args s = true) (hcy : s.vm.findClass (FieldType.array ty).toString = some cy)
    (hK : va_K D cl tys s) (hP : va_P D cl (X ++ va_pl L f) H) (hD : va_D A (X ++ va_pl L f)) (hS : va_S A H0 H locs) (hA : ∀ q, H0.size ≤ q → A q) {n k : Int32} {N' K' : Nat} {z : vp_A} (hn : ¬ n < 0) (hk : ¬ k < 0) (hN : n.toNatClampNeg = N') (hM : k.toNatClampNeg = K')
    (hb1 : N' * 4 ≤ 536870912) (hb2 : K' * componentBytes ty ≤ 536870912) (hb3 : K' ≤ 536870912) (hdf : fits ty (defaultValue ty) = true) (hdd : (defaultValue ty).isDefault = true) (hcells : cells + (1 + N') ≤ R.cells) (hslots : slots + (N' + N' * K') ≤ R.slots) (hz : ∀ c : ClassId, Jvm.Free.Multi.innerC c K' (defaultValue ty) = vp_cell c z) (hdg : decode cc pc = .ok (.multianewarray index 2, 4))
    (kk : ∀ (q : Nat) (r : Nat → Nat) (cA : ClassId) (H1 : Heap), (∀ i j : Nat, i < N' → j < N' → r i = r j → i = j) → (∀ i : Nat, i < N' → r i ∉ L) → va_K D cl (tys ++ [(cA, .array ty)]) s →
      va_P D cl ((X ++ [(q, .inl (cA, N', .inr (.inr (.inr (.inr (fun i => if i < N' then some (r i) else none))))))]) ++ va_pl (L ++ (List.range N').map r) (vr_up f ((List.range N').map r) (.inl (cy, z)))) H1 → va_D A ((X ++ [(q, .inl (cA, N', .inr (.inr (.inr (.inr (fun i => if i < N' then some (r i) else none))))))]) ++ va_pl (L ++ (List.range N').map r) (vr_up f ((List.range N').map r) (.inl (cy, z)))) → va_S A H0 H1 locs →
      W p l e R s m args below meth c H1 locs (cells + 1 + N') (slots + N' + N' * K') Q (F0 m (pc + 4) ls (.ref q :: rest))) : W p l e R s m args below meth c H locs cells slots Q (F0 m pc ls (.int k :: .int n :: rest)) := by
  subst hN
  subst hM
  intro T hT Xs
  obtain ⟨vm₁, cA, comp, -, fA, fC, hO, -, X', step⟩ := Xs.multianewarray2F hexec hown hclink (va_AOA.use hover) harr (g := F0 m pc ls (.int k :: .int n :: rest)) rfl (by rw [hb]; exact hdg) rfl hn hk hb1 hb2 hb3 hdf hdd hcells hslots
  have ec : some cy = some comp := hcy.symm.trans fC
  cases ec
  generalize hF : Jvm.Free.Multi.fill (T.setVm vm₁) cA cy n.toNatClampNeg k.toNatClampNeg (defaultValue ty) n.toNatClampNeg = F at X' step
  have hTh : (T.setVm vm₁).heap = H := hT
  obtain ⟨f1, f2, -, -⟩ := Jvm.Free.Multi.fill_facts (T.setVm vm₁) cA cy n.toNatClampNeg k.toNatClampNeg (defaultValue ty) n.toNatClampNeg
  rw [hF, hTh] at f1 f2
  have hold : ∀ x : Nat, x < H.size → F.heap[x]? = H[x]? := fun x hx => by
    have := Jvm.Free.Multi.fill_old (T.setVm vm₁) cA cy n.toNatClampNeg k.toNatClampNeg (defaultValue ty) (a := x) (by rw [hTh]; exact hx) n.toNatClampNeg
    rw [hF, hTh] at this
    exact this
  have hrow : ∀ j : Nat, j < n.toNatClampNeg → F.heap[H.size + 1 + j]? = some (vp_cell cy z) := fun j hj => by
    have := Jvm.Free.Multi.fill_inner (T.setVm vm₁) cA cy n.toNatClampNeg k.toNatClampNeg (defaultValue ty) n.toNatClampNeg j hj
    rw [hF, hTh, hz] at this
    exact this
  have hout : Jvm.Free.Multi.outerC cA n.toNatClampNeg H.size n.toNatClampNeg = vp_cell cA (n.toNatClampNeg, .inr (.inr (.inr (.inr (fun i => if i < n.toNatClampNeg then some (H.size + 1 + i) else none))))) := by
    rw [vp_cell_q]
    exact vr_outer cA n.toNatClampNeg H.size n.toNatClampNeg
  rw [hout] at f2
  have hlt : ∀ a, a ∈ L → a < H.size := fun a ha => by
    obtain ⟨k9, hk9⟩ := va_pl_get (X := X) (f := f) ha
    exact (hP k9 _ hk9).lt
  have hnl : ∀ i : Nat, i < n.toNatClampNeg → H.size + 1 + i ∉ L := fun i _ h => by
    have := hlt _ h
    omega
  have hnm : ∀ a, a ∈ (List.range n.toNatClampNeg).map (fun i => H.size + 1 + i) → a ∉ L := fun a ha h => by
    obtain ⟨i, -, rfl⟩ := List.mem_map.mp ha
    have := hlt _ h
    omega
  have hP0 : va_P D cl (X ++ va_pl L f) F.heap := hP.kept (fun k9 x hx => hold x.1 ((hP k9 x hx).lt))
  have hP1 : va_P D cl ((X ++ va_pl L f) ++ [(H.size, .inl (cA, n.toNatClampNeg, .inr (.inr (.inr (.inr (fun i => if i < n.toNatClampNeg then some (H.size + 1 + i) else none))))))]) F.heap := hP0.app (fun k9 x hx => by
    have h0 : k9 < 1 := (List.getElem?_eq_some_iff.mp hx).1
    rw [show k9 = 0 by omega] at hx
    cases hx
    exact f2)
  have hP2 : va_P D cl (((X ++ va_pl L f) ++ [(H.size, .inl (cA, n.toNatClampNeg, .inr (.inr (.inr (.inr (fun i => if i < n.toNatClampNeg then some (H.size + 1 + i) else none))))))]) ++ ((List.range n.toNatClampNeg).map (fun i => H.size + 1 + i)).map (fun a => (a, .inl (cy, z)))) F.heap := hP1.app (fun k9 x hx => by
    obtain ⟨a, ha, rfl⟩ := List.mem_map.mp (List.mem_of_getElem? hx)
    obtain ⟨i, hi, rfl⟩ := List.mem_map.mp ha
    exact hrow i (List.mem_range.mp hi))
  have hD2 : va_D A (((X ++ va_pl L f) ++ [(H.size, .inl (cA, n.toNatClampNeg, .inr (.inr (.inr (.inr (fun i => if i < n.toNatClampNeg then some (H.size + 1 + i) else none))))))]) ++ ((List.range n.toNatClampNeg).map (fun i => H.size + 1 + i)).map (fun a => (a, .inl (cy, z)))) := by
    have hD1 := hD.push (e := .inl (cA, n.toNatClampNeg, .inr (.inr (.inr (.inr (fun i => if i < n.toNatClampNeg then some (H.size + 1 + i) else none)))))) hP rfl (hA _ hS.1)
    generalize hW1 : (X ++ va_pl L f) ++ [(H.size, .inl (cA, n.toNatClampNeg, .inr (.inr (.inr (.inr (fun i => if i < n.toNatClampNeg then some (H.size + 1 + i) else none))))))] = W1 at hD1 hP1 ⊢
    have hle : ∀ (k9 : Nat) (x : Nat × va_E), W1[k9]? = some x → x.1 ≤ H.size := fun k9 x hx => by
      rw [← hW1] at hx
      by_cases hl : k9 < (X ++ va_pl L f).length
      · rw [List.getElem?_append_left hl] at hx
        exact Nat.le_of_lt ((hP k9 x hx).lt)
      · rw [List.getElem?_append_right (by omega)] at hx
        have h0 : k9 - (X ++ va_pl L f).length < 1 := (List.getElem?_eq_some_iff.mp hx).1
        rw [show k9 - (X ++ va_pl L f).length = 0 by omega] at hx
        cases hx
        exact Nat.le_refl _
    have hr : ∀ (k9 : Nat) (x : Nat × va_E), (((List.range n.toNatClampNeg).map (fun i => H.size + 1 + i)).map (fun a => ((a, .inl (cy, z)) : Nat × va_E)))[k9]? = some x → x.1 = H.size + 1 + k9 := fun k9 x hx => by
      rw [List.getElem?_map, List.getElem?_map] at hx
      by_cases h9 : k9 < n.toNatClampNeg
      · rw [List.getElem?_range h9] at hx
        cases hx
        rfl
      · have hn0 : (List.range n.toNatClampNeg)[k9]? = none := List.getElem?_eq_none (by rw [List.length_range]; omega)
        rw [hn0] at hx
        cases hx
    refine ⟨fun i j x y hi hj hxy => ?_, fun k9 x hx => ?_⟩
    · by_cases h1 : i < W1.length <;> by_cases h2 : j < W1.length
      · rw [List.getElem?_append_left h1] at hi
        rw [List.getElem?_append_left h2] at hj
        exact hD1.1 i j x y hi hj hxy
      · rw [List.getElem?_append_left h1] at hi
        rw [List.getElem?_append_right (by omega)] at hj
        have := hle _ _ hi
        have := hr _ _ hj
        omega
      · rw [List.getElem?_append_right (by omega)] at hi
        rw [List.getElem?_append_left h2] at hj
        have := hle _ _ hj
        have := hr _ _ hi
        omega
      · rw [List.getElem?_append_right (by omega)] at hi hj
        have := hr _ _ hi
        have := hr _ _ hj
        omega
    · by_cases h1 : k9 < W1.length
      · rw [List.getElem?_append_left h1] at hx
        exact hD1.2 k9 x hx
      · rw [List.getElem?_append_right (by omega)] at hx
        have := hr _ _ hx
        exact hA _ (by have := hS.1; omega)
  have hAr : ArrOfT s cA (.array ty) := fun N9 z9 => by
    obtain ⟨-, k9, hk9, cm9, hkk9⟩ := (hO 0 0 0).1
    exact ⟨(fun q hq => by cases hq), k9, hk9, cm9, hkk9⟩
  have hK2 : va_K D cl (tys ++ [(cA, .array ty)]) s := ⟨hK.1, fun k9 x hx => by
    by_cases hl : k9 < tys.length
    · rw [List.getElem?_append_left hl] at hx
      exact hK.2 k9 x hx
    · rw [List.getElem?_append_right (by omega)] at hx
      have h0 : k9 - tys.length < 1 := (List.getElem?_eq_some_iff.mp hx).1
      rw [show k9 - tys.length = 0 by omega] at hx
      cases hx
      exact ⟨hAr, fA⟩⟩
  obtain ⟨t, a1, b1⟩ := kk H.size (fun i => H.size + 1 + i) cA F.heap (fun i j _ _ h => by have h9 : H.size + 1 + i = H.size + 1 + j := h; omega) hnl hK2 (by rw [← vr_rows hnm]; exact vr_lay hP2) (by rw [← vr_rows hnm]; exact vr_layD hD2) ⟨by rw [f1]; have := hS.1; omega, fun x h1 h2 => (hold x (Nat.lt_of_lt_of_le h1 hS.1)).trans (hS.2.1 x h1 h2), hS.2.2⟩ F rfl X'
  refine ⟨t, step t ?_, b1⟩
  have e : T.heap.size = H.size := by rw [hT]
  rw [e]
  exact a1
end VGM
/-! ===== END ===== -/

/-! ===== BEGIN exceptions that leave a method, and their catching by the caller (launches without stack traces) ===== -/
section VXA
/-! The laws vx_back, vx_callV, vx_callS, vx_callSW, vx_throw0, vx_throwS follow proofs of the library, with one case more: JvmDerived/Free/Laws.lean (Back.of_free), Shelf42/LK1.lean (callV, callS), Shelf/KitTraced.lean (throwNew0V, throwNewS). -/
/-- where a method has thrown q: the class by its name, the cell, what was written, the world -/
def vx_T (XC : String → State → State → Prop) (st : State) (q : Addr) (t : State) (mc ms : Nat) (free : Addr → Prop) : Prop :=
  ∃ (E : String) (ce : Cell) (L : List Loc), XC E st t ∧ t.heap[q]? = some ce ∧ ce.vm = .none ∧ st.vm.findClass E = some ce.cls ∧ st.WarmedH t.vm ∧ st.sameButNew ({ t with vm := st.vm } : State) L mc ms ∧ ∀ z ∈ L, free z.base
def vx_Q (Qc : Array Value → State → Outcome → State → Prop) (XC : String → State → State → Prop) (mc ms : Nat) (free : Addr → Prop) : Array Value → State → Outcome → State → Prop := fun a st o t =>
  (Qc a st o t ∧ ∃ L, FrameEnd st o t L mc ms ∧ ∀ q ∈ L, free q.base) ∨ ∃ q, o = .threw q ∧ vx_T XC st q t mc ms free
/-- a callee that returns or throws -/
def vx_Met (l : Launch) (y : MethodName) (ws : List Cond) (rm : Room) (Pc : Array Value → State → Prop) (Qc : Array Value → State → Outcome → State → Prop) (XC : String → State → State → Prop) (mc ms : Nat) (free : Addr → Prop) : Prop :=
  MetFree l y (headSpec ws rm) Pc (fun _ _ _ _ _ => True) (vx_Q Qc XC mc ms free)
def vx_Post (XC : String → State → State → Prop) (mc ms : Nat) (free : Addr → Prop) : Pt → Array Value → Addr → Pt → Prop := fun A a q B =>
  ∃ (g : JFrame) (mk : MethodId) (t : State) (L : List Loc) (E : String) (ce : Cell), B.U.heap = t.heap ∧ B.U.vm = t.vm ∧ XC E (A.U.calling g mk a) t ∧ t.heap[q]? = some ce ∧ ce.vm = .none ∧ A.U.vm.findClass E = some ce.cls ∧ B.locs = A.locs ++ L ∧ (∀ z ∈ L, free z.base) ∧ B.cells = A.cells + mc ∧ B.slots = A.slots + ms
def vx_Back (l : Launch) (R : Room) (p : Program) (e : Env) (below : List Frame) (s : State) (sargs : Array Value) (y : MethodName) (len W9 : Nat)
    (Pre : Pt → Array Value → Prop) (Post : Pt → Array Value → Option Value → Pt → Prop) (PostX : Pt → Array Value → Addr → Pt → Prop) : Prop :=
  ∀ (m : MethodId) (meth : Method) (c : Code) (A : Pt) (g : JFrame) (ig : Instr) (mk : MethodId) (a : Array Value),
    Stand p l e R s m sargs below meth c A.U A.locs A.cells A.slots → g.method = m → g.locals.size = c.maxLocals → decode c.code g.pc = .ok (ig, len) →
    2 * g.monitorRoom + (g.stack.map fun v => v.category).sum ≤ W9 → A.U.methodNamed? y = some mk → Pre A a →
    (∃ (v : Option Value) (B : Pt), Stand p l e R s m sargs below meth c B.U B.locs B.cells B.slots ∧ Post A a v B ∧
      Steps p.tables e below (doInvoke e (A.U.setTop g) [] mk a).1 (B.U.setTop { g with pc := g.pc + len, stack := v.toList ++ g.stack })) ∨
    (∃ (q : Addr) (B : Pt), Stand p l e R s m sargs below meth c B.U B.locs B.cells B.slots ∧ PostX A a q B ∧
      Steps p.tables e below (doInvoke e (A.U.setTop g) [] mk a).1 ((B.U.setTop g).pushFrame (.throwing q)))
section Payer
variable {l : Launch} {R : Room} {p : Program} {e : Env} {below : List Frame} {s : State} {sargs : Array Value} {y : MethodName} {len W9 : Nat}
theorem vx_back {ws : List Cond} {rm : Room} {Pc : Array Value → State → Prop} {Qc : Array Value → State → Outcome → State → Prop} {XC : String → State → State → Prop} {mc ms : Nat} {free : Addr → Prop} {bytes : ByteArray} {maxL : Nat} {ret : Option FieldType}
    (hM : vx_Met l y ws rm Pc Qc XC mc ms free) (hblind : FrameBlind Pc) (hrc : rm.cells = mc) (hrs : rm.slots = ms)
    (hframes : rm.frames + 1 ≤ R.frames) (hlocals : W9 + (maxL + 11) + rm.locals ≤ R.locals)
    (hws : ∀ w ∈ ws, ∀ a' U, s.WarmedH U.vm → w.before a' U = true) (hcode : Cond.code y bytes maxL ret ∈ ws) (hinit : ∀ a' U, s.WarmedH U.vm → (Cond.initialized y.cls).before a' U = true) :
    vx_Back l R p e below s sargs y len W9 (PreOf R mc ms Pc) (PostOf Qc mc ms free) (vx_Post XC mc ms free) := by
  intro m meth c A g ig mk a X hg hsize hdg hW hn hp
  have h1 : (headSpec ws rm).pre.before a A.U = true := atoms_intro fun w hw => hws w hw _ _ X.warmed
  have h2 : (Cond.code y bytes maxL ret).before a A.U = true := hws _ hcode _ _ X.warmed
  have h3 : (Cond.initialized y.cls).before a A.U = true := hinit _ _ X.warmed
  have h4 : A.cells + (headSpec ws rm).room.cells ≤ R.cells := by rw [show (headSpec ws rm).room.cells = mc from hrc]; exact hp.1
  have h5 : A.slots + (headSpec ws rm).room.slots ≤ R.slots := by rw [show (headSpec ws rm).room.slots = ms from hrs]; exact hp.2.1
  have hPc : Pc a (A.U.calling g mk a) := hblind _ _ _ _ hp.2.2
  obtain ⟨U, Ls, c0, s0⟩ := A
  dsimp only [Pt.U, Pt.locs, Pt.cells, Pt.slots] at h1 h2 h3 h4 h5 X hn hPc ⊢
  obtain ⟨methY, cY, hmY, hcY, -, hlY, -, -, -, -⟩ := Cond.code_spec hn h2
  obtain ⟨kY, hkY, -⟩ := className_of_methodNamed hn
  have hinitY : kY.init = .initialized := Cond.initialized_spec (findClass_of_methodNamed hn) hkY h3
  have h : At U g.method c below := by rw [hg]; exact X.here
  have hlocals9 : W9 + (maxL + 11) + (headSpec ws rm).room.locals ≤ R.locals := hlocals
  have happ : (headSpec ws rm).appliesLoose y e.platform (U.calling g mk a) = true :=
    Spec.appliesLoose_calling (g := g) h hdg hn hkY hinitY
      (X.room_calling (g := g) (R' := (headSpec ws rm).room) hsize hmY hcY hframes (by rw [hlY]; omega) h4 h5) h1
  obtain ⟨mid, hmid⟩ := h.above
  have hfr : (U.setTop g).frames = (.java g :: mid) ++ below := by rw [State.frames_setTop' g h.top, hmid]; rfl
  obtain ⟨o, s₂, hsteps, -, hend, hq⟩ := Steps.callFree hM p X.admits X.cas X.clock (acts := []) hfr happ hPc trivial
  have hq' : vx_Q Qc XC mc ms free a (U.calling g mk a) o s₂ := hq
  rw [State.frames_setTop' g h.top] at hend
  obtain ⟨g₀, hg0⟩ := Option.isSome_iff_exists.mp h.top
  obtain ⟨r, hr⟩ := State.topJava?_eq_some.mp hg0
  have hr' : (({ U with heap := s₂.heap, slotsUsed := s₂.slotsUsed } : State).setVm s₂.vm).frames = .java g₀ :: r := hr
  rcases hq' with ⟨hqc, L, hfe, hL⟩ | ⟨q, rfl, E, ce, L, hx, hce, hcv, hcl, hW₂, hsm, hL⟩
  · obtain ⟨⟨v, rfl⟩, hW₂, e2, q2, q3, q4, q5, q6⟩ := id hfe
    have e3 : s₂ = ({ (U.calling g mk a).setFrames s₂.frames with heap := s₂.heap, slotsUsed := s₂.slotsUsed } : State).setVm s₂.vm := by
      have : s₂ = ({ s₂ with vm := (U.calling g mk a).vm } : State).setVm s₂.vm := rfl
      rw [e2] at this
      exact this
    obtain ⟨c₂, i₂, len₂, hc₂, hd₂, hf₂⟩ := hend
    have hW' : U.WarmedH s₂.vm := hW₂
    have hcc : c₂ = c := by
      have h1 : s₂.code? g.method = U.code? g.method := by
        rw [State.code?_eq, State.code?_eq, hW'.alike.method?]
      exact Option.some.inj (hc₂.symm.trans (h1.trans h.code))
    subst hcc
    have hlen : len₂ = len := by rw [hdg] at hd₂; cases hd₂; rfl
    subst hlen
    have hs₂ : s₂ = (({ U with heap := s₂.heap, slotsUsed := s₂.slotsUsed } : State).setVm s₂.vm).setTop { g with pc := g.pc + len₂, stack := v.toList ++ g.stack } := by
      refine e3.trans ?_
      rw [hf₂, State.calling_eq h.top, State.setFrames_setFrames, State.setTop_of_frames _ hr', hr]
      rfl
    have hsame : U.sameButNew ({ U with heap := s₂.heap, slotsUsed := s₂.slotsUsed } : State) L mc ms := by
      refine ⟨?_, q2, q3, q4, q5, q6⟩
      obtain ⟨t, ht, -⟩ := State.frames_cons hr
      show ({ U with heap := s₂.heap, slotsUsed := s₂.slotsUsed } : State) = { U.setFrames U.frames with heap := s₂.heap, slotsUsed := s₂.slotsUsed }
      rw [State.setFrames_self ht]
    subst hg
    refine Or.inl ⟨v, ⟨(({ U with heap := s₂.heap, slotsUsed := s₂.slotsUsed } : State).setVm s₂.vm), Ls ++ L, c0 + mc, s0 + ms⟩,
      ⟨X.admits, X.cas, X.clock, X.frames, X.room, X.hears, X.method, X.code, (X.here.setHeapUsed s₂.heap s₂.slotsUsed).setVm hW'.alike, X.tail, State.WarmedH.trans X.warmed hW', X.limits, X.bytes, X.same.trans (hsame.setVm s.vm)⟩,
      ⟨g, mk, s₂, L, rfl, rfl, hqc, rfl, hL, rfl, rfl⟩, ?_⟩
    show Steps p.tables e below _ ((({ U with heap := s₂.heap, slotsUsed := s₂.slotsUsed } : State).setVm s₂.vm).setTop { g with pc := g.pc + len₂, stack := v.toList ++ g.stack })
    rw [← hs₂]
    exact hsteps
  · obtain ⟨e2, q2, q3, q4, q5, q6⟩ := id hsm
    have e3 : s₂ = ({ (U.calling g mk a).setFrames s₂.frames with heap := s₂.heap, slotsUsed := s₂.slotsUsed } : State).setVm s₂.vm := by
      have : s₂ = ({ s₂ with vm := (U.calling g mk a).vm } : State).setVm s₂.vm := rfl
      rw [e2] at this
      exact this
    have hf₂ : s₂.frames = .throwing q :: .java g :: U.frames.tail := hend
    have hW' : U.WarmedH s₂.vm := hW₂
    have hs₂ : s₂ = ((({ U with heap := s₂.heap, slotsUsed := s₂.slotsUsed } : State).setVm s₂.vm).setTop g).pushFrame (.throwing q) := by
      refine e3.trans ?_
      rw [hf₂, State.calling_eq h.top, State.setFrames_setFrames, State.pushFrame, State.frames_setTop _ hr', State.setTop_of_frames _ hr', State.setFrames_setFrames, hr]
      rfl
    have hsame : U.sameButNew ({ U with heap := s₂.heap, slotsUsed := s₂.slotsUsed } : State) L mc ms := by
      refine ⟨?_, q2, q3, q4, q5, q6⟩
      obtain ⟨t, ht, -⟩ := State.frames_cons hr
      show ({ U with heap := s₂.heap, slotsUsed := s₂.slotsUsed } : State) = { U.setFrames U.frames with heap := s₂.heap, slotsUsed := s₂.slotsUsed }
      rw [State.setFrames_self ht]
    subst hg
    refine Or.inr ⟨q, ⟨(({ U with heap := s₂.heap, slotsUsed := s₂.slotsUsed } : State).setVm s₂.vm), Ls ++ L, c0 + mc, s0 + ms⟩,
      ⟨X.admits, X.cas, X.clock, X.frames, X.room, X.hears, X.method, X.code, (X.here.setHeapUsed s₂.heap s₂.slotsUsed).setVm hW'.alike, X.tail, State.WarmedH.trans X.warmed hW', X.limits, X.bytes, X.same.trans (hsame.setVm s.vm)⟩,
      ⟨g, mk, s₂, L, E, ce, rfl, rfl, hx, hce, hcv, hcl, rfl, hL, rfl, rfl⟩, ?_⟩
    show Steps p.tables e below _ (((({ U with heap := s₂.heap, slotsUsed := s₂.slotsUsed } : State).setVm s₂.vm).setTop g).pushFrame (.throwing q))
    rw [← hs₂]
    exact hsteps
end Payer
section Calls
variable {p : Program} {l : Launch} {e : Env} {R : Room} {s : State} {m : MethodId} {args : Array Value} {below : List Frame} {meth : Method} {c : Code} {T : State} {locs : List Loc} {cells slots : Nat}
theorem vx_callV (X : Stand p l e R s m args below meth c T locs cells slots) (hexec : p.tables.exec = Jvm.exec) {own C : String} {index : Nat} {y : MethodName} {bytes : ByteArray} {maxL : Nat} {ret : Option FieldType}
    (hown : s.vm.findClass own = some m.cls) (hlink : (Cond.methodLink own index y).before args s = true) (hinst : (Cond.instanceMethod y).before args s = true) (hsel : (Cond.selects C y y).before args s = true)
    (hcode : (Cond.code y bytes maxL ret).before args s = true) (hy : y.cls ≠ "java/lang/invoke/MethodHandle" ∧ y.cls ≠ "java/lang/invoke/VarHandle")
    {W9 : Nat} {Pre : Pt → Array Value → Prop} {Post : Pt → Array Value → Option Value → Pt → Prop} {PostX : Pt → Array Value → Addr → Pt → Prop} (hK : vx_Back l R p e below s args y 3 W9 Pre Post PostX)
    {b : Addr} {cellB : Cell} (hcell : T.heap[b]? = some cellB) (hobj : cellB.vm.isStatics = false) (hcls : s.vm.findClass C = some cellB.cls)
    {g : JFrame} (hg : g.method = m) (hsize : g.locals.size = c.maxLocals) {argsL rest : List Value} (hlen : ∀ sig, parseMethodDescriptor y.desc = some sig → argsL.length = sig.parameters.length)
    (hstack : g.stack = argsL.reverse ++ .ref b :: rest) (hW : 2 * g.monitorRoom + (rest.map fun v => v.category).sum ≤ W9) (hdg : decode c.code g.pc = .ok (.invokevirtual index, 3))
    (hpre : ∀ vm₁, s.WarmedH vm₁ → Pre ⟨T.setVm vm₁, locs, cells, slots⟩ (Value.ref b :: argsL).toArray) :
    (∃ (v : Option Value) (vm₁ : Vm) (B : Pt), s.WarmedH vm₁ ∧ Stand p l e R s m args below meth c B.U B.locs B.cells B.slots ∧ Post ⟨T.setVm vm₁, locs, cells, slots⟩ (Value.ref b :: argsL).toArray v B ∧
      ∀ target, Steps p.tables e below (B.U.setTop { g with pc := g.pc + 3, stack := v.toList ++ rest }) target → Steps p.tables e below (T.setTop g) target) ∨
    (∃ (q : Addr) (vm₁ : Vm) (B : Pt), s.WarmedH vm₁ ∧ Stand p l e R s m args below meth c B.U B.locs B.cells B.slots ∧ PostX ⟨T.setVm vm₁, locs, cells, slots⟩ (Value.ref b :: argsL).toArray q B ∧
      Steps p.tables e below (T.setTop g) ((B.U.setTop { g with stack := rest }).pushFrame (.throwing q))) := by
  obtain ⟨mk, methM, hnamed, hmethM, hstM, habM⟩ := Cond.instanceMethod_spec hinst
  obtain ⟨methM', cM, hmethM', -, -, -, -, -, -, hsigM⟩ := Cond.code_spec hnamed hcode
  cases hmethM.symm.trans hmethM'
  obtain ⟨c2, r2, m2, q1, q2, q3, q4, kP, hkP, hkPi⟩ := Cond.selects_spec hsel
  cases hcls.symm.trans q1
  cases (State.methodFound?_of_named hnamed hy).symm.trans q2
  cases hnamed.symm.trans q3
  have hselP : selectMethod e.platform s.vm cellB.cls mk = .method mk := by rw [Launch.admits_selectMethod X.admits]; exact q4
  obtain ⟨vm₁, X₁, hstep₁⟩ := X.invokevirtual hexec hown hlink hnamed hmethM hstM hkP hkPi hy (a := b) (cell := cellB) hcell
    (fun z h => by rw [h] at hobj; cases hobj) hselP hmethM habM hkP hkPi (g := g) hg (argsL := argsL) (rest := rest) (hlen _ hsigM) hstack hdg
  rcases hK m meth c ⟨T.setVm vm₁, locs, cells, slots⟩ { g with stack := rest } (.invokevirtual index) mk (Value.ref b :: argsL).toArray X₁ hg hsize hdg hW (X₁.named hnamed) (hpre vm₁ X₁.warmed) with ⟨v, B, X', hpost, hsteps⟩ | ⟨q, B, X', hpost, hsteps⟩
  · exact Or.inl ⟨v, vm₁, B, X₁.warmed, X', hpost, fun target h => hstep₁ _ fun acts => by rw [doInvoke_state]; exact hsteps.trans h⟩
  · exact Or.inr ⟨q, vm₁, B, X₁.warmed, X', hpost, hstep₁ _ fun acts => by rw [doInvoke_state]; exact hsteps⟩
theorem vx_callS (X : Stand p l e R s m args below meth c T locs cells slots) (hexec : p.tables.exec = Jvm.exec) {own : String} {index : Nat} {y : MethodName} {bytes : ByteArray} {maxL : Nat} {ret : Option FieldType}
    (hown : s.vm.findClass own = some m.cls) (hlink : (Cond.methodLink own index y).before args s = true) (hstat : (Cond.static y).before args s = true) (hinit : (Cond.initialized y.cls).before args s = true)
    (hcode : (Cond.code y bytes maxL ret).before args s = true) (hy : y.cls ≠ "java/lang/invoke/MethodHandle" ∧ y.cls ≠ "java/lang/invoke/VarHandle")
    {W9 : Nat} {Pre : Pt → Array Value → Prop} {Post : Pt → Array Value → Option Value → Pt → Prop} {PostX : Pt → Array Value → Addr → Pt → Prop} (hK : vx_Back l R p e below s args y 3 W9 Pre Post PostX)
    {g : JFrame} (hg : g.method = m) (hsize : g.locals.size = c.maxLocals) {argsL rest : List Value} (hlen : ∀ sig, parseMethodDescriptor y.desc = some sig → argsL.length = sig.parameters.length)
    (hstack : g.stack = argsL.reverse ++ rest) (hW : 2 * g.monitorRoom + (rest.map fun v => v.category).sum ≤ W9) (hdg : decode c.code g.pc = .ok (.invokestatic index, 3))
    (hpre : ∀ vm₁, s.WarmedH vm₁ → Pre ⟨T.setVm vm₁, locs, cells, slots⟩ argsL.toArray) :
    (∃ (v : Option Value) (vm₁ : Vm) (B : Pt), s.WarmedH vm₁ ∧ Stand p l e R s m args below meth c B.U B.locs B.cells B.slots ∧ Post ⟨T.setVm vm₁, locs, cells, slots⟩ argsL.toArray v B ∧
      ∀ target, Steps p.tables e below (B.U.setTop { g with pc := g.pc + 3, stack := v.toList ++ rest }) target → Steps p.tables e below (T.setTop g) target) ∨
    (∃ (q : Addr) (vm₁ : Vm) (B : Pt), s.WarmedH vm₁ ∧ Stand p l e R s m args below meth c B.U B.locs B.cells B.slots ∧ PostX ⟨T.setVm vm₁, locs, cells, slots⟩ argsL.toArray q B ∧
      Steps p.tables e below (T.setTop g) ((B.U.setTop { g with stack := rest }).pushFrame (.throwing q))) := by
  obtain ⟨mk, hnamed⟩ := Cond.code_named hcode
  obtain ⟨methM, cM, hmethM, -, -, -, -, -, -, hsigM⟩ := Cond.code_spec hnamed hcode
  have hstatic : methM.isStatic = true := Cond.static_spec hnamed hmethM hstat
  obtain ⟨kP, hkP, -⟩ := className_of_methodNamed hnamed
  have hinitP : kP.init = .initialized := Cond.initialized_spec (findClass_of_methodNamed hnamed) hkP hinit
  obtain ⟨vm₁, X₁, hstep₁⟩ := X.invokestatic hexec hown hlink hnamed hmethM hstatic hkP hinitP hy (g := g) hg (argsL := argsL) (rest := rest) (hlen _ hsigM) hstack hdg
  rcases hK m meth c ⟨T.setVm vm₁, locs, cells, slots⟩ { g with stack := rest } (.invokestatic index) mk argsL.toArray X₁ hg hsize hdg hW (X₁.named hnamed) (hpre vm₁ X₁.warmed) with ⟨v, B, X', hpost, hsteps⟩ | ⟨q, B, X', hpost, hsteps⟩
  · exact Or.inl ⟨v, vm₁, B, X₁.warmed, X', hpost, fun target h => hstep₁ _ fun acts => by rw [doInvoke_state]; exact hsteps.trans h⟩
  · exact Or.inr ⟨q, vm₁, B, X₁.warmed, X', hpost, hstep₁ _ fun acts => by rw [doInvoke_state]; exact hsteps⟩
end Calls
theorem vx_cls {s : State} {T : State} {vm₁ : Vm} {E : String} {k : ClassId} (hW : s.WarmedH vm₁) (h : (T.setVm vm₁).vm.findClass E = some k) : s.vm.findClass E = some k := by
  have h1 : vm₁.findClass E = some k := h
  rw [hW.alike.findClass] at h1
  exact h1
/-- the method's frame g, with q thrown over it -/
def vx_W (p : Program) (l : Launch) (e : Env) (R : Room) (s : State) (m : MethodId) (args : Array Value) (below : List Frame) (meth : Method) (c : Code) (H : Heap) (locs : List Loc) (cells slots : Nat) (Q : State → Prop) (g : JFrame) (q : Addr) : Prop :=
  ∀ T : State, T.heap = H → Stand p l e R s m args below meth c T locs cells slots → ∃ t, Steps p.tables e below ((T.setTop g).pushFrame (.throwing q)) t ∧ Q t
def vx_Run (p : Program) (l : Launch) (e : Env) (R : Room) (s : State) (m : MethodId) (args : Array Value) (below : List Frame) (meth : Method) (c : Code) (H : Heap) (locs : List Loc) (cells slots mc ms : Nat) (g : JFrame) (rest : List Value) (Qa : State → Outcome → State → Prop) (XC : String → State → State → Prop) (free : Addr → Prop) : Prop :=
  ∀ T : State, T.heap = H → Stand p l e R s m args below meth c T locs cells slots →
    (∃ (v : Option Value) (st₀ t T' : State) (L : List Loc), st₀.heap = H ∧ Stand p l e R s m args below meth c T' (locs ++ L) (cells + mc) (slots + ms) ∧ (∀ q ∈ L, free q.base) ∧ T'.heap = t.heap ∧ T'.vm = t.vm ∧ Qa st₀ (.returned v) t ∧
      Goes p e below T g T' { g with pc := g.pc + 3, stack := v.toList ++ rest }) ∨
    (∃ (q : Addr) (st₀ t T' : State) (L : List Loc) (E : String) (ce : Cell), st₀.heap = H ∧ Stand p l e R s m args below meth c T' (locs ++ L) (cells + mc) (slots + ms) ∧ (∀ z ∈ L, free z.base) ∧ T'.heap = t.heap ∧ T'.vm = t.vm ∧ XC E st₀ t ∧ t.heap[q]? = some ce ∧ ce.vm = .none ∧ s.vm.findClass E = some ce.cls ∧
      Steps p.tables e below (T.setTop g) ((T'.setTop { g with stack := rest }).pushFrame (.throwing q)))
def vx_X {S : Type} (px : S → Prop) (B : String → S → State → Prop) (A : Nat → Prop) : String → State → State → Prop := fun E st t => ∃ u : S, px u ∧ B E u t ∧ va_F A st t
section Runs
variable {p : Program} {l : Launch} {e : Env} {R : Room} {s : State} {m : MethodId} {args : Array Value} {below : List Frame} {meth : Method} {c : Code} {H : Heap} {locs : List Loc} {cells slots : Nat}
variable {y : MethodName} {bytes cc : ByteArray} {maxL nL mc ms n index : Nat} {ret : Option FieldType} {ws : List Cond} {rm : Room} {Pc : Array Value → State → Prop} {Qc : Array Value → State → Outcome → State → Prop} {XC : String → State → State → Prop} {free : Addr → Prop} {Ts : List Cond} {own C : String} {b : Addr} {As rest : List Value} {g : JFrame}
theorem vx_callBack (cb : CallB R s args own index y bytes maxL ret ws rm mc ms n) (hM : vx_Met l y ws rm Pc Qc XC mc ms free) (hbl : FrameBlind Pc) : vx_Back l R p e below s args y 3 8 (PreOf R mc ms Pc) (PostOf Qc mc ms free) (vx_Post XC mc ms free) := by
  obtain ⟨hrc, hrs, hfr, hlo, hws, hcw, -, hini, -⟩ := cb
  exact vx_back (bytes := bytes) (maxL := maxL) (ret := ret) hM hbl hrc hrs hfr hlo hws hcw (fun a' U hW => word_at hW (Or.inl (by first | rfl | simp [Cond.onTables, Cond.keeps, Cond.steady])) hini)
theorem vx_runV (S : CallFix p m c cc nL s args Ts own) (hM : vx_Met l y ws rm Pc Qc XC mc ms free) (cw : CallW R s args own C index y bytes maxL ret ws rm mc ms n) (hp : PreV s H C b Pc As)
    (hg : g.method = m) (hn : As.length = n) (hsize : g.locals.size = nL) (hstack : g.stack = As.reverse ++ .ref b :: rest) (hW : 2 * g.monitorRoom + (rest.map fun v => v.category).sum ≤ 8) (hdg : decode cc g.pc = .ok (.invokevirtual index, 3)) (hf : cells + mc ≤ R.cells ∧ slots + ms ≤ R.slots) :
    vx_Run p l e R s m args below meth c H locs cells slots mc ms g rest (Qc (Value.ref b :: As).toArray) XC free := by
  have hK : vx_Back l R p e below s args y 3 8 (PreOf R mc ms Pc) (PostOf Qc mc ms free) (vx_Post XC mc ms free) := vx_callBack cw.1 hM hp.1
  obtain ⟨⟨-, -, -, -, -, -, hcode, -, hy, hlen, hl⟩, hin, hse⟩ := cw
  obtain ⟨hx, hb, hml, ho, -⟩ := S
  obtain ⟨-, ⟨cellB, hcB, hoB, hclB⟩, hPc⟩ := hp
  intro T hT X
  rcases vx_callV X hx (C := C) (bytes := bytes) (maxL := maxL) (ret := ret) ho hl hin hse hcode hy hK (by rw [hT]; exact hcB) hoB hclB hg (hsize.trans hml.symm) (argsL := As) (rest := rest) (fun sig h => hn.trans (hlen sig h)) hstack hW (by rw [hb]; exact hdg)
    (fun vm₁ hW₁ => ⟨hf.1, hf.2, hPc (T.setVm vm₁) hT hW₁⟩) with ⟨v, vm₁, ⟨U', l2, c2, s2⟩, hW₁, X', ⟨g', mk, t, L, e1, e2, hq, h1, hL, h2, h3⟩, st⟩ | ⟨q, vm₁, ⟨U', l2, c2, s2⟩, hW₁, X', ⟨g', mk, t, L, E, ce, e1, e2, hq, hce, hcv, hcl, h1, hL, h2, h3⟩, st⟩
  · dsimp only [Pt.U, Pt.locs, Pt.cells, Pt.slots] at X' e1 e2 h1 h2 h3 st
    subst h1; subst h2; subst h3
    exact Or.inl ⟨v, (T.setVm vm₁).calling g' mk (Value.ref b :: As).toArray, t, U', L, hT, X', hL, e1, e2, hq, st⟩
  · dsimp only [Pt.U, Pt.locs, Pt.cells, Pt.slots] at X' e1 e2 h1 h2 h3 st hcl
    subst h1; subst h2; subst h3
    exact Or.inr ⟨q, (T.setVm vm₁).calling g' mk (Value.ref b :: As).toArray, t, U', L, E, ce, hT, X', hL, e1, e2, hq, hce, hcv, vx_cls hW₁ hcl, st⟩
theorem vx_runS (S : CallFix p m c cc nL s args Ts own) (hM : vx_Met l y ws rm Pc Qc XC mc ms free) (cw : CallB R s args own index y bytes maxL ret ws rm mc ms n ∧ (Cond.static y).before args s = true) (hp : PreS s H Pc As)
    (hg : g.method = m) (hn : As.length = n) (hsize : g.locals.size = nL) (hstack : g.stack = As.reverse ++ rest) (hW : 2 * g.monitorRoom + (rest.map fun v => v.category).sum ≤ 8) (hdg : decode cc g.pc = .ok (.invokestatic index, 3)) (hf : cells + mc ≤ R.cells ∧ slots + ms ≤ R.slots) :
    vx_Run p l e R s m args below meth c H locs cells slots mc ms g rest (Qc As.toArray) XC free := by
  have hK : vx_Back l R p e below s args y 3 8 (PreOf R mc ms Pc) (PostOf Qc mc ms free) (vx_Post XC mc ms free) := vx_callBack cw.1 hM hp.1
  obtain ⟨⟨-, -, -, -, -, -, hcode, hini, hy, hlen, hl⟩, hstt⟩ := cw
  obtain ⟨hx, hb, hml, ho, -⟩ := S
  intro T hT X
  rcases vx_callS X hx (bytes := bytes) (maxL := maxL) (ret := ret) ho hl hstt hini hcode hy hK hg (hsize.trans hml.symm) (argsL := As) (rest := rest) (fun sig h => hn.trans (hlen sig h)) hstack hW (by rw [hb]; exact hdg)
    (fun vm₁ hW₁ => ⟨hf.1, hf.2, hp.2 (T.setVm vm₁) hT hW₁⟩) with ⟨v, vm₁, ⟨U', l2, c2, s2⟩, hW₁, X', ⟨g', mk, t, L, e1, e2, hq, h1, hL, h2, h3⟩, st⟩ | ⟨q, vm₁, ⟨U', l2, c2, s2⟩, hW₁, X', ⟨g', mk, t, L, E, ce, e1, e2, hq, hce, hcv, hcl, h1, hL, h2, h3⟩, st⟩
  · dsimp only [Pt.U, Pt.locs, Pt.cells, Pt.slots] at X' e1 e2 h1 h2 h3 st
    subst h1; subst h2; subst h3
    exact Or.inl ⟨v, (T.setVm vm₁).calling g' mk As.toArray, t, U', L, hT, X', hL, e1, e2, hq, st⟩
  · dsimp only [Pt.U, Pt.locs, Pt.cells, Pt.slots] at X' e1 e2 h1 h2 h3 st hcl
    subst h1; subst h2; subst h3
    exact Or.inr ⟨q, (T.setVm vm₁).calling g' mk As.toArray, t, U', L, E, ce, hT, X', hL, e1, e2, hq, hce, hcv, vx_cls hW₁ hcl, st⟩
end Runs
section Rows
variable {p : Program} {l : Launch} {e : Env} {R : Room} {s : State} {m : MethodId} {args : Array Value} {below : List Frame} {meth : Method} {c : Code} {H : Heap} {locs : List Loc} {cells slots : Nat} {Q : State → Prop}
variable {mc ms : Nat} {free : Addr → Prop} {A0 A1 : Nat → Prop} {H0 : Heap} {a : Array Value} {pc : Nat} {ls : Array Slot} {st0 rest : List Value}
theorem vx_keep {st₀ t T' : State} {L : List Loc} (h0 : st₀.heap = H) (e1 : T'.heap = t.heap) (hS : va_S A0 H0 H locs) (hA : ∀ q, q < H.size → A1 q → A0 q) (hf : ∀ q, free q → A0 q) (hL : ∀ q ∈ L, free q.base) (hF : va_F A1 st₀ t) :
    H.size ≤ T'.heap.size ∧ (∀ q : Nat, q < H.size → ¬ A1 q → T'.heap[q]? = H[q]?) ∧ va_S A0 H0 T'.heap (locs ++ L) := by
  obtain ⟨hz, hk⟩ := hF
  rw [h0] at hz hk
  exact ⟨by rw [e1]; exact hz, fun q h1 h2 => by rw [e1]; exact hk q h1 h2,
    ⟨Nat.le_trans hS.1 (by rw [e1]; exact hz), fun q h1 h2 => by rw [e1, hk q (Nat.lt_of_lt_of_le h1 hS.1) (fun z => h2 (hA q (Nat.lt_of_lt_of_le h1 hS.1) z))]; exact hS.2.1 q h1 h2, fun q hq => by
      rcases List.mem_append.mp hq with h | h
      · exact hS.2.2 q h
      · exact hf _ (hL q h)⟩⟩
theorem vx_calli {S SX : Type} {post : Int32 → S → Prop} {px : SX → Prop} {B : S → State → Prop} {BX : String → SX → State → Prop} {AX : Nat → Prop} (hr : vx_Run p l e R s m args below meth c H locs cells slots mc ms (F0 m pc ls st0) rest (va_Qi post B A1 a) (vx_X px BX AX) free) (hS : va_S A0 H0 H locs) (hA : ∀ q, q < H.size → A1 q → A0 q) (hf : ∀ q, free q → A0 q) (hAX : ∀ q, q < H.size → AX q → A0 q)
    (kx : ∀ (E : String) (ce : Cell) (q9 : Addr) (u : SX) (t : State) (H1 : Heap) (locs1 : List Loc), t.heap = H1 → s.vm.Alike t.vm → px u → BX E u t → H.size ≤ H1.size → (∀ q : Nat, q < H.size → ¬ AX q → H1[q]? = H[q]?) → va_S A0 H0 H1 locs1 → H1[q9]? = some ce → ce.vm = .none → s.vm.findClass E = some ce.cls → vx_W p l e R s m args below meth c H1 locs1 (cells + mc) (slots + ms) Q (F0 m pc ls rest) q9)
    (kk : ∀ (r : Int32) (u : S) (t : State) (H1 : Heap) (locs1 : List Loc), t.heap = H1 → s.vm.Alike t.vm → post r u → B u t → H.size ≤ H1.size → (∀ q : Nat, q < H.size → ¬ A1 q → H1[q]? = H[q]?) → va_S A0 H0 H1 locs1 → W p l e R s m args below meth c H1 locs1 (cells + mc) (slots + ms) Q (F0 m (pc + 3) ls (.int r :: rest))) : W p l e R s m args below meth c H locs cells slots Q (F0 m pc ls st0) := by
  intro T hT X
  rcases hr T hT X with ⟨v, st₀, t, T', L, h0, X', hL, e1, e2, ⟨⟨r, u, hv, hp, hb⟩, hF⟩, st⟩ | ⟨q, st₀, t, T', L, E, ce, h0, X', hL, e1, e2, ⟨u, hp, hb, hF⟩, hce, hcv, hcl, st⟩
  · cases hv
    obtain ⟨k1, k2, k3⟩ := vx_keep h0 e1 hS hA hf hL hF
    obtain ⟨t2, a1, b1⟩ := kk r u t T'.heap (locs ++ L) e1.symm (by rw [← e2]; exact X'.warmed.alike) hp hb k1 k2 k3 T' rfl X'
    exact ⟨t2, st t2 a1, b1⟩
  · obtain ⟨k1, k2, k3⟩ := vx_keep h0 e1 hS hAX hf hL hF
    obtain ⟨t2, a1, b1⟩ := kx E ce q u t T'.heap (locs ++ L) e1.symm (by rw [← e2]; exact X'.warmed.alike) hp hb k1 k2 k3 (by rw [e1]; exact hce) hcv hcl T' rfl X'
    exact ⟨t2, st.trans a1, b1⟩
theorem vx_calll {S SX : Type} {post : Int64 → S → Prop} {px : SX → Prop} {B : S → State → Prop} {BX : String → SX → State → Prop} {AX : Nat → Prop} (hr : vx_Run p l e R s m args below meth c H locs cells slots mc ms (F0 m pc ls st0) rest (va_Ql post B A1 a) (vx_X px BX AX) free) (hS : va_S A0 H0 H locs) (hA : ∀ q, q < H.size → A1 q → A0 q) (hf : ∀ q, free q → A0 q) (hAX : ∀ q, q < H.size → AX q → A0 q)
    (kx : ∀ (E : String) (ce : Cell) (q9 : Addr) (u : SX) (t : State) (H1 : Heap) (locs1 : List Loc), t.heap = H1 → s.vm.Alike t.vm → px u → BX E u t → H.size ≤ H1.size → (∀ q : Nat, q < H.size → ¬ AX q → H1[q]? = H[q]?) → va_S A0 H0 H1 locs1 → H1[q9]? = some ce → ce.vm = .none → s.vm.findClass E = some ce.cls → vx_W p l e R s m args below meth c H1 locs1 (cells + mc) (slots + ms) Q (F0 m pc ls rest) q9)
    (kk : ∀ (r : Int64) (u : S) (t : State) (H1 : Heap) (locs1 : List Loc), t.heap = H1 → s.vm.Alike t.vm → post r u → B u t → H.size ≤ H1.size → (∀ q : Nat, q < H.size → ¬ A1 q → H1[q]? = H[q]?) → va_S A0 H0 H1 locs1 → W p l e R s m args below meth c H1 locs1 (cells + mc) (slots + ms) Q (F0 m (pc + 3) ls (.long r :: rest))) : W p l e R s m args below meth c H locs cells slots Q (F0 m pc ls st0) := by
  intro T hT X
  rcases hr T hT X with ⟨v, st₀, t, T', L, h0, X', hL, e1, e2, ⟨⟨r, u, hv, hp, hb⟩, hF⟩, st⟩ | ⟨q, st₀, t, T', L, E, ce, h0, X', hL, e1, e2, ⟨u, hp, hb, hF⟩, hce, hcv, hcl, st⟩
  · cases hv
    obtain ⟨k1, k2, k3⟩ := vx_keep h0 e1 hS hA hf hL hF
    obtain ⟨t2, a1, b1⟩ := kk r u t T'.heap (locs ++ L) e1.symm (by rw [← e2]; exact X'.warmed.alike) hp hb k1 k2 k3 T' rfl X'
    exact ⟨t2, st t2 a1, b1⟩
  · obtain ⟨k1, k2, k3⟩ := vx_keep h0 e1 hS hAX hf hL hF
    obtain ⟨t2, a1, b1⟩ := kx E ce q u t T'.heap (locs ++ L) e1.symm (by rw [← e2]; exact X'.warmed.alike) hp hb k1 k2 k3 (by rw [e1]; exact hce) hcv hcl T' rfl X'
    exact ⟨t2, st.trans a1, b1⟩
theorem vx_callf {S SX : Type} {post : UInt32 → S → Prop} {px : SX → Prop} {B : S → State → Prop} {BX : String → SX → State → Prop} {AX : Nat → Prop} (hr : vx_Run p l e R s m args below meth c H locs cells slots mc ms (F0 m pc ls st0) rest (va_Qf post B A1 a) (vx_X px BX AX) free) (hS : va_S A0 H0 H locs) (hA : ∀ q, q < H.size → A1 q → A0 q) (hf : ∀ q, free q → A0 q) (hAX : ∀ q, q < H.size → AX q → A0 q)
    (kx : ∀ (E : String) (ce : Cell) (q9 : Addr) (u : SX) (t : State) (H1 : Heap) (locs1 : List Loc), t.heap = H1 → s.vm.Alike t.vm → px u → BX E u t → H.size ≤ H1.size → (∀ q : Nat, q < H.size → ¬ AX q → H1[q]? = H[q]?) → va_S A0 H0 H1 locs1 → H1[q9]? = some ce → ce.vm = .none → s.vm.findClass E = some ce.cls → vx_W p l e R s m args below meth c H1 locs1 (cells + mc) (slots + ms) Q (F0 m pc ls rest) q9)
    (kk : ∀ (r : UInt32) (u : S) (t : State) (H1 : Heap) (locs1 : List Loc), t.heap = H1 → s.vm.Alike t.vm → post r u → B u t → H.size ≤ H1.size → (∀ q : Nat, q < H.size → ¬ A1 q → H1[q]? = H[q]?) → va_S A0 H0 H1 locs1 → W p l e R s m args below meth c H1 locs1 (cells + mc) (slots + ms) Q (F0 m (pc + 3) ls (.float r :: rest))) : W p l e R s m args below meth c H locs cells slots Q (F0 m pc ls st0) := by
  intro T hT X
  rcases hr T hT X with ⟨v, st₀, t, T', L, h0, X', hL, e1, e2, ⟨⟨r, u, hv, hp, hb⟩, hF⟩, st⟩ | ⟨q, st₀, t, T', L, E, ce, h0, X', hL, e1, e2, ⟨u, hp, hb, hF⟩, hce, hcv, hcl, st⟩
  · cases hv
    obtain ⟨k1, k2, k3⟩ := vx_keep h0 e1 hS hA hf hL hF
    obtain ⟨t2, a1, b1⟩ := kk r u t T'.heap (locs ++ L) e1.symm (by rw [← e2]; exact X'.warmed.alike) hp hb k1 k2 k3 T' rfl X'
    exact ⟨t2, st t2 a1, b1⟩
  · obtain ⟨k1, k2, k3⟩ := vx_keep h0 e1 hS hAX hf hL hF
    obtain ⟨t2, a1, b1⟩ := kx E ce q u t T'.heap (locs ++ L) e1.symm (by rw [← e2]; exact X'.warmed.alike) hp hb k1 k2 k3 (by rw [e1]; exact hce) hcv hcl T' rfl X'
    exact ⟨t2, st.trans a1, b1⟩
theorem vx_calld {S SX : Type} {post : UInt64 → S → Prop} {px : SX → Prop} {B : S → State → Prop} {BX : String → SX → State → Prop} {AX : Nat → Prop} (hr : vx_Run p l e R s m args below meth c H locs cells slots mc ms (F0 m pc ls st0) rest (va_Qd post B A1 a) (vx_X px BX AX) free) (hS : va_S A0 H0 H locs) (hA : ∀ q, q < H.size → A1 q → A0 q) (hf : ∀ q, free q → A0 q) (hAX : ∀ q, q < H.size → AX q → A0 q)
    (kx : ∀ (E : String) (ce : Cell) (q9 : Addr) (u : SX) (t : State) (H1 : Heap) (locs1 : List Loc), t.heap = H1 → s.vm.Alike t.vm → px u → BX E u t → H.size ≤ H1.size → (∀ q : Nat, q < H.size → ¬ AX q → H1[q]? = H[q]?) → va_S A0 H0 H1 locs1 → H1[q9]? = some ce → ce.vm = .none → s.vm.findClass E = some ce.cls → vx_W p l e R s m args below meth c H1 locs1 (cells + mc) (slots + ms) Q (F0 m pc ls rest) q9)
    (kk : ∀ (r : UInt64) (u : S) (t : State) (H1 : Heap) (locs1 : List Loc), t.heap = H1 → s.vm.Alike t.vm → post r u → B u t → H.size ≤ H1.size → (∀ q : Nat, q < H.size → ¬ A1 q → H1[q]? = H[q]?) → va_S A0 H0 H1 locs1 → W p l e R s m args below meth c H1 locs1 (cells + mc) (slots + ms) Q (F0 m (pc + 3) ls (.double r :: rest))) : W p l e R s m args below meth c H locs cells slots Q (F0 m pc ls st0) := by
  intro T hT X
  rcases hr T hT X with ⟨v, st₀, t, T', L, h0, X', hL, e1, e2, ⟨⟨r, u, hv, hp, hb⟩, hF⟩, st⟩ | ⟨q, st₀, t, T', L, E, ce, h0, X', hL, e1, e2, ⟨u, hp, hb, hF⟩, hce, hcv, hcl, st⟩
  · cases hv
    obtain ⟨k1, k2, k3⟩ := vx_keep h0 e1 hS hA hf hL hF
    obtain ⟨t2, a1, b1⟩ := kk r u t T'.heap (locs ++ L) e1.symm (by rw [← e2]; exact X'.warmed.alike) hp hb k1 k2 k3 T' rfl X'
    exact ⟨t2, st t2 a1, b1⟩
  · obtain ⟨k1, k2, k3⟩ := vx_keep h0 e1 hS hAX hf hL hF
    obtain ⟨t2, a1, b1⟩ := kx E ce q u t T'.heap (locs ++ L) e1.symm (by rw [← e2]; exact X'.warmed.alike) hp hb k1 k2 k3 (by rw [e1]; exact hce) hcv hcl T' rfl X'
    exact ⟨t2, st.trans a1, b1⟩
theorem vx_callv {S SX : Type} {post : S → Prop} {px : SX → Prop} {B : S → State → Prop} {BX : String → SX → State → Prop} {AX : Nat → Prop} (hr : vx_Run p l e R s m args below meth c H locs cells slots mc ms (F0 m pc ls st0) rest (va_Qv post B A1 a) (vx_X px BX AX) free) (hS : va_S A0 H0 H locs) (hA : ∀ q, q < H.size → A1 q → A0 q) (hf : ∀ q, free q → A0 q) (hAX : ∀ q, q < H.size → AX q → A0 q)
    (kx : ∀ (E : String) (ce : Cell) (q9 : Addr) (u : SX) (t : State) (H1 : Heap) (locs1 : List Loc), t.heap = H1 → s.vm.Alike t.vm → px u → BX E u t → H.size ≤ H1.size → (∀ q : Nat, q < H.size → ¬ AX q → H1[q]? = H[q]?) → va_S A0 H0 H1 locs1 → H1[q9]? = some ce → ce.vm = .none → s.vm.findClass E = some ce.cls → vx_W p l e R s m args below meth c H1 locs1 (cells + mc) (slots + ms) Q (F0 m pc ls rest) q9)
    (kk : ∀ (u : S) (t : State) (H1 : Heap) (locs1 : List Loc), t.heap = H1 → s.vm.Alike t.vm → post u → B u t → H.size ≤ H1.size → (∀ q : Nat, q < H.size → ¬ A1 q → H1[q]? = H[q]?) → va_S A0 H0 H1 locs1 → W p l e R s m args below meth c H1 locs1 (cells + mc) (slots + ms) Q (F0 m (pc + 3) ls (rest))) : W p l e R s m args below meth c H locs cells slots Q (F0 m pc ls st0) := by
  intro T hT X
  rcases hr T hT X with ⟨v, st₀, t, T', L, h0, X', hL, e1, e2, ⟨⟨u, hv, hp, hb⟩, hF⟩, st⟩ | ⟨q, st₀, t, T', L, E, ce, h0, X', hL, e1, e2, ⟨u, hp, hb, hF⟩, hce, hcv, hcl, st⟩
  · cases hv
    obtain ⟨k1, k2, k3⟩ := vx_keep h0 e1 hS hA hf hL hF
    obtain ⟨t2, a1, b1⟩ := kk u t T'.heap (locs ++ L) e1.symm (by rw [← e2]; exact X'.warmed.alike) hp hb k1 k2 k3 T' rfl X'
    exact ⟨t2, st t2 a1, b1⟩
  · obtain ⟨k1, k2, k3⟩ := vx_keep h0 e1 hS hAX hf hL hF
    obtain ⟨t2, a1, b1⟩ := kx E ce q u t T'.heap (locs ++ L) e1.symm (by rw [← e2]; exact X'.warmed.alike) hp hb k1 k2 k3 (by rw [e1]; exact hce) hcv hcl T' rfl X'
    exact ⟨t2, st.trans a1, b1⟩
/-- caught by the row x of this method's table; the rows ahead don't take it -/
theorem vx_catch {own name : String} {E : String} {ce : Cell} {q : Addr} (hown : s.vm.findClass own = some m.cls) (pre : List ExceptionTableEntry) (x : ExceptionTableEntry) (suf : List ExceptionTableEntry) (hsplit : c.exceptionTable.toList = pre ++ x :: suf)
    (hpass : ∀ z ∈ pre, covers z pc = false ∨ (z.catchType ≠ 0 ∧ ∃ nm : String, (Cond.classLink own z.catchType nm).before args s = true ∧ va_Nc E nm s)) (hx : covers x pc = true) (h0 : x.catchType ≠ 0)
    (hlink : (Cond.classLink own x.catchType name).before args s = true) (hcast : (Cond.castable E name).before args s = true) (hcell : H[q]? = some ce) (hv : ce.vm = .none) (hcl : s.vm.findClass E = some ce.cls)
    (kk : W p l e R s m args below meth c H locs cells slots Q (F0 m x.handlerPc ls [.ref q])) : vx_W p l e R s m args below meth c H locs cells slots Q (F0 m pc ls rest) q := by
  intro T hT X
  have hpl : e.platform.magicAccessors = ({} : Platform).magicAccessors := by rw [X.admits.platform]
  obtain ⟨c3, c4, hc3, hc4, hasg⟩ := Cond.castable_spec hcast
  cases Option.some.inj (hc3.symm.trans hcl)
  obtain ⟨c5, hc5, hcl5⟩ := Cond.classLink_spec hown hlink e.platform hpl
  cases Option.some.inj (hc4.symm.trans hc5)
  obtain ⟨vm', X', st⟩ := X.thenCaughtThrough q (g := F0 m pc ls rest) rfl (Steps.refl _) (by rw [hT]; exact hcell) (by rw [hv]; rfl) (by obtain ⟨k9, h9, -⟩ := Vm.findClass_spec hcl; exact ⟨k9, h9⟩) pre x suf hsplit
    (fun z hz => by
      rcases hpass z hz with h | ⟨hz0, nm, hl1, hn1⟩
      · exact Or.inl h
      · obtain ⟨c6, hc6, hcl6⟩ := Cond.classLink_spec hown hl1 e.platform hpl
        obtain ⟨a8, b8, h1, h2, h3⟩ := hn1
        cases Option.some.inj (h1.symm.trans hcl)
        cases Option.some.inj (h2.symm.trans hc6)
        exact Or.inr ⟨hz0, _, hcl6, h3⟩) hx (Or.inr ⟨h0, c4, hcl5, hasg⟩)
  obtain ⟨t, a1, b1⟩ := kk (T.setVm vm') hT X'
  exact ⟨t, st.trans a1, b1⟩
end Rows
section Ends
variable {p : Program} {l : Launch} {e : Env} {R : Room} {s : State} {m : MethodId} {args : Array Value} {below : List Frame} {meth : Method} {c : Code} {H : Heap} {locs : List Loc} {cells slots : Nat} {Q : State → Prop}
variable {mc ms : Nat} {free : Addr → Prop} {A0 A1 : Nat → Prop} {H0 : Heap} {a : Array Value} {ls : Array Slot} {st0 rest : List Value}
variable {Qc : Array Value → State → Outcome → State → Prop} {XC : String → State → State → Prop}
/-- what a body that may throw owes at its end -/
def vx_MQ (below : List Frame) (Qc : Array Value → State → Outcome → State → Prop) (XC : String → State → State → Prop) (a : Array Value) (s : State) (mc ms : Nat) (free : Addr → Prop) : State → Prop := fun t =>
  ∃ o, t.status = .running ∧ Ended t below o ∧ vx_Q Qc XC mc ms free a s o t
theorem vx_ret {g : JFrame} {mc ms : Nat} (k : W p l e R s m args below meth c H locs cells slots (MQ below Qc args s mc ms free) g) : W p l e R s m args below meth c H locs cells slots (vx_MQ below Qc XC args s mc ms free) g := by
  intro T hT X
  obtain ⟨t, a1, o, b1, b2, b3, b4⟩ := k T hT X
  exact ⟨t, a1, o, b1, b2, Or.inl ⟨b3, b4⟩⟩
/-- not caught here: it goes on to the caller -/
theorem vx_widen {g : JFrame} {q : Addr} {k n : Nat} (h1 : cells ≤ k) (h2 : slots ≤ n) (kk : vx_W p l e R s m args below meth c H locs k n Q g q) : vx_W p l e R s m args below meth c H locs cells slots Q g q := fun T hT X => kk T hT (stand_widen X h1 h2)
theorem vx_out {pc : Nat} {E : String} {ce : Cell} {q : Addr} {mc ms : Nat} (hout : ∀ x ∈ c.exceptionTable.toList, covers x pc = false) (hlocks : meth.locks = false) (hcell : H[q]? = some ce) (hv : ce.vm = .none) (hcl : s.vm.findClass E = some ce.cls)
    (hx : ∀ t : State, t.heap = H → s.vm.Alike t.vm → XC E s t) (hf : ∀ z ∈ locs, free z.base) (hc : cells ≤ mc) (hs : slots ≤ ms) :
    vx_W p l e R s m args below meth c H locs cells slots (vx_MQ below Qc XC args s mc ms free) (F0 m pc ls rest) q := by
  intro T hT X
  obtain ⟨st1, hrun, hend, hW, hsm⟩ := X.leaveThrown q (g := F0 m pc ls rest) rfl rfl rfl hout hlocks
  have hcell9 : (T.setFrames (.throwing q :: below)).heap[q]? = some ce := by
    show T.heap[q]? = some ce
    rw [hT]; exact hcell
  exact ⟨_, st1, .threw q, hrun, hend, Or.inr ⟨q, rfl, E, ce, locs, hx _ hT hW.alike, hcell9, hv, hcl, hW, hsm.mono hc hs, hf⟩⟩
theorem vx_frame {U : State} {k n : Nat} (h : s.sameButNew ({ U with vm := s.vm } : State) locs k n) : s.heap.size ≤ U.heap.size ∧ ∀ q : Nat, q < s.heap.size → (∀ z ∈ locs, z.base ≠ q) → U.heap[q]? = s.heap[q]? := by
  obtain ⟨-, h2, -, -, -, h6⟩ := h
  refine ⟨h2, fun q hq hz => ?_⟩
  obtain ⟨c9, e1, e2, e3, e4⟩ := h6 q _ (Array.getElem?_eq_getElem hq)
  have hs : c9.slots = (s.heap[q]).slots := Array.ext_getElem? fun i => e4 i fun hm => hz _ hm rfl
  have h9 : c9 = s.heap[q] := by
    rw [hs] at e2
    exact e2
  have e5 : U.heap[q]? = some c9 := e1
  rw [e5, h9, Array.getElem?_eq_getElem hq]
/-- the words of a throw but the four that speak of the heap -/
def vx_no (w : Cond) : Bool := decide (w ≠ .isRef (.static Bundle.tN "UNASSIGNED_STACK" Bundle.steD)) && decide (w ≠ .isRef (.static Bundle.tN "SUPPRESSED_SENTINEL" Bundle.listD)) && decide (w ≠ .laysStatic Bundle.tN "UNASSIGNED_STACK" Bundle.steD) && decide (w ≠ .laysStatic Bundle.tN "SUPPRESSED_SENTINEL" Bundle.listD)
def vx_at0 (own : String) (ic : Nat) (X : String) (names : List String) : List Cond := (Bundle.ownAtoms0 own ic X names).filter vx_no
def vx_atS (own : String) (ic : Nat) (X : String) (names : List String) : List Cond := (Bundle.ownAtoms own ic X names).filter vx_no
/-- a word that the tables alone decide, or a good one -/
def vx_ot (w : Cond) : Bool := w.onTables || goodWord w
theorem vx_ot_at {args a' : Array Value} {s U : State} {w : Cond} (hW : s.WarmedH U.vm) (hvm : s.vm = U.vm) (hg : vx_ot w = true) (h : w.before args s = true) : w.before a' U = true := by
  simp only [vx_ot, Bool.or_eq_true] at hg
  rcases hg with hg | hg
  · exact va_tabs hg hvm h
  · exact word_at hW (good_of_word hg) h
/-- a list's words: the good ones out of the method's own list, the others by premises of their own -/
theorem vx_hat {args : Array Value} {s : State} {L B : List Cond} (h1 : ∀ w ∈ L.filter goodWord, w.before args s = true) (h2 : ∀ w ∈ L.filter (fun w => !goodWord w), w ∈ B) (h3 : ∀ w ∈ B, w.before args s = true) : ∀ w ∈ L, w.before args s = true := by
  intro w hw
  by_cases g : goodWord w = true
  · exact h1 w (List.mem_filter.mpr ⟨hw, g⟩)
  · refine h3 w (h2 w (List.mem_filter.mpr ⟨hw, ?_⟩))
    show (!goodWord w) = true
    cases hgw : goodWord w
    · rfl
    · exact absurd hgw g
theorem vx_c {args : Array Value} {s : State} {w : Cond} {B : List Cond} (h : w.before args s = true) (t : ∀ w ∈ B, w.before args s = true) : ∀ w' ∈ w :: B, w'.before args s = true := fun w' h' => (List.mem_cons.mp h').elim (fun e => by rw [e]; exact h) (t w')
theorem vx_n {args : Array Value} {s : State} : ∀ w ∈ ([] : List Cond), w.before args s = true := fun _ h => nomatch h
theorem vx_own {args : Array Value} {s : State} {L : List Cond} (h1 : ∀ w ∈ L.filter vx_no, w.before args s = true)
    (hU : (Cond.isRef (.static Bundle.tN "UNASSIGNED_STACK" Bundle.steD)).before args s = true) (hN : (Cond.isRef (.static Bundle.tN "SUPPRESSED_SENTINEL" Bundle.listD)).before args s = true)
    (lU : (Cond.laysStatic Bundle.tN "UNASSIGNED_STACK" Bundle.steD).before args s = true) (lN : (Cond.laysStatic Bundle.tN "SUPPRESSED_SENTINEL" Bundle.listD).before args s = true) : ∀ w ∈ L, w.before args s = true := by
  intro w hw
  by_cases e1 : w = .isRef (.static Bundle.tN "UNASSIGNED_STACK" Bundle.steD)
  · rw [e1]; exact hU
  · by_cases e2 : w = .isRef (.static Bundle.tN "SUPPRESSED_SENTINEL" Bundle.listD)
    · rw [e2]; exact hN
    · by_cases e3 : w = .laysStatic Bundle.tN "UNASSIGNED_STACK" Bundle.steD
      · rw [e3]; exact lU
      · by_cases e4 : w = .laysStatic Bundle.tN "SUPPRESSED_SENTINEL" Bundle.listD
        · rw [e4]; exact lN
        · exact h1 w (List.mem_filter.mpr ⟨hw, by unfold vx_no; rw [decide_eq_true e1, decide_eq_true e2, decide_eq_true e3, decide_eq_true e4]; rfl⟩)
/-- where a static field lies, its class's statics cell in H -/
def vx_L (C n d : String) (A : Nat → Prop) (U : State) (H : Heap) : Prop := ∃ (c : ClassId) (k : Class) (i : Nat) (f : Field) (a : Nat) (cell : Cell), U.vm.findClass C = some c ∧ U.fieldFound? C n d = some (c, k, i, f) ∧ f.isStatic = true ∧ k.statics = some a ∧ H[a]? = some cell ∧ cell.vm.isStatics = true ∧ cell.cls = c ∧ f.slot < cell.slots.size ∧ k.staticTypes[f.slot]? = some f.type ∧ ¬ A a
theorem vx_L.moved {C n d : String} {A : Nat → Prop} {u U : State} {H : Heap} (hvm : u.vm.Alike U.vm) (h : vx_L C n d A u H) : vx_L C n d A U H := by
  obtain ⟨c, k, i, f, a, cell, h1, h2, h3, h4, h5, h6, h7, h8, h9, h10⟩ := h
  obtain ⟨k', hi', he⟩ := State.fieldFound?_setVm hvm h2
  exact ⟨c, k', i, f, a, cell, by rw [hvm.findClass]; exact h1, hi', h3, by rw [he]; exact h4, h5, h6, h7, h8, by rw [he]; exact h9, h10⟩
theorem vx_L.kept {C n d : String} {A : Nat → Prop} {U : State} {H H1 : Heap} (h : vx_L C n d A U H) (hq : ∀ a : Nat, a < H.size → ¬ A a → H1[a]? = H[a]?) : vx_L C n d A U H1 := by
  obtain ⟨c, k, i, f, a, cell, h1, h2, h3, h4, h5, h6, h7, h8, h9, h10⟩ := h
  exact ⟨c, k, i, f, a, cell, h1, h2, h3, h4, by rw [hq a (Array.getElem?_eq_some_iff.mp h5).1 h10]; exact h5, h6, h7, h8, h9, h10⟩
theorem vx_L.narrow {C n d : String} {A B : Nat → Prop} {U : State} {H : Heap} (h : vx_L C n d A U H) (hAB : ∀ q, B q → A q) : vx_L C n d B U H := by
  obtain ⟨c, k, i, f, a, cell, h1, h2, h3, h4, h5, h6, h7, h8, h9, h10⟩ := h
  exact ⟨c, k, i, f, a, cell, h1, h2, h3, h4, h5, h6, h7, h8, h9, fun z => h10 (hAB _ z)⟩
theorem vx_L.word {C n d : String} {A : Nat → Prop} {s : State} {args : Array Value} (h : vx_L C n d A s s.heap) : (Cond.laysStatic C n d).before args s = true := by
  obtain ⟨c, k, i, f, a, cell, h1, h2, h3, h4, h5, h6, h7, h8, h9, -⟩ := h
  show (Cond.laysStatic C n d).holds args s none s [] = true
  exact Cond.laysStatic_of h1 h2 h3 h4 h5 h6 h7 h8 h9
/-- .. and what it holds: null or some reference -/
def vx_Zq (C n d : String) (A : Nat → Prop) (U : State) (H : Heap) : Prop := va_Zq C n d A U H ∧ vx_L C n d A U H
theorem vx_Zq.moved {C n d : String} {A : Nat → Prop} {u U : State} {H : Heap} (hvm : u.vm.Alike U.vm) (h : vx_Zq C n d A u H) : vx_Zq C n d A U H := ⟨va_Zq.moved hvm h.1, vx_L.moved hvm h.2⟩
theorem vx_Zq.kept {C n d : String} {A : Nat → Prop} {U : State} {H H1 : Heap} (h : vx_Zq C n d A U H) (hq : ∀ a : Nat, a < H.size → ¬ A a → H1[a]? = H[a]?) : vx_Zq C n d A U H1 := ⟨va_Zq.kept h.1 hq, vx_L.kept h.2 hq⟩
theorem vx_Zq.narrow {C n d : String} {A B : Nat → Prop} {U : State} {H : Heap} (h : vx_Zq C n d A U H) (hAB : ∀ q, B q → A q) : vx_Zq C n d B U H := ⟨va_Zq.narrow h.1 hAB, vx_L.narrow h.2 hAB⟩
theorem vx_Zqof {args : Array Value} {s : State} {C n d : String} {A : Nat → Prop} (hl : (Cond.laysStatic C n d).before args s = true) (hini : (Cond.initialized C).before args s = true) (h : (Cond.isRef (.static C n d)).before args s = true) (hA : ∀ a : Nat, a < s.heap.size → ¬ A a) : vx_Zq C n d A s s.heap := by
  refine ⟨va_Zqof hl hini h hA, ?_⟩
  obtain ⟨c, k, i, f, a, cell, h1, h2, h3, h4, h5, h6, h7, h8, h9⟩ := Cond.laysStatic_spec hl
  exact ⟨c, k, i, f, a, cell, h1, h2, h3, h4, h5, h6, h7, h8, h9, hA a (Array.getElem?_eq_some_iff.mp h5).1⟩
theorem vx_isRef {C n d : String} {v : Value} {A : Nat → Prop} {s : State} {args : Array Value} (h : va_Z C n d v A s s.heap) (hv : v.isRef = true) : (Cond.isRef (.static C n d)).before args s = true := by
  obtain ⟨cf, kf, fi, f, a, cell, h1, h2, h3, h4, h5, h6, h7, -⟩ := h
  have he : (Term.static C n d).eval args s none [] s = some v := by
    simp [Term.eval, State.fieldNamed?, h1, h2, h4, h5, h6, h7]
  simp only [Cond.before, Cond.holds, Cond.value, he]
  cases v <;> simp_all [Value.isRef]
theorem vx_isRefq {C n d : String} {A : Nat → Prop} {s : State} {args : Array Value} (h : va_Zq C n d A s s.heap) : (Cond.isRef (.static C n d)).before args s = true := by
  rcases h with h | ⟨t, h⟩
  · exact vx_isRef h rfl
  · exact vx_isRef h rfl
/-- the same frame, seen from here: as if the method were called anew in this heap -/
theorem vx_rebase {T : State} (X : Stand p l e R s m args below meth c T locs cells slots) {R' : Room} (hf : R'.frames ≤ R.frames) (hl : R'.locals ≤ R.locals) (hc : cells + R'.cells ≤ R.cells) (hs : slots + R'.slots ≤ R.slots) :
    Stand p l e R' ((T.setVm s.vm).setFrames (.invoking m args :: below)) m args below meth c T [] 0 0 := by
  have htop : (T.setVm s.vm).topJava?.isSome := X.here.top
  have hF : ((T.setVm s.vm).setFrames (.invoking m args :: below)).frames = .invoking m args :: below := State.frames_setFrames _ (State.cur_lt_of_top htop)
  obtain ⟨g₀, hg0⟩ := Option.isSome_iff_exists.mp htop
  obtain ⟨r, hr⟩ := State.topJava?_eq_some.mp hg0
  have hl9 : e.platform.stackLimits (T.setVm s.vm).me = e.platform.stackLimits s.me := X.limits
  have hb9 : (T.setVm s.vm).me.stackBytes = s.me.stackBytes := X.bytes
  refine ⟨X.admits, X.cas, X.clock, hF, ?_, X.hears, X.method, X.code, X.here, X.tail, X.warmed, ?_, ?_, ?_⟩
  · have h := X.room
    have hU : ((T.setVm s.vm).setFrames (.invoking m args :: below)).localsInUse = s.localsInUse := by
      rw [State.localsInUse_invoking hF (meth := meth) (c := c) X.method X.code, State.localsInUse_invoking X.frames X.method X.code]
    simp only [State.hasRoom, Bool.and_eq_true, decide_eq_true_eq] at h ⊢
    obtain ⟨⟨⟨⟨h1, h2, h3, h4, h5, h6⟩, h7⟩, h8⟩, h9⟩ := h
    rw [X.frames, List.length_cons] at h2 h3
    have q1 := X.heapSize
    have q2 := X.used
    simp only [hF, hU, List.length_cons, State.stackLimits_setFrames, State.stackBytes_setFrames, hl9, hb9]
    refine ⟨⟨⟨⟨by omega, by omega, by omega, by omega, by omega, h6⟩, ?_⟩, ?_⟩, X.book⟩
    · show T.heap.size + R'.cells ≤ e.platform.maxCells
      omega
    · show T.slotsUsed + R'.slots ≤ e.platform.maxSlots
      omega
  · rw [State.stackLimits_setFrames]; rfl
  · rw [State.stackBytes_setFrames]; rfl
  · refine ⟨?_, Nat.le_refl _, Nat.le_refl _, ?_, ?_, fun a c9 h9 => ⟨c9, h9, rfl, rfl, fun _ _ => rfl⟩⟩
    · obtain ⟨t, ht, -⟩ := State.frames_cons hr
      show T.setVm s.vm = { ((T.setVm s.vm).setFrames (.invoking m args :: below)).setFrames (T.setVm s.vm).frames with heap := T.heap, slotsUsed := T.slotsUsed }
      rw [State.setFrames_setFrames, State.setFrames_self ht]
      rfl
    · show T.slotsUsed = T.slotsUsed + ((T.heap.toList.drop T.heap.size).map (·.slots.size)).sum
      rw [List.drop_eq_nil_of_le (Nat.le_of_eq Array.length_toList)]
      rfl
    · show ((T.heap.toList.drop T.heap.size).map (·.slots.size)).sum ≤ 0
      rw [List.drop_eq_nil_of_le (Nat.le_of_eq Array.length_toList)]
      exact Nat.le_refl _
/-- 'throw new E()': new; dup; invokespecial; athrow -/
theorem vx_throw0 {cc : ByteArray} {pc : Nat} (hexec : p.tables.exec = Jvm.exec) (hb : c.code = cc) (hl : l.stackTraces = false) {own cls : String} {names : List String} {ik ic mc ms : Nat} {A : Nat → Prop}
    (hown : s.vm.findClass own = some m.cls) (hcls : Bundle.fit cls = true) (hnames : ∀ n ∈ names, Bundle.fit n = true)
    (hk : (Cond.classLink own ik cls).before args s = true) (hini : (Cond.initialized cls).before args s = true) (hat : ∀ w ∈ vx_at0 own ic cls names, w.before args s = true)
    (hgood : ∀ w ∈ Cond.classLink own ik cls :: Cond.initialized cls :: vx_at0 own ic cls names, vx_ot w = true)
    (hU : vx_Zq Bundle.tN "UNASSIGNED_STACK" Bundle.steD A s s.heap) (hN : vx_Zq Bundle.tN "SUPPRESSED_SENTINEL" Bundle.listD A s s.heap) (hS : va_S A s.heap H locs) (hsize : ls.size = c.maxLocals)
    (d0 : decode cc pc = .ok (.new ik, 3)) (d3 : decode cc (pc + 3) = .ok (.dup, 1)) (d4 : decode cc (pc + 4) = .ok (.invokespecial ic, 3)) (d7 : decode cc (pc + 7) = .ok (.athrow, 1))
    (hout : ∀ x ∈ c.exceptionTable.toList, covers x (pc + 7) = false)
    (hRframes : names.length + 3 < R.frames) (hRlocals : (rest.map fun v => v.category).sum + (13 * (names.length + 1) + 42) ≤ R.locals) (hRcells : cells + 1 ≤ R.cells) (hRslots : slots + 6 ≤ R.slots) (hlocks : meth.locks = false)
    (hx : ∀ t : State, s.vm.Alike t.vm → H.size ≤ t.heap.size → (∀ q : Nat, q < H.size → t.heap[q]? = H[q]?) → XC cls s t)
    (hf : ∀ z ∈ locs, free z.base) (hc : cells + 1 ≤ mc) (hs : slots + 6 ≤ ms) :
    W p l e R s m args below meth c H locs cells slots (vx_MQ below Qc XC args s mc ms free) (F0 m pc ls rest) := by
  intro T hT X
  have htr : e.platform.stackTraces = false := (show e.platform.stackTraces = l.stackTraces by rw [X.admits.platform]).trans hl
  have Y := vx_rebase X (R' := { frames := R.frames, locals := R.locals, cells := 1, slots := 6 }) (Nat.le_refl _) (Nat.le_refl _) hRcells hRslots
  obtain ⟨s', hA⟩ : ∃ z, z = (T.setVm s.vm).setFrames (.invoking m args :: below) := ⟨_, rfl⟩
  rw [← hA] at Y
  have hvm : s'.vm = s.vm := by rw [hA]; rfl
  have hhp : s'.heap = H := by rw [hA]; exact hT
  have hW0 : s.WarmedH s'.vm := by rw [hvm]; exact State.WarmedH.refl s
  have hat' : ∀ w ∈ vx_at0 own ic cls names, w.before args s' = true := fun w hw => vx_ot_at hW0 hvm.symm (hgood w (List.mem_cons_of_mem _ (List.mem_cons_of_mem _ hw))) (hat w hw)
  have hk' : (Cond.classLink own ik cls).before args s' = true := vx_ot_at hW0 hvm.symm (hgood _ List.mem_cons_self) hk
  have hini' : (Cond.initialized cls).before args s' = true := vx_ot_at hW0 hvm.symm (hgood _ (List.mem_cons_of_mem _ List.mem_cons_self)) hini
  have hU' : vx_Zq Bundle.tN "UNASSIGNED_STACK" Bundle.steD A s' s'.heap := by rw [hhp]; exact vx_Zq.moved hW0.alike (hU.kept hS.2.1)
  have hN' : vx_Zq Bundle.tN "SUPPRESSED_SENTINEL" Bundle.listD A s' s'.heap := by rw [hhp]; exact vx_Zq.moved hW0.alike (hN.kept hS.2.1)
  have h : ∀ w ∈ Bundle.ownAtoms0 own ic cls names, w.before args s' = true := vx_own hat' (vx_isRefq hU'.1) (vx_isRefq hN'.1) hU'.2.word hN'.2.word
  have hown' : s'.vm.findClass own = some m.cls := by rw [hvm]; exact hown
  have hins : (Cond.instantiable cls 6).before args s' = true := h _ (by simp [Bundle.ownAtoms0])
  obtain ⟨vm₁, cX, kX, hfX, hkX, -, -, X₁, st1⟩ := Y.newCold hexec (own := own) (C := cls) (index := ik) (n := 6) hown' hk' hins hini'
    (g := F0 m pc ls rest) rfl (by rw [hb]; exact d0) (Nat.le_refl _) (Nat.le_refl _)
  generalize hT1 : (T.setVm vm₁).pushCell { cls := cX, slots := kX.instanceTypes.map defaultValue, vm := .none } = T1 at X₁ st1
  have hcat : (Value.ref T.heap.size).category = 1 := rfl
  have hcellA : T1.heap[T.heap.size]? = some (freshCell cX kX) := by rw [← hT1]; exact State.heap_pushCell_size _ _
  have d3' : decode c.code (pc + 3) = .ok (.dup, 1) := by rw [hb]; exact d3
  obtain ⟨U, hsteps, hrun, hend, hW, hsame, ce, hce, hO⟩ := X₁.ctorThrow0 hexec htr (own := own) (cls := cls) (names := names) (ic := ic) hown' hcls hnames h (fun x hx => nomatch hx) hfX hkX hcellA (by rw [hhp, hT]; exact Nat.le_refl _)
    (g := { method := m, pc := pc + 4, locals := ls, stack := .ref T.heap.size :: .ref T.heap.size :: rest, locked := none }) rfl hsize rfl rfl (rest := rest) rfl
    (by rw [hb]; exact d4) (by rw [hb]; exact d7) hout hRframes (by simp only [List.map_cons, List.sum_cons, hcat]; omega) hlocks
  obtain ⟨f1, f2⟩ := vx_frame hsame
  rw [hhp] at f1 f2
  have hWs : s.WarmedH U.vm := State.WarmedH.trans hW0 hW
  have hcl : s.vm.findClass cls = some ce.cls := by
    have h9 := hO.cls
    rw [hvm] at h9
    exact h9
  have hall : s.sameButNew ({ U with vm := s.vm } : State) locs mc ms := by
    subst hA
    obtain ⟨e1, e2⟩ := hsame
    rw [State.setFrames_setFrames] at e1
    have h2 : (T.setVm s.vm).sameButNew ({ U with vm := s.vm } : State) [] (0 + 1) (0 + 6) := ⟨e1, e2⟩
    have h3 := X.same.trans h2
    rw [List.append_nil] at h3
    exact h3.mono hc hs
  refine ⟨U, ?_, .threw T.heap.size, hrun, hend, Or.inr ⟨T.heap.size, rfl, cls, ce, locs, hx U hWs.alike f1 (fun q hq => f2 q hq (fun z hz => nomatch hz)), hce, hO.vm, hcl, hWs, hall, hf⟩⟩
  refine st1 _ ?_
  show Steps p.tables e below (T1.setTop { method := m, pc := pc + 3, locals := ls, stack := .ref T.heap.size :: rest, locked := none }) _
  jvm_step X₁.here [X₁.here.top, hexec, d3', Value.category]
  exact hsteps
/-- 'throw new E("text")': new; dup; ldc; invokespecial; athrow -/
theorem vx_throwS {cc : ByteArray} {pc : Nat} (hexec : p.tables.exec = Jvm.exec) (hb : c.code = cc) (hl : l.stackTraces = false) {own cls text : String} {names : List String} {ik is ic mc ms sa : Nat} {A : Nat → Prop}
    (hown : s.vm.findClass own = some m.cls) (hcls : Bundle.fit cls = true) (hnames : ∀ n ∈ names, Bundle.fit n = true)
    (hk : (Cond.classLink own ik cls).before args s = true) (hini : (Cond.initialized cls).before args s = true) (hstr : vk_R own is text sa s) (hat : ∀ w ∈ vx_atS own ic cls names, w.before args s = true)
    (hgood : ∀ w ∈ Cond.classLink own ik cls :: Cond.initialized cls :: vx_atS own ic cls names, vx_ot w = true)
    (hU : vx_Zq Bundle.tN "UNASSIGNED_STACK" Bundle.steD A s s.heap) (hN : vx_Zq Bundle.tN "SUPPRESSED_SENTINEL" Bundle.listD A s s.heap) (hS : va_S A s.heap H locs) (hsize : ls.size = c.maxLocals)
    (d0 : decode cc pc = .ok (.new ik, 3)) (d3 : decode cc (pc + 3) = .ok (.dup, 1)) (d4 : decode cc (pc + 4) = .ok (.ldc is, 2)) (d6 : decode cc (pc + 6) = .ok (.invokespecial ic, 3)) (d9 : decode cc (pc + 9) = .ok (.athrow, 1))
    (hout : ∀ x ∈ c.exceptionTable.toList, covers x (pc + 9) = false)
    (hRframes : names.length + 3 < R.frames) (hRlocals : (rest.map fun v => v.category).sum + (13 * (names.length + 1) + 43) ≤ R.locals) (hRcells : cells + 1 ≤ R.cells) (hRslots : slots + 6 ≤ R.slots) (hlocks : meth.locks = false)
    (hx : ∀ t : State, s.vm.Alike t.vm → H.size ≤ t.heap.size → (∀ q : Nat, q < H.size → t.heap[q]? = H[q]?) → XC cls s t)
    (hf : ∀ z ∈ locs, free z.base) (hc : cells + 1 ≤ mc) (hs : slots + 6 ≤ ms) :
    W p l e R s m args below meth c H locs cells slots (vx_MQ below Qc XC args s mc ms free) (F0 m pc ls rest) := by
  intro T hT X
  have htr : e.platform.stackTraces = false := (show e.platform.stackTraces = l.stackTraces by rw [X.admits.platform]).trans hl
  have Y := vx_rebase X (R' := { frames := R.frames, locals := R.locals, cells := 1, slots := 6 }) (Nat.le_refl _) (Nat.le_refl _) hRcells hRslots
  obtain ⟨s', hA⟩ : ∃ z, z = (T.setVm s.vm).setFrames (.invoking m args :: below) := ⟨_, rfl⟩
  rw [← hA] at Y
  have hvm : s'.vm = s.vm := by rw [hA]; rfl
  have hhp : s'.heap = H := by rw [hA]; exact hT
  have hW0 : s.WarmedH s'.vm := by rw [hvm]; exact State.WarmedH.refl s
  have hat' : ∀ w ∈ vx_atS own ic cls names, w.before args s' = true := fun w hw => vx_ot_at hW0 hvm.symm (hgood w (List.mem_cons_of_mem _ (List.mem_cons_of_mem _ hw))) (hat w hw)
  have hk' : (Cond.classLink own ik cls).before args s' = true := vx_ot_at hW0 hvm.symm (hgood _ List.mem_cons_self) hk
  have hini' : (Cond.initialized cls).before args s' = true := vx_ot_at hW0 hvm.symm (hgood _ (List.mem_cons_of_mem _ List.mem_cons_self)) hini
  have hU' : vx_Zq Bundle.tN "UNASSIGNED_STACK" Bundle.steD A s' s'.heap := by rw [hhp]; exact vx_Zq.moved hW0.alike (hU.kept hS.2.1)
  have hN' : vx_Zq Bundle.tN "SUPPRESSED_SENTINEL" Bundle.listD A s' s'.heap := by rw [hhp]; exact vx_Zq.moved hW0.alike (hN.kept hS.2.1)
  have h : ∀ w ∈ Bundle.ownAtoms own ic cls names, w.before args s' = true := vx_own hat' (vx_isRefq hU'.1) (vx_isRefq hN'.1) hU'.2.word hN'.2.word
  have hown' : s'.vm.findClass own = some m.cls := by rw [hvm]; exact hown
  have hins : (Cond.instantiable cls 6).before args s' = true := h _ (by simp [Bundle.ownAtoms])
  obtain ⟨vm₁, cX, kX, hfX, hkX, -, -, X₁, st1⟩ := Y.newCold hexec (own := own) (C := cls) (index := ik) (n := 6) hown' hk' hins hini'
    (g := F0 m pc ls rest) rfl (by rw [hb]; exact d0) (Nat.le_refl _) (Nat.le_refl _)
  generalize hT1 : (T.setVm vm₁).pushCell { cls := cX, slots := kX.instanceTypes.map defaultValue, vm := .none } = T1 at X₁ st1
  have hcat : (Value.ref T.heap.size).category = 1 := rfl
  have hcellA : T1.heap[T.heap.size]? = some (freshCell cX kX) := by rw [← hT1]; exact State.heap_pushCell_size _ _
  have d3' : decode c.code (pc + 3) = .ok (.dup, 1) := by rw [hb]; exact d3
  have d4' : decode c.code (pc + 4) = .ok (.ldc is, 2) := by rw [hb]; exact d4
  have hstr' : vk_R own is text sa s' := vk_R.warm hW0 hstr
  obtain ⟨U, hsteps, hrun, hend, hW, hsame, ce, hce, hO⟩ := X₁.ctorThrowS hexec htr (own := own) (cls := cls) (names := names) (ic := ic) hown' hcls hnames h (fun x hx => nomatch hx) hfX hkX hcellA (by rw [hhp, hT]; exact Nat.le_refl _) (msg := .ref sa) rfl
    (g := { method := m, pc := pc + 6, locals := ls, stack := .ref sa :: .ref T.heap.size :: .ref T.heap.size :: rest, locked := none }) rfl hsize rfl rfl (rest := rest) rfl
    (by rw [hb]; exact d6) (by rw [hb]; exact d9) hout hRframes (by simp only [List.map_cons, List.sum_cons, hcat]; omega) hlocks
  obtain ⟨f1, f2⟩ := vx_frame hsame
  rw [hhp] at f1 f2
  have hWs : s.WarmedH U.vm := State.WarmedH.trans hW0 hW
  have hcl : s.vm.findClass cls = some ce.cls := by
    have h9 := hO.cls
    rw [hvm] at h9
    exact h9
  have hall : s.sameButNew ({ U with vm := s.vm } : State) locs mc ms := by
    subst hA
    obtain ⟨e1, e2⟩ := hsame
    rw [State.setFrames_setFrames] at e1
    have h2 : (T.setVm s.vm).sameButNew ({ U with vm := s.vm } : State) [] (0 + 1) (0 + 6) := ⟨e1, e2⟩
    have h3 := X.same.trans h2
    rw [List.append_nil] at h3
    exact h3.mono hc hs
  refine ⟨U, ?_, .threw T.heap.size, hrun, hend, Or.inr ⟨T.heap.size, rfl, cls, ce, locs, hx U hWs.alike f1 (fun q hq => f2 q hq (fun z hz => nomatch hz)), hce, hO.vm, hcl, hWs, hall, hf⟩⟩
  refine st1 _ ?_
  show Steps p.tables e below (T1.setTop { method := m, pc := pc + 3, locals := ls, stack := .ref T.heap.size :: rest, locked := none }) _
  jvm_step X₁.here [X₁.here.top, hexec, d3', Value.category]
  exact X₁.ldcString hexec (own := own) (text := text) (index := is) (a := sa) hown' hstr'.1 hstr'.2
    (g := { method := m, pc := pc + 4, locals := ls, stack := .ref T.heap.size :: .ref T.heap.size :: rest, locked := none }) rfl d4' _ hsteps
/-- 'throw new E("text")', the text by a wide index -/
theorem vx_throwSW {cc : ByteArray} {pc : Nat} (hexec : p.tables.exec = Jvm.exec) (hb : c.code = cc) (hl : l.stackTraces = false) {own cls text : String} {names : List String} {ik is ic mc ms sa : Nat} {A : Nat → Prop}
    (hown : s.vm.findClass own = some m.cls) (hcls : Bundle.fit cls = true) (hnames : ∀ n ∈ names, Bundle.fit n = true)
    (hk : (Cond.classLink own ik cls).before args s = true) (hini : (Cond.initialized cls).before args s = true) (hstr : vk_R own is text sa s) (hat : ∀ w ∈ vx_atS own ic cls names, w.before args s = true)
    (hgood : ∀ w ∈ Cond.classLink own ik cls :: Cond.initialized cls :: vx_atS own ic cls names, vx_ot w = true)
    (hU : vx_Zq Bundle.tN "UNASSIGNED_STACK" Bundle.steD A s s.heap) (hN : vx_Zq Bundle.tN "SUPPRESSED_SENTINEL" Bundle.listD A s s.heap) (hS : va_S A s.heap H locs) (hsize : ls.size = c.maxLocals)
    (d0 : decode cc pc = .ok (.new ik, 3)) (d3 : decode cc (pc + 3) = .ok (.dup, 1)) (d4 : decode cc (pc + 4) = .ok (.ldc_w is, 3)) (d7 : decode cc (pc + 7) = .ok (.invokespecial ic, 3)) (d10 : decode cc (pc + 10) = .ok (.athrow, 1))
    (hout : ∀ x ∈ c.exceptionTable.toList, covers x (pc + 10) = false)
    (hRframes : names.length + 3 < R.frames) (hRlocals : (rest.map fun v => v.category).sum + (13 * (names.length + 1) + 43) ≤ R.locals) (hRcells : cells + 1 ≤ R.cells) (hRslots : slots + 6 ≤ R.slots) (hlocks : meth.locks = false)
    (hx : ∀ t : State, s.vm.Alike t.vm → H.size ≤ t.heap.size → (∀ q : Nat, q < H.size → t.heap[q]? = H[q]?) → XC cls s t)
    (hf : ∀ z ∈ locs, free z.base) (hc : cells + 1 ≤ mc) (hs : slots + 6 ≤ ms) :
    W p l e R s m args below meth c H locs cells slots (vx_MQ below Qc XC args s mc ms free) (F0 m pc ls rest) := by
  intro T hT X
  have htr : e.platform.stackTraces = false := (show e.platform.stackTraces = l.stackTraces by rw [X.admits.platform]).trans hl
  have Y := vx_rebase X (R' := { frames := R.frames, locals := R.locals, cells := 1, slots := 6 }) (Nat.le_refl _) (Nat.le_refl _) hRcells hRslots
  obtain ⟨s', hA⟩ : ∃ z, z = (T.setVm s.vm).setFrames (.invoking m args :: below) := ⟨_, rfl⟩
  rw [← hA] at Y
  have hvm : s'.vm = s.vm := by rw [hA]; rfl
  have hhp : s'.heap = H := by rw [hA]; exact hT
  have hW0 : s.WarmedH s'.vm := by rw [hvm]; exact State.WarmedH.refl s
  have hat' : ∀ w ∈ vx_atS own ic cls names, w.before args s' = true := fun w hw => vx_ot_at hW0 hvm.symm (hgood w (List.mem_cons_of_mem _ (List.mem_cons_of_mem _ hw))) (hat w hw)
  have hk' : (Cond.classLink own ik cls).before args s' = true := vx_ot_at hW0 hvm.symm (hgood _ List.mem_cons_self) hk
  have hini' : (Cond.initialized cls).before args s' = true := vx_ot_at hW0 hvm.symm (hgood _ (List.mem_cons_of_mem _ List.mem_cons_self)) hini
  have hU' : vx_Zq Bundle.tN "UNASSIGNED_STACK" Bundle.steD A s' s'.heap := by rw [hhp]; exact vx_Zq.moved hW0.alike (hU.kept hS.2.1)
  have hN' : vx_Zq Bundle.tN "SUPPRESSED_SENTINEL" Bundle.listD A s' s'.heap := by rw [hhp]; exact vx_Zq.moved hW0.alike (hN.kept hS.2.1)
  have h : ∀ w ∈ Bundle.ownAtoms own ic cls names, w.before args s' = true := vx_own hat' (vx_isRefq hU'.1) (vx_isRefq hN'.1) hU'.2.word hN'.2.word
  have hown' : s'.vm.findClass own = some m.cls := by rw [hvm]; exact hown
  have hins : (Cond.instantiable cls 6).before args s' = true := h _ (by simp [Bundle.ownAtoms])
  obtain ⟨vm₁, cX, kX, hfX, hkX, -, -, X₁, st1⟩ := Y.newCold hexec (own := own) (C := cls) (index := ik) (n := 6) hown' hk' hins hini'
    (g := F0 m pc ls rest) rfl (by rw [hb]; exact d0) (Nat.le_refl _) (Nat.le_refl _)
  generalize hT1 : (T.setVm vm₁).pushCell { cls := cX, slots := kX.instanceTypes.map defaultValue, vm := .none } = T1 at X₁ st1
  have hcat : (Value.ref T.heap.size).category = 1 := rfl
  have hcellA : T1.heap[T.heap.size]? = some (freshCell cX kX) := by rw [← hT1]; exact State.heap_pushCell_size _ _
  have d3' : decode c.code (pc + 3) = .ok (.dup, 1) := by rw [hb]; exact d3
  have d4' : decode c.code (pc + 4) = .ok (.ldc_w is, 3) := by rw [hb]; exact d4
  have hstr' : vk_R own is text sa s' := vk_R.warm hW0 hstr
  obtain ⟨U, hsteps, hrun, hend, hW, hsame, ce, hce, hO⟩ := X₁.ctorThrowS hexec htr (own := own) (cls := cls) (names := names) (ic := ic) hown' hcls hnames h (fun x hx => nomatch hx) hfX hkX hcellA (by rw [hhp, hT]; exact Nat.le_refl _) (msg := .ref sa) rfl
    (g := { method := m, pc := pc + 7, locals := ls, stack := .ref sa :: .ref T.heap.size :: .ref T.heap.size :: rest, locked := none }) rfl hsize rfl rfl (rest := rest) rfl
    (by rw [hb]; exact d7) (by rw [hb]; exact d10) hout hRframes (by simp only [List.map_cons, List.sum_cons, hcat]; omega) hlocks
  obtain ⟨f1, f2⟩ := vx_frame hsame
  rw [hhp] at f1 f2
  have hWs : s.WarmedH U.vm := State.WarmedH.trans hW0 hW
  have hcl : s.vm.findClass cls = some ce.cls := by
    have h9 := hO.cls
    rw [hvm] at h9
    exact h9
  have hall : s.sameButNew ({ U with vm := s.vm } : State) locs mc ms := by
    subst hA
    obtain ⟨e1, e2⟩ := hsame
    rw [State.setFrames_setFrames] at e1
    have h2 : (T.setVm s.vm).sameButNew ({ U with vm := s.vm } : State) [] (0 + 1) (0 + 6) := ⟨e1, e2⟩
    have h3 := X.same.trans h2
    rw [List.append_nil] at h3
    exact h3.mono hc hs
  refine ⟨U, ?_, .threw T.heap.size, hrun, hend, Or.inr ⟨T.heap.size, rfl, cls, ce, locs, hx U hWs.alike f1 (fun q hq => f2 q hq (fun z hz => nomatch hz)), hce, hO.vm, hcl, hWs, hall, hf⟩⟩
  refine st1 _ ?_
  show Steps p.tables e below (T1.setTop { method := m, pc := pc + 3, locals := ls, stack := .ref T.heap.size :: rest, locked := none }) _
  jvm_step X₁.here [X₁.here.top, hexec, d3', Value.category]
  exact X₁.ldcStringW hexec (own := own) (text := text) (index := is) (a := sa) hown' hstr'.1 hstr'.2
    (g := { method := m, pc := pc + 4, locals := ls, stack := .ref T.heap.size :: .ref T.heap.size :: rest, locked := none }) rfl d4' _ hsteps
end Ends
section Bodies
variable {l : Launch}
theorem vx_ofW {y : MethodName} {ws ws' : List Cond} {rm : Room} {Pc : Array Value → State → Prop} {Qc : Array Value → State → Outcome → State → Prop} {XC : String → State → State → Prop} {mc ms : Nat} {free : Addr → Prop} {cc : ByteArray} {maxL : Nat} {ret : Option FieldType}
    (hy : plainName y.cls = true) (hw : ws = Cond.code y cc maxL ret :: ws')
    (body : ∀ p e s m args below meth c s₁, BodyLoose p l y (headSpec ws rm) cc maxL ret e s m args below meth c s₁ → c.maxLocals = maxL → (∀ x ∈ c.exceptionTable.toList, False) → Pc args s →
      W p l e (headSpec ws rm).room s m args below meth c s.heap [] 0 0 (vx_MQ below Qc XC args s mc ms free) (entryFrame m args maxL)) : vx_Met l y ws rm Pc Qc XC mc ms free := by
  refine MetFree.of_bodyS (code := cc) (maxLocals := maxL) (ret := ret) hy ?_ ?_
  · intro args s m h hn
    obtain ⟨meth, c, h1, h2, h3, h4, h5, h6, -, -⟩ := Cond.code_spec hn (atoms_spec (ws := ws) h _ (by rw [hw]; exact List.mem_cons_self))
    exact ⟨meth, c, h1, h2, h3, h4, h5, h6⟩
  · intro p e s m args below meth c s₁ B hml hP _
    have hh0 : s₁.heap = s.heap := by rw [B.state]; rfl
    have ht : ∀ x ∈ c.exceptionTable.toList, False := by
      obtain ⟨meth9, c9, h1, h2, -, -, -, -, h7, -⟩ := Cond.code_spec B.named (atoms_spec (ws := ws) B.pre _ (by rw [hw]; exact List.mem_cons_self))
      cases Option.some.inj (h1.symm.trans B.method)
      cases Option.some.inj (h2.symm.trans (Stand.of_body B).code)
      intro x hx
      rw [Array.isEmpty_iff.mp h7] at hx
      cases hx
    obtain ⟨t, a1, o, b1, b2, b3⟩ := body p e s m args below meth c s₁ B hml ht hP s₁ hh0 (Stand.of_body B)
    exact ⟨t, o, a1, b1, b2, b3⟩
/-- the table of a body with handlers -/
theorem vx_table {p : Program} {x y : MethodName} {S : Spec} {cc bytes : ByteArray} {maxL maxL' : Nat} {ret ret' : Option FieldType} {e : Env} {s s₁ : State} {m : MethodId} {args : Array Value} {below : List Frame} {meth : Method} {c : Code} {hh : List (Nat × Nat × Nat × Nat)}
    (B : BodyLoose p l y S cc maxL ret e s m args below meth c s₁) (h : (Cond.codeWith y bytes maxL' ret' hh).before args s = true) : c.exceptionTable.toList = tableOf hh := by
  obtain ⟨m9, meth9, c9, hn9, h1, h2, -, -, h6, -⟩ := Cond.codeWith_spec h
  cases Option.some.inj (hn9.symm.trans B.named)
  cases Option.some.inj (h1.symm.trans B.method)
  cases Option.some.inj (h2.symm.trans (Stand.of_body B).code)
  rw [← h6, table_eq]
end Bodies
end VXA
/-! ===== END ===== -/
/-! ===== BEGIN a static call of a method with an exception table ===== -/
section VXS
variable {p : Program} {l : Launch} {e : Env} {R : Room} {s : State} {m : MethodId} {args : Array Value} {below : List Frame} {meth : Method} {c : Code} {T : State} {H : Heap} {locs : List Loc} {cells slots : Nat}
abbrev vx_CSW (R : Room) (s : State) (args : Array Value) (own : String) (index : Nat) (y : MethodName) (bytes : ByteArray) (maxL : Nat) (ret : Option FieldType) (hh : List (Nat × Nat × Nat × Nat)) (ws : List Cond) (rm : Room) (mc ms n : Nat) : Prop :=
  (rm.cells = mc ∧ rm.slots = ms ∧ rm.frames + 1 ≤ R.frames ∧ 8 + (maxL + 11) + rm.locals ≤ R.locals ∧ (∀ w ∈ ws, ∀ (a' : Array Value) (U : State), s.WarmedH U.vm → w.before a' U = true) ∧ Cond.codeWith y bytes maxL ret hh ∈ ws) ∧
  (Cond.codeWith y bytes maxL ret hh).before args s = true ∧ (Cond.initialized y.cls).before args s = true ∧ (y.cls ≠ "java/lang/invoke/MethodHandle" ∧ y.cls ≠ "java/lang/invoke/VarHandle") ∧
  (∀ sig, parseMethodDescriptor y.desc = some sig → n = sig.parameters.length) ∧ (Cond.methodLink own index y).before args s = true ∧ (Cond.static y).before args s = true
theorem vx_cwSW {own : String} {index maxL mc ms : Nat} {y : MethodName} {bytes : ByteArray} {ret : Option FieldType} {hh : List (Nat × Nat × Nat × Nat)} {Ts ws ws' : List Cond} {rm : Room} (n : Nat) (ht : ∀ w ∈ Ts, w.before args s = true) (hT : GoodIn Ts (va_wsS own index y ws)) (hw : ws = Cond.codeWith y bytes maxL ret hh :: ws') (hrc : rm.cells = mc) (hrs : rm.slots = ms)
    (hd : y.cls ≠ "java/lang/invoke/MethodHandle" ∧ y.cls ≠ "java/lang/invoke/VarHandle" ∧ (parseMethodDescriptor y.desc).map (fun d => d.parameters.length) = some n) (hR : rm.frames + 1 ≤ R.frames ∧ 8 + (maxL + 11) + rm.locals ≤ R.locals) :
    vx_CSW R s args own index y bytes maxL ret hh ws rm mc ms n := by
  have ok : ∀ w ∈ va_wsS own index y ws, w.before args s = true := fun w h => ht w (hT w h).1
  have hG : GoodIn Ts ws := fun w h => hT w (by unfold va_wsS; exact List.mem_append_right _ h)
  have hc : Cond.codeWith y bytes maxL ret hh ∈ ws := by rw [hw]; exact List.mem_cons_self
  refine ⟨⟨hrc, hrs, hR.1, hR.2, pay_in ht hG, hc⟩, ht _ (hG _ hc).1, ok _ (by simp [va_wsS]), ⟨hd.1, hd.2.1⟩, fun sig h => ?_, ok _ (by simp [va_wsS]), ok _ (by simp [va_wsS])⟩
  have h2 := hd.2.2
  rw [h] at h2
  exact (Option.some.inj h2).symm
theorem vx_callSW (X : Stand p l e R s m args below meth c T locs cells slots) (hexec : p.tables.exec = Jvm.exec) {own : String} {index : Nat} {y : MethodName} {bytes : ByteArray} {maxL : Nat} {ret : Option FieldType} {hh : List (Nat × Nat × Nat × Nat)}
    (hown : s.vm.findClass own = some m.cls) (hlink : (Cond.methodLink own index y).before args s = true) (hstat : (Cond.static y).before args s = true) (hinit : (Cond.initialized y.cls).before args s = true)
    (hcode : (Cond.codeWith y bytes maxL ret hh).before args s = true) (hy : y.cls ≠ "java/lang/invoke/MethodHandle" ∧ y.cls ≠ "java/lang/invoke/VarHandle")
    {W9 : Nat} {Pre : Pt → Array Value → Prop} {Post : Pt → Array Value → Option Value → Pt → Prop} (hK : Back l R p e below s args y 3 W9 Pre Post)
    {g : JFrame} (hg : g.method = m) (hsize : g.locals.size = c.maxLocals) {argsL rest : List Value} (hlen : ∀ sig, parseMethodDescriptor y.desc = some sig → argsL.length = sig.parameters.length)
    (hstack : g.stack = argsL.reverse ++ rest) (hW : 2 * g.monitorRoom + (rest.map fun v => v.category).sum ≤ W9) (hdg : decode c.code g.pc = .ok (.invokestatic index, 3))
    (hpre : ∀ vm₁, s.WarmedH vm₁ → Pre ⟨T.setVm vm₁, locs, cells, slots⟩ argsL.toArray) :
    ∃ (v : Option Value) (vm₁ : Vm) (B : Pt), s.WarmedH vm₁ ∧ Stand p l e R s m args below meth c B.U B.locs B.cells B.slots ∧ Post ⟨T.setVm vm₁, locs, cells, slots⟩ argsL.toArray v B ∧
      ∀ target, Steps p.tables e below (B.U.setTop { g with pc := g.pc + 3, stack := v.toList ++ rest }) target → Steps p.tables e below (T.setTop g) target := by
  obtain ⟨mk, methM, cM, hnamed, hmethM, -, -, -, -, -, -, hsigM⟩ := Cond.codeWith_spec hcode
  have hstatic : methM.isStatic = true := Cond.static_spec hnamed hmethM hstat
  obtain ⟨kP, hkP, -⟩ := className_of_methodNamed hnamed
  have hinitP : kP.init = .initialized := Cond.initialized_spec (findClass_of_methodNamed hnamed) hkP hinit
  obtain ⟨vm₁, X₁, hstep₁⟩ := X.invokestatic hexec hown hlink hnamed hmethM hstatic hkP hinitP hy (g := g) hg (argsL := argsL) (rest := rest) (hlen _ hsigM) hstack hdg
  obtain ⟨v, B, X', hpost, hsteps⟩ := hK m meth c ⟨T.setVm vm₁, locs, cells, slots⟩ { g with stack := rest } (.invokestatic index) mk argsL.toArray X₁ hg hsize hdg hW (X₁.named hnamed) (hpre vm₁ X₁.warmed)
  exact ⟨v, vm₁, B, X₁.warmed, X', hpost, fun target h => hstep₁ _ fun acts => by rw [doInvoke_state]; exact hsteps.trans h⟩
theorem vx_runSW {y : MethodName} {bytes cc : ByteArray} {maxL nL mc ms n index : Nat} {ret : Option FieldType} {hh : List (Nat × Nat × Nat × Nat)} {ws : List Cond} {rm : Room} {Pc : Array Value → State → Prop} {Qc : Array Value → State → Outcome → State → Prop} {free : Addr → Prop} {Ts : List Cond} {own : String} {As rest : List Value} {g : JFrame}
    (S : CallFix p m c cc nL s args Ts own) (hM : Met l y ws rm Pc Qc mc ms free) (cw : vx_CSW R s args own index y bytes maxL ret hh ws rm mc ms n) (hp : PreS s H Pc As)
    (hg : g.method = m) (hn : As.length = n) (hsize : g.locals.size = nL) (hstack : g.stack = As.reverse ++ rest) (hW : 2 * g.monitorRoom + (rest.map fun v => v.category).sum ≤ 8) (hdg : decode cc g.pc = .ok (.invokestatic index, 3)) (hf : cells + mc ≤ R.cells ∧ slots + ms ≤ R.slots) :
    va_Run p l e R s m args below meth c H locs cells slots mc ms g rest (Qc As.toArray) (free) := by
  obtain ⟨⟨hrc, hrs, hfr, hlo, hws, hcw⟩, hcode, hini, hy, hlen, hl, hstt⟩ := cw
  have hK : Back l R p e below s args y 3 8 (PreOf R mc ms Pc) (PostOf Qc mc ms free) := va_backW (hh := hh) (bytes := bytes) (maxL := maxL) (ret := ret) hM hp.1 hrc hrs hfr hlo hws hcw (fun a' U hW => word_at hW (Or.inl (by first | rfl | simp [Cond.onTables, Cond.keeps, Cond.steady])) hini)
  obtain ⟨hx, hb, hml, ho, -⟩ := S
  intro T hT X
  obtain ⟨v, vm₁, ⟨U', l2, c2, s2⟩, hW₁, X', ⟨g', mk, t, L, e1, e2, hq, h1, hL, h2, h3⟩, st⟩ := vx_callSW X hx (hh := hh) (bytes := bytes) (maxL := maxL) (ret := ret) ho hl hstt hini hcode hy hK hg (hsize.trans hml.symm) (argsL := As) (rest := rest) (fun sig h => hn.trans (hlen sig h)) hstack hW (by rw [hb]; exact hdg)
    (fun vm₁ hW₁ => ⟨hf.1, hf.2, hp.2 (T.setVm vm₁) hT hW₁⟩)
  dsimp only [Pt.U, Pt.locs, Pt.cells, Pt.slots] at X' e1 e2 h1 h2 h3 st
  subst h1; subst h2; subst h3
  exact ⟨v, (T.setVm vm₁).calling g' mk As.toArray, t, U', L, hT, X', hL, e1, e2, hq, st⟩
/-- not caught here, past rows that name other classes: it goes on to the caller -/
theorem vx_outP {p : Program} {l : Launch} {e : Env} {R : Room} {s : State} {m : MethodId} {args : Array Value} {below : List Frame} {meth : Method} {c : Code} {H : Heap} {locs : List Loc} {cells slots : Nat} {free : Addr → Prop} {ls : Array Slot} {rest : List Value} {Qc : Array Value → State → Outcome → State → Prop} {XC : String → State → State → Prop}
    {pc : Nat} {own E : String} {ce : Cell} {q : Addr} {mc ms : Nat} (hown : s.vm.findClass own = some m.cls) (hlocks : meth.locks = false)
    (hpass : ∀ z ∈ c.exceptionTable.toList, covers z pc = false ∨ (z.catchType ≠ 0 ∧ ∃ nm : String, (Cond.classLink own z.catchType nm).before args s = true ∧ va_Nc E nm s)) (hcell : H[q]? = some ce) (hv : ce.vm = .none) (hcl : s.vm.findClass E = some ce.cls)
    (hx : ∀ t : State, t.heap = H → s.vm.Alike t.vm → XC E s t) (hf : ∀ z ∈ locs, free z.base) (hc : cells ≤ mc) (hs : slots ≤ ms) :
    vx_W p l e R s m args below meth c H locs cells slots (vx_MQ below Qc XC args s mc ms free) (F0 m pc ls rest) q := by
  intro T hT X
  have hpl : e.platform.magicAccessors = ({} : Platform).magicAccessors := by rw [X.admits.platform]
  obtain ⟨vm', hW', X', st⟩ := X.outThrough hlocks q (g := F0 m pc ls rest) rfl rfl rfl (cell := ce) (by rw [hT]; exact hcell) (by rw [hv]; rfl)
    (by obtain ⟨k9, h9, -⟩ := Vm.findClass_spec hcl; exact ⟨k9, h9⟩) (fun z hz => by
      rcases hpass z hz with h | ⟨hz0, nm, hl1, hn1⟩
      · exact Or.inl h
      · obtain ⟨c6, hc6, hcl6⟩ := Cond.classLink_spec hown hl1 e.platform hpl
        obtain ⟨a8, b8, h1, h2, h3⟩ := hn1
        cases Option.some.inj (h1.symm.trans hcl)
        cases Option.some.inj (h2.symm.trans hc6)
        exact Or.inr ⟨hz0, _, hcl6, h3⟩)
  obtain ⟨g₀, hfr⟩ := X'.frames_eq
  have hcell9 : ((T.setVm vm').setFrames (.throwing q :: below)).heap[q]? = some ce := by
    show T.heap[q]? = some ce
    rw [hT]; exact hcell
  have hend : Ended ((T.setVm vm').setFrames (.throwing q :: below)) below (.threw q) := State.frames_setFrames _ (State.cur_lt_of_frames hfr)
  refine ⟨(T.setVm vm').setFrames (.throwing q :: below), ?_, .threw q, X'.here.running, hend, Or.inr ⟨q, rfl, E, ce, locs, hx _ hT (X'.ends _).1.alike, hcell9, hv, hcl, (X'.ends _).1, (X'.ends _).2.mono hc hs, hf⟩⟩
  rw [X.pushThrowing_eq]
  exact st
/-- a thing of a world lies in the heap -/
theorem vx_lt {D : va_G} {cl : List vw_C} {ws : va_W} {H1 : Heap} (h : va_P D cl ws H1) {k : Nat} {q : Nat × va_E} (hk : ws[k]? = some q) : q.1 < H1.size := (h k q hk).lt
end VXS
/-! ===== END ===== -/
/-! ===== BEGIN methods with a table of their own: called by a name, returning or throwing ===== -/
section VXH
/-! vx_backW, vx_callVX, vx_callSX, vx_callVW, vx_runVW, vx_runVX, vx_runSX, vx_ofWH follow the same proofs as their sisters above (Free/Laws.lean, Shelf42/LK1.lean); vx_outP calls Shelf42/NT130.lean (outThrough). -/
section
variable {l : Launch} {R : Room} {p : Program} {e : Env} {below : List Frame} {s : State} {sargs : Array Value} {y : MethodName} {len W9 : Nat}
theorem vx_backW {ws : List Cond} {rm : Room} {Pc : Array Value → State → Prop} {Qc : Array Value → State → Outcome → State → Prop} {XC : String → State → State → Prop} {mc ms : Nat} {free : Addr → Prop} {bytes : ByteArray} {maxL : Nat} {ret : Option FieldType} {hh : List (Nat × Nat × Nat × Nat)}
    (hM : vx_Met l y ws rm Pc Qc XC mc ms free) (hblind : FrameBlind Pc) (hrc : rm.cells = mc) (hrs : rm.slots = ms)
    (hframes : rm.frames + 1 ≤ R.frames) (hlocals : W9 + (maxL + 11) + rm.locals ≤ R.locals)
    (hws : ∀ w ∈ ws, ∀ a' U, s.WarmedH U.vm → w.before a' U = true) (hcode : Cond.codeWith y bytes maxL ret hh ∈ ws) (hinit : ∀ a' U, s.WarmedH U.vm → (Cond.initialized y.cls).before a' U = true) :
    vx_Back l R p e below s sargs y len W9 (PreOf R mc ms Pc) (PostOf Qc mc ms free) (vx_Post XC mc ms free) := by
  intro m meth c A g ig mk a X hg hsize hdg hW hn hp
  have h1 : (headSpec ws rm).pre.before a A.U = true := atoms_intro fun w hw => hws w hw _ _ X.warmed
  have h2 : (Cond.codeWith y bytes maxL ret hh).before a A.U = true := hws _ hcode _ _ X.warmed
  have h3 : (Cond.initialized y.cls).before a A.U = true := hinit _ _ X.warmed
  have h4 : A.cells + (headSpec ws rm).room.cells ≤ R.cells := by rw [show (headSpec ws rm).room.cells = mc from hrc]; exact hp.1
  have h5 : A.slots + (headSpec ws rm).room.slots ≤ R.slots := by rw [show (headSpec ws rm).room.slots = ms from hrs]; exact hp.2.1
  have hPc : Pc a (A.U.calling g mk a) := hblind _ _ _ _ hp.2.2
  obtain ⟨U, Ls, c0, s0⟩ := A
  dsimp only [Pt.U, Pt.locs, Pt.cells, Pt.slots] at h1 h2 h3 h4 h5 X hn hPc ⊢
  obtain ⟨m9, methY, cY, hn9, hmY, hcY, -, hlY, -⟩ := Cond.codeWith_spec h2
  cases Option.some.inj (hn9.symm.trans hn)
  obtain ⟨kY, hkY, -⟩ := className_of_methodNamed hn
  have hinitY : kY.init = .initialized := Cond.initialized_spec (findClass_of_methodNamed hn) hkY h3
  have h : At U g.method c below := by rw [hg]; exact X.here
  have hlocals9 : W9 + (maxL + 11) + (headSpec ws rm).room.locals ≤ R.locals := hlocals
  have happ : (headSpec ws rm).appliesLoose y e.platform (U.calling g mk a) = true :=
    Spec.appliesLoose_calling (g := g) h hdg hn hkY hinitY
      (X.room_calling (g := g) (R' := (headSpec ws rm).room) hsize hmY hcY hframes (by rw [hlY]; omega) h4 h5) h1
  obtain ⟨mid, hmid⟩ := h.above
  have hfr : (U.setTop g).frames = (.java g :: mid) ++ below := by rw [State.frames_setTop' g h.top, hmid]; rfl
  obtain ⟨o, s₂, hsteps, -, hend, hq⟩ := Steps.callFree hM p X.admits X.cas X.clock (acts := []) hfr happ hPc trivial
  have hq' : vx_Q Qc XC mc ms free a (U.calling g mk a) o s₂ := hq
  rw [State.frames_setTop' g h.top] at hend
  obtain ⟨g₀, hg0⟩ := Option.isSome_iff_exists.mp h.top
  obtain ⟨r, hr⟩ := State.topJava?_eq_some.mp hg0
  have hr' : (({ U with heap := s₂.heap, slotsUsed := s₂.slotsUsed } : State).setVm s₂.vm).frames = .java g₀ :: r := hr
  rcases hq' with ⟨hqc, L, hfe, hL⟩ | ⟨q, rfl, E, ce, L, hx, hce, hcv, hcl, hW₂, hsm, hL⟩
  · obtain ⟨⟨v, rfl⟩, hW₂, e2, q2, q3, q4, q5, q6⟩ := id hfe
    have e3 : s₂ = ({ (U.calling g mk a).setFrames s₂.frames with heap := s₂.heap, slotsUsed := s₂.slotsUsed } : State).setVm s₂.vm := by
      have : s₂ = ({ s₂ with vm := (U.calling g mk a).vm } : State).setVm s₂.vm := rfl
      rw [e2] at this
      exact this
    obtain ⟨c₂, i₂, len₂, hc₂, hd₂, hf₂⟩ := hend
    have hW' : U.WarmedH s₂.vm := hW₂
    have hcc : c₂ = c := by
      have h1 : s₂.code? g.method = U.code? g.method := by
        rw [State.code?_eq, State.code?_eq, hW'.alike.method?]
      exact Option.some.inj (hc₂.symm.trans (h1.trans h.code))
    subst hcc
    have hlen : len₂ = len := by rw [hdg] at hd₂; cases hd₂; rfl
    subst hlen
    have hs₂ : s₂ = (({ U with heap := s₂.heap, slotsUsed := s₂.slotsUsed } : State).setVm s₂.vm).setTop { g with pc := g.pc + len₂, stack := v.toList ++ g.stack } := by
      refine e3.trans ?_
      rw [hf₂, State.calling_eq h.top, State.setFrames_setFrames, State.setTop_of_frames _ hr', hr]
      rfl
    have hsame : U.sameButNew ({ U with heap := s₂.heap, slotsUsed := s₂.slotsUsed } : State) L mc ms := by
      refine ⟨?_, q2, q3, q4, q5, q6⟩
      obtain ⟨t, ht, -⟩ := State.frames_cons hr
      show ({ U with heap := s₂.heap, slotsUsed := s₂.slotsUsed } : State) = { U.setFrames U.frames with heap := s₂.heap, slotsUsed := s₂.slotsUsed }
      rw [State.setFrames_self ht]
    subst hg
    refine Or.inl ⟨v, ⟨(({ U with heap := s₂.heap, slotsUsed := s₂.slotsUsed } : State).setVm s₂.vm), Ls ++ L, c0 + mc, s0 + ms⟩,
      ⟨X.admits, X.cas, X.clock, X.frames, X.room, X.hears, X.method, X.code, (X.here.setHeapUsed s₂.heap s₂.slotsUsed).setVm hW'.alike, X.tail, State.WarmedH.trans X.warmed hW', X.limits, X.bytes, X.same.trans (hsame.setVm s.vm)⟩,
      ⟨g, mk, s₂, L, rfl, rfl, hqc, rfl, hL, rfl, rfl⟩, ?_⟩
    show Steps p.tables e below _ ((({ U with heap := s₂.heap, slotsUsed := s₂.slotsUsed } : State).setVm s₂.vm).setTop { g with pc := g.pc + len₂, stack := v.toList ++ g.stack })
    rw [← hs₂]
    exact hsteps
  · obtain ⟨e2, q2, q3, q4, q5, q6⟩ := id hsm
    have e3 : s₂ = ({ (U.calling g mk a).setFrames s₂.frames with heap := s₂.heap, slotsUsed := s₂.slotsUsed } : State).setVm s₂.vm := by
      have : s₂ = ({ s₂ with vm := (U.calling g mk a).vm } : State).setVm s₂.vm := rfl
      rw [e2] at this
      exact this
    have hf₂ : s₂.frames = .throwing q :: .java g :: U.frames.tail := hend
    have hW' : U.WarmedH s₂.vm := hW₂
    have hs₂ : s₂ = ((({ U with heap := s₂.heap, slotsUsed := s₂.slotsUsed } : State).setVm s₂.vm).setTop g).pushFrame (.throwing q) := by
      refine e3.trans ?_
      rw [hf₂, State.calling_eq h.top, State.setFrames_setFrames, State.pushFrame, State.frames_setTop _ hr', State.setTop_of_frames _ hr', State.setFrames_setFrames, hr]
      rfl
    have hsame : U.sameButNew ({ U with heap := s₂.heap, slotsUsed := s₂.slotsUsed } : State) L mc ms := by
      refine ⟨?_, q2, q3, q4, q5, q6⟩
      obtain ⟨t, ht, -⟩ := State.frames_cons hr
      show ({ U with heap := s₂.heap, slotsUsed := s₂.slotsUsed } : State) = { U.setFrames U.frames with heap := s₂.heap, slotsUsed := s₂.slotsUsed }
      rw [State.setFrames_self ht]
    subst hg
    refine Or.inr ⟨q, ⟨(({ U with heap := s₂.heap, slotsUsed := s₂.slotsUsed } : State).setVm s₂.vm), Ls ++ L, c0 + mc, s0 + ms⟩,
      ⟨X.admits, X.cas, X.clock, X.frames, X.room, X.hears, X.method, X.code, (X.here.setHeapUsed s₂.heap s₂.slotsUsed).setVm hW'.alike, X.tail, State.WarmedH.trans X.warmed hW', X.limits, X.bytes, X.same.trans (hsame.setVm s.vm)⟩,
      ⟨g, mk, s₂, L, E, ce, rfl, rfl, hx, hce, hcv, hcl, rfl, hL, rfl, rfl⟩, ?_⟩
    show Steps p.tables e below _ (((({ U with heap := s₂.heap, slotsUsed := s₂.slotsUsed } : State).setVm s₂.vm).setTop g).pushFrame (.throwing q))
    rw [← hs₂]
    exact hsteps
end
variable {p : Program} {l : Launch} {e : Env} {R : Room} {s : State} {m : MethodId} {args : Array Value} {below : List Frame} {meth : Method} {c : Code} {T : State} {H : Heap} {locs : List Loc} {cells slots : Nat}
theorem vx_callVX (X : Stand p l e R s m args below meth c T locs cells slots) (hexec : p.tables.exec = Jvm.exec) {own C : String} {index : Nat} {y : MethodName} {bytes : ByteArray} {maxL : Nat} {ret : Option FieldType} {hh : List (Nat × Nat × Nat × Nat)}
    (hown : s.vm.findClass own = some m.cls) (hlink : (Cond.methodLink own index y).before args s = true) (hinst : (Cond.instanceMethod y).before args s = true) (hsel : (Cond.selects C y y).before args s = true)
    (hcode : (Cond.codeWith y bytes maxL ret hh).before args s = true) (hy : y.cls ≠ "java/lang/invoke/MethodHandle" ∧ y.cls ≠ "java/lang/invoke/VarHandle")
    {W9 : Nat} {Pre : Pt → Array Value → Prop} {Post : Pt → Array Value → Option Value → Pt → Prop} {PostX : Pt → Array Value → Addr → Pt → Prop} (hK : vx_Back l R p e below s args y 3 W9 Pre Post PostX)
    {b : Addr} {cellB : Cell} (hcell : T.heap[b]? = some cellB) (hobj : cellB.vm.isStatics = false) (hcls : s.vm.findClass C = some cellB.cls)
    {g : JFrame} (hg : g.method = m) (hsize : g.locals.size = c.maxLocals) {argsL rest : List Value} (hlen : ∀ sig, parseMethodDescriptor y.desc = some sig → argsL.length = sig.parameters.length)
    (hstack : g.stack = argsL.reverse ++ .ref b :: rest) (hW : 2 * g.monitorRoom + (rest.map fun v => v.category).sum ≤ W9) (hdg : decode c.code g.pc = .ok (.invokevirtual index, 3))
    (hpre : ∀ vm₁, s.WarmedH vm₁ → Pre ⟨T.setVm vm₁, locs, cells, slots⟩ (Value.ref b :: argsL).toArray) :
    (∃ (v : Option Value) (vm₁ : Vm) (B : Pt), s.WarmedH vm₁ ∧ Stand p l e R s m args below meth c B.U B.locs B.cells B.slots ∧ Post ⟨T.setVm vm₁, locs, cells, slots⟩ (Value.ref b :: argsL).toArray v B ∧
      ∀ target, Steps p.tables e below (B.U.setTop { g with pc := g.pc + 3, stack := v.toList ++ rest }) target → Steps p.tables e below (T.setTop g) target) ∨
    (∃ (q : Addr) (vm₁ : Vm) (B : Pt), s.WarmedH vm₁ ∧ Stand p l e R s m args below meth c B.U B.locs B.cells B.slots ∧ PostX ⟨T.setVm vm₁, locs, cells, slots⟩ (Value.ref b :: argsL).toArray q B ∧
      Steps p.tables e below (T.setTop g) ((B.U.setTop { g with stack := rest }).pushFrame (.throwing q))) := by
  obtain ⟨mk, methM, hnamed, hmethM, hstM, habM⟩ := Cond.instanceMethod_spec hinst
  obtain ⟨m8, methM', cM, hn8, hmethM', -, -, -, -, -, -, hsigM⟩ := Cond.codeWith_spec hcode
  cases Option.some.inj (hn8.symm.trans hnamed)
  cases hmethM.symm.trans hmethM'
  obtain ⟨c2, r2, m2, q1, q2, q3, q4, kP, hkP, hkPi⟩ := Cond.selects_spec hsel
  cases hcls.symm.trans q1
  cases (State.methodFound?_of_named hnamed hy).symm.trans q2
  cases hnamed.symm.trans q3
  have hselP : selectMethod e.platform s.vm cellB.cls mk = .method mk := by rw [Launch.admits_selectMethod X.admits]; exact q4
  obtain ⟨vm₁, X₁, hstep₁⟩ := X.invokevirtual hexec hown hlink hnamed hmethM hstM hkP hkPi hy (a := b) (cell := cellB) hcell
    (fun z h => by rw [h] at hobj; cases hobj) hselP hmethM habM hkP hkPi (g := g) hg (argsL := argsL) (rest := rest) (hlen _ hsigM) hstack hdg
  rcases hK m meth c ⟨T.setVm vm₁, locs, cells, slots⟩ { g with stack := rest } (.invokevirtual index) mk (Value.ref b :: argsL).toArray X₁ hg hsize hdg hW (X₁.named hnamed) (hpre vm₁ X₁.warmed) with ⟨v, B, X', hpost, hsteps⟩ | ⟨q, B, X', hpost, hsteps⟩
  · exact Or.inl ⟨v, vm₁, B, X₁.warmed, X', hpost, fun target h => hstep₁ _ fun acts => by rw [doInvoke_state]; exact hsteps.trans h⟩
  · exact Or.inr ⟨q, vm₁, B, X₁.warmed, X', hpost, hstep₁ _ fun acts => by rw [doInvoke_state]; exact hsteps⟩
theorem vx_callSX (X : Stand p l e R s m args below meth c T locs cells slots) (hexec : p.tables.exec = Jvm.exec) {own : String} {index : Nat} {y : MethodName} {bytes : ByteArray} {maxL : Nat} {ret : Option FieldType} {hh : List (Nat × Nat × Nat × Nat)}
    (hown : s.vm.findClass own = some m.cls) (hlink : (Cond.methodLink own index y).before args s = true) (hstat : (Cond.static y).before args s = true) (hinit : (Cond.initialized y.cls).before args s = true)
    (hcode : (Cond.codeWith y bytes maxL ret hh).before args s = true) (hy : y.cls ≠ "java/lang/invoke/MethodHandle" ∧ y.cls ≠ "java/lang/invoke/VarHandle")
    {W9 : Nat} {Pre : Pt → Array Value → Prop} {Post : Pt → Array Value → Option Value → Pt → Prop} {PostX : Pt → Array Value → Addr → Pt → Prop} (hK : vx_Back l R p e below s args y 3 W9 Pre Post PostX)
    {g : JFrame} (hg : g.method = m) (hsize : g.locals.size = c.maxLocals) {argsL rest : List Value} (hlen : ∀ sig, parseMethodDescriptor y.desc = some sig → argsL.length = sig.parameters.length)
    (hstack : g.stack = argsL.reverse ++ rest) (hW : 2 * g.monitorRoom + (rest.map fun v => v.category).sum ≤ W9) (hdg : decode c.code g.pc = .ok (.invokestatic index, 3))
    (hpre : ∀ vm₁, s.WarmedH vm₁ → Pre ⟨T.setVm vm₁, locs, cells, slots⟩ argsL.toArray) :
    (∃ (v : Option Value) (vm₁ : Vm) (B : Pt), s.WarmedH vm₁ ∧ Stand p l e R s m args below meth c B.U B.locs B.cells B.slots ∧ Post ⟨T.setVm vm₁, locs, cells, slots⟩ argsL.toArray v B ∧
      ∀ target, Steps p.tables e below (B.U.setTop { g with pc := g.pc + 3, stack := v.toList ++ rest }) target → Steps p.tables e below (T.setTop g) target) ∨
    (∃ (q : Addr) (vm₁ : Vm) (B : Pt), s.WarmedH vm₁ ∧ Stand p l e R s m args below meth c B.U B.locs B.cells B.slots ∧ PostX ⟨T.setVm vm₁, locs, cells, slots⟩ argsL.toArray q B ∧
      Steps p.tables e below (T.setTop g) ((B.U.setTop { g with stack := rest }).pushFrame (.throwing q))) := by
  obtain ⟨mk, methM, cM, hnamed, hmethM, -, -, -, -, -, -, hsigM⟩ := Cond.codeWith_spec hcode
  have hstatic : methM.isStatic = true := Cond.static_spec hnamed hmethM hstat
  obtain ⟨kP, hkP, -⟩ := className_of_methodNamed hnamed
  have hinitP : kP.init = .initialized := Cond.initialized_spec (findClass_of_methodNamed hnamed) hkP hinit
  obtain ⟨vm₁, X₁, hstep₁⟩ := X.invokestatic hexec hown hlink hnamed hmethM hstatic hkP hinitP hy (g := g) hg (argsL := argsL) (rest := rest) (hlen _ hsigM) hstack hdg
  rcases hK m meth c ⟨T.setVm vm₁, locs, cells, slots⟩ { g with stack := rest } (.invokestatic index) mk argsL.toArray X₁ hg hsize hdg hW (X₁.named hnamed) (hpre vm₁ X₁.warmed) with ⟨v, B, X', hpost, hsteps⟩ | ⟨q, B, X', hpost, hsteps⟩
  · exact Or.inl ⟨v, vm₁, B, X₁.warmed, X', hpost, fun target h => hstep₁ _ fun acts => by rw [doInvoke_state]; exact hsteps.trans h⟩
  · exact Or.inr ⟨q, vm₁, B, X₁.warmed, X', hpost, hstep₁ _ fun acts => by rw [doInvoke_state]; exact hsteps⟩
theorem vx_callVW (X : Stand p l e R s m args below meth c T locs cells slots) (hexec : p.tables.exec = Jvm.exec) {own C : String} {index : Nat} {y : MethodName} {bytes : ByteArray} {maxL : Nat} {ret : Option FieldType} {hh : List (Nat × Nat × Nat × Nat)}
    (hown : s.vm.findClass own = some m.cls) (hlink : (Cond.methodLink own index y).before args s = true) (hinst : (Cond.instanceMethod y).before args s = true) (hsel : (Cond.selects C y y).before args s = true)
    (hcode : (Cond.codeWith y bytes maxL ret hh).before args s = true) (hy : y.cls ≠ "java/lang/invoke/MethodHandle" ∧ y.cls ≠ "java/lang/invoke/VarHandle")
    {W9 : Nat} {Pre : Pt → Array Value → Prop} {Post : Pt → Array Value → Option Value → Pt → Prop} (hK : Back l R p e below s args y 3 W9 Pre Post)
    {b : Addr} {cellB : Cell} (hcell : T.heap[b]? = some cellB) (hobj : cellB.vm.isStatics = false) (hcls : s.vm.findClass C = some cellB.cls)
    {g : JFrame} (hg : g.method = m) (hsize : g.locals.size = c.maxLocals) {argsL rest : List Value} (hlen : ∀ sig, parseMethodDescriptor y.desc = some sig → argsL.length = sig.parameters.length)
    (hstack : g.stack = argsL.reverse ++ .ref b :: rest) (hW : 2 * g.monitorRoom + (rest.map fun v => v.category).sum ≤ W9) (hdg : decode c.code g.pc = .ok (.invokevirtual index, 3))
    (hpre : ∀ vm₁, s.WarmedH vm₁ → Pre ⟨T.setVm vm₁, locs, cells, slots⟩ (Value.ref b :: argsL).toArray) :
    ∃ (v : Option Value) (vm₁ : Vm) (B : Pt), s.WarmedH vm₁ ∧ Stand p l e R s m args below meth c B.U B.locs B.cells B.slots ∧ Post ⟨T.setVm vm₁, locs, cells, slots⟩ (Value.ref b :: argsL).toArray v B ∧
      ∀ target, Steps p.tables e below (B.U.setTop { g with pc := g.pc + 3, stack := v.toList ++ rest }) target → Steps p.tables e below (T.setTop g) target := by
  obtain ⟨mk, methM, hnamed, hmethM, hstM, habM⟩ := Cond.instanceMethod_spec hinst
  obtain ⟨m8, methM', cM, hn8, hmethM', -, -, -, -, -, -, hsigM⟩ := Cond.codeWith_spec hcode
  cases Option.some.inj (hn8.symm.trans hnamed)
  cases hmethM.symm.trans hmethM'
  obtain ⟨c2, r2, m2, q1, q2, q3, q4, kP, hkP, hkPi⟩ := Cond.selects_spec hsel
  cases hcls.symm.trans q1
  cases (State.methodFound?_of_named hnamed hy).symm.trans q2
  cases hnamed.symm.trans q3
  have hselP : selectMethod e.platform s.vm cellB.cls mk = .method mk := by rw [Launch.admits_selectMethod X.admits]; exact q4
  obtain ⟨vm₁, X₁, hstep₁⟩ := X.invokevirtual hexec hown hlink hnamed hmethM hstM hkP hkPi hy (a := b) (cell := cellB) hcell
    (fun z h => by rw [h] at hobj; cases hobj) hselP hmethM habM hkP hkPi (g := g) hg (argsL := argsL) (rest := rest) (hlen _ hsigM) hstack hdg
  obtain ⟨v, B, X', hpost, hsteps⟩ := hK m meth c ⟨T.setVm vm₁, locs, cells, slots⟩ { g with stack := rest } (.invokevirtual index) mk (Value.ref b :: argsL).toArray X₁ hg hsize hdg hW (X₁.named hnamed) (hpre vm₁ X₁.warmed)
  exact ⟨v, vm₁, B, X₁.warmed, X', hpost, fun target h => hstep₁ _ fun acts => by rw [doInvoke_state]; exact hsteps.trans h⟩
abbrev vx_CVW (R : Room) (s : State) (args : Array Value) (own C : String) (index : Nat) (y : MethodName) (bytes : ByteArray) (maxL : Nat) (ret : Option FieldType) (hh : List (Nat × Nat × Nat × Nat)) (ws : List Cond) (rm : Room) (mc ms n : Nat) : Prop :=
  (rm.cells = mc ∧ rm.slots = ms ∧ rm.frames + 1 ≤ R.frames ∧ 8 + (maxL + 11) + rm.locals ≤ R.locals ∧ (∀ w ∈ ws, ∀ (a' : Array Value) (U : State), s.WarmedH U.vm → w.before a' U = true) ∧ Cond.codeWith y bytes maxL ret hh ∈ ws) ∧
  (Cond.codeWith y bytes maxL ret hh).before args s = true ∧ (Cond.initialized y.cls).before args s = true ∧ (y.cls ≠ "java/lang/invoke/MethodHandle" ∧ y.cls ≠ "java/lang/invoke/VarHandle") ∧
  (∀ sig, parseMethodDescriptor y.desc = some sig → n = sig.parameters.length) ∧ (Cond.methodLink own index y).before args s = true ∧ (Cond.instanceMethod y).before args s = true ∧ (Cond.selects C y y).before args s = true
theorem vx_cwVW {own C : String} {index maxL mc ms : Nat} {y : MethodName} {bytes : ByteArray} {ret : Option FieldType} {hh : List (Nat × Nat × Nat × Nat)} {Ts ws ws' : List Cond} {rm : Room} (n : Nat) (ht : ∀ w ∈ Ts, w.before args s = true) (hT : GoodIn Ts (wsV own index C y ws)) (hw : ws = Cond.codeWith y bytes maxL ret hh :: ws') (hrc : rm.cells = mc) (hrs : rm.slots = ms)
    (hd : y.cls = C ∧ y.cls ≠ "java/lang/invoke/MethodHandle" ∧ y.cls ≠ "java/lang/invoke/VarHandle" ∧ (parseMethodDescriptor y.desc).map (fun d => d.parameters.length) = some n) (hR : rm.frames + 1 ≤ R.frames ∧ 8 + (maxL + 11) + rm.locals ≤ R.locals) :
    vx_CVW R s args own C index y bytes maxL ret hh ws rm mc ms n := by
  obtain ⟨hC, hd⟩ := hd
  subst hC
  have ok : ∀ w ∈ wsV own index y.cls y ws, w.before args s = true := fun w h => ht w (hT w h).1
  have hG : GoodIn Ts ws := fun w h => hT w (by unfold wsV; exact List.mem_append_right _ h)
  have hc : Cond.codeWith y bytes maxL ret hh ∈ ws := by rw [hw]; exact List.mem_cons_self
  refine ⟨⟨hrc, hrs, hR.1, hR.2, pay_in ht hG, hc⟩, ht _ (hG _ hc).1, ok _ (by simp [wsV]), ⟨hd.1, hd.2.1⟩, fun sig h => ?_, ok _ (by simp [wsV]), ok _ (by simp [wsV]), ok _ (by simp [wsV])⟩
  have h2 := hd.2.2
  rw [h] at h2
  exact (Option.some.inj h2).symm
theorem vx_runVW {y : MethodName} {bytes cc : ByteArray} {maxL nL mc ms n index : Nat} {ret : Option FieldType} {hh : List (Nat × Nat × Nat × Nat)} {ws : List Cond} {rm : Room} {Pc : Array Value → State → Prop} {Qc : Array Value → State → Outcome → State → Prop} {free : Addr → Prop} {Ts : List Cond} {own C : String} {b : Addr} {As rest : List Value} {g : JFrame}
    (S : CallFix p m c cc nL s args Ts own) (hM : Met l y ws rm Pc Qc mc ms free) (cw : vx_CVW R s args own C index y bytes maxL ret hh ws rm mc ms n) (hp : PreV s H C b Pc As)
    (hg : g.method = m) (hn : As.length = n) (hsize : g.locals.size = nL) (hstack : g.stack = As.reverse ++ .ref b :: rest) (hW : 2 * g.monitorRoom + (rest.map fun v => v.category).sum ≤ 8) (hdg : decode cc g.pc = .ok (.invokevirtual index, 3)) (hf : cells + mc ≤ R.cells ∧ slots + ms ≤ R.slots) :
    va_Run p l e R s m args below meth c H locs cells slots mc ms g rest (Qc (Value.ref b :: As).toArray) free := by
  obtain ⟨⟨hrc, hrs, hfr, hlo, hws, hcw⟩, hcode, hini, hy, hlen, hl, hin, hse⟩ := cw
  have hK : Back l R p e below s args y 3 8 (PreOf R mc ms Pc) (PostOf Qc mc ms free) := va_backW (hh := hh) (bytes := bytes) (maxL := maxL) (ret := ret) hM hp.1 hrc hrs hfr hlo hws hcw (fun a' U hW => word_at hW (Or.inl (by first | rfl | simp [Cond.onTables, Cond.keeps, Cond.steady])) hini)
  obtain ⟨hx, hb, hml, ho, -⟩ := S
  obtain ⟨-, ⟨cellB, hcB, hoB, hclB⟩, hPc⟩ := hp
  intro T hT X
  obtain ⟨v, vm₁, ⟨U', l2, c2, s2⟩, hW₁, X', ⟨g', mk, t, L, e1, e2, hq, h1, hL, h2, h3⟩, st⟩ := vx_callVW X hx (C := C) (hh := hh) (bytes := bytes) (maxL := maxL) (ret := ret) ho hl hin hse hcode hy hK (by rw [hT]; exact hcB) hoB hclB hg (hsize.trans hml.symm) (argsL := As) (rest := rest) (fun sig h => hn.trans (hlen sig h)) hstack hW (by rw [hb]; exact hdg)
    (fun vm₁ hW₁ => ⟨hf.1, hf.2, hPc (T.setVm vm₁) hT hW₁⟩)
  dsimp only [Pt.U, Pt.locs, Pt.cells, Pt.slots] at X' e1 e2 h1 h2 h3 st
  subst h1; subst h2; subst h3
  exact ⟨v, (T.setVm vm₁).calling g' mk (Value.ref b :: As).toArray, t, U', L, hT, X', hL, e1, e2, hq, st⟩
section
variable {y : MethodName} {bytes cc : ByteArray} {maxL nL mc ms n index : Nat} {ret : Option FieldType} {ws : List Cond} {rm : Room} {Pc : Array Value → State → Prop} {Qc : Array Value → State → Outcome → State → Prop} {XC : String → State → State → Prop} {free : Addr → Prop} {Ts : List Cond} {own C : String} {b : Addr} {As rest : List Value} {g : JFrame}
theorem vx_runVX {hh : List (Nat × Nat × Nat × Nat)} (S : CallFix p m c cc nL s args Ts own) (hM : vx_Met l y ws rm Pc Qc XC mc ms free) (cw : vx_CVW R s args own C index y bytes maxL ret hh ws rm mc ms n) (hp : PreV s H C b Pc As)
    (hg : g.method = m) (hn : As.length = n) (hsize : g.locals.size = nL) (hstack : g.stack = As.reverse ++ .ref b :: rest) (hW : 2 * g.monitorRoom + (rest.map fun v => v.category).sum ≤ 8) (hdg : decode cc g.pc = .ok (.invokevirtual index, 3)) (hf : cells + mc ≤ R.cells ∧ slots + ms ≤ R.slots) :
    vx_Run p l e R s m args below meth c H locs cells slots mc ms g rest (Qc (Value.ref b :: As).toArray) XC free := by
  obtain ⟨⟨hrc, hrs, hfr, hlo, hws, hcw⟩, hcode, hini, hy, hlen, hl, hin, hse⟩ := cw
  have hK : vx_Back l R p e below s args y 3 8 (PreOf R mc ms Pc) (PostOf Qc mc ms free) (vx_Post XC mc ms free) := vx_backW (hh := hh) (bytes := bytes) (maxL := maxL) (ret := ret) hM hp.1 hrc hrs hfr hlo hws hcw (fun a' U hW => word_at hW (Or.inl (by first | rfl | simp [Cond.onTables, Cond.keeps, Cond.steady])) hini)
  obtain ⟨hx, hb, hml, ho, -⟩ := S
  obtain ⟨-, ⟨cellB, hcB, hoB, hclB⟩, hPc⟩ := hp
  intro T hT X
  rcases vx_callVX X hx (C := C) (hh := hh) (bytes := bytes) (maxL := maxL) (ret := ret) ho hl hin hse hcode hy hK (by rw [hT]; exact hcB) hoB hclB hg (hsize.trans hml.symm) (argsL := As) (rest := rest) (fun sig h => hn.trans (hlen sig h)) hstack hW (by rw [hb]; exact hdg)
    (fun vm₁ hW₁ => ⟨hf.1, hf.2, hPc (T.setVm vm₁) hT hW₁⟩) with ⟨v, vm₁, ⟨U', l2, c2, s2⟩, hW₁, X', ⟨g', mk, t, L, e1, e2, hq, h1, hL, h2, h3⟩, st⟩ | ⟨q, vm₁, ⟨U', l2, c2, s2⟩, hW₁, X', ⟨g', mk, t, L, E, ce, e1, e2, hq, hce, hcv, hcl, h1, hL, h2, h3⟩, st⟩
  · dsimp only [Pt.U, Pt.locs, Pt.cells, Pt.slots] at X' e1 e2 h1 h2 h3 st
    subst h1; subst h2; subst h3
    exact Or.inl ⟨v, (T.setVm vm₁).calling g' mk (Value.ref b :: As).toArray, t, U', L, hT, X', hL, e1, e2, hq, st⟩
  · dsimp only [Pt.U, Pt.locs, Pt.cells, Pt.slots] at X' e1 e2 h1 h2 h3 st hcl
    subst h1; subst h2; subst h3
    exact Or.inr ⟨q, (T.setVm vm₁).calling g' mk (Value.ref b :: As).toArray, t, U', L, E, ce, hT, X', hL, e1, e2, hq, hce, hcv, vx_cls hW₁ hcl, st⟩
theorem vx_runSX {hh : List (Nat × Nat × Nat × Nat)} (S : CallFix p m c cc nL s args Ts own) (hM : vx_Met l y ws rm Pc Qc XC mc ms free) (cw : vx_CSW R s args own index y bytes maxL ret hh ws rm mc ms n) (hp : PreS s H Pc As)
    (hg : g.method = m) (hn : As.length = n) (hsize : g.locals.size = nL) (hstack : g.stack = As.reverse ++ rest) (hW : 2 * g.monitorRoom + (rest.map fun v => v.category).sum ≤ 8) (hdg : decode cc g.pc = .ok (.invokestatic index, 3)) (hf : cells + mc ≤ R.cells ∧ slots + ms ≤ R.slots) :
    vx_Run p l e R s m args below meth c H locs cells slots mc ms g rest (Qc As.toArray) XC free := by
  obtain ⟨⟨hrc, hrs, hfr, hlo, hws, hcw⟩, hcode, hini, hy, hlen, hl, hstt⟩ := cw
  have hK : vx_Back l R p e below s args y 3 8 (PreOf R mc ms Pc) (PostOf Qc mc ms free) (vx_Post XC mc ms free) := vx_backW (hh := hh) (bytes := bytes) (maxL := maxL) (ret := ret) hM hp.1 hrc hrs hfr hlo hws hcw (fun a' U hW => word_at hW (Or.inl (by first | rfl | simp [Cond.onTables, Cond.keeps, Cond.steady])) hini)
  obtain ⟨hx, hb, hml, ho, -⟩ := S
  intro T hT X
  rcases vx_callSX X hx (hh := hh) (bytes := bytes) (maxL := maxL) (ret := ret) ho hl hstt hini hcode hy hK hg (hsize.trans hml.symm) (argsL := As) (rest := rest) (fun sig h => hn.trans (hlen sig h)) hstack hW (by rw [hb]; exact hdg)
    (fun vm₁ hW₁ => ⟨hf.1, hf.2, hp.2 (T.setVm vm₁) hT hW₁⟩) with ⟨v, vm₁, ⟨U', l2, c2, s2⟩, hW₁, X', ⟨g', mk, t, L, e1, e2, hq, h1, hL, h2, h3⟩, st⟩ | ⟨q, vm₁, ⟨U', l2, c2, s2⟩, hW₁, X', ⟨g', mk, t, L, E, ce, e1, e2, hq, hce, hcv, hcl, h1, hL, h2, h3⟩, st⟩
  · dsimp only [Pt.U, Pt.locs, Pt.cells, Pt.slots] at X' e1 e2 h1 h2 h3 st
    subst h1; subst h2; subst h3
    exact Or.inl ⟨v, (T.setVm vm₁).calling g' mk As.toArray, t, U', L, hT, X', hL, e1, e2, hq, st⟩
  · dsimp only [Pt.U, Pt.locs, Pt.cells, Pt.slots] at X' e1 e2 h1 h2 h3 st hcl
    subst h1; subst h2; subst h3
    exact Or.inr ⟨q, (T.setVm vm₁).calling g' mk As.toArray, t, U', L, E, ce, hT, X', hL, e1, e2, hq, hce, hcv, vx_cls hW₁ hcl, st⟩
end
end VXH
theorem vx_ofWH {l : Launch} {y : MethodName} {ws ws' : List Cond} {rm : Room} {Pc : Array Value → State → Prop} {Qc : Array Value → State → Outcome → State → Prop} {XC : String → State → State → Prop} {mc ms : Nat} {free : Addr → Prop} {cc : ByteArray} {maxL : Nat} {ret : Option FieldType} {hh : List (Nat × Nat × Nat × Nat)}
    (hy : plainName y.cls = true) (hw : ws = Cond.codeWith y cc maxL ret hh :: ws')
    (body : ∀ p e s m args below meth c s₁, BodyLoose p l y (headSpec ws rm) cc maxL ret e s m args below meth c s₁ → c.maxLocals = maxL → Pc args s →
      W p l e (headSpec ws rm).room s m args below meth c s.heap [] 0 0 (vx_MQ below Qc XC args s mc ms free) (entryFrame m args maxL)) : vx_Met l y ws rm Pc Qc XC mc ms free := by
  refine MetFree.of_bodyS (code := cc) (maxLocals := maxL) (ret := ret) hy ?_ ?_
  · intro args s m h hn
    obtain ⟨m9, meth, c, hn9, h1, h2, h3, h4, -, h5, h6, -⟩ := Cond.codeWith_spec (atoms_spec (ws := ws) h _ (by rw [hw]; exact List.mem_cons_self))
    cases hn.symm.trans hn9
    exact ⟨meth, c, h1, h2, h3, h4, h5, h6⟩
  · intro p e s m args below meth c s₁ B hml hP _
    have hh0 : s₁.heap = s.heap := by rw [B.state]; rfl
    obtain ⟨t, a1, o, b1, b2, b3⟩ := body p e s m args below meth c s₁ B hml hP s₁ hh0 (Stand.of_body B)
    exact ⟨t, o, a1, b1, b2, b3⟩
/-! ===== END ===== -/
end
section
def RX0 : String := "SeedChains$Course"
def TX0 : u_T := fun k => match k with
  | 0 => ("SeedChains$Course", "years", "[[I", true)
  | 1 => ("SeedChains$Course", "states", "[J", true)
  | 2 => ("SeedChains$Course", "rows", "[[I", true)
  | 3 => ("SeedChains$Course", "kept", "I", false)
  | _ => ("SeedChains$Course", "steps", "I", false)
def tyX0 : Nat → FieldType := fun k => match k with
  | 0 => .array (.array .int)
  | 1 => .array .long
  | 2 => .array (.array .int)
  | 3 => .int
  | _ => .int
abbrev uX0 : List Cond := u_ws RX0 TX0 5
theorem nmX0 : ∀ a, a < 5 → ∀ b, b < 5 → a ≠ b → (TX0 a).2.1 ≠ (TX0 b).2.1 := by decide +kernel
theorem tyX0_ok : ∀ k, k < 5 → parseFieldDescriptor (TX0 k).2.2.1 = some (tyX0 k) := by decide +kernel
def RX1 : String := "SeedChains$Site"
def TX1 : u_T := fun k => match k with
  | 0 => ("SeedChains$Site", "first", "[I", true)
  | 1 => ("SeedChains$Site", "last", "[I", true)
  | 2 => ("SeedChains$Site", "phase", "[I", true)
  | 3 => ("SeedChains$Site", "weights", "[[I", true)
  | 4 => ("SeedChains$Site", "earlier", "[I", true)
  | 5 => ("SeedChains$Site", "later", "[I", true)
  | 6 => ("SeedChains$Site", "least", "[I", true)
  | 7 => ("SeedChains$Site", "most", "[I", true)
  | 8 => ("SeedChains$Site", "dates", "I", false)
  | _ => ("SeedChains$Site", "orders", "I", false)
def tyX1 : Nat → FieldType := fun k => match k with
  | 0 => .array .int
  | 1 => .array .int
  | 2 => .array .int
  | 3 => .array (.array .int)
  | 4 => .array .int
  | 5 => .array .int
  | 6 => .array .int
  | 7 => .array .int
  | 8 => .int
  | _ => .int
abbrev uX1 : List Cond := u_ws RX1 TX1 10
theorem nmX1 : ∀ a, a < 10 → ∀ b, b < 10 → a ≠ b → (TX1 a).2.1 ≠ (TX1 b).2.1 := by decide +kernel
theorem tyX1_ok : ∀ k, k < 10 → parseFieldDescriptor (TX1 k).2.2.1 = some (tyX1 k) := by decide +kernel
def RX2 : String := "SeedChains"
def TX2 : u_T := fun k => match k with
  | 0 => ("SeedChains", "seed", "I", true)
  | 1 => ("SeedChains", "chains", "I", true)
  | 2 => ("SeedChains", "site", "LSeedChains$Site;", true)
  | 3 => ("SeedChains", "now", "LSeedChains$Course;", true)
  | 4 => ("SeedChains", "saved", "[LSeedChains$Course;", true)
  | 5 => ("SeedChains", "savedCount", "I", false)
  | 6 => ("SeedChains", "started", "Z", false)
  | 7 => ("SeedChains", "burnIn", "I", false)
  | _ => ("SeedChains", "every", "I", false)
def tyX2 : Nat → FieldType := fun k => match k with
  | 0 => .int
  | 1 => .int
  | 2 => .object "SeedChains$Site"
  | 3 => .object "SeedChains$Course"
  | 4 => .array (.object "SeedChains$Course")
  | 5 => .int
  | 6 => .boolean
  | 7 => .int
  | _ => .int
abbrev uX2 : List Cond := u_ws RX2 TX2 9
theorem nmX2 : ∀ a, a < 9 → ∀ b, b < 9 → a ≠ b → (TX2 a).2.1 ≠ (TX2 b).2.1 := by decide +kernel
theorem tyX2_ok : ∀ k, k < 9 → parseFieldDescriptor (TX2 k).2.2.1 = some (tyX2 k) := by decide +kernel
def RX3 : String := "SeedChainsModel"
def TX3 : u_T := fun k => match k with
  | 0 => ("SeedChainsModel", "thrown", "I", false)
  | 1 => ("SeedChainsModel", "seed", "I", true)
  | 2 => ("SeedChainsModel", "chains", "I", true)
  | 3 => ("SeedChainsModel", "dates", "I", false)
  | 4 => ("SeedChainsModel", "firsts", "[I", true)
  | 5 => ("SeedChainsModel", "lasts", "[I", true)
  | 6 => ("SeedChainsModel", "weights", "[I", true)
  | 7 => ("SeedChainsModel", "phases", "[I", true)
  | 8 => ("SeedChainsModel", "orders", "I", false)
  | 9 => ("SeedChainsModel", "early", "[I", true)
  | 10 => ("SeedChainsModel", "late", "[I", true)
  | 11 => ("SeedChainsModel", "least", "[I", true)
  | 12 => ("SeedChainsModel", "most", "[I", true)
  | 13 => ("SeedChainsModel", "burn", "I", false)
  | 14 => ("SeedChainsModel", "thin", "I", false)
  | 15 => ("SeedChainsModel", "isStarted", "Z", false)
  | 16 => ("SeedChainsModel", "steps", "I", false)
  | 17 => ("SeedChainsModel", "rows", "I", false)
  | 18 => ("SeedChainsModel", "years", "[I", true)
  | 19 => ("SeedChainsModel", "states", "[J", true)
  | 20 => ("SeedChainsModel", "kept", "[I", true)
  | 21 => ("SeedChainsModel", "saved", "I", false)
  | 22 => ("SeedChainsModel", "savedYears", "[I", true)
  | 23 => ("SeedChainsModel", "savedStates", "[J", true)
  | 24 => ("SeedChainsModel", "savedKept", "[I", true)
  | 25 => ("SeedChainsModel", "savedRows", "[I", true)
  | _ => ("SeedChainsModel", "savedSteps", "[I", true)
def tyX3 : Nat → FieldType := fun k => match k with
  | 0 => .int
  | 1 => .int
  | 2 => .int
  | 3 => .int
  | 4 => .array .int
  | 5 => .array .int
  | 6 => .array .int
  | 7 => .array .int
  | 8 => .int
  | 9 => .array .int
  | 10 => .array .int
  | 11 => .array .int
  | 12 => .array .int
  | 13 => .int
  | 14 => .int
  | 15 => .boolean
  | 16 => .int
  | 17 => .int
  | 18 => .array .int
  | 19 => .array .long
  | 20 => .array .int
  | 21 => .int
  | 22 => .array .int
  | 23 => .array .long
  | 24 => .array .int
  | 25 => .array .int
  | _ => .array .int
abbrev uX3 : List Cond := u_ws RX3 TX3 27
theorem nmX3 : ∀ a, a < 27 → ∀ b, b < 27 → a ≠ b → (TX3 a).2.1 ≠ (TX3 b).2.1 := by decide +kernel
theorem tyX3_ok : ∀ k, k < 27 → parseFieldDescriptor (TX3 k).2.2.1 = some (tyX3 k) := by decide +kernel
def RL : String := "SeedChainsLaw"
abbrev vwCl : List vw_C := [(RX0, TX0, 5), (RX1, TX1, 10), (RX2, TX2, 9), (RX3, TX3, 27)]
abbrev cX2_init : ByteArray := prog_1_method_1_code
def yX2_init : MethodName := ⟨RX2, "<init>", "(II)V"⟩
abbrev cX1_init : ByteArray := prog_3_method_1_code
def yX1_init : MethodName := ⟨RX1, "<init>", "()V"⟩
abbrev cX0_init : ByteArray := prog_2_method_1_code
def yX0_init : MethodName := ⟨RX0, "<init>", "(I)V"⟩
abbrev cX2_start : ByteArray := prog_1_method_8_code
def yX2_start : MethodName := ⟨RX2, "start", "()I"⟩
abbrev cX1_findLeastYears : ByteArray := prog_3_method_7_code
def yX1_findLeastYears : MethodName := ⟨RX1, "findLeastYears", "([I)Z"⟩
abbrev cX1_raiseByOrders : ByteArray := prog_3_method_8_code
def yX1_raiseByOrders : MethodName := ⟨RX1, "raiseByOrders", "([I)Z"⟩
abbrev cX1_noneIsPastLast : ByteArray := prog_3_method_9_code
def yX1_noneIsPastLast : MethodName := ⟨RX1, "noneIsPastLast", "([I)Z"⟩
abbrev cL_cell : ByteArray := method_2_code
def yL_cell : MethodName := ⟨RL, "cell", "([II)I"⟩
abbrev cL_date : ByteArray := method_3_code
def yL_date : MethodName := ⟨RL, "date", "(LSeedChains;II[J)I"⟩
abbrev cX2_date : ByteArray := prog_1_method_2_code
def yX2_date : MethodName := ⟨RX2, "date", "(II)I"⟩
abbrev cX2_needYears : ByteArray := prog_1_method_21_code
def yX2_needYears : MethodName := ⟨RX2, "needYears", "(I)V"⟩
abbrev cX2_forget : ByteArray := prog_1_method_23_code
def yX2_forget : MethodName := ⟨RX2, "forget", "()V"⟩
abbrev cX1_addDate : ByteArray := prog_3_method_2_code
def yX1_addDate : MethodName := ⟨RX1, "addDate", "(II)I"⟩
abbrev cL_weight : ByteArray := method_4_code
def yL_weight : MethodName := ⟨RL, "weight", "(LSeedChains;III[J)I"⟩
abbrev cX2_weight : ByteArray := prog_1_method_3_code
def yX2_weight : MethodName := ⟨RX2, "weight", "(III)I"⟩
abbrev cX2_needYearOf : ByteArray := prog_1_method_19_code
def yX2_needYearOf : MethodName := ⟨RX2, "needYearOf", "(II)V"⟩
abbrev cX2_needDate : ByteArray := prog_1_method_18_code
def yX2_needDate : MethodName := ⟨RX2, "needDate", "(I)V"⟩
abbrev cX1_changeWeight : ByteArray := prog_3_method_5_code
def yX1_changeWeight : MethodName := ⟨RX1, "changeWeight", "(III)I"⟩
abbrev cX1_weightOf : ByteArray := prog_3_method_4_code
def yX1_weightOf : MethodName := ⟨RX1, "weightOf", "(II)I"⟩
abbrev cL_before : ByteArray := method_5_code
def yL_before : MethodName := ⟨RL, "before", "(LSeedChains;IIII[J)I"⟩
abbrev cX2_before : ByteArray := prog_1_method_4_code
def yX2_before : MethodName := ⟨RX2, "before", "(IIII)I"⟩
abbrev cX1_addOrder : ByteArray := prog_3_method_3_code
def yX1_addOrder : MethodName := ⟨RX1, "addOrder", "(IIII)I"⟩
abbrev cL_member : ByteArray := method_6_code
def yL_member : MethodName := ⟨RL, "member", "(LSeedChains;II[J)I"⟩
abbrev cX2_member : ByteArray := prog_1_method_5_code
def yX2_member : MethodName := ⟨RX2, "member", "(II)I"⟩
abbrev cX2_needPhase : ByteArray := prog_1_method_20_code
def yX2_needPhase : MethodName := ⟨RX2, "needPhase", "(I)V"⟩
abbrev cL_burn : ByteArray := method_7_code
def yL_burn : MethodName := ⟨RL, "burn", "(LSeedChains;I[J)I"⟩
abbrev cX2_burn : ByteArray := prog_1_method_6_code
def yX2_burn : MethodName := ⟨RX2, "burn", "(I)I"⟩
abbrev cL_thin : ByteArray := method_8_code
def yL_thin : MethodName := ⟨RL, "thin", "(LSeedChains;I[J)I"⟩
abbrev cX2_thin : ByteArray := prog_1_method_7_code
def yX2_thin : MethodName := ⟨RX2, "thin", "(I)I"⟩
abbrev cL_run : ByteArray := method_9_code
def yL_run : MethodName := ⟨RL, "run", "(LSeedChains;I[J)I"⟩
abbrev cX2_run : ByteArray := prog_1_method_9_code
def yX2_run : MethodName := ⟨RX2, "run", "(I)I"⟩
abbrev cX2_needStarted : ByteArray := prog_1_method_22_code
def yX2_needStarted : MethodName := ⟨RX2, "needStarted", "()V"⟩
abbrev cX2_rowsToCome : ByteArray := prog_1_method_25_code
def yX2_rowsToCome : MethodName := ⟨RX2, "rowsToCome", "(I)I"⟩
abbrev cX2_isKept : ByteArray := prog_1_method_24_code
def yX2_isKept : MethodName := ⟨RX2, "isKept", "(I)Z"⟩
abbrev cX2_stepAll : ByteArray := prog_1_method_26_code
def yX2_stepAll : MethodName := ⟨RX2, "stepAll", "()V"⟩
abbrev cX2_stepChain : ByteArray := prog_1_method_27_code
def yX2_stepChain : MethodName := ⟨RX2, "stepChain", "(I)V"⟩
abbrev cX1_drawnYear : ByteArray := prog_3_method_12_code
def yX1_drawnYear : MethodName := ⟨RX1, "drawnYear", "(I[IJ)I"⟩
abbrev cX1_lowYear : ByteArray := prog_3_method_10_code
def yX1_lowYear : MethodName := ⟨RX1, "lowYear", "(I[I)I"⟩
abbrev cX1_highYear : ByteArray := prog_3_method_11_code
def yX1_highYear : MethodName := ⟨RX1, "highYear", "(I[I)I"⟩
abbrev cX0_keepYears : ByteArray := prog_2_method_3_code
def yX0_keepYears : MethodName := ⟨RX0, "keepYears", "()V"⟩
abbrev cL_at : ByteArray := method_10_code
def yL_at : MethodName := ⟨RL, "at", "(LSeedChains;III[J)I"⟩
abbrev cX2_at : ByteArray := prog_1_method_10_code
def yX2_at : MethodName := ⟨RX2, "at", "(III)I"⟩
abbrev cX0_keptYear : ByteArray := prog_2_method_2_code
def yX0_keptYear : MethodName := ⟨RX0, "keptYear", "(III)I"⟩
abbrev cL_counted : ByteArray := method_11_code
def yL_counted : MethodName := ⟨RL, "counted", "(LSeedChains;II[J)I"⟩
abbrev cX2_counted : ByteArray := prog_1_method_11_code
def yX2_counted : MethodName := ⟨RX2, "counted", "(II)I"⟩
abbrev cL_apart : ByteArray := method_12_code
def yL_apart : MethodName := ⟨RL, "apart", "(LSeedChains;I[J)I"⟩
abbrev cX2_apart : ByteArray := prog_1_method_12_code
def yX2_apart : MethodName := ⟨RX2, "apart", "(I)I"⟩
abbrev cX2_sumOfYears : ByteArray := prog_1_method_28_code
def yX2_sumOfYears : MethodName := ⟨RX2, "sumOfYears", "(II)I"⟩
abbrev cL_agreement : ByteArray := method_13_code
def yL_agreement : MethodName := ⟨RL, "agreement", "(LSeedChains;I[J)I"⟩
abbrev cX2_agreement : ByteArray := prog_1_method_13_code
def yX2_agreement : MethodName := ⟨RX2, "agreement", "(I)I"⟩
abbrev cX1_greatestWeight : ByteArray := prog_3_method_6_code
def yX1_greatestWeight : MethodName := ⟨RX1, "greatestWeight", "(I)I"⟩
abbrev cL_spans : ByteArray := method_14_code
def yL_spans : MethodName := ⟨RL, "spans", "(LSeedChains;II[J)I"⟩
abbrev cX2_spans : ByteArray := prog_1_method_14_code
def yX2_spans : MethodName := ⟨RX2, "spans", "(II)I"⟩
abbrev cX2_spanOf : ByteArray := prog_1_method_29_code
def yX2_spanOf : MethodName := ⟨RX2, "spanOf", "(III)I"⟩
abbrev cL_save : ByteArray := method_15_code
def yL_save : MethodName := ⟨RL, "save", "(LSeedChains;[J)I"⟩
abbrev cX2_save : ByteArray := prog_1_method_15_code
def yX2_save : MethodName := ⟨RX2, "save", "()I"⟩
abbrev cX0_take : ByteArray := prog_2_method_4_code
def yX0_take : MethodName := ⟨RX0, "take", "(LSeedChains$Course;)V"⟩
abbrev cL_back : ByteArray := method_16_code
def yL_back : MethodName := ⟨RL, "back", "(LSeedChains;I[J)I"⟩
abbrev cX2_back : ByteArray := prog_1_method_16_code
def yX2_back : MethodName := ⟨RX2, "back", "(I)I"⟩
abbrev cL_count : ByteArray := method_17_code
def yL_count : MethodName := ⟨RL, "count", "(LSeedChains;I[J)I"⟩
abbrev cX2_count : ByteArray := prog_1_method_17_code
def yX2_count : MethodName := ⟨RX2, "count", "(I)I"⟩
abbrev cX3_init : ByteArray := prog_5_method_1_code
def yX3_init : MethodName := ⟨RX3, "<init>", "(II)V"⟩
abbrev cX3_thrown : ByteArray := prog_5_method_2_code
def yX3_thrown : MethodName := ⟨RX3, "thrown", "()I"⟩
abbrev cX3_date : ByteArray := prog_5_method_7_code
def yX3_date : MethodName := ⟨RX3, "date", "(II)I"⟩
abbrev cX3_in : ByteArray := prog_5_method_4_code
def yX3_in : MethodName := ⟨RX3, "in", "(III)Z"⟩
abbrev cX3_throwing : ByteArray := prog_5_method_3_code
def yX3_throwing : MethodName := ⟨RX3, "throwing", "(ZZZ)Z"⟩
abbrev cX3_gone : ByteArray := prog_5_method_6_code
def yX3_gone : MethodName := ⟨RX3, "gone", "()V"⟩
abbrev cX3_weight : ByteArray := prog_5_method_10_code
def yX3_weight : MethodName := ⟨RX3, "weight", "(III)I"⟩
abbrev cX3_hasYear : ByteArray := prog_5_method_8_code
def yX3_hasYear : MethodName := ⟨RX3, "hasYear", "(II)Z"⟩
abbrev cX3_isDate : ByteArray := prog_5_method_5_code
def yX3_isDate : MethodName := ⟨RX3, "isDate", "(I)Z"⟩
abbrev cX3_weightOf : ByteArray := prog_5_method_9_code
def yX3_weightOf : MethodName := ⟨RX3, "weightOf", "(II)I"⟩
abbrev cX3_before : ByteArray := prog_5_method_11_code
def yX3_before : MethodName := ⟨RX3, "before", "(IIII)I"⟩
abbrev cX3_member : ByteArray := prog_5_method_12_code
def yX3_member : MethodName := ⟨RX3, "member", "(II)I"⟩
abbrev cX3_burn : ByteArray := prog_5_method_13_code
def yX3_burn : MethodName := ⟨RX3, "burn", "(I)I"⟩
abbrev cX3_thin : ByteArray := prog_5_method_14_code
def yX3_thin : MethodName := ⟨RX3, "thin", "(I)I"⟩
abbrev cX3_start : ByteArray := prog_5_method_18_code
def yX3_start : MethodName := ⟨RX3, "start", "()I"⟩
abbrev cX3_fits : ByteArray := prog_5_method_17_code
def yX3_fits : MethodName := ⟨RX3, "fits", "(I)Z"⟩
abbrev cX3_lifts : ByteArray := prog_5_method_16_code
def yX3_lifts : MethodName := ⟨RX3, "lifts", "(I)Z"⟩
abbrev cX3_run : ByteArray := prog_5_method_23_code
def yX3_run : MethodName := ⟨RX3, "run", "(I)I"⟩
abbrev cX3_isKept : ByteArray := prog_5_method_20_code
def yX3_isKept : MethodName := ⟨RX3, "isKept", "(I)Z"⟩
abbrev cX3_step : ByteArray := prog_5_method_22_code
def yX3_step : MethodName := ⟨RX3, "step", "()V"⟩
abbrev cX3_draw : ByteArray := prog_5_method_19_code
def yX3_draw : MethodName := ⟨RX3, "draw", "(II)V"⟩
abbrev cX3_holds : ByteArray := prog_5_method_15_code
def yX3_holds : MethodName := ⟨RX3, "holds", "(II)Z"⟩
abbrev cX3_rowAt : ByteArray := prog_5_method_21_code
def yX3_rowAt : MethodName := ⟨RX3, "rowAt", "(II)I"⟩
abbrev cX3_at : ByteArray := prog_5_method_24_code
def yX3_at : MethodName := ⟨RX3, "at", "(III)I"⟩
abbrev cX3_counted : ByteArray := prog_5_method_25_code
def yX3_counted : MethodName := ⟨RX3, "counted", "(II)I"⟩
abbrev cX3_apart : ByteArray := prog_5_method_26_code
def yX3_apart : MethodName := ⟨RX3, "apart", "(I)I"⟩
abbrev cX3_agreement : ByteArray := prog_5_method_27_code
def yX3_agreement : MethodName := ⟨RX3, "agreement", "(I)I"⟩
abbrev cX3_spans : ByteArray := prog_5_method_29_code
def yX3_spans : MethodName := ⟨RX3, "spans", "(II)I"⟩
abbrev cX3_spanOf : ByteArray := prog_5_method_28_code
def yX3_spanOf : MethodName := ⟨RX3, "spanOf", "(II)I"⟩
abbrev cX3_save : ByteArray := prog_5_method_30_code
def yX3_save : MethodName := ⟨RX3, "save", "()I"⟩
abbrev cX3_back : ByteArray := prog_5_method_31_code
def yX3_back : MethodName := ⟨RX3, "back", "(I)I"⟩
abbrev cX3_count : ByteArray := prog_5_method_32_code
def yX3_count : MethodName := ⟨RX3, "count", "(I)I"⟩
abbrev cL_law : ByteArray := code
def yL_law : MethodName := ⟨RL, "law", "([I)Z"⟩
/-- the good words of the tables: every method's words behind its own code -/
def wAll : List Cond := lw_tbl.filter goodWord
theorem wAll_of {w : Cond} (h : w ∈ lw_tbl) (g : goodWord w = true) : w ∈ wAll := List.mem_filter.mpr ⟨h, g⟩
theorem wAll_good {w : Cond} (h : w ∈ wAll) : goodWord w = true := (List.mem_filter.mp h).2
theorem wAll_tbl {w : Cond} (h : w ∈ wAll) : w ∈ lw_tbl := (List.mem_filter.mp h).1
theorem wT {w : Cond} (i : Nat) (h : tables_1[i]? = some w) (g : goodWord w = true) : w ∈ wAll := wAll_of (List.mem_append_right _ (List.mem_of_getElem? h)) g
theorem wS {w : Cond} (i : Nat) (h : (k2_sels lw_privs)[i]? = some w) (g : goodWord w = true) : w ∈ wAll := wAll_of (List.mem_append_left _ (List.mem_of_getElem? h)) g
theorem gAll {X : Cond} {ws : List Cond} (h : ∀ w ∈ ws, w ∈ wAll) : GoodIn (X :: wAll) ws := fun w hw => ⟨List.mem_cons_of_mem _ (h w hw), good_of_word (wAll_good (h w hw))⟩
theorem gCons {w : Cond} {ws : List Cond} (h : w ∈ wAll) (t : ∀ x ∈ ws, x ∈ wAll) : ∀ x ∈ w :: ws, x ∈ wAll := fun x hx => (List.mem_cons.mp hx).elim (fun e => by rw [e]; exact h) (t x)
theorem gSelf : ∀ x ∈ wAll, x ∈ wAll := fun _ h => h
theorem inX0 : ∀ w ∈ uX0, w ∈ wAll := fun w h => wAll_of (List.mem_append_right _ ((show ∀ w ∈ uX0, w ∈ tables_1 from by decide +kernel) w h)) ((show ∀ w ∈ uX0, goodWord w = true from by decide +kernel) w h)
theorem inX1 : ∀ w ∈ uX1, w ∈ wAll := fun w h => wAll_of (List.mem_append_right _ ((show ∀ w ∈ uX1, w ∈ tables_1 from by decide +kernel) w h)) ((show ∀ w ∈ uX1, goodWord w = true from by decide +kernel) w h)
theorem inX2 : ∀ w ∈ uX2, w ∈ wAll := fun w h => wAll_of (List.mem_append_right _ ((show ∀ w ∈ uX2, w ∈ tables_1 from by decide +kernel) w h)) ((show ∀ w ∈ uX2, goodWord w = true from by decide +kernel) w h)
theorem inX3 : ∀ w ∈ uX3, w ∈ wAll := fun w h => wAll_of (List.mem_append_right _ ((show ∀ w ∈ uX3, w ∈ tables_1 from by decide +kernel) w h)) ((show ∀ w ∈ uX3, goodWord w = true from by decide +kernel) w h)
/-! words by their places in the tables -/
theorem k0 : (Cond.initialized "SeedChainsLaw") ∈ wAll := wT 0 (by decide +kernel) (by decide +kernel)
theorem k1 : (Cond.initialized "SeedChains") ∈ wAll := wT 1 (by decide +kernel) (by decide +kernel)
theorem k2 : (Cond.initialized "java/lang/Math") ∈ wAll := wT 2 (by decide +kernel) (by decide +kernel)
theorem k3 : (Cond.initialized "SeedChains$Site") ∈ wAll := wT 3 (by decide +kernel) (by decide +kernel)
theorem k4 : (Cond.initialized "SeedChains$Course") ∈ wAll := wT 4 (by decide +kernel) (by decide +kernel)
theorem k5 : (Cond.initialized "SeedChainsModel") ∈ wAll := wT 5 (by decide +kernel) (by decide +kernel)
theorem k6 : (Cond.initialized "java/lang/Throwable") ∈ wAll := wT 6 (by decide +kernel) (by decide +kernel)
theorem k7 : (Cond.initialized "java/lang/Exception") ∈ wAll := wT 7 (by decide +kernel) (by decide +kernel)
theorem k8 : (Cond.initialized "java/lang/RuntimeException") ∈ wAll := wT 8 (by decide +kernel) (by decide +kernel)
theorem k9 : (Cond.initialized "java/lang/IllegalArgumentException") ∈ wAll := wT 9 (by decide +kernel) (by decide +kernel)
theorem k10 : (Cond.initialized "java/lang/IllegalStateException") ∈ wAll := wT 10 (by decide +kernel) (by decide +kernel)
theorem k11 : (Cond.initialized "java/util/NoSuchElementException") ∈ wAll := wT 11 (by decide +kernel) (by decide +kernel)
theorem k12 : (Cond.initialized "java/lang/System") ∈ wAll := wT 12 (by decide +kernel) (by decide +kernel)
theorem k13 : (Cond.classLink "SeedChainsLaw" 8 "SeedChains") ∈ wAll := wT 13 (by decide +kernel) (by decide +kernel)
theorem k14 : (Cond.instantiable "SeedChains" 9) ∈ wAll := wT 14 (by decide +kernel) (by decide +kernel)
theorem k15 : (Cond.methodLink "SeedChainsLaw" 71 yX2_init) ∈ wAll := wT 15 (by decide +kernel) (by decide +kernel)
theorem k16 : (Cond.instanceMethod yX2_init) ∈ wAll := wT 16 (by decide +kernel) (by decide +kernel)
theorem k17 : (Cond.code yX2_init prog_1_method_1_code 4 none) ∈ wAll := wT 17 (by decide +kernel) (by decide +kernel)
theorem k18 : (Cond.methodLink "SeedChains" 1 ⟨"java/lang/Object", "<init>", "()V"⟩) ∈ wAll := wT 18 (by decide +kernel) (by decide +kernel)
theorem k19 : (Cond.instanceMethod ⟨"java/lang/Object", "<init>", "()V"⟩) ∈ wAll := wT 19 (by decide +kernel) (by decide +kernel)
theorem k20 : (Cond.code ⟨"java/lang/Object", "<init>", "()V"⟩ object_method_1_code 1 none) ∈ wAll := wT 20 (by decide +kernel) (by decide +kernel)
theorem k21 : (Cond.methodLink "SeedChains" 13 ⟨"java/lang/Math", "min", "(II)I"⟩) ∈ wAll := wT 21 (by decide +kernel) (by decide +kernel)
theorem k22 : (Cond.static ⟨"java/lang/Math", "min", "(II)I"⟩) ∈ wAll := wT 22 (by decide +kernel) (by decide +kernel)
theorem k23 : (Cond.code ⟨"java/lang/Math", "min", "(II)I"⟩ prog_9_method_69_code 2 (some .int)) ∈ wAll := wT 23 (by decide +kernel) (by decide +kernel)
theorem k24 : (Cond.methodLink "SeedChains" 19 ⟨"java/lang/Math", "max", "(II)I"⟩) ∈ wAll := wT 24 (by decide +kernel) (by decide +kernel)
theorem k25 : (Cond.static ⟨"java/lang/Math", "max", "(II)I"⟩) ∈ wAll := wT 25 (by decide +kernel) (by decide +kernel)
theorem k26 : (Cond.code ⟨"java/lang/Math", "max", "(II)I"⟩ prog_9_method_65_code 2 (some .int)) ∈ wAll := wT 26 (by decide +kernel) (by decide +kernel)
theorem k27 : (Cond.classLink "SeedChains" 25 "SeedChains$Site") ∈ wAll := wT 27 (by decide +kernel) (by decide +kernel)
theorem k28 : (Cond.instantiable "SeedChains$Site" 10) ∈ wAll := wT 28 (by decide +kernel) (by decide +kernel)
theorem k30 : (Cond.instanceMethod yX1_init) ∈ wAll := wT 30 (by decide +kernel) (by decide +kernel)
theorem k31 : (Cond.code yX1_init prog_3_method_1_code 1 none) ∈ wAll := wT 31 (by decide +kernel) (by decide +kernel)
theorem k32 : (Cond.methodLink "SeedChains$Site" 3 ⟨"java/lang/Object", "<init>", "()V"⟩) ∈ wAll := wT 32 (by decide +kernel) (by decide +kernel)
theorem k33 : (Cond.classLink "SeedChains$Site" 21 "[[I") ∈ wAll := wT 33 (by decide +kernel) (by decide +kernel)
theorem k35 : (Cond.fieldLink "SeedChains$Site" 9 "SeedChains$Site" "first" "[I") ∈ wAll := wT 35 (by decide +kernel) (by decide +kernel)
theorem k37 : (Cond.fieldLink "SeedChains$Site" 15 "SeedChains$Site" "last" "[I") ∈ wAll := wT 37 (by decide +kernel) (by decide +kernel)
theorem k39 : (Cond.fieldLink "SeedChains$Site" 18 "SeedChains$Site" "phase" "[I") ∈ wAll := wT 39 (by decide +kernel) (by decide +kernel)
theorem k41 : (Cond.fieldLink "SeedChains$Site" 23 "SeedChains$Site" "weights" "[[I") ∈ wAll := wT 41 (by decide +kernel) (by decide +kernel)
theorem k42 : (Cond.fieldLink "SeedChains$Site" 26 "SeedChains$Site" "earlier" "[I") ∈ wAll := wT 42 (by decide +kernel) (by decide +kernel)
theorem k43 : (Cond.fieldLink "SeedChains$Site" 29 "SeedChains$Site" "later" "[I") ∈ wAll := wT 43 (by decide +kernel) (by decide +kernel)
theorem k44 : (Cond.fieldLink "SeedChains$Site" 32 "SeedChains$Site" "least" "[I") ∈ wAll := wT 44 (by decide +kernel) (by decide +kernel)
theorem k45 : (Cond.fieldLink "SeedChains$Site" 35 "SeedChains$Site" "most" "[I") ∈ wAll := wT 45 (by decide +kernel) (by decide +kernel)
theorem k46 : (Cond.fieldLink "SeedChains$Site" 38 "SeedChains$Site" "dates" "I") ∈ wAll := wT 46 (by decide +kernel) (by decide +kernel)
theorem k48 : (Cond.fieldLink "SeedChains$Site" 42 "SeedChains$Site" "orders" "I") ∈ wAll := wT 48 (by decide +kernel) (by decide +kernel)
theorem k71 : (Cond.arrayClass .int) ∈ wAll := wT 71 (by decide +kernel) (by decide +kernel)
theorem k72 : (Cond.classLink "SeedChains" 32 "SeedChains$Course") ∈ wAll := wT 72 (by decide +kernel) (by decide +kernel)
theorem k73 : (Cond.instantiable "SeedChains$Course" 5) ∈ wAll := wT 73 (by decide +kernel) (by decide +kernel)
theorem k75 : (Cond.instanceMethod yX0_init) ∈ wAll := wT 75 (by decide +kernel) (by decide +kernel)
theorem k76 : (Cond.code yX0_init prog_2_method_1_code 2 none) ∈ wAll := wT 76 (by decide +kernel) (by decide +kernel)
theorem k77 : (Cond.methodLink "SeedChains$Course" 3 ⟨"java/lang/Object", "<init>", "()V"⟩) ∈ wAll := wT 77 (by decide +kernel) (by decide +kernel)
theorem k78 : (Cond.classLink "SeedChains$Course" 9 "[[I") ∈ wAll := wT 78 (by decide +kernel) (by decide +kernel)
theorem k79 : (Cond.fieldLink "SeedChains$Course" 11 "SeedChains$Course" "years" "[[I") ∈ wAll := wT 79 (by decide +kernel) (by decide +kernel)
theorem k81 : (Cond.fieldLink "SeedChains$Course" 16 "SeedChains$Course" "states" "[J") ∈ wAll := wT 81 (by decide +kernel) (by decide +kernel)
theorem k83 : (Cond.fieldLink "SeedChains$Course" 20 "SeedChains$Course" "rows" "[[I") ∈ wAll := wT 83 (by decide +kernel) (by decide +kernel)
theorem k84 : (Cond.fieldLink "SeedChains$Course" 23 "SeedChains$Course" "kept" "I") ∈ wAll := wT 84 (by decide +kernel) (by decide +kernel)
theorem k86 : (Cond.fieldLink "SeedChains$Course" 27 "SeedChains$Course" "steps" "I") ∈ wAll := wT 86 (by decide +kernel) (by decide +kernel)
theorem k99 : (Cond.arrayClass .long) ∈ wAll := wT 99 (by decide +kernel) (by decide +kernel)
theorem k101 : (Cond.fieldLink "SeedChains" 7 "SeedChains" "seed" "I") ∈ wAll := wT 101 (by decide +kernel) (by decide +kernel)
theorem k102 : (Cond.fieldLink "SeedChains" 22 "SeedChains" "chains" "I") ∈ wAll := wT 102 (by decide +kernel) (by decide +kernel)
theorem k103 : (Cond.fieldLink "SeedChains" 28 "SeedChains" "site" "LSeedChains$Site;") ∈ wAll := wT 103 (by decide +kernel) (by decide +kernel)
theorem k104 : (Cond.fieldLink "SeedChains" 37 "SeedChains" "now" "LSeedChains$Course;") ∈ wAll := wT 104 (by decide +kernel) (by decide +kernel)
theorem k105 : (Cond.fieldLink "SeedChains" 41 "SeedChains" "saved" "[LSeedChains$Course;") ∈ wAll := wT 105 (by decide +kernel) (by decide +kernel)
theorem k106 : (Cond.fieldLink "SeedChains" 45 "SeedChains" "savedCount" "I") ∈ wAll := wT 106 (by decide +kernel) (by decide +kernel)
theorem k107 : (Cond.fieldLink "SeedChains" 48 "SeedChains" "started" "Z") ∈ wAll := wT 107 (by decide +kernel) (by decide +kernel)
theorem k108 : (Cond.fieldLink "SeedChains" 52 "SeedChains" "burnIn" "I") ∈ wAll := wT 108 (by decide +kernel) (by decide +kernel)
theorem k109 : (Cond.fieldLink "SeedChains" 55 "SeedChains" "every" "I") ∈ wAll := wT 109 (by decide +kernel) (by decide +kernel)
theorem k129 : (Cond.methodLink "SeedChainsLaw" 102 yX2_start) ∈ wAll := wT 129 (by decide +kernel) (by decide +kernel)
theorem k130 : (Cond.instanceMethod yX2_start) ∈ wAll := wT 130 (by decide +kernel) (by decide +kernel)
theorem k131 : (Cond.selects "SeedChains" yX2_start yX2_start) ∈ wAll := wT 131 (by decide +kernel) (by decide +kernel)
theorem k132 : (Cond.code yX2_start prog_1_method_8_code 2 (some .int)) ∈ wAll := wT 132 (by decide +kernel) (by decide +kernel)
theorem k133 : (Cond.constantLong "SeedChains" 127 (1000003)) ∈ wAll := wT 133 (by decide +kernel) (by decide +kernel)
theorem k136 : (Cond.instanceMethod yX1_findLeastYears) ∈ wAll := wT 136 (by decide +kernel) (by decide +kernel)
theorem k137 : (Cond.code yX1_findLeastYears prog_3_method_7_code 4 (some .boolean)) ∈ wAll := wT 137 (by decide +kernel) (by decide +kernel)
theorem k138 : (Cond.methodLink "SeedChains$Site" 54 yX1_raiseByOrders) ∈ wAll := wT 138 (by decide +kernel) (by decide +kernel)
theorem k140 : (Cond.instanceMethod yX1_raiseByOrders) ∈ wAll := wT 140 (by decide +kernel) (by decide +kernel)
theorem k141 : (Cond.code yX1_raiseByOrders prog_3_method_8_code 6 (some .boolean)) ∈ wAll := wT 141 (by decide +kernel) (by decide +kernel)
theorem k142 : (Cond.methodLink "SeedChains$Site" 58 yX1_noneIsPastLast) ∈ wAll := wT 142 (by decide +kernel) (by decide +kernel)
theorem k144 : (Cond.instanceMethod yX1_noneIsPastLast) ∈ wAll := wT 144 (by decide +kernel) (by decide +kernel)
theorem k145 : (Cond.code yX1_noneIsPastLast prog_3_method_9_code 3 (some .boolean)) ∈ wAll := wT 145 (by decide +kernel) (by decide +kernel)
theorem k146 : (Cond.methodLink "SeedChainsLaw" 65 yL_cell) ∈ wAll := wT 146 (by decide +kernel) (by decide +kernel)
theorem k147 : (Cond.static yL_cell) ∈ wAll := wT 147 (by decide +kernel) (by decide +kernel)
theorem k148 : (Cond.code yL_cell method_2_code 2 (some .int)) ∈ wAll := wT 148 (by decide +kernel) (by decide +kernel)
theorem k149 : (Cond.methodLink "SeedChainsLaw" 77 yL_date) ∈ wAll := wT 149 (by decide +kernel) (by decide +kernel)
theorem k150 : (Cond.static yL_date) ∈ wAll := wT 150 (by decide +kernel) (by decide +kernel)
theorem k151 : (Cond.codeWith yL_date method_3_code 5 (some .int) [(0, 10, 13, 13), (0, 10, 17, 15)]) ∈ wAll := wT 151 (by decide +kernel) (by decide +kernel)
theorem k152 : (Cond.classLink "SeedChainsLaw" 13 "java/lang/IllegalArgumentException") ∈ wAll := wT 152 (by decide +kernel) (by decide +kernel)
theorem k153 : (Cond.classLink "SeedChainsLaw" 15 "java/lang/IllegalStateException") ∈ wAll := wT 153 (by decide +kernel) (by decide +kernel)
theorem k154 : (Cond.methodLink "SeedChainsLaw" 7 yX2_date) ∈ wAll := wT 154 (by decide +kernel) (by decide +kernel)
theorem k155 : (Cond.instanceMethod yX2_date) ∈ wAll := wT 155 (by decide +kernel) (by decide +kernel)
theorem k156 : (Cond.selects "SeedChains" yX2_date yX2_date) ∈ wAll := wT 156 (by decide +kernel) (by decide +kernel)
theorem k157 : (Cond.code yX2_date prog_1_method_2_code 3 (some .int)) ∈ wAll := wT 157 (by decide +kernel) (by decide +kernel)
theorem k158 : (Cond.methodLink "SeedChains" 58 yX2_needYears) ∈ wAll := wT 158 (by decide +kernel) (by decide +kernel)
theorem k159 : (Cond.static yX2_needYears) ∈ wAll := wT 159 (by decide +kernel) (by decide +kernel)
theorem k160 : (Cond.code yX2_needYears prog_1_method_21_code 1 none) ∈ wAll := wT 160 (by decide +kernel) (by decide +kernel)
theorem k161 : (Cond.classLink "SeedChains" 61 "java/lang/IllegalArgumentException") ∈ wAll := wT 161 (by decide +kernel) (by decide +kernel)
theorem k162 : (Cond.instantiable "java/lang/IllegalArgumentException" 6) ∈ wAll := wT 162 (by decide +kernel) (by decide +kernel)
theorem k170 : (Cond.selects "java/lang/IllegalArgumentException" ⟨"java/lang/Throwable", "fillInStackTrace", "(I)Ljava/lang/Throwable;"⟩ ⟨"java/lang/Throwable", "fillInStackTrace", "(I)Ljava/lang/Throwable;"⟩) ∈ wAll := wT 170 (by decide +kernel) (by decide +kernel)
theorem k171 : (Cond.selects "java/lang/IllegalArgumentException" ⟨"java/lang/Throwable", "fillInStackTrace", "()Ljava/lang/Throwable;"⟩ ⟨"java/lang/Throwable", "fillInStackTrace", "()Ljava/lang/Throwable;"⟩) ∈ wAll := wT 171 (by decide +kernel) (by decide +kernel)
theorem k182 : (Cond.fieldLink "java/lang/Throwable" 198 "java/lang/Throwable" "backtrace" "Ljava/lang/Object;") ∈ wAll := wT 182 (by decide +kernel) (by decide +kernel)
theorem k184 : (Cond.instanceMethod ⟨"java/lang/Throwable", "<init>", "()V"⟩) ∈ wAll := wT 184 (by decide +kernel) (by decide +kernel)
theorem k185 : (Cond.code ⟨"java/lang/Throwable", "<init>", "()V"⟩ prog_13_method_1_code 1 none) ∈ wAll := wT 185 (by decide +kernel) (by decide +kernel)
theorem k186 : (Cond.methodLink "java/lang/Throwable" 1 ⟨"java/lang/Object", "<init>", "()V"⟩) ∈ wAll := wT 186 (by decide +kernel) (by decide +kernel)
theorem k187 : (Cond.fieldLink "java/lang/Throwable" 13 "java/lang/Throwable" "UNASSIGNED_STACK" "[Ljava/lang/StackTraceElement;") ∈ wAll := wT 187 (by decide +kernel) (by decide +kernel)
theorem k189 : (Cond.fieldLink "java/lang/Throwable" 20 "java/lang/Throwable" "SUPPRESSED_SENTINEL" "Ljava/util/List;") ∈ wAll := wT 189 (by decide +kernel) (by decide +kernel)
theorem k191 : (Cond.methodLink "java/lang/Throwable" 27 ⟨"java/lang/Throwable", "fillInStackTrace", "()Ljava/lang/Throwable;"⟩) ∈ wAll := wT 191 (by decide +kernel) (by decide +kernel)
theorem k192 : (Cond.instanceMethod ⟨"java/lang/Throwable", "fillInStackTrace", "()Ljava/lang/Throwable;"⟩) ∈ wAll := wT 192 (by decide +kernel) (by decide +kernel)
theorem k194 : (Cond.selects "java/lang/IllegalStateException" ⟨"java/lang/Throwable", "fillInStackTrace", "()Ljava/lang/Throwable;"⟩ ⟨"java/lang/Throwable", "fillInStackTrace", "()Ljava/lang/Throwable;"⟩) ∈ wAll := wT 194 (by decide +kernel) (by decide +kernel)
theorem k195 : (Cond.selects "java/util/NoSuchElementException" ⟨"java/lang/Throwable", "fillInStackTrace", "()Ljava/lang/Throwable;"⟩ ⟨"java/lang/Throwable", "fillInStackTrace", "()Ljava/lang/Throwable;"⟩) ∈ wAll := wT 195 (by decide +kernel) (by decide +kernel)
theorem k197 : (Cond.methodLink "java/lang/Throwable" 202 ⟨"java/lang/Throwable", "fillInStackTrace", "(I)Ljava/lang/Throwable;"⟩) ∈ wAll := wT 197 (by decide +kernel) (by decide +kernel)
theorem k199 : (Cond.instanceMethod ⟨"java/lang/Throwable", "fillInStackTrace", "(I)Ljava/lang/Throwable;"⟩) ∈ wAll := wT 199 (by decide +kernel) (by decide +kernel)
theorem k200 : (Cond.instantiable "java/lang/Throwable" 6) ∈ wAll := wT 200 (by decide +kernel) (by decide +kernel)
theorem k201 : (Cond.native ⟨"java/lang/Throwable", "fillInStackTrace", "(I)Ljava/lang/Throwable;"⟩) ∈ wAll := wT 201 (by decide +kernel) (by decide +kernel)
theorem k203 : (Cond.methodLink "SeedChains" 65 ⟨"java/lang/IllegalArgumentException", "<init>", "(Ljava/lang/String;)V"⟩) ∈ wAll := wT 203 (by decide +kernel) (by decide +kernel)
theorem k204 : (Cond.instanceMethod ⟨"java/lang/IllegalArgumentException", "<init>", "(Ljava/lang/String;)V"⟩) ∈ wAll := wT 204 (by decide +kernel) (by decide +kernel)
theorem k205 : (Cond.code ⟨"java/lang/IllegalArgumentException", "<init>", "(Ljava/lang/String;)V"⟩ prog_7_method_2_code 2 none) ∈ wAll := wT 205 (by decide +kernel) (by decide +kernel)
theorem k206 : (Cond.methodLink "java/lang/IllegalArgumentException" 7 ⟨"java/lang/RuntimeException", "<init>", "(Ljava/lang/String;)V"⟩) ∈ wAll := wT 206 (by decide +kernel) (by decide +kernel)
theorem k207 : (Cond.instanceMethod ⟨"java/lang/RuntimeException", "<init>", "(Ljava/lang/String;)V"⟩) ∈ wAll := wT 207 (by decide +kernel) (by decide +kernel)
theorem k208 : (Cond.code ⟨"java/lang/RuntimeException", "<init>", "(Ljava/lang/String;)V"⟩ prog_10_method_2_code 2 none) ∈ wAll := wT 208 (by decide +kernel) (by decide +kernel)
theorem k209 : (Cond.methodLink "java/lang/RuntimeException" 7 ⟨"java/lang/Exception", "<init>", "(Ljava/lang/String;)V"⟩) ∈ wAll := wT 209 (by decide +kernel) (by decide +kernel)
theorem k210 : (Cond.instanceMethod ⟨"java/lang/Exception", "<init>", "(Ljava/lang/String;)V"⟩) ∈ wAll := wT 210 (by decide +kernel) (by decide +kernel)
theorem k211 : (Cond.code ⟨"java/lang/Exception", "<init>", "(Ljava/lang/String;)V"⟩ prog_6_method_2_code 2 none) ∈ wAll := wT 211 (by decide +kernel) (by decide +kernel)
theorem k212 : (Cond.methodLink "java/lang/Exception" 7 ⟨"java/lang/Throwable", "<init>", "(Ljava/lang/String;)V"⟩) ∈ wAll := wT 212 (by decide +kernel) (by decide +kernel)
theorem k213 : (Cond.instanceMethod ⟨"java/lang/Throwable", "<init>", "(Ljava/lang/String;)V"⟩) ∈ wAll := wT 213 (by decide +kernel) (by decide +kernel)
theorem k214 : (Cond.code ⟨"java/lang/Throwable", "<init>", "(Ljava/lang/String;)V"⟩ prog_13_method_2_code 2 none) ∈ wAll := wT 214 (by decide +kernel) (by decide +kernel)
theorem k215 : (Cond.fieldLink "java/lang/Throwable" 198 "java/lang/Throwable" "backtrace" "Ljava/lang/Object;") ∈ wAll := wT 215 (by decide +kernel) (by decide +kernel)
theorem k216 : (Cond.fieldLink "java/lang/Throwable" 31 "java/lang/Throwable" "detailMessage" "Ljava/lang/String;") ∈ wAll := wT 216 (by decide +kernel) (by decide +kernel)
theorem k217 : (Cond.fieldLink "java/lang/Throwable" 7 "java/lang/Throwable" "cause" "Ljava/lang/Throwable;") ∈ wAll := wT 217 (by decide +kernel) (by decide +kernel)
theorem k218 : (Cond.fieldLink "java/lang/Throwable" 17 "java/lang/Throwable" "stackTrace" "[Ljava/lang/StackTraceElement;") ∈ wAll := wT 218 (by decide +kernel) (by decide +kernel)
theorem k219 : (Cond.fieldLink "java/lang/Throwable" 24 "java/lang/Throwable" "suppressedExceptions" "Ljava/util/List;") ∈ wAll := wT 219 (by decide +kernel) (by decide +kernel)
theorem k228 : (Cond.arrayClass .byte) ∈ wAll := wT 228 (by decide +kernel) (by decide +kernel)
theorem k230 : (Cond.classLink "SeedChains" 71 "java/lang/IllegalStateException") ∈ wAll := wT 230 (by decide +kernel) (by decide +kernel)
theorem k231 : (Cond.instantiable "java/lang/IllegalStateException" 6) ∈ wAll := wT 231 (by decide +kernel) (by decide +kernel)
theorem k233 : (Cond.selects "java/lang/IllegalStateException" ⟨"java/lang/Throwable", "fillInStackTrace", "(I)Ljava/lang/Throwable;"⟩ ⟨"java/lang/Throwable", "fillInStackTrace", "(I)Ljava/lang/Throwable;"⟩) ∈ wAll := wT 233 (by decide +kernel) (by decide +kernel)
theorem k240 : (Cond.methodLink "SeedChains" 75 ⟨"java/lang/IllegalStateException", "<init>", "(Ljava/lang/String;)V"⟩) ∈ wAll := wT 240 (by decide +kernel) (by decide +kernel)
theorem k241 : (Cond.instanceMethod ⟨"java/lang/IllegalStateException", "<init>", "(Ljava/lang/String;)V"⟩) ∈ wAll := wT 241 (by decide +kernel) (by decide +kernel)
theorem k242 : (Cond.code ⟨"java/lang/IllegalStateException", "<init>", "(Ljava/lang/String;)V"⟩ prog_8_method_2_code 2 none) ∈ wAll := wT 242 (by decide +kernel) (by decide +kernel)
theorem k243 : (Cond.methodLink "java/lang/IllegalStateException" 7 ⟨"java/lang/RuntimeException", "<init>", "(Ljava/lang/String;)V"⟩) ∈ wAll := wT 243 (by decide +kernel) (by decide +kernel)
theorem k246 : (Cond.methodLink "SeedChains" 76 yX2_forget) ∈ wAll := wT 246 (by decide +kernel) (by decide +kernel)
theorem k248 : (Cond.instanceMethod yX2_forget) ∈ wAll := wT 248 (by decide +kernel) (by decide +kernel)
theorem k249 : (Cond.code yX2_forget prog_1_method_23_code 1 none) ∈ wAll := wT 249 (by decide +kernel) (by decide +kernel)
theorem k252 : (Cond.instanceMethod yX1_addDate) ∈ wAll := wT 252 (by decide +kernel) (by decide +kernel)
theorem k253 : (Cond.code yX1_addDate prog_3_method_2_code 5 (some .int)) ∈ wAll := wT 253 (by decide +kernel) (by decide +kernel)
theorem k254 : (Cond.methodLink "SeedChainsLaw" 84 yL_weight) ∈ wAll := wT 254 (by decide +kernel) (by decide +kernel)
theorem k255 : (Cond.static yL_weight) ∈ wAll := wT 255 (by decide +kernel) (by decide +kernel)
theorem k256 : (Cond.codeWith yL_weight method_4_code 6 (some .int) [(0, 12, 15, 21), (0, 12, 19, 13)]) ∈ wAll := wT 256 (by decide +kernel) (by decide +kernel)
theorem k257 : (Cond.classLink "SeedChainsLaw" 21 "java/util/NoSuchElementException") ∈ wAll := wT 257 (by decide +kernel) (by decide +kernel)
theorem k258 : (Cond.methodLink "SeedChainsLaw" 17 yX2_weight) ∈ wAll := wT 258 (by decide +kernel) (by decide +kernel)
theorem k259 : (Cond.instanceMethod yX2_weight) ∈ wAll := wT 259 (by decide +kernel) (by decide +kernel)
theorem k260 : (Cond.selects "SeedChains" yX2_weight yX2_weight) ∈ wAll := wT 260 (by decide +kernel) (by decide +kernel)
theorem k261 : (Cond.code yX2_weight prog_1_method_3_code 4 (some .int)) ∈ wAll := wT 261 (by decide +kernel) (by decide +kernel)
theorem k262 : (Cond.methodLink "SeedChains" 82 yX2_needYearOf) ∈ wAll := wT 262 (by decide +kernel) (by decide +kernel)
theorem k264 : (Cond.instanceMethod yX2_needYearOf) ∈ wAll := wT 264 (by decide +kernel) (by decide +kernel)
theorem k265 : (Cond.code yX2_needYearOf prog_1_method_19_code 3 none) ∈ wAll := wT 265 (by decide +kernel) (by decide +kernel)
theorem k266 : (Cond.methodLink "SeedChains" 92 yX2_needDate) ∈ wAll := wT 266 (by decide +kernel) (by decide +kernel)
theorem k268 : (Cond.instanceMethod yX2_needDate) ∈ wAll := wT 268 (by decide +kernel) (by decide +kernel)
theorem k269 : (Cond.code yX2_needDate prog_1_method_18_code 2 none) ∈ wAll := wT 269 (by decide +kernel) (by decide +kernel)
theorem k270 : (Cond.classLink "SeedChains" 150 "java/util/NoSuchElementException") ∈ wAll := wT 270 (by decide +kernel) (by decide +kernel)
theorem k271 : (Cond.instantiable "java/util/NoSuchElementException" 6) ∈ wAll := wT 271 (by decide +kernel) (by decide +kernel)
theorem k273 : (Cond.selects "java/util/NoSuchElementException" ⟨"java/lang/Throwable", "fillInStackTrace", "(I)Ljava/lang/Throwable;"⟩ ⟨"java/lang/Throwable", "fillInStackTrace", "(I)Ljava/lang/Throwable;"⟩) ∈ wAll := wT 273 (by decide +kernel) (by decide +kernel)
theorem k280 : (Cond.methodLink "SeedChains" 154 ⟨"java/util/NoSuchElementException", "<init>", "(Ljava/lang/String;)V"⟩) ∈ wAll := wT 280 (by decide +kernel) (by decide +kernel)
theorem k281 : (Cond.instanceMethod ⟨"java/util/NoSuchElementException", "<init>", "(Ljava/lang/String;)V"⟩) ∈ wAll := wT 281 (by decide +kernel) (by decide +kernel)
theorem k282 : (Cond.code ⟨"java/util/NoSuchElementException", "<init>", "(Ljava/lang/String;)V"⟩ prog_14_method_4_code 2 none) ∈ wAll := wT 282 (by decide +kernel) (by decide +kernel)
theorem k283 : (Cond.methodLink "java/util/NoSuchElementException" 13 ⟨"java/lang/RuntimeException", "<init>", "(Ljava/lang/String;)V"⟩) ∈ wAll := wT 283 (by decide +kernel) (by decide +kernel)
theorem k290 : (Cond.instanceMethod yX1_changeWeight) ∈ wAll := wT 290 (by decide +kernel) (by decide +kernel)
theorem k291 : (Cond.code yX1_changeWeight prog_3_method_5_code 5 (some .int)) ∈ wAll := wT 291 (by decide +kernel) (by decide +kernel)
theorem k292 : (Cond.methodLink "SeedChains$Site" 45 yX1_weightOf) ∈ wAll := wT 292 (by decide +kernel) (by decide +kernel)
theorem k294 : (Cond.instanceMethod yX1_weightOf) ∈ wAll := wT 294 (by decide +kernel) (by decide +kernel)
theorem k295 : (Cond.code yX1_weightOf prog_3_method_4_code 3 (some .int)) ∈ wAll := wT 295 (by decide +kernel) (by decide +kernel)
theorem k296 : (Cond.methodLink "SeedChainsLaw" 88 yL_before) ∈ wAll := wT 296 (by decide +kernel) (by decide +kernel)
theorem k297 : (Cond.static yL_before) ∈ wAll := wT 297 (by decide +kernel) (by decide +kernel)
theorem k298 : (Cond.codeWith yL_before method_5_code 7 (some .int) [(0, 14, 17, 21), (0, 14, 21, 13), (0, 14, 25, 15)]) ∈ wAll := wT 298 (by decide +kernel) (by decide +kernel)
theorem k299 : (Cond.methodLink "SeedChainsLaw" 23 yX2_before) ∈ wAll := wT 299 (by decide +kernel) (by decide +kernel)
theorem k300 : (Cond.instanceMethod yX2_before) ∈ wAll := wT 300 (by decide +kernel) (by decide +kernel)
theorem k301 : (Cond.selects "SeedChains" yX2_before yX2_before) ∈ wAll := wT 301 (by decide +kernel) (by decide +kernel)
theorem k302 : (Cond.code yX2_before prog_1_method_4_code 5 (some .int)) ∈ wAll := wT 302 (by decide +kernel) (by decide +kernel)
theorem k307 : (Cond.instanceMethod yX1_addOrder) ∈ wAll := wT 307 (by decide +kernel) (by decide +kernel)
theorem k308 : (Cond.code yX1_addOrder prog_3_method_3_code 6 (some .int)) ∈ wAll := wT 308 (by decide +kernel) (by decide +kernel)
theorem k309 : (Cond.methodLink "SeedChainsLaw" 92 yL_member) ∈ wAll := wT 309 (by decide +kernel) (by decide +kernel)
theorem k310 : (Cond.static yL_member) ∈ wAll := wT 310 (by decide +kernel) (by decide +kernel)
theorem k311 : (Cond.codeWith yL_member method_6_code 5 (some .int) [(0, 10, 13, 21)]) ∈ wAll := wT 311 (by decide +kernel) (by decide +kernel)
theorem k312 : (Cond.methodLink "SeedChainsLaw" 27 yX2_member) ∈ wAll := wT 312 (by decide +kernel) (by decide +kernel)
theorem k313 : (Cond.instanceMethod yX2_member) ∈ wAll := wT 313 (by decide +kernel) (by decide +kernel)
theorem k314 : (Cond.selects "SeedChains" yX2_member yX2_member) ∈ wAll := wT 314 (by decide +kernel) (by decide +kernel)
theorem k315 : (Cond.code yX2_member prog_1_method_5_code 4 (some .int)) ∈ wAll := wT 315 (by decide +kernel) (by decide +kernel)
theorem k316 : (Cond.methodLink "SeedChains" 106 yX2_needPhase) ∈ wAll := wT 316 (by decide +kernel) (by decide +kernel)
theorem k317 : (Cond.static yX2_needPhase) ∈ wAll := wT 317 (by decide +kernel) (by decide +kernel)
theorem k318 : (Cond.code yX2_needPhase prog_1_method_20_code 1 none) ∈ wAll := wT 318 (by decide +kernel) (by decide +kernel)
theorem k320 : (Cond.methodLink "SeedChainsLaw" 95 yL_burn) ∈ wAll := wT 320 (by decide +kernel) (by decide +kernel)
theorem k321 : (Cond.static yL_burn) ∈ wAll := wT 321 (by decide +kernel) (by decide +kernel)
theorem k322 : (Cond.codeWith yL_burn method_7_code 4 (some .int) [(0, 9, 12, 13)]) ∈ wAll := wT 322 (by decide +kernel) (by decide +kernel)
theorem k323 : (Cond.methodLink "SeedChainsLaw" 30 yX2_burn) ∈ wAll := wT 323 (by decide +kernel) (by decide +kernel)
theorem k324 : (Cond.instanceMethod yX2_burn) ∈ wAll := wT 324 (by decide +kernel) (by decide +kernel)
theorem k325 : (Cond.selects "SeedChains" yX2_burn yX2_burn) ∈ wAll := wT 325 (by decide +kernel) (by decide +kernel)
theorem k326 : (Cond.code yX2_burn prog_1_method_6_code 3 (some .int)) ∈ wAll := wT 326 (by decide +kernel) (by decide +kernel)
theorem k328 : (Cond.methodLink "SeedChainsLaw" 99 yL_thin) ∈ wAll := wT 328 (by decide +kernel) (by decide +kernel)
theorem k329 : (Cond.static yL_thin) ∈ wAll := wT 329 (by decide +kernel) (by decide +kernel)
theorem k330 : (Cond.codeWith yL_thin method_8_code 4 (some .int) [(0, 9, 12, 13)]) ∈ wAll := wT 330 (by decide +kernel) (by decide +kernel)
theorem k331 : (Cond.methodLink "SeedChainsLaw" 34 yX2_thin) ∈ wAll := wT 331 (by decide +kernel) (by decide +kernel)
theorem k332 : (Cond.instanceMethod yX2_thin) ∈ wAll := wT 332 (by decide +kernel) (by decide +kernel)
theorem k333 : (Cond.selects "SeedChains" yX2_thin yX2_thin) ∈ wAll := wT 333 (by decide +kernel) (by decide +kernel)
theorem k334 : (Cond.code yX2_thin prog_1_method_7_code 3 (some .int)) ∈ wAll := wT 334 (by decide +kernel) (by decide +kernel)
theorem k336 : (Cond.methodLink "SeedChainsLaw" 106 yL_run) ∈ wAll := wT 336 (by decide +kernel) (by decide +kernel)
theorem k337 : (Cond.static yL_run) ∈ wAll := wT 337 (by decide +kernel) (by decide +kernel)
theorem k338 : (Cond.codeWith yL_run method_9_code 4 (some .int) [(0, 9, 12, 13), (0, 9, 15, 15)]) ∈ wAll := wT 338 (by decide +kernel) (by decide +kernel)
theorem k339 : (Cond.methodLink "SeedChainsLaw" 37 yX2_run) ∈ wAll := wT 339 (by decide +kernel) (by decide +kernel)
theorem k340 : (Cond.instanceMethod yX2_run) ∈ wAll := wT 340 (by decide +kernel) (by decide +kernel)
theorem k341 : (Cond.selects "SeedChains" yX2_run yX2_run) ∈ wAll := wT 341 (by decide +kernel) (by decide +kernel)
theorem k342 : (Cond.code yX2_run prog_1_method_9_code 3 (some .int)) ∈ wAll := wT 342 (by decide +kernel) (by decide +kernel)
theorem k344 : (Cond.methodLink "SeedChains" 138 yX2_needStarted) ∈ wAll := wT 344 (by decide +kernel) (by decide +kernel)
theorem k346 : (Cond.instanceMethod yX2_needStarted) ∈ wAll := wT 346 (by decide +kernel) (by decide +kernel)
theorem k347 : (Cond.code yX2_needStarted prog_1_method_22_code 1 none) ∈ wAll := wT 347 (by decide +kernel) (by decide +kernel)
theorem k349 : (Cond.methodLink "SeedChains" 141 yX2_rowsToCome) ∈ wAll := wT 349 (by decide +kernel) (by decide +kernel)
theorem k351 : (Cond.instanceMethod yX2_rowsToCome) ∈ wAll := wT 351 (by decide +kernel) (by decide +kernel)
theorem k352 : (Cond.code yX2_rowsToCome prog_1_method_25_code 4 (some .int)) ∈ wAll := wT 352 (by decide +kernel) (by decide +kernel)
theorem k353 : (Cond.methodLink "SeedChains" 198 yX2_isKept) ∈ wAll := wT 353 (by decide +kernel) (by decide +kernel)
theorem k355 : (Cond.instanceMethod yX2_isKept) ∈ wAll := wT 355 (by decide +kernel) (by decide +kernel)
theorem k356 : (Cond.code yX2_isKept prog_1_method_24_code 2 (some .boolean)) ∈ wAll := wT 356 (by decide +kernel) (by decide +kernel)
theorem k358 : (Cond.methodLink "SeedChains" 147 yX2_stepAll) ∈ wAll := wT 358 (by decide +kernel) (by decide +kernel)
theorem k360 : (Cond.instanceMethod yX2_stepAll) ∈ wAll := wT 360 (by decide +kernel) (by decide +kernel)
theorem k361 : (Cond.code yX2_stepAll prog_1_method_26_code 2 none) ∈ wAll := wT 361 (by decide +kernel) (by decide +kernel)
theorem k362 : (Cond.methodLink "SeedChains" 202 yX2_stepChain) ∈ wAll := wT 362 (by decide +kernel) (by decide +kernel)
theorem k364 : (Cond.instanceMethod yX2_stepChain) ∈ wAll := wT 364 (by decide +kernel) (by decide +kernel)
theorem k365 : (Cond.code yX2_stepChain prog_1_method_27_code 4 none) ∈ wAll := wT 365 (by decide +kernel) (by decide +kernel)
theorem k366 : (Cond.constantLong "SeedChains" 208 (6364136223846793005)) ∈ wAll := wT 366 (by decide +kernel) (by decide +kernel)
theorem k367 : (Cond.constantLong "SeedChains" 210 (1442695040888963407)) ∈ wAll := wT 367 (by decide +kernel) (by decide +kernel)
theorem k370 : (Cond.instanceMethod yX1_drawnYear) ∈ wAll := wT 370 (by decide +kernel) (by decide +kernel)
theorem k371 : (Cond.code yX1_drawnYear prog_3_method_12_code 12 (some .int)) ∈ wAll := wT 371 (by decide +kernel) (by decide +kernel)
theorem k372 : (Cond.methodLink "SeedChains$Site" 64 yX1_lowYear) ∈ wAll := wT 372 (by decide +kernel) (by decide +kernel)
theorem k374 : (Cond.instanceMethod yX1_lowYear) ∈ wAll := wT 374 (by decide +kernel) (by decide +kernel)
theorem k375 : (Cond.code yX1_lowYear prog_3_method_10_code 5 (some .int)) ∈ wAll := wT 375 (by decide +kernel) (by decide +kernel)
theorem k376 : (Cond.methodLink "SeedChains$Site" 49 ⟨"java/lang/Math", "max", "(II)I"⟩) ∈ wAll := wT 376 (by decide +kernel) (by decide +kernel)
theorem k377 : (Cond.methodLink "SeedChains$Site" 68 yX1_highYear) ∈ wAll := wT 377 (by decide +kernel) (by decide +kernel)
theorem k379 : (Cond.instanceMethod yX1_highYear) ∈ wAll := wT 379 (by decide +kernel) (by decide +kernel)
theorem k380 : (Cond.code yX1_highYear prog_3_method_11_code 5 (some .int)) ∈ wAll := wT 380 (by decide +kernel) (by decide +kernel)
theorem k381 : (Cond.methodLink "SeedChains$Site" 61 ⟨"java/lang/Math", "min", "(II)I"⟩) ∈ wAll := wT 381 (by decide +kernel) (by decide +kernel)
theorem k384 : (Cond.instanceMethod yX0_keepYears) ∈ wAll := wT 384 (by decide +kernel) (by decide +kernel)
theorem k385 : (Cond.code yX0_keepYears prog_2_method_3_code 2 none) ∈ wAll := wT 385 (by decide +kernel) (by decide +kernel)
theorem k386 : (Cond.methodLink "SeedChains$Course" 30 ⟨"java/lang/System", "arraycopy", "(Ljava/lang/Object;ILjava/lang/Object;II)V"⟩) ∈ wAll := wT 386 (by decide +kernel) (by decide +kernel)
theorem k387 : (Cond.static ⟨"java/lang/System", "arraycopy", "(Ljava/lang/Object;ILjava/lang/Object;II)V"⟩) ∈ wAll := wT 387 (by decide +kernel) (by decide +kernel)
theorem k388 : (Cond.native ⟨"java/lang/System", "arraycopy", "(Ljava/lang/Object;ILjava/lang/Object;II)V"⟩) ∈ wAll := wT 388 (by decide +kernel) (by decide +kernel)
theorem k389 : (Cond.methodLink "SeedChainsLaw" 109 yL_at) ∈ wAll := wT 389 (by decide +kernel) (by decide +kernel)
theorem k390 : (Cond.static yL_at) ∈ wAll := wT 390 (by decide +kernel) (by decide +kernel)
theorem k391 : (Cond.codeWith yL_at method_10_code 6 (some .int) [(0, 12, 15, 21), (0, 12, 19, 15)]) ∈ wAll := wT 391 (by decide +kernel) (by decide +kernel)
theorem k392 : (Cond.methodLink "SeedChainsLaw" 40 yX2_at) ∈ wAll := wT 392 (by decide +kernel) (by decide +kernel)
theorem k393 : (Cond.instanceMethod yX2_at) ∈ wAll := wT 393 (by decide +kernel) (by decide +kernel)
theorem k394 : (Cond.selects "SeedChains" yX2_at yX2_at) ∈ wAll := wT 394 (by decide +kernel) (by decide +kernel)
theorem k395 : (Cond.code yX2_at prog_1_method_10_code 4 (some .int)) ∈ wAll := wT 395 (by decide +kernel) (by decide +kernel)
theorem k400 : (Cond.instanceMethod yX0_keptYear) ∈ wAll := wT 400 (by decide +kernel) (by decide +kernel)
theorem k401 : (Cond.code yX0_keptYear prog_2_method_2_code 4 (some .int)) ∈ wAll := wT 401 (by decide +kernel) (by decide +kernel)
theorem k402 : (Cond.methodLink "SeedChainsLaw" 112 yL_counted) ∈ wAll := wT 402 (by decide +kernel) (by decide +kernel)
theorem k403 : (Cond.static yL_counted) ∈ wAll := wT 403 (by decide +kernel) (by decide +kernel)
theorem k404 : (Cond.codeWith yL_counted method_11_code 5 (some .int) [(0, 10, 13, 21), (0, 10, 17, 15)]) ∈ wAll := wT 404 (by decide +kernel) (by decide +kernel)
theorem k405 : (Cond.methodLink "SeedChainsLaw" 43 yX2_counted) ∈ wAll := wT 405 (by decide +kernel) (by decide +kernel)
theorem k406 : (Cond.instanceMethod yX2_counted) ∈ wAll := wT 406 (by decide +kernel) (by decide +kernel)
theorem k407 : (Cond.selects "SeedChains" yX2_counted yX2_counted) ∈ wAll := wT 407 (by decide +kernel) (by decide +kernel)
theorem k408 : (Cond.code yX2_counted prog_1_method_11_code 6 (some .int)) ∈ wAll := wT 408 (by decide +kernel) (by decide +kernel)
theorem k409 : (Cond.methodLink "SeedChainsLaw" 115 yL_apart) ∈ wAll := wT 409 (by decide +kernel) (by decide +kernel)
theorem k410 : (Cond.static yL_apart) ∈ wAll := wT 410 (by decide +kernel) (by decide +kernel)
theorem k411 : (Cond.codeWith yL_apart method_12_code 4 (some .int) [(0, 9, 12, 21), (0, 9, 15, 15)]) ∈ wAll := wT 411 (by decide +kernel) (by decide +kernel)
theorem k412 : (Cond.methodLink "SeedChainsLaw" 46 yX2_apart) ∈ wAll := wT 412 (by decide +kernel) (by decide +kernel)
theorem k413 : (Cond.instanceMethod yX2_apart) ∈ wAll := wT 413 (by decide +kernel) (by decide +kernel)
theorem k414 : (Cond.selects "SeedChains" yX2_apart yX2_apart) ∈ wAll := wT 414 (by decide +kernel) (by decide +kernel)
theorem k415 : (Cond.code yX2_apart prog_1_method_12_code 6 (some .int)) ∈ wAll := wT 415 (by decide +kernel) (by decide +kernel)
theorem k416 : (Cond.methodLink "SeedChains" 160 yX2_sumOfYears) ∈ wAll := wT 416 (by decide +kernel) (by decide +kernel)
theorem k418 : (Cond.instanceMethod yX2_sumOfYears) ∈ wAll := wT 418 (by decide +kernel) (by decide +kernel)
theorem k419 : (Cond.code yX2_sumOfYears prog_1_method_28_code 5 (some .int)) ∈ wAll := wT 419 (by decide +kernel) (by decide +kernel)
theorem k420 : (Cond.methodLink "SeedChainsLaw" 118 yL_agreement) ∈ wAll := wT 420 (by decide +kernel) (by decide +kernel)
theorem k421 : (Cond.static yL_agreement) ∈ wAll := wT 421 (by decide +kernel) (by decide +kernel)
theorem k422 : (Cond.codeWith yL_agreement method_13_code 4 (some .int) [(0, 9, 12, 21), (0, 9, 15, 15)]) ∈ wAll := wT 422 (by decide +kernel) (by decide +kernel)
theorem k423 : (Cond.methodLink "SeedChainsLaw" 49 yX2_agreement) ∈ wAll := wT 423 (by decide +kernel) (by decide +kernel)
theorem k424 : (Cond.instanceMethod yX2_agreement) ∈ wAll := wT 424 (by decide +kernel) (by decide +kernel)
theorem k425 : (Cond.selects "SeedChains" yX2_agreement yX2_agreement) ∈ wAll := wT 425 (by decide +kernel) (by decide +kernel)
theorem k426 : (Cond.code yX2_agreement prog_1_method_13_code 6 (some .int)) ∈ wAll := wT 426 (by decide +kernel) (by decide +kernel)
theorem k430 : (Cond.instanceMethod yX1_greatestWeight) ∈ wAll := wT 430 (by decide +kernel) (by decide +kernel)
theorem k431 : (Cond.code yX1_greatestWeight prog_3_method_6_code 4 (some .int)) ∈ wAll := wT 431 (by decide +kernel) (by decide +kernel)
theorem k432 : (Cond.constantLong "SeedChains" 169 (1000)) ∈ wAll := wT 432 (by decide +kernel) (by decide +kernel)
theorem k433 : (Cond.methodLink "SeedChainsLaw" 121 yL_spans) ∈ wAll := wT 433 (by decide +kernel) (by decide +kernel)
theorem k434 : (Cond.static yL_spans) ∈ wAll := wT 434 (by decide +kernel) (by decide +kernel)
theorem k435 : (Cond.codeWith yL_spans method_14_code 5 (some .int) [(0, 10, 13, 21), (0, 10, 17, 13), (0, 10, 21, 15)]) ∈ wAll := wT 435 (by decide +kernel) (by decide +kernel)
theorem k436 : (Cond.methodLink "SeedChainsLaw" 52 yX2_spans) ∈ wAll := wT 436 (by decide +kernel) (by decide +kernel)
theorem k437 : (Cond.instanceMethod yX2_spans) ∈ wAll := wT 437 (by decide +kernel) (by decide +kernel)
theorem k438 : (Cond.selects "SeedChains" yX2_spans yX2_spans) ∈ wAll := wT 438 (by decide +kernel) (by decide +kernel)
theorem k439 : (Cond.code yX2_spans prog_1_method_14_code 6 (some .int)) ∈ wAll := wT 439 (by decide +kernel) (by decide +kernel)
theorem k440 : (Cond.methodLink "SeedChains" 171 yX2_spanOf) ∈ wAll := wT 440 (by decide +kernel) (by decide +kernel)
theorem k442 : (Cond.instanceMethod yX2_spanOf) ∈ wAll := wT 442 (by decide +kernel) (by decide +kernel)
theorem k443 : (Cond.code yX2_spanOf prog_1_method_29_code 8 (some .int)) ∈ wAll := wT 443 (by decide +kernel) (by decide +kernel)
theorem k444 : (Cond.methodLink "SeedChainsLaw" 124 yL_save) ∈ wAll := wT 444 (by decide +kernel) (by decide +kernel)
theorem k445 : (Cond.static yL_save) ∈ wAll := wT 445 (by decide +kernel) (by decide +kernel)
theorem k446 : (Cond.codeWith yL_save method_15_code 3 (some .int) [(0, 8, 11, 15)]) ∈ wAll := wT 446 (by decide +kernel) (by decide +kernel)
theorem k447 : (Cond.methodLink "SeedChainsLaw" 55 yX2_save) ∈ wAll := wT 447 (by decide +kernel) (by decide +kernel)
theorem k448 : (Cond.instanceMethod yX2_save) ∈ wAll := wT 448 (by decide +kernel) (by decide +kernel)
theorem k449 : (Cond.selects "SeedChains" yX2_save yX2_save) ∈ wAll := wT 449 (by decide +kernel) (by decide +kernel)
theorem k450 : (Cond.code yX2_save prog_1_method_15_code 1 (some .int)) ∈ wAll := wT 450 (by decide +kernel) (by decide +kernel)
theorem k454 : (Cond.instanceMethod yX0_take) ∈ wAll := wT 454 (by decide +kernel) (by decide +kernel)
theorem k455 : (Cond.code yX0_take prog_2_method_4_code 3 none) ∈ wAll := wT 455 (by decide +kernel) (by decide +kernel)
theorem k456 : (Cond.methodLink "SeedChainsLaw" 128 yL_back) ∈ wAll := wT 456 (by decide +kernel) (by decide +kernel)
theorem k457 : (Cond.static yL_back) ∈ wAll := wT 457 (by decide +kernel) (by decide +kernel)
theorem k458 : (Cond.codeWith yL_back method_16_code 4 (some .int) [(0, 9, 12, 21)]) ∈ wAll := wT 458 (by decide +kernel) (by decide +kernel)
theorem k459 : (Cond.methodLink "SeedChainsLaw" 59 yX2_back) ∈ wAll := wT 459 (by decide +kernel) (by decide +kernel)
theorem k460 : (Cond.instanceMethod yX2_back) ∈ wAll := wT 460 (by decide +kernel) (by decide +kernel)
theorem k461 : (Cond.selects "SeedChains" yX2_back yX2_back) ∈ wAll := wT 461 (by decide +kernel) (by decide +kernel)
theorem k462 : (Cond.code yX2_back prog_1_method_16_code 2 (some .int)) ∈ wAll := wT 462 (by decide +kernel) (by decide +kernel)
theorem k464 : (Cond.methodLink "SeedChainsLaw" 131 yL_count) ∈ wAll := wT 464 (by decide +kernel) (by decide +kernel)
theorem k465 : (Cond.static yL_count) ∈ wAll := wT 465 (by decide +kernel) (by decide +kernel)
theorem k466 : (Cond.codeWith yL_count method_17_code 4 (some .int) [(0, 9, 12, 21)]) ∈ wAll := wT 466 (by decide +kernel) (by decide +kernel)
theorem k467 : (Cond.methodLink "SeedChainsLaw" 62 yX2_count) ∈ wAll := wT 467 (by decide +kernel) (by decide +kernel)
theorem k468 : (Cond.instanceMethod yX2_count) ∈ wAll := wT 468 (by decide +kernel) (by decide +kernel)
theorem k469 : (Cond.selects "SeedChains" yX2_count yX2_count) ∈ wAll := wT 469 (by decide +kernel) (by decide +kernel)
theorem k470 : (Cond.code yX2_count prog_1_method_17_code 2 (some .int)) ∈ wAll := wT 470 (by decide +kernel) (by decide +kernel)
theorem k472 : (Cond.classLink "SeedChainsLaw" 74 "SeedChainsModel") ∈ wAll := wT 472 (by decide +kernel) (by decide +kernel)
theorem k473 : (Cond.instantiable "SeedChainsModel" 27) ∈ wAll := wT 473 (by decide +kernel) (by decide +kernel)
theorem k474 : (Cond.methodLink "SeedChainsLaw" 76 yX3_init) ∈ wAll := wT 474 (by decide +kernel) (by decide +kernel)
theorem k475 : (Cond.instanceMethod yX3_init) ∈ wAll := wT 475 (by decide +kernel) (by decide +kernel)
theorem k476 : (Cond.code yX3_init prog_5_method_1_code 3 none) ∈ wAll := wT 476 (by decide +kernel) (by decide +kernel)
theorem k477 : (Cond.methodLink "SeedChainsModel" 1 ⟨"java/lang/Object", "<init>", "()V"⟩) ∈ wAll := wT 477 (by decide +kernel) (by decide +kernel)
theorem k478 : (Cond.fieldLink "SeedChainsModel" 69 "SeedChainsModel" "thrown" "I") ∈ wAll := wT 478 (by decide +kernel) (by decide +kernel)
theorem k479 : (Cond.fieldLink "SeedChainsModel" 63 "SeedChainsModel" "seed" "I") ∈ wAll := wT 479 (by decide +kernel) (by decide +kernel)
theorem k480 : (Cond.fieldLink "SeedChainsModel" 66 "SeedChainsModel" "chains" "I") ∈ wAll := wT 480 (by decide +kernel) (by decide +kernel)
theorem k481 : (Cond.fieldLink "SeedChainsModel" 72 "SeedChainsModel" "dates" "I") ∈ wAll := wT 481 (by decide +kernel) (by decide +kernel)
theorem k482 : (Cond.fieldLink "SeedChainsModel" 7 "SeedChainsModel" "firsts" "[I") ∈ wAll := wT 482 (by decide +kernel) (by decide +kernel)
theorem k483 : (Cond.fieldLink "SeedChainsModel" 13 "SeedChainsModel" "lasts" "[I") ∈ wAll := wT 483 (by decide +kernel) (by decide +kernel)
theorem k484 : (Cond.fieldLink "SeedChainsModel" 16 "SeedChainsModel" "weights" "[I") ∈ wAll := wT 484 (by decide +kernel) (by decide +kernel)
theorem k485 : (Cond.fieldLink "SeedChainsModel" 19 "SeedChainsModel" "phases" "[I") ∈ wAll := wT 485 (by decide +kernel) (by decide +kernel)
theorem k486 : (Cond.fieldLink "SeedChainsModel" 105 "SeedChainsModel" "orders" "I") ∈ wAll := wT 486 (by decide +kernel) (by decide +kernel)
theorem k487 : (Cond.fieldLink "SeedChainsModel" 22 "SeedChainsModel" "early" "[I") ∈ wAll := wT 487 (by decide +kernel) (by decide +kernel)
theorem k488 : (Cond.fieldLink "SeedChainsModel" 25 "SeedChainsModel" "late" "[I") ∈ wAll := wT 488 (by decide +kernel) (by decide +kernel)
theorem k489 : (Cond.fieldLink "SeedChainsModel" 28 "SeedChainsModel" "least" "[I") ∈ wAll := wT 489 (by decide +kernel) (by decide +kernel)
theorem k490 : (Cond.fieldLink "SeedChainsModel" 31 "SeedChainsModel" "most" "[I") ∈ wAll := wT 490 (by decide +kernel) (by decide +kernel)
theorem k491 : (Cond.fieldLink "SeedChainsModel" 108 "SeedChainsModel" "burn" "I") ∈ wAll := wT 491 (by decide +kernel) (by decide +kernel)
theorem k492 : (Cond.fieldLink "SeedChainsModel" 34 "SeedChainsModel" "thin" "I") ∈ wAll := wT 492 (by decide +kernel) (by decide +kernel)
theorem k493 : (Cond.fieldLink "SeedChainsModel" 79 "SeedChainsModel" "isStarted" "Z") ∈ wAll := wT 493 (by decide +kernel) (by decide +kernel)
theorem k494 : (Cond.fieldLink "SeedChainsModel" 117 "SeedChainsModel" "steps" "I") ∈ wAll := wT 494 (by decide +kernel) (by decide +kernel)
theorem k495 : (Cond.fieldLink "SeedChainsModel" 120 "SeedChainsModel" "rows" "I") ∈ wAll := wT 495 (by decide +kernel) (by decide +kernel)
theorem k496 : (Cond.fieldLink "SeedChainsModel" 38 "SeedChainsModel" "years" "[I") ∈ wAll := wT 496 (by decide +kernel) (by decide +kernel)
theorem k497 : (Cond.fieldLink "SeedChainsModel" 41 "SeedChainsModel" "states" "[J") ∈ wAll := wT 497 (by decide +kernel) (by decide +kernel)
theorem k498 : (Cond.fieldLink "SeedChainsModel" 45 "SeedChainsModel" "kept" "[I") ∈ wAll := wT 498 (by decide +kernel) (by decide +kernel)
theorem k499 : (Cond.fieldLink "SeedChainsModel" 83 "SeedChainsModel" "saved" "I") ∈ wAll := wT 499 (by decide +kernel) (by decide +kernel)
theorem k500 : (Cond.fieldLink "SeedChainsModel" 48 "SeedChainsModel" "savedYears" "[I") ∈ wAll := wT 500 (by decide +kernel) (by decide +kernel)
theorem k501 : (Cond.fieldLink "SeedChainsModel" 51 "SeedChainsModel" "savedStates" "[J") ∈ wAll := wT 501 (by decide +kernel) (by decide +kernel)
theorem k502 : (Cond.fieldLink "SeedChainsModel" 54 "SeedChainsModel" "savedKept" "[I") ∈ wAll := wT 502 (by decide +kernel) (by decide +kernel)
theorem k503 : (Cond.fieldLink "SeedChainsModel" 57 "SeedChainsModel" "savedRows" "[I") ∈ wAll := wT 503 (by decide +kernel) (by decide +kernel)
theorem k504 : (Cond.fieldLink "SeedChainsModel" 60 "SeedChainsModel" "savedSteps" "[I") ∈ wAll := wT 504 (by decide +kernel) (by decide +kernel)
theorem k560 : (Cond.methodLink "SeedChainsLaw" 81 yX3_thrown) ∈ wAll := wT 560 (by decide +kernel) (by decide +kernel)
theorem k561 : (Cond.instanceMethod yX3_thrown) ∈ wAll := wT 561 (by decide +kernel) (by decide +kernel)
theorem k562 : (Cond.selects "SeedChainsModel" yX3_thrown yX3_thrown) ∈ wAll := wT 562 (by decide +kernel) (by decide +kernel)
theorem k563 : (Cond.code yX3_thrown prog_5_method_2_code 1 (some .int)) ∈ wAll := wT 563 (by decide +kernel) (by decide +kernel)
theorem k564 : (Cond.methodLink "SeedChainsLaw" 80 yX3_date) ∈ wAll := wT 564 (by decide +kernel) (by decide +kernel)
theorem k565 : (Cond.instanceMethod yX3_date) ∈ wAll := wT 565 (by decide +kernel) (by decide +kernel)
theorem k566 : (Cond.selects "SeedChainsModel" yX3_date yX3_date) ∈ wAll := wT 566 (by decide +kernel) (by decide +kernel)
theorem k567 : (Cond.code yX3_date prog_5_method_7_code 5 (some .int)) ∈ wAll := wT 567 (by decide +kernel) (by decide +kernel)
theorem k568 : (Cond.methodLink "SeedChainsModel" 75 yX3_in) ∈ wAll := wT 568 (by decide +kernel) (by decide +kernel)
theorem k569 : (Cond.static yX3_in) ∈ wAll := wT 569 (by decide +kernel) (by decide +kernel)
theorem k570 : (Cond.code yX3_in prog_5_method_4_code 3 (some .boolean)) ∈ wAll := wT 570 (by decide +kernel) (by decide +kernel)
theorem k571 : (Cond.methodLink "SeedChainsModel" 86 yX3_throwing) ∈ wAll := wT 571 (by decide +kernel) (by decide +kernel)
theorem k573 : (Cond.instanceMethod yX3_throwing) ∈ wAll := wT 573 (by decide +kernel) (by decide +kernel)
theorem k574 : (Cond.code yX3_throwing prog_5_method_3_code 4 (some .boolean)) ∈ wAll := wT 574 (by decide +kernel) (by decide +kernel)
theorem k575 : (Cond.methodLink "SeedChainsModel" 90 yX3_gone) ∈ wAll := wT 575 (by decide +kernel) (by decide +kernel)
theorem k577 : (Cond.instanceMethod yX3_gone) ∈ wAll := wT 577 (by decide +kernel) (by decide +kernel)
theorem k578 : (Cond.code yX3_gone prog_5_method_6_code 1 none) ∈ wAll := wT 578 (by decide +kernel) (by decide +kernel)
theorem k579 : (Cond.methodLink "SeedChainsLaw" 87 yX3_weight) ∈ wAll := wT 579 (by decide +kernel) (by decide +kernel)
theorem k580 : (Cond.instanceMethod yX3_weight) ∈ wAll := wT 580 (by decide +kernel) (by decide +kernel)
theorem k581 : (Cond.selects "SeedChainsModel" yX3_weight yX3_weight) ∈ wAll := wT 581 (by decide +kernel) (by decide +kernel)
theorem k582 : (Cond.code yX3_weight prog_5_method_10_code 5 (some .int)) ∈ wAll := wT 582 (by decide +kernel) (by decide +kernel)
theorem k583 : (Cond.methodLink "SeedChainsModel" 97 yX3_hasYear) ∈ wAll := wT 583 (by decide +kernel) (by decide +kernel)
theorem k585 : (Cond.instanceMethod yX3_hasYear) ∈ wAll := wT 585 (by decide +kernel) (by decide +kernel)
theorem k586 : (Cond.code yX3_hasYear prog_5_method_8_code 3 (some .boolean)) ∈ wAll := wT 586 (by decide +kernel) (by decide +kernel)
theorem k587 : (Cond.methodLink "SeedChainsModel" 93 yX3_isDate) ∈ wAll := wT 587 (by decide +kernel) (by decide +kernel)
theorem k589 : (Cond.instanceMethod yX3_isDate) ∈ wAll := wT 589 (by decide +kernel) (by decide +kernel)
theorem k590 : (Cond.code yX3_isDate prog_5_method_5_code 2 (some .boolean)) ∈ wAll := wT 590 (by decide +kernel) (by decide +kernel)
theorem k591 : (Cond.methodLink "SeedChainsModel" 101 yX3_weightOf) ∈ wAll := wT 591 (by decide +kernel) (by decide +kernel)
theorem k593 : (Cond.instanceMethod yX3_weightOf) ∈ wAll := wT 593 (by decide +kernel) (by decide +kernel)
theorem k594 : (Cond.code yX3_weightOf prog_5_method_9_code 3 (some .int)) ∈ wAll := wT 594 (by decide +kernel) (by decide +kernel)
theorem k595 : (Cond.methodLink "SeedChainsLaw" 91 yX3_before) ∈ wAll := wT 595 (by decide +kernel) (by decide +kernel)
theorem k596 : (Cond.instanceMethod yX3_before) ∈ wAll := wT 596 (by decide +kernel) (by decide +kernel)
theorem k597 : (Cond.selects "SeedChainsModel" yX3_before yX3_before) ∈ wAll := wT 597 (by decide +kernel) (by decide +kernel)
theorem k598 : (Cond.code yX3_before prog_5_method_11_code 6 (some .int)) ∈ wAll := wT 598 (by decide +kernel) (by decide +kernel)
theorem k599 : (Cond.methodLink "SeedChainsLaw" 94 yX3_member) ∈ wAll := wT 599 (by decide +kernel) (by decide +kernel)
theorem k600 : (Cond.instanceMethod yX3_member) ∈ wAll := wT 600 (by decide +kernel) (by decide +kernel)
theorem k601 : (Cond.selects "SeedChainsModel" yX3_member yX3_member) ∈ wAll := wT 601 (by decide +kernel) (by decide +kernel)
theorem k602 : (Cond.code yX3_member prog_5_method_12_code 4 (some .int)) ∈ wAll := wT 602 (by decide +kernel) (by decide +kernel)
theorem k603 : (Cond.methodLink "SeedChainsLaw" 98 yX3_burn) ∈ wAll := wT 603 (by decide +kernel) (by decide +kernel)
theorem k604 : (Cond.instanceMethod yX3_burn) ∈ wAll := wT 604 (by decide +kernel) (by decide +kernel)
theorem k605 : (Cond.selects "SeedChainsModel" yX3_burn yX3_burn) ∈ wAll := wT 605 (by decide +kernel) (by decide +kernel)
theorem k606 : (Cond.code yX3_burn prog_5_method_13_code 3 (some .int)) ∈ wAll := wT 606 (by decide +kernel) (by decide +kernel)
theorem k607 : (Cond.methodLink "SeedChainsLaw" 101 yX3_thin) ∈ wAll := wT 607 (by decide +kernel) (by decide +kernel)
theorem k608 : (Cond.instanceMethod yX3_thin) ∈ wAll := wT 608 (by decide +kernel) (by decide +kernel)
theorem k609 : (Cond.selects "SeedChainsModel" yX3_thin yX3_thin) ∈ wAll := wT 609 (by decide +kernel) (by decide +kernel)
theorem k610 : (Cond.code yX3_thin prog_5_method_14_code 3 (some .int)) ∈ wAll := wT 610 (by decide +kernel) (by decide +kernel)
theorem k611 : (Cond.methodLink "SeedChainsLaw" 105 yX3_start) ∈ wAll := wT 611 (by decide +kernel) (by decide +kernel)
theorem k612 : (Cond.instanceMethod yX3_start) ∈ wAll := wT 612 (by decide +kernel) (by decide +kernel)
theorem k613 : (Cond.selects "SeedChainsModel" yX3_start yX3_start) ∈ wAll := wT 613 (by decide +kernel) (by decide +kernel)
theorem k614 : (Cond.code yX3_start prog_5_method_18_code 4 (some .int)) ∈ wAll := wT 614 (by decide +kernel) (by decide +kernel)
theorem k615 : (Cond.methodLink "SeedChainsModel" 111 yX3_fits) ∈ wAll := wT 615 (by decide +kernel) (by decide +kernel)
theorem k617 : (Cond.instanceMethod yX3_fits) ∈ wAll := wT 617 (by decide +kernel) (by decide +kernel)
theorem k618 : (Cond.code yX3_fits prog_5_method_17_code 4 (some .boolean)) ∈ wAll := wT 618 (by decide +kernel) (by decide +kernel)
theorem k619 : (Cond.methodLink "SeedChainsModel" 114 yX3_lifts) ∈ wAll := wT 619 (by decide +kernel) (by decide +kernel)
theorem k621 : (Cond.instanceMethod yX3_lifts) ∈ wAll := wT 621 (by decide +kernel) (by decide +kernel)
theorem k622 : (Cond.code yX3_lifts prog_5_method_16_code 6 (some .boolean)) ∈ wAll := wT 622 (by decide +kernel) (by decide +kernel)
theorem k623 : (Cond.constantLong "SeedChainsModel" 123 (1000003)) ∈ wAll := wT 623 (by decide +kernel) (by decide +kernel)
theorem k624 : (Cond.methodLink "SeedChainsLaw" 108 yX3_run) ∈ wAll := wT 624 (by decide +kernel) (by decide +kernel)
theorem k625 : (Cond.instanceMethod yX3_run) ∈ wAll := wT 625 (by decide +kernel) (by decide +kernel)
theorem k626 : (Cond.selects "SeedChainsModel" yX3_run yX3_run) ∈ wAll := wT 626 (by decide +kernel) (by decide +kernel)
theorem k627 : (Cond.code yX3_run prog_5_method_23_code 5 (some .int)) ∈ wAll := wT 627 (by decide +kernel) (by decide +kernel)
theorem k628 : (Cond.methodLink "SeedChainsModel" 136 yX3_isKept) ∈ wAll := wT 628 (by decide +kernel) (by decide +kernel)
theorem k630 : (Cond.instanceMethod yX3_isKept) ∈ wAll := wT 630 (by decide +kernel) (by decide +kernel)
theorem k631 : (Cond.code yX3_isKept prog_5_method_20_code 2 (some .boolean)) ∈ wAll := wT 631 (by decide +kernel) (by decide +kernel)
theorem k632 : (Cond.methodLink "SeedChainsModel" 142 yX3_step) ∈ wAll := wT 632 (by decide +kernel) (by decide +kernel)
theorem k634 : (Cond.instanceMethod yX3_step) ∈ wAll := wT 634 (by decide +kernel) (by decide +kernel)
theorem k635 : (Cond.code yX3_step prog_5_method_22_code 3 none) ∈ wAll := wT 635 (by decide +kernel) (by decide +kernel)
theorem k636 : (Cond.methodLink "SeedChainsModel" 132 yX3_draw) ∈ wAll := wT 636 (by decide +kernel) (by decide +kernel)
theorem k638 : (Cond.instanceMethod yX3_draw) ∈ wAll := wT 638 (by decide +kernel) (by decide +kernel)
theorem k639 : (Cond.code yX3_draw prog_5_method_19_code 9 none) ∈ wAll := wT 639 (by decide +kernel) (by decide +kernel)
theorem k640 : (Cond.methodLink "SeedChainsModel" 125 yX3_holds) ∈ wAll := wT 640 (by decide +kernel) (by decide +kernel)
theorem k642 : (Cond.instanceMethod yX3_holds) ∈ wAll := wT 642 (by decide +kernel) (by decide +kernel)
theorem k643 : (Cond.code yX3_holds prog_5_method_15_code 6 (some .boolean)) ∈ wAll := wT 643 (by decide +kernel) (by decide +kernel)
theorem k644 : (Cond.constantLong "SeedChainsModel" 128 (6364136223846793005)) ∈ wAll := wT 644 (by decide +kernel) (by decide +kernel)
theorem k645 : (Cond.constantLong "SeedChainsModel" 130 (1442695040888963407)) ∈ wAll := wT 645 (by decide +kernel) (by decide +kernel)
theorem k646 : (Cond.methodLink "SeedChainsModel" 139 yX3_rowAt) ∈ wAll := wT 646 (by decide +kernel) (by decide +kernel)
theorem k648 : (Cond.instanceMethod yX3_rowAt) ∈ wAll := wT 648 (by decide +kernel) (by decide +kernel)
theorem k649 : (Cond.code yX3_rowAt prog_5_method_21_code 3 (some .int)) ∈ wAll := wT 649 (by decide +kernel) (by decide +kernel)
theorem k650 : (Cond.methodLink "SeedChainsLaw" 111 yX3_at) ∈ wAll := wT 650 (by decide +kernel) (by decide +kernel)
theorem k651 : (Cond.instanceMethod yX3_at) ∈ wAll := wT 651 (by decide +kernel) (by decide +kernel)
theorem k652 : (Cond.selects "SeedChainsModel" yX3_at yX3_at) ∈ wAll := wT 652 (by decide +kernel) (by decide +kernel)
theorem k653 : (Cond.code yX3_at prog_5_method_24_code 5 (some .int)) ∈ wAll := wT 653 (by decide +kernel) (by decide +kernel)
theorem k654 : (Cond.methodLink "SeedChainsLaw" 114 yX3_counted) ∈ wAll := wT 654 (by decide +kernel) (by decide +kernel)
theorem k655 : (Cond.instanceMethod yX3_counted) ∈ wAll := wT 655 (by decide +kernel) (by decide +kernel)
theorem k656 : (Cond.selects "SeedChainsModel" yX3_counted yX3_counted) ∈ wAll := wT 656 (by decide +kernel) (by decide +kernel)
theorem k657 : (Cond.code yX3_counted prog_5_method_25_code 5 (some .int)) ∈ wAll := wT 657 (by decide +kernel) (by decide +kernel)
theorem k658 : (Cond.methodLink "SeedChainsLaw" 117 yX3_apart) ∈ wAll := wT 658 (by decide +kernel) (by decide +kernel)
theorem k659 : (Cond.instanceMethod yX3_apart) ∈ wAll := wT 659 (by decide +kernel) (by decide +kernel)
theorem k660 : (Cond.selects "SeedChainsModel" yX3_apart yX3_apart) ∈ wAll := wT 660 (by decide +kernel) (by decide +kernel)
theorem k661 : (Cond.code yX3_apart prog_5_method_26_code 7 (some .int)) ∈ wAll := wT 661 (by decide +kernel) (by decide +kernel)
theorem k662 : (Cond.methodLink "SeedChainsLaw" 120 yX3_agreement) ∈ wAll := wT 662 (by decide +kernel) (by decide +kernel)
theorem k663 : (Cond.instanceMethod yX3_agreement) ∈ wAll := wT 663 (by decide +kernel) (by decide +kernel)
theorem k664 : (Cond.selects "SeedChainsModel" yX3_agreement yX3_agreement) ∈ wAll := wT 664 (by decide +kernel) (by decide +kernel)
theorem k665 : (Cond.code yX3_agreement prog_5_method_27_code 6 (some .int)) ∈ wAll := wT 665 (by decide +kernel) (by decide +kernel)
theorem k666 : (Cond.constantLong "SeedChainsModel" 145 (1000)) ∈ wAll := wT 666 (by decide +kernel) (by decide +kernel)
theorem k667 : (Cond.methodLink "SeedChainsLaw" 123 yX3_spans) ∈ wAll := wT 667 (by decide +kernel) (by decide +kernel)
theorem k668 : (Cond.instanceMethod yX3_spans) ∈ wAll := wT 668 (by decide +kernel) (by decide +kernel)
theorem k669 : (Cond.selects "SeedChainsModel" yX3_spans yX3_spans) ∈ wAll := wT 669 (by decide +kernel) (by decide +kernel)
theorem k670 : (Cond.code yX3_spans prog_5_method_29_code 5 (some .int)) ∈ wAll := wT 670 (by decide +kernel) (by decide +kernel)
theorem k671 : (Cond.methodLink "SeedChainsModel" 147 yX3_spanOf) ∈ wAll := wT 671 (by decide +kernel) (by decide +kernel)
theorem k673 : (Cond.instanceMethod yX3_spanOf) ∈ wAll := wT 673 (by decide +kernel) (by decide +kernel)
theorem k674 : (Cond.code yX3_spanOf prog_5_method_28_code 6 (some .int)) ∈ wAll := wT 674 (by decide +kernel) (by decide +kernel)
theorem k675 : (Cond.methodLink "SeedChainsLaw" 127 yX3_save) ∈ wAll := wT 675 (by decide +kernel) (by decide +kernel)
theorem k676 : (Cond.instanceMethod yX3_save) ∈ wAll := wT 676 (by decide +kernel) (by decide +kernel)
theorem k677 : (Cond.selects "SeedChainsModel" yX3_save yX3_save) ∈ wAll := wT 677 (by decide +kernel) (by decide +kernel)
theorem k678 : (Cond.code yX3_save prog_5_method_30_code 2 (some .int)) ∈ wAll := wT 678 (by decide +kernel) (by decide +kernel)
theorem k679 : (Cond.methodLink "SeedChainsLaw" 130 yX3_back) ∈ wAll := wT 679 (by decide +kernel) (by decide +kernel)
theorem k680 : (Cond.instanceMethod yX3_back) ∈ wAll := wT 680 (by decide +kernel) (by decide +kernel)
theorem k681 : (Cond.selects "SeedChainsModel" yX3_back yX3_back) ∈ wAll := wT 681 (by decide +kernel) (by decide +kernel)
theorem k682 : (Cond.code yX3_back prog_5_method_31_code 3 (some .int)) ∈ wAll := wT 682 (by decide +kernel) (by decide +kernel)
theorem k683 : (Cond.methodLink "SeedChainsLaw" 133 yX3_count) ∈ wAll := wT 683 (by decide +kernel) (by decide +kernel)
theorem k684 : (Cond.instanceMethod yX3_count) ∈ wAll := wT 684 (by decide +kernel) (by decide +kernel)
theorem k685 : (Cond.selects "SeedChainsModel" yX3_count yX3_count) ∈ wAll := wT 685 (by decide +kernel) (by decide +kernel)
theorem k686 : (Cond.code yX3_count prog_5_method_32_code 2 (some .int)) ∈ wAll := wT 686 (by decide +kernel) (by decide +kernel)
theorem ks0 : (Cond.selects "SeedChains$Site" yX1_findLeastYears yX1_findLeastYears) ∈ wAll := wS 0 (by decide +kernel) (by decide +kernel)
theorem ks1 : (Cond.selects "SeedChains$Site" yX1_raiseByOrders yX1_raiseByOrders) ∈ wAll := wS 1 (by decide +kernel) (by decide +kernel)
theorem ks2 : (Cond.selects "SeedChains$Site" yX1_noneIsPastLast yX1_noneIsPastLast) ∈ wAll := wS 2 (by decide +kernel) (by decide +kernel)
theorem ks4 : (Cond.selects "SeedChains" yX2_forget yX2_forget) ∈ wAll := wS 4 (by decide +kernel) (by decide +kernel)
theorem ks5 : (Cond.selects "SeedChains$Site" yX1_addDate yX1_addDate) ∈ wAll := wS 5 (by decide +kernel) (by decide +kernel)
theorem ks6 : (Cond.selects "SeedChains" yX2_needYearOf yX2_needYearOf) ∈ wAll := wS 6 (by decide +kernel) (by decide +kernel)
theorem ks7 : (Cond.selects "SeedChains" yX2_needDate yX2_needDate) ∈ wAll := wS 7 (by decide +kernel) (by decide +kernel)
theorem ks8 : (Cond.selects "SeedChains$Site" yX1_changeWeight yX1_changeWeight) ∈ wAll := wS 8 (by decide +kernel) (by decide +kernel)
theorem ks9 : (Cond.selects "SeedChains$Site" yX1_weightOf yX1_weightOf) ∈ wAll := wS 9 (by decide +kernel) (by decide +kernel)
theorem ks10 : (Cond.selects "SeedChains$Site" yX1_addOrder yX1_addOrder) ∈ wAll := wS 10 (by decide +kernel) (by decide +kernel)
theorem ks11 : (Cond.selects "SeedChains" yX2_needStarted yX2_needStarted) ∈ wAll := wS 11 (by decide +kernel) (by decide +kernel)
theorem ks12 : (Cond.selects "SeedChains" yX2_rowsToCome yX2_rowsToCome) ∈ wAll := wS 12 (by decide +kernel) (by decide +kernel)
theorem ks13 : (Cond.selects "SeedChains" yX2_isKept yX2_isKept) ∈ wAll := wS 13 (by decide +kernel) (by decide +kernel)
theorem ks14 : (Cond.selects "SeedChains" yX2_stepAll yX2_stepAll) ∈ wAll := wS 14 (by decide +kernel) (by decide +kernel)
theorem ks15 : (Cond.selects "SeedChains" yX2_stepChain yX2_stepChain) ∈ wAll := wS 15 (by decide +kernel) (by decide +kernel)
theorem ks16 : (Cond.selects "SeedChains$Site" yX1_drawnYear yX1_drawnYear) ∈ wAll := wS 16 (by decide +kernel) (by decide +kernel)
theorem ks17 : (Cond.selects "SeedChains$Site" yX1_lowYear yX1_lowYear) ∈ wAll := wS 17 (by decide +kernel) (by decide +kernel)
theorem ks18 : (Cond.selects "SeedChains$Site" yX1_highYear yX1_highYear) ∈ wAll := wS 18 (by decide +kernel) (by decide +kernel)
theorem ks19 : (Cond.selects "SeedChains$Course" yX0_keepYears yX0_keepYears) ∈ wAll := wS 19 (by decide +kernel) (by decide +kernel)
theorem ks20 : (Cond.selects "SeedChains$Course" yX0_keptYear yX0_keptYear) ∈ wAll := wS 20 (by decide +kernel) (by decide +kernel)
theorem ks21 : (Cond.selects "SeedChains" yX2_sumOfYears yX2_sumOfYears) ∈ wAll := wS 21 (by decide +kernel) (by decide +kernel)
theorem ks22 : (Cond.selects "SeedChains$Site" yX1_greatestWeight yX1_greatestWeight) ∈ wAll := wS 22 (by decide +kernel) (by decide +kernel)
theorem ks23 : (Cond.selects "SeedChains" yX2_spanOf yX2_spanOf) ∈ wAll := wS 23 (by decide +kernel) (by decide +kernel)
theorem ks24 : (Cond.selects "SeedChains$Course" yX0_take yX0_take) ∈ wAll := wS 24 (by decide +kernel) (by decide +kernel)
theorem ks25 : (Cond.selects "SeedChainsModel" yX3_throwing yX3_throwing) ∈ wAll := wS 25 (by decide +kernel) (by decide +kernel)
theorem ks26 : (Cond.selects "SeedChainsModel" yX3_gone yX3_gone) ∈ wAll := wS 26 (by decide +kernel) (by decide +kernel)
theorem ks27 : (Cond.selects "SeedChainsModel" yX3_hasYear yX3_hasYear) ∈ wAll := wS 27 (by decide +kernel) (by decide +kernel)
theorem ks28 : (Cond.selects "SeedChainsModel" yX3_isDate yX3_isDate) ∈ wAll := wS 28 (by decide +kernel) (by decide +kernel)
theorem ks29 : (Cond.selects "SeedChainsModel" yX3_weightOf yX3_weightOf) ∈ wAll := wS 29 (by decide +kernel) (by decide +kernel)
theorem ks30 : (Cond.selects "SeedChainsModel" yX3_fits yX3_fits) ∈ wAll := wS 30 (by decide +kernel) (by decide +kernel)
theorem ks31 : (Cond.selects "SeedChainsModel" yX3_lifts yX3_lifts) ∈ wAll := wS 31 (by decide +kernel) (by decide +kernel)
theorem ks32 : (Cond.selects "SeedChainsModel" yX3_isKept yX3_isKept) ∈ wAll := wS 32 (by decide +kernel) (by decide +kernel)
theorem ks33 : (Cond.selects "SeedChainsModel" yX3_step yX3_step) ∈ wAll := wS 33 (by decide +kernel) (by decide +kernel)
theorem ks34 : (Cond.selects "SeedChainsModel" yX3_draw yX3_draw) ∈ wAll := wS 34 (by decide +kernel) (by decide +kernel)
theorem ks35 : (Cond.selects "SeedChainsModel" yX3_holds yX3_holds) ∈ wAll := wS 35 (by decide +kernel) (by decide +kernel)
theorem ks36 : (Cond.selects "SeedChainsModel" yX3_rowAt yX3_rowAt) ∈ wAll := wS 36 (by decide +kernel) (by decide +kernel)
theorem ks37 : (Cond.selects "SeedChainsModel" yX3_spanOf yX3_spanOf) ∈ wAll := wS 37 (by decide +kernel) (by decide +kernel)
abbrev wX2_init : List Cond := .code yX2_init cX2_init 4 none :: wAll
abbrev wX1_init : List Cond := .code yX1_init cX1_init 1 none :: wAll
abbrev wX0_init : List Cond := .code yX0_init cX0_init 2 none :: wAll
abbrev wX2_start : List Cond := .code yX2_start cX2_start 2 (some .int) :: wAll
abbrev wX1_findLeastYears : List Cond := .code yX1_findLeastYears cX1_findLeastYears 4 (some .boolean) :: wAll
abbrev wX1_raiseByOrders : List Cond := .code yX1_raiseByOrders cX1_raiseByOrders 6 (some .boolean) :: wAll
abbrev wX1_noneIsPastLast : List Cond := .code yX1_noneIsPastLast cX1_noneIsPastLast 3 (some .boolean) :: wAll
abbrev wL_cell : List Cond := .code yL_cell cL_cell 2 (some .int) :: wAll
abbrev wL_date : List Cond := .codeWith yL_date cL_date 5 (some .int) [(0, 10, 13, 13), (0, 10, 17, 15)] :: wAll
abbrev wX2_date : List Cond := .code yX2_date cX2_date 3 (some .int) :: wAll
abbrev wX2_needYears : List Cond := .code yX2_needYears cX2_needYears 1 none :: wAll
abbrev wX2_forget : List Cond := .code yX2_forget cX2_forget 1 none :: wAll
abbrev wX1_addDate : List Cond := .code yX1_addDate cX1_addDate 5 (some .int) :: wAll
abbrev wL_weight : List Cond := .codeWith yL_weight cL_weight 6 (some .int) [(0, 12, 15, 21), (0, 12, 19, 13)] :: wAll
abbrev wX2_weight : List Cond := .code yX2_weight cX2_weight 4 (some .int) :: wAll
abbrev wX2_needYearOf : List Cond := .code yX2_needYearOf cX2_needYearOf 3 none :: wAll
abbrev wX2_needDate : List Cond := .code yX2_needDate cX2_needDate 2 none :: wAll
abbrev wX1_changeWeight : List Cond := .code yX1_changeWeight cX1_changeWeight 5 (some .int) :: wAll
abbrev wX1_weightOf : List Cond := .code yX1_weightOf cX1_weightOf 3 (some .int) :: wAll
abbrev wL_before : List Cond := .codeWith yL_before cL_before 7 (some .int) [(0, 14, 17, 21), (0, 14, 21, 13), (0, 14, 25, 15)] :: wAll
abbrev wX2_before : List Cond := .code yX2_before cX2_before 5 (some .int) :: wAll
abbrev wX1_addOrder : List Cond := .code yX1_addOrder cX1_addOrder 6 (some .int) :: wAll
abbrev wL_member : List Cond := .codeWith yL_member cL_member 5 (some .int) [(0, 10, 13, 21)] :: wAll
abbrev wX2_member : List Cond := .code yX2_member cX2_member 4 (some .int) :: wAll
abbrev wX2_needPhase : List Cond := .code yX2_needPhase cX2_needPhase 1 none :: wAll
abbrev wL_burn : List Cond := .codeWith yL_burn cL_burn 4 (some .int) [(0, 9, 12, 13)] :: wAll
abbrev wX2_burn : List Cond := .code yX2_burn cX2_burn 3 (some .int) :: wAll
abbrev wL_thin : List Cond := .codeWith yL_thin cL_thin 4 (some .int) [(0, 9, 12, 13)] :: wAll
abbrev wX2_thin : List Cond := .code yX2_thin cX2_thin 3 (some .int) :: wAll
abbrev wL_run : List Cond := .codeWith yL_run cL_run 4 (some .int) [(0, 9, 12, 13), (0, 9, 15, 15)] :: wAll
abbrev wX2_run : List Cond := .code yX2_run cX2_run 3 (some .int) :: wAll
abbrev wX2_needStarted : List Cond := .code yX2_needStarted cX2_needStarted 1 none :: wAll
abbrev wX2_rowsToCome : List Cond := .code yX2_rowsToCome cX2_rowsToCome 4 (some .int) :: wAll
abbrev wX2_isKept : List Cond := .code yX2_isKept cX2_isKept 2 (some .boolean) :: wAll
abbrev wX2_stepAll : List Cond := .code yX2_stepAll cX2_stepAll 2 none :: wAll
abbrev wX2_stepChain : List Cond := .code yX2_stepChain cX2_stepChain 4 none :: wAll
abbrev wX1_drawnYear : List Cond := .code yX1_drawnYear cX1_drawnYear 12 (some .int) :: wAll
abbrev wX1_lowYear : List Cond := .code yX1_lowYear cX1_lowYear 5 (some .int) :: wAll
abbrev wX1_highYear : List Cond := .code yX1_highYear cX1_highYear 5 (some .int) :: wAll
abbrev wX0_keepYears : List Cond := .code yX0_keepYears cX0_keepYears 2 none :: wAll
abbrev wL_at : List Cond := .codeWith yL_at cL_at 6 (some .int) [(0, 12, 15, 21), (0, 12, 19, 15)] :: wAll
abbrev wX2_at : List Cond := .code yX2_at cX2_at 4 (some .int) :: wAll
abbrev wX0_keptYear : List Cond := .code yX0_keptYear cX0_keptYear 4 (some .int) :: wAll
abbrev wL_counted : List Cond := .codeWith yL_counted cL_counted 5 (some .int) [(0, 10, 13, 21), (0, 10, 17, 15)] :: wAll
abbrev wX2_counted : List Cond := .code yX2_counted cX2_counted 6 (some .int) :: wAll
abbrev wL_apart : List Cond := .codeWith yL_apart cL_apart 4 (some .int) [(0, 9, 12, 21), (0, 9, 15, 15)] :: wAll
abbrev wX2_apart : List Cond := .code yX2_apart cX2_apart 6 (some .int) :: wAll
abbrev wX2_sumOfYears : List Cond := .code yX2_sumOfYears cX2_sumOfYears 5 (some .int) :: wAll
abbrev wL_agreement : List Cond := .codeWith yL_agreement cL_agreement 4 (some .int) [(0, 9, 12, 21), (0, 9, 15, 15)] :: wAll
abbrev wX2_agreement : List Cond := .code yX2_agreement cX2_agreement 6 (some .int) :: wAll
abbrev wX1_greatestWeight : List Cond := .code yX1_greatestWeight cX1_greatestWeight 4 (some .int) :: wAll
abbrev wL_spans : List Cond := .codeWith yL_spans cL_spans 5 (some .int) [(0, 10, 13, 21), (0, 10, 17, 13), (0, 10, 21, 15)] :: wAll
abbrev wX2_spans : List Cond := .code yX2_spans cX2_spans 6 (some .int) :: wAll
abbrev wX2_spanOf : List Cond := .code yX2_spanOf cX2_spanOf 8 (some .int) :: wAll
abbrev wL_save : List Cond := .codeWith yL_save cL_save 3 (some .int) [(0, 8, 11, 15)] :: wAll
abbrev wX2_save : List Cond := .code yX2_save cX2_save 1 (some .int) :: wAll
abbrev wX0_take : List Cond := .code yX0_take cX0_take 3 none :: wAll
abbrev wL_back : List Cond := .codeWith yL_back cL_back 4 (some .int) [(0, 9, 12, 21)] :: wAll
abbrev wX2_back : List Cond := .code yX2_back cX2_back 2 (some .int) :: wAll
abbrev wL_count : List Cond := .codeWith yL_count cL_count 4 (some .int) [(0, 9, 12, 21)] :: wAll
abbrev wX2_count : List Cond := .code yX2_count cX2_count 2 (some .int) :: wAll
abbrev wX3_init : List Cond := .code yX3_init cX3_init 3 none :: wAll
abbrev wX3_thrown : List Cond := .code yX3_thrown cX3_thrown 1 (some .int) :: wAll
abbrev wX3_date : List Cond := .code yX3_date cX3_date 5 (some .int) :: wAll
abbrev wX3_in : List Cond := .code yX3_in cX3_in 3 (some .boolean) :: wAll
abbrev wX3_throwing : List Cond := .code yX3_throwing cX3_throwing 4 (some .boolean) :: wAll
abbrev wX3_gone : List Cond := .code yX3_gone cX3_gone 1 none :: wAll
abbrev wX3_weight : List Cond := .code yX3_weight cX3_weight 5 (some .int) :: wAll
abbrev wX3_hasYear : List Cond := .code yX3_hasYear cX3_hasYear 3 (some .boolean) :: wAll
abbrev wX3_isDate : List Cond := .code yX3_isDate cX3_isDate 2 (some .boolean) :: wAll
abbrev wX3_weightOf : List Cond := .code yX3_weightOf cX3_weightOf 3 (some .int) :: wAll
abbrev wX3_before : List Cond := .code yX3_before cX3_before 6 (some .int) :: wAll
abbrev wX3_member : List Cond := .code yX3_member cX3_member 4 (some .int) :: wAll
abbrev wX3_burn : List Cond := .code yX3_burn cX3_burn 3 (some .int) :: wAll
abbrev wX3_thin : List Cond := .code yX3_thin cX3_thin 3 (some .int) :: wAll
abbrev wX3_start : List Cond := .code yX3_start cX3_start 4 (some .int) :: wAll
abbrev wX3_fits : List Cond := .code yX3_fits cX3_fits 4 (some .boolean) :: wAll
abbrev wX3_lifts : List Cond := .code yX3_lifts cX3_lifts 6 (some .boolean) :: wAll
abbrev wX3_run : List Cond := .code yX3_run cX3_run 5 (some .int) :: wAll
abbrev wX3_isKept : List Cond := .code yX3_isKept cX3_isKept 2 (some .boolean) :: wAll
abbrev wX3_step : List Cond := .code yX3_step cX3_step 3 none :: wAll
abbrev wX3_draw : List Cond := .code yX3_draw cX3_draw 9 none :: wAll
abbrev wX3_holds : List Cond := .code yX3_holds cX3_holds 6 (some .boolean) :: wAll
abbrev wX3_rowAt : List Cond := .code yX3_rowAt cX3_rowAt 3 (some .int) :: wAll
abbrev wX3_at : List Cond := .code yX3_at cX3_at 5 (some .int) :: wAll
abbrev wX3_counted : List Cond := .code yX3_counted cX3_counted 5 (some .int) :: wAll
abbrev wX3_apart : List Cond := .code yX3_apart cX3_apart 7 (some .int) :: wAll
abbrev wX3_agreement : List Cond := .code yX3_agreement cX3_agreement 6 (some .int) :: wAll
abbrev wX3_spans : List Cond := .code yX3_spans cX3_spans 5 (some .int) :: wAll
abbrev wX3_spanOf : List Cond := .code yX3_spanOf cX3_spanOf 6 (some .int) :: wAll
abbrev wX3_save : List Cond := .code yX3_save cX3_save 2 (some .int) :: wAll
abbrev wX3_back : List Cond := .code yX3_back cX3_back 3 (some .int) :: wAll
abbrev wX3_count : List Cond := .code yX3_count cX3_count 2 (some .int) :: wAll
end
section
theorem dX2_init_0 : decode cX2_init 0 = .ok (.aload_n 0, 1) := by decide +kernel
theorem dX2_init_1 : decode cX2_init 1 = .ok (.invokespecial 1, 3) := by decide +kernel
theorem dX2_init_4 : decode cX2_init 4 = .ok (.aload_n 0, 1) := by decide +kernel
theorem dX2_init_5 : decode cX2_init 5 = .ok (.iload_n 1, 1) := by decide +kernel
theorem dX2_init_6 : decode cX2_init 6 = .ok (.putfield 7, 3) := by decide +kernel
theorem dX2_init_9 : decode cX2_init 9 = .ok (.aload_n 0, 1) := by decide +kernel
theorem dX2_init_10 : decode cX2_init 10 = .ok (.iconst 1, 1) := by decide +kernel
theorem dX2_init_11 : decode cX2_init 11 = .ok (.iconst 4, 1) := by decide +kernel
theorem dX2_init_12 : decode cX2_init 12 = .ok (.iload_n 2, 1) := by decide +kernel
theorem dX2_init_13 : decode cX2_init 13 = .ok (.invokestatic 13, 3) := by decide +kernel
theorem dX2_init_16 : decode cX2_init 16 = .ok (.invokestatic 19, 3) := by decide +kernel
theorem dX2_init_19 : decode cX2_init 19 = .ok (.putfield 22, 3) := by decide +kernel
theorem dX2_init_22 : decode cX2_init 22 = .ok (.aload_n 0, 1) := by decide +kernel
theorem dX2_init_23 : decode cX2_init 23 = .ok (.new 25, 3) := by decide +kernel
theorem dX2_init_26 : decode cX2_init 26 = .ok (.dup, 1) := by decide +kernel
theorem dX2_init_27 : decode cX2_init 27 = .ok (.invokespecial 27, 3) := by decide +kernel
theorem dX2_init_30 : decode cX2_init 30 = .ok (.putfield 28, 3) := by decide +kernel
theorem dX2_init_33 : decode cX2_init 33 = .ok (.aload_n 0, 1) := by decide +kernel
theorem dX2_init_34 : decode cX2_init 34 = .ok (.new 32, 3) := by decide +kernel
theorem dX2_init_37 : decode cX2_init 37 = .ok (.dup, 1) := by decide +kernel
theorem dX2_init_38 : decode cX2_init 38 = .ok (.aload_n 0, 1) := by decide +kernel
theorem dX2_init_39 : decode cX2_init 39 = .ok (.getfield 22, 3) := by decide +kernel
theorem dX2_init_42 : decode cX2_init 42 = .ok (.invokespecial 34, 3) := by decide +kernel
theorem dX2_init_45 : decode cX2_init 45 = .ok (.putfield 37, 3) := by decide +kernel
theorem dX2_init_48 : decode cX2_init 48 = .ok (.aload_n 0, 1) := by decide +kernel
theorem dX2_init_49 : decode cX2_init 49 = .ok (.iconst 4, 1) := by decide +kernel
theorem dX2_init_50 : decode cX2_init 50 = .ok (.anewarray 32, 3) := by decide +kernel
theorem dX2_init_53 : decode cX2_init 53 = .ok (.putfield 41, 3) := by decide +kernel
theorem dX2_init_56 : decode cX2_init 56 = .ok (.iconst 0, 1) := by decide +kernel
theorem dX2_init_57 : decode cX2_init 57 = .ok (.istore_n 3, 1) := by decide +kernel
theorem dX2_init_58 : decode cX2_init 58 = .ok (.iload_n 3, 1) := by decide +kernel
theorem dX2_init_59 : decode cX2_init 59 = .ok (.iconst 4, 1) := by decide +kernel
theorem dX2_init_60 : decode cX2_init 60 = .ok (.if_icmp .ge 26, 3) := by decide +kernel
theorem dX2_init_63 : decode cX2_init 63 = .ok (.aload_n 0, 1) := by decide +kernel
theorem dX2_init_64 : decode cX2_init 64 = .ok (.getfield 41, 3) := by decide +kernel
theorem dX2_init_67 : decode cX2_init 67 = .ok (.iload_n 3, 1) := by decide +kernel
theorem dX2_init_68 : decode cX2_init 68 = .ok (.new 32, 3) := by decide +kernel
theorem dX2_init_71 : decode cX2_init 71 = .ok (.dup, 1) := by decide +kernel
theorem dX2_init_72 : decode cX2_init 72 = .ok (.aload_n 0, 1) := by decide +kernel
theorem dX2_init_73 : decode cX2_init 73 = .ok (.getfield 22, 3) := by decide +kernel
theorem dX2_init_76 : decode cX2_init 76 = .ok (.invokespecial 34, 3) := by decide +kernel
theorem dX2_init_79 : decode cX2_init 79 = .ok (.aastore, 1) := by decide +kernel
theorem dX2_init_80 : decode cX2_init 80 = .ok (.iinc 3 1, 3) := by decide +kernel
theorem dX2_init_83 : decode cX2_init 83 = .ok (.goto (-25), 3) := by decide +kernel
theorem dX2_init_86 : decode cX2_init 86 = .ok (.aload_n 0, 1) := by decide +kernel
theorem dX2_init_87 : decode cX2_init 87 = .ok (.iconst 0, 1) := by decide +kernel
theorem dX2_init_88 : decode cX2_init 88 = .ok (.putfield 45, 3) := by decide +kernel
theorem dX2_init_91 : decode cX2_init 91 = .ok (.aload_n 0, 1) := by decide +kernel
theorem dX2_init_92 : decode cX2_init 92 = .ok (.iconst 0, 1) := by decide +kernel
theorem dX2_init_93 : decode cX2_init 93 = .ok (.putfield 48, 3) := by decide +kernel
theorem dX2_init_96 : decode cX2_init 96 = .ok (.aload_n 0, 1) := by decide +kernel
theorem dX2_init_97 : decode cX2_init 97 = .ok (.iconst 0, 1) := by decide +kernel
theorem dX2_init_98 : decode cX2_init 98 = .ok (.putfield 52, 3) := by decide +kernel
theorem dX2_init_101 : decode cX2_init 101 = .ok (.aload_n 0, 1) := by decide +kernel
theorem dX2_init_102 : decode cX2_init 102 = .ok (.iconst 1, 1) := by decide +kernel
theorem dX2_init_103 : decode cX2_init 103 = .ok (.putfield 55, 3) := by decide +kernel
theorem dX2_init_106 : decode cX2_init 106 = .ok (.return_, 1) := by decide +kernel
theorem dX1_init_0 : decode cX1_init 0 = .ok (.aload_n 0, 1) := by decide +kernel
theorem dX1_init_1 : decode cX1_init 1 = .ok (.invokespecial 3, 3) := by decide +kernel
theorem dX1_init_4 : decode cX1_init 4 = .ok (.aload_n 0, 1) := by decide +kernel
theorem dX1_init_5 : decode cX1_init 5 = .ok (.bipush 8, 2) := by decide +kernel
theorem dX1_init_7 : decode cX1_init 7 = .ok (.newarray .int, 2) := by decide +kernel
theorem dX1_init_9 : decode cX1_init 9 = .ok (.putfield 9, 3) := by decide +kernel
theorem dX1_init_12 : decode cX1_init 12 = .ok (.aload_n 0, 1) := by decide +kernel
theorem dX1_init_13 : decode cX1_init 13 = .ok (.bipush 8, 2) := by decide +kernel
theorem dX1_init_15 : decode cX1_init 15 = .ok (.newarray .int, 2) := by decide +kernel
theorem dX1_init_17 : decode cX1_init 17 = .ok (.putfield 15, 3) := by decide +kernel
theorem dX1_init_20 : decode cX1_init 20 = .ok (.aload_n 0, 1) := by decide +kernel
theorem dX1_init_21 : decode cX1_init 21 = .ok (.bipush 8, 2) := by decide +kernel
theorem dX1_init_23 : decode cX1_init 23 = .ok (.newarray .int, 2) := by decide +kernel
theorem dX1_init_25 : decode cX1_init 25 = .ok (.putfield 18, 3) := by decide +kernel
theorem dX1_init_28 : decode cX1_init 28 = .ok (.aload_n 0, 1) := by decide +kernel
theorem dX1_init_29 : decode cX1_init 29 = .ok (.bipush 8, 2) := by decide +kernel
theorem dX1_init_31 : decode cX1_init 31 = .ok (.bipush 64, 2) := by decide +kernel
theorem dX1_init_33 : decode cX1_init 33 = .ok (.multianewarray 21 2, 4) := by decide +kernel
theorem dX1_init_37 : decode cX1_init 37 = .ok (.putfield 23, 3) := by decide +kernel
theorem dX1_init_40 : decode cX1_init 40 = .ok (.aload_n 0, 1) := by decide +kernel
theorem dX1_init_41 : decode cX1_init 41 = .ok (.bipush 24, 2) := by decide +kernel
theorem dX1_init_43 : decode cX1_init 43 = .ok (.newarray .int, 2) := by decide +kernel
theorem dX1_init_45 : decode cX1_init 45 = .ok (.putfield 26, 3) := by decide +kernel
theorem dX1_init_48 : decode cX1_init 48 = .ok (.aload_n 0, 1) := by decide +kernel
theorem dX1_init_49 : decode cX1_init 49 = .ok (.bipush 24, 2) := by decide +kernel
theorem dX1_init_51 : decode cX1_init 51 = .ok (.newarray .int, 2) := by decide +kernel
theorem dX1_init_53 : decode cX1_init 53 = .ok (.putfield 29, 3) := by decide +kernel
theorem dX1_init_56 : decode cX1_init 56 = .ok (.aload_n 0, 1) := by decide +kernel
theorem dX1_init_57 : decode cX1_init 57 = .ok (.bipush 24, 2) := by decide +kernel
theorem dX1_init_59 : decode cX1_init 59 = .ok (.newarray .int, 2) := by decide +kernel
theorem dX1_init_61 : decode cX1_init 61 = .ok (.putfield 32, 3) := by decide +kernel
theorem dX1_init_64 : decode cX1_init 64 = .ok (.aload_n 0, 1) := by decide +kernel
theorem dX1_init_65 : decode cX1_init 65 = .ok (.bipush 24, 2) := by decide +kernel
theorem dX1_init_67 : decode cX1_init 67 = .ok (.newarray .int, 2) := by decide +kernel
theorem dX1_init_69 : decode cX1_init 69 = .ok (.putfield 35, 3) := by decide +kernel
theorem dX1_init_72 : decode cX1_init 72 = .ok (.aload_n 0, 1) := by decide +kernel
theorem dX1_init_73 : decode cX1_init 73 = .ok (.iconst 0, 1) := by decide +kernel
theorem dX1_init_74 : decode cX1_init 74 = .ok (.putfield 38, 3) := by decide +kernel
theorem dX1_init_77 : decode cX1_init 77 = .ok (.aload_n 0, 1) := by decide +kernel
theorem dX1_init_78 : decode cX1_init 78 = .ok (.iconst 0, 1) := by decide +kernel
theorem dX1_init_79 : decode cX1_init 79 = .ok (.putfield 42, 3) := by decide +kernel
theorem dX1_init_82 : decode cX1_init 82 = .ok (.return_, 1) := by decide +kernel
theorem dX0_init_0 : decode cX0_init 0 = .ok (.aload_n 0, 1) := by decide +kernel
theorem dX0_init_1 : decode cX0_init 1 = .ok (.invokespecial 3, 3) := by decide +kernel
theorem dX0_init_4 : decode cX0_init 4 = .ok (.aload_n 0, 1) := by decide +kernel
theorem dX0_init_5 : decode cX0_init 5 = .ok (.iload_n 1, 1) := by decide +kernel
theorem dX0_init_6 : decode cX0_init 6 = .ok (.bipush 8, 2) := by decide +kernel
theorem dX0_init_8 : decode cX0_init 8 = .ok (.multianewarray 9 2, 4) := by decide +kernel
theorem dX0_init_12 : decode cX0_init 12 = .ok (.putfield 11, 3) := by decide +kernel
theorem dX0_init_15 : decode cX0_init 15 = .ok (.aload_n 0, 1) := by decide +kernel
theorem dX0_init_16 : decode cX0_init 16 = .ok (.iload_n 1, 1) := by decide +kernel
theorem dX0_init_17 : decode cX0_init 17 = .ok (.newarray .long, 2) := by decide +kernel
theorem dX0_init_19 : decode cX0_init 19 = .ok (.putfield 16, 3) := by decide +kernel
theorem dX0_init_22 : decode cX0_init 22 = .ok (.aload_n 0, 1) := by decide +kernel
theorem dX0_init_23 : decode cX0_init 23 = .ok (.iload_n 1, 1) := by decide +kernel
theorem dX0_init_24 : decode cX0_init 24 = .ok (.sipush 480, 3) := by decide +kernel
theorem dX0_init_27 : decode cX0_init 27 = .ok (.multianewarray 9 2, 4) := by decide +kernel
theorem dX0_init_31 : decode cX0_init 31 = .ok (.putfield 20, 3) := by decide +kernel
theorem dX0_init_34 : decode cX0_init 34 = .ok (.aload_n 0, 1) := by decide +kernel
theorem dX0_init_35 : decode cX0_init 35 = .ok (.iconst 0, 1) := by decide +kernel
theorem dX0_init_36 : decode cX0_init 36 = .ok (.putfield 23, 3) := by decide +kernel
theorem dX0_init_39 : decode cX0_init 39 = .ok (.aload_n 0, 1) := by decide +kernel
theorem dX0_init_40 : decode cX0_init 40 = .ok (.iconst 0, 1) := by decide +kernel
theorem dX0_init_41 : decode cX0_init 41 = .ok (.putfield 27, 3) := by decide +kernel
theorem dX0_init_44 : decode cX0_init 44 = .ok (.return_, 1) := by decide +kernel
theorem dX2_start_0 : decode cX2_start 0 = .ok (.aload_n 0, 1) := by decide +kernel
theorem dX2_start_1 : decode cX2_start 1 = .ok (.getfield 37, 3) := by decide +kernel
theorem dX2_start_4 : decode cX2_start 4 = .ok (.iconst 0, 1) := by decide +kernel
theorem dX2_start_5 : decode cX2_start 5 = .ok (.putfield 117, 3) := by decide +kernel
theorem dX2_start_8 : decode cX2_start 8 = .ok (.aload_n 0, 1) := by decide +kernel
theorem dX2_start_9 : decode cX2_start 9 = .ok (.getfield 37, 3) := by decide +kernel
theorem dX2_start_12 : decode cX2_start 12 = .ok (.iconst 0, 1) := by decide +kernel
theorem dX2_start_13 : decode cX2_start 13 = .ok (.putfield 120, 3) := by decide +kernel
theorem dX2_start_16 : decode cX2_start 16 = .ok (.aload_n 0, 1) := by decide +kernel
theorem dX2_start_17 : decode cX2_start 17 = .ok (.iconst 1, 1) := by decide +kernel
theorem dX2_start_18 : decode cX2_start 18 = .ok (.putfield 48, 3) := by decide +kernel
theorem dX2_start_21 : decode cX2_start 21 = .ok (.iconst 0, 1) := by decide +kernel
theorem dX2_start_22 : decode cX2_start 22 = .ok (.istore_n 1, 1) := by decide +kernel
theorem dX2_start_23 : decode cX2_start 23 = .ok (.iload_n 1, 1) := by decide +kernel
theorem dX2_start_24 : decode cX2_start 24 = .ok (.aload_n 0, 1) := by decide +kernel
theorem dX2_start_25 : decode cX2_start 25 = .ok (.getfield 22, 3) := by decide +kernel
theorem dX2_start_28 : decode cX2_start 28 = .ok (.if_icmp .ge 65, 3) := by decide +kernel
theorem dX2_start_31 : decode cX2_start 31 = .ok (.aload_n 0, 1) := by decide +kernel
theorem dX2_start_32 : decode cX2_start 32 = .ok (.getfield 37, 3) := by decide +kernel
theorem dX2_start_35 : decode cX2_start 35 = .ok (.getfield 123, 3) := by decide +kernel
theorem dX2_start_38 : decode cX2_start 38 = .ok (.iload_n 1, 1) := by decide +kernel
theorem dX2_start_39 : decode cX2_start 39 = .ok (.aload_n 0, 1) := by decide +kernel
theorem dX2_start_40 : decode cX2_start 40 = .ok (.getfield 7, 3) := by decide +kernel
theorem dX2_start_43 : decode cX2_start 43 = .ok (.i2l, 1) := by decide +kernel
theorem dX2_start_44 : decode cX2_start 44 = .ok (.ldc2_w 127, 3) := by decide +kernel
theorem dX2_start_47 : decode cX2_start 47 = .ok (.iload_n 1, 1) := by decide +kernel
theorem dX2_start_48 : decode cX2_start 48 = .ok (.i2l, 1) := by decide +kernel
theorem dX2_start_49 : decode cX2_start 49 = .ok (.lmul, 1) := by decide +kernel
theorem dX2_start_50 : decode cX2_start 50 = .ok (.ladd, 1) := by decide +kernel
theorem dX2_start_51 : decode cX2_start 51 = .ok (.lastore, 1) := by decide +kernel
theorem dX2_start_52 : decode cX2_start 52 = .ok (.aload_n 0, 1) := by decide +kernel
theorem dX2_start_53 : decode cX2_start 53 = .ok (.aload_n 0, 1) := by decide +kernel
theorem dX2_start_54 : decode cX2_start 54 = .ok (.getfield 28, 3) := by decide +kernel
theorem dX2_start_57 : decode cX2_start 57 = .ok (.aload_n 0, 1) := by decide +kernel
theorem dX2_start_58 : decode cX2_start 58 = .ok (.getfield 37, 3) := by decide +kernel
theorem dX2_start_61 : decode cX2_start 61 = .ok (.getfield 129, 3) := by decide +kernel
theorem dX2_start_64 : decode cX2_start 64 = .ok (.iload_n 1, 1) := by decide +kernel
theorem dX2_start_65 : decode cX2_start 65 = .ok (.aaload, 1) := by decide +kernel
theorem dX2_start_66 : decode cX2_start 66 = .ok (.invokevirtual 133, 3) := by decide +kernel
theorem dX2_start_69 : decode cX2_start 69 = .ok (.ifCond .eq 14, 3) := by decide +kernel
theorem dX2_start_72 : decode cX2_start 72 = .ok (.aload_n 0, 1) := by decide +kernel
theorem dX2_start_73 : decode cX2_start 73 = .ok (.getfield 48, 3) := by decide +kernel
theorem dX2_start_76 : decode cX2_start 76 = .ok (.ifCond .eq 7, 3) := by decide +kernel
theorem dX2_start_79 : decode cX2_start 79 = .ok (.iconst 1, 1) := by decide +kernel
theorem dX2_start_80 : decode cX2_start 80 = .ok (.goto 4, 3) := by decide +kernel
theorem dX2_start_83 : decode cX2_start 83 = .ok (.iconst 0, 1) := by decide +kernel
theorem dX2_start_84 : decode cX2_start 84 = .ok (.putfield 48, 3) := by decide +kernel
theorem dX2_start_87 : decode cX2_start 87 = .ok (.iinc 1 1, 3) := by decide +kernel
theorem dX2_start_90 : decode cX2_start 90 = .ok (.goto (-67), 3) := by decide +kernel
theorem dX2_start_93 : decode cX2_start 93 = .ok (.aload_n 0, 1) := by decide +kernel
theorem dX2_start_94 : decode cX2_start 94 = .ok (.getfield 48, 3) := by decide +kernel
theorem dX2_start_97 : decode cX2_start 97 = .ok (.ifCond .eq 7, 3) := by decide +kernel
theorem dX2_start_100 : decode cX2_start 100 = .ok (.iconst 0, 1) := by decide +kernel
theorem dX2_start_101 : decode cX2_start 101 = .ok (.goto 4, 3) := by decide +kernel
theorem dX2_start_104 : decode cX2_start 104 = .ok (.iconst 1, 1) := by decide +kernel
theorem dX2_start_105 : decode cX2_start 105 = .ok (.ireturn, 1) := by decide +kernel
theorem dX1_findLeastYears_0 : decode cX1_findLeastYears 0 = .ok (.iconst 0, 1) := by decide +kernel
theorem dX1_findLeastYears_1 : decode cX1_findLeastYears 1 = .ok (.istore_n 2, 1) := by decide +kernel
theorem dX1_findLeastYears_2 : decode cX1_findLeastYears 2 = .ok (.iload_n 2, 1) := by decide +kernel
theorem dX1_findLeastYears_3 : decode cX1_findLeastYears 3 = .ok (.aload_n 0, 1) := by decide +kernel
theorem dX1_findLeastYears_4 : decode cX1_findLeastYears 4 = .ok (.getfield 38, 3) := by decide +kernel
theorem dX1_findLeastYears_7 : decode cX1_findLeastYears 7 = .ok (.if_icmp .ge 18, 3) := by decide +kernel
theorem dX1_findLeastYears_10 : decode cX1_findLeastYears 10 = .ok (.aload_n 1, 1) := by decide +kernel
theorem dX1_findLeastYears_11 : decode cX1_findLeastYears 11 = .ok (.iload_n 2, 1) := by decide +kernel
theorem dX1_findLeastYears_12 : decode cX1_findLeastYears 12 = .ok (.aload_n 0, 1) := by decide +kernel
theorem dX1_findLeastYears_13 : decode cX1_findLeastYears 13 = .ok (.getfield 9, 3) := by decide +kernel
theorem dX1_findLeastYears_16 : decode cX1_findLeastYears 16 = .ok (.iload_n 2, 1) := by decide +kernel
theorem dX1_findLeastYears_17 : decode cX1_findLeastYears 17 = .ok (.iaload, 1) := by decide +kernel
theorem dX1_findLeastYears_18 : decode cX1_findLeastYears 18 = .ok (.iastore, 1) := by decide +kernel
theorem dX1_findLeastYears_19 : decode cX1_findLeastYears 19 = .ok (.iinc 2 1, 3) := by decide +kernel
theorem dX1_findLeastYears_22 : decode cX1_findLeastYears 22 = .ok (.goto (-20), 3) := by decide +kernel
theorem dX1_findLeastYears_25 : decode cX1_findLeastYears 25 = .ok (.iconst 1, 1) := by decide +kernel
theorem dX1_findLeastYears_26 : decode cX1_findLeastYears 26 = .ok (.istore_n 2, 1) := by decide +kernel
theorem dX1_findLeastYears_27 : decode cX1_findLeastYears 27 = .ok (.iconst 0, 1) := by decide +kernel
theorem dX1_findLeastYears_28 : decode cX1_findLeastYears 28 = .ok (.istore_n 3, 1) := by decide +kernel
theorem dX1_findLeastYears_29 : decode cX1_findLeastYears 29 = .ok (.iload_n 3, 1) := by decide +kernel
theorem dX1_findLeastYears_30 : decode cX1_findLeastYears 30 = .ok (.bipush 8, 2) := by decide +kernel
theorem dX1_findLeastYears_32 : decode cX1_findLeastYears 32 = .ok (.if_icmp .gt 19, 3) := by decide +kernel
theorem dX1_findLeastYears_35 : decode cX1_findLeastYears 35 = .ok (.iload_n 2, 1) := by decide +kernel
theorem dX1_findLeastYears_36 : decode cX1_findLeastYears 36 = .ok (.ifCond .eq 15, 3) := by decide +kernel
theorem dX1_findLeastYears_39 : decode cX1_findLeastYears 39 = .ok (.aload_n 0, 1) := by decide +kernel
theorem dX1_findLeastYears_40 : decode cX1_findLeastYears 40 = .ok (.aload_n 1, 1) := by decide +kernel
theorem dX1_findLeastYears_41 : decode cX1_findLeastYears 41 = .ok (.invokevirtual 54, 3) := by decide +kernel
theorem dX1_findLeastYears_44 : decode cX1_findLeastYears 44 = .ok (.istore_n 2, 1) := by decide +kernel
theorem dX1_findLeastYears_45 : decode cX1_findLeastYears 45 = .ok (.iinc 3 1, 3) := by decide +kernel
theorem dX1_findLeastYears_48 : decode cX1_findLeastYears 48 = .ok (.goto (-19), 3) := by decide +kernel
theorem dX1_findLeastYears_51 : decode cX1_findLeastYears 51 = .ok (.iload_n 2, 1) := by decide +kernel
theorem dX1_findLeastYears_52 : decode cX1_findLeastYears 52 = .ok (.ifCond .ne 15, 3) := by decide +kernel
theorem dX1_findLeastYears_55 : decode cX1_findLeastYears 55 = .ok (.aload_n 0, 1) := by decide +kernel
theorem dX1_findLeastYears_56 : decode cX1_findLeastYears 56 = .ok (.aload_n 1, 1) := by decide +kernel
theorem dX1_findLeastYears_57 : decode cX1_findLeastYears 57 = .ok (.invokevirtual 58, 3) := by decide +kernel
theorem dX1_findLeastYears_60 : decode cX1_findLeastYears 60 = .ok (.ifCond .eq 7, 3) := by decide +kernel
theorem dX1_findLeastYears_63 : decode cX1_findLeastYears 63 = .ok (.iconst 1, 1) := by decide +kernel
theorem dX1_findLeastYears_64 : decode cX1_findLeastYears 64 = .ok (.goto 4, 3) := by decide +kernel
theorem dX1_findLeastYears_67 : decode cX1_findLeastYears 67 = .ok (.iconst 0, 1) := by decide +kernel
theorem dX1_findLeastYears_68 : decode cX1_findLeastYears 68 = .ok (.ireturn, 1) := by decide +kernel
theorem dX1_raiseByOrders_0 : decode cX1_raiseByOrders 0 = .ok (.iconst 0, 1) := by decide +kernel
theorem dX1_raiseByOrders_1 : decode cX1_raiseByOrders 1 = .ok (.istore_n 2, 1) := by decide +kernel
theorem dX1_raiseByOrders_2 : decode cX1_raiseByOrders 2 = .ok (.iconst 0, 1) := by decide +kernel
theorem dX1_raiseByOrders_3 : decode cX1_raiseByOrders 3 = .ok (.istore_n 3, 1) := by decide +kernel
theorem dX1_raiseByOrders_4 : decode cX1_raiseByOrders 4 = .ok (.iload_n 3, 1) := by decide +kernel
theorem dX1_raiseByOrders_5 : decode cX1_raiseByOrders 5 = .ok (.aload_n 0, 1) := by decide +kernel
theorem dX1_raiseByOrders_6 : decode cX1_raiseByOrders 6 = .ok (.getfield 42, 3) := by decide +kernel
theorem dX1_raiseByOrders_9 : decode cX1_raiseByOrders 9 = .ok (.if_icmp .ge 95, 3) := by decide +kernel
theorem dX1_raiseByOrders_12 : decode cX1_raiseByOrders 12 = .ok (.aload_n 0, 1) := by decide +kernel
theorem dX1_raiseByOrders_13 : decode cX1_raiseByOrders 13 = .ok (.getfield 26, 3) := by decide +kernel
theorem dX1_raiseByOrders_16 : decode cX1_raiseByOrders 16 = .ok (.iload_n 3, 1) := by decide +kernel
theorem dX1_raiseByOrders_17 : decode cX1_raiseByOrders 17 = .ok (.iaload, 1) := by decide +kernel
theorem dX1_raiseByOrders_18 : decode cX1_raiseByOrders 18 = .ok (.istore 4, 2) := by decide +kernel
theorem dX1_raiseByOrders_20 : decode cX1_raiseByOrders 20 = .ok (.aload_n 0, 1) := by decide +kernel
theorem dX1_raiseByOrders_21 : decode cX1_raiseByOrders 21 = .ok (.getfield 29, 3) := by decide +kernel
theorem dX1_raiseByOrders_24 : decode cX1_raiseByOrders 24 = .ok (.iload_n 3, 1) := by decide +kernel
theorem dX1_raiseByOrders_25 : decode cX1_raiseByOrders 25 = .ok (.iaload, 1) := by decide +kernel
theorem dX1_raiseByOrders_26 : decode cX1_raiseByOrders 26 = .ok (.istore 5, 2) := by decide +kernel
theorem dX1_raiseByOrders_28 : decode cX1_raiseByOrders 28 = .ok (.aload_n 1, 1) := by decide +kernel
theorem dX1_raiseByOrders_29 : decode cX1_raiseByOrders 29 = .ok (.iload 5, 2) := by decide +kernel
theorem dX1_raiseByOrders_31 : decode cX1_raiseByOrders 31 = .ok (.iaload, 1) := by decide +kernel
theorem dX1_raiseByOrders_32 : decode cX1_raiseByOrders 32 = .ok (.aload_n 1, 1) := by decide +kernel
theorem dX1_raiseByOrders_33 : decode cX1_raiseByOrders 33 = .ok (.iload 4, 2) := by decide +kernel
theorem dX1_raiseByOrders_35 : decode cX1_raiseByOrders 35 = .ok (.iaload, 1) := by decide +kernel
theorem dX1_raiseByOrders_36 : decode cX1_raiseByOrders 36 = .ok (.aload_n 0, 1) := by decide +kernel
theorem dX1_raiseByOrders_37 : decode cX1_raiseByOrders 37 = .ok (.getfield 32, 3) := by decide +kernel
theorem dX1_raiseByOrders_40 : decode cX1_raiseByOrders 40 = .ok (.iload_n 3, 1) := by decide +kernel
theorem dX1_raiseByOrders_41 : decode cX1_raiseByOrders 41 = .ok (.iaload, 1) := by decide +kernel
theorem dX1_raiseByOrders_42 : decode cX1_raiseByOrders 42 = .ok (.iadd, 1) := by decide +kernel
theorem dX1_raiseByOrders_43 : decode cX1_raiseByOrders 43 = .ok (.if_icmp .ge 20, 3) := by decide +kernel
theorem dX1_raiseByOrders_46 : decode cX1_raiseByOrders 46 = .ok (.aload_n 1, 1) := by decide +kernel
theorem dX1_raiseByOrders_47 : decode cX1_raiseByOrders 47 = .ok (.iload 5, 2) := by decide +kernel
theorem dX1_raiseByOrders_49 : decode cX1_raiseByOrders 49 = .ok (.aload_n 1, 1) := by decide +kernel
theorem dX1_raiseByOrders_50 : decode cX1_raiseByOrders 50 = .ok (.iload 4, 2) := by decide +kernel
theorem dX1_raiseByOrders_52 : decode cX1_raiseByOrders 52 = .ok (.iaload, 1) := by decide +kernel
theorem dX1_raiseByOrders_53 : decode cX1_raiseByOrders 53 = .ok (.aload_n 0, 1) := by decide +kernel
theorem dX1_raiseByOrders_54 : decode cX1_raiseByOrders 54 = .ok (.getfield 32, 3) := by decide +kernel
theorem dX1_raiseByOrders_57 : decode cX1_raiseByOrders 57 = .ok (.iload_n 3, 1) := by decide +kernel
theorem dX1_raiseByOrders_58 : decode cX1_raiseByOrders 58 = .ok (.iaload, 1) := by decide +kernel
theorem dX1_raiseByOrders_59 : decode cX1_raiseByOrders 59 = .ok (.iadd, 1) := by decide +kernel
theorem dX1_raiseByOrders_60 : decode cX1_raiseByOrders 60 = .ok (.iastore, 1) := by decide +kernel
theorem dX1_raiseByOrders_61 : decode cX1_raiseByOrders 61 = .ok (.iconst 1, 1) := by decide +kernel
theorem dX1_raiseByOrders_62 : decode cX1_raiseByOrders 62 = .ok (.istore_n 2, 1) := by decide +kernel
theorem dX1_raiseByOrders_63 : decode cX1_raiseByOrders 63 = .ok (.aload_n 1, 1) := by decide +kernel
theorem dX1_raiseByOrders_64 : decode cX1_raiseByOrders 64 = .ok (.iload 4, 2) := by decide +kernel
theorem dX1_raiseByOrders_66 : decode cX1_raiseByOrders 66 = .ok (.iaload, 1) := by decide +kernel
theorem dX1_raiseByOrders_67 : decode cX1_raiseByOrders 67 = .ok (.aload_n 1, 1) := by decide +kernel
theorem dX1_raiseByOrders_68 : decode cX1_raiseByOrders 68 = .ok (.iload 5, 2) := by decide +kernel
theorem dX1_raiseByOrders_70 : decode cX1_raiseByOrders 70 = .ok (.iaload, 1) := by decide +kernel
theorem dX1_raiseByOrders_71 : decode cX1_raiseByOrders 71 = .ok (.aload_n 0, 1) := by decide +kernel
theorem dX1_raiseByOrders_72 : decode cX1_raiseByOrders 72 = .ok (.getfield 35, 3) := by decide +kernel
theorem dX1_raiseByOrders_75 : decode cX1_raiseByOrders 75 = .ok (.iload_n 3, 1) := by decide +kernel
theorem dX1_raiseByOrders_76 : decode cX1_raiseByOrders 76 = .ok (.iaload, 1) := by decide +kernel
theorem dX1_raiseByOrders_77 : decode cX1_raiseByOrders 77 = .ok (.isub, 1) := by decide +kernel
theorem dX1_raiseByOrders_78 : decode cX1_raiseByOrders 78 = .ok (.if_icmp .ge 20, 3) := by decide +kernel
theorem dX1_raiseByOrders_81 : decode cX1_raiseByOrders 81 = .ok (.aload_n 1, 1) := by decide +kernel
theorem dX1_raiseByOrders_82 : decode cX1_raiseByOrders 82 = .ok (.iload 4, 2) := by decide +kernel
theorem dX1_raiseByOrders_84 : decode cX1_raiseByOrders 84 = .ok (.aload_n 1, 1) := by decide +kernel
theorem dX1_raiseByOrders_85 : decode cX1_raiseByOrders 85 = .ok (.iload 5, 2) := by decide +kernel
theorem dX1_raiseByOrders_87 : decode cX1_raiseByOrders 87 = .ok (.iaload, 1) := by decide +kernel
theorem dX1_raiseByOrders_88 : decode cX1_raiseByOrders 88 = .ok (.aload_n 0, 1) := by decide +kernel
theorem dX1_raiseByOrders_89 : decode cX1_raiseByOrders 89 = .ok (.getfield 35, 3) := by decide +kernel
theorem dX1_raiseByOrders_92 : decode cX1_raiseByOrders 92 = .ok (.iload_n 3, 1) := by decide +kernel
theorem dX1_raiseByOrders_93 : decode cX1_raiseByOrders 93 = .ok (.iaload, 1) := by decide +kernel
theorem dX1_raiseByOrders_94 : decode cX1_raiseByOrders 94 = .ok (.isub, 1) := by decide +kernel
theorem dX1_raiseByOrders_95 : decode cX1_raiseByOrders 95 = .ok (.iastore, 1) := by decide +kernel
theorem dX1_raiseByOrders_96 : decode cX1_raiseByOrders 96 = .ok (.iconst 1, 1) := by decide +kernel
theorem dX1_raiseByOrders_97 : decode cX1_raiseByOrders 97 = .ok (.istore_n 2, 1) := by decide +kernel
theorem dX1_raiseByOrders_98 : decode cX1_raiseByOrders 98 = .ok (.iinc 3 1, 3) := by decide +kernel
theorem dX1_raiseByOrders_101 : decode cX1_raiseByOrders 101 = .ok (.goto (-97), 3) := by decide +kernel
theorem dX1_raiseByOrders_104 : decode cX1_raiseByOrders 104 = .ok (.iload_n 2, 1) := by decide +kernel
theorem dX1_raiseByOrders_105 : decode cX1_raiseByOrders 105 = .ok (.ireturn, 1) := by decide +kernel
theorem dX1_noneIsPastLast_0 : decode cX1_noneIsPastLast 0 = .ok (.iconst 0, 1) := by decide +kernel
theorem dX1_noneIsPastLast_1 : decode cX1_noneIsPastLast 1 = .ok (.istore_n 2, 1) := by decide +kernel
theorem dX1_noneIsPastLast_2 : decode cX1_noneIsPastLast 2 = .ok (.iload_n 2, 1) := by decide +kernel
theorem dX1_noneIsPastLast_3 : decode cX1_noneIsPastLast 3 = .ok (.aload_n 0, 1) := by decide +kernel
theorem dX1_noneIsPastLast_4 : decode cX1_noneIsPastLast 4 = .ok (.getfield 38, 3) := by decide +kernel
theorem dX1_noneIsPastLast_7 : decode cX1_noneIsPastLast 7 = .ok (.if_icmp .ge 23, 3) := by decide +kernel
theorem dX1_noneIsPastLast_10 : decode cX1_noneIsPastLast 10 = .ok (.aload_n 1, 1) := by decide +kernel
theorem dX1_noneIsPastLast_11 : decode cX1_noneIsPastLast 11 = .ok (.iload_n 2, 1) := by decide +kernel
theorem dX1_noneIsPastLast_12 : decode cX1_noneIsPastLast 12 = .ok (.iaload, 1) := by decide +kernel
theorem dX1_noneIsPastLast_13 : decode cX1_noneIsPastLast 13 = .ok (.aload_n 0, 1) := by decide +kernel
theorem dX1_noneIsPastLast_14 : decode cX1_noneIsPastLast 14 = .ok (.getfield 15, 3) := by decide +kernel
theorem dX1_noneIsPastLast_17 : decode cX1_noneIsPastLast 17 = .ok (.iload_n 2, 1) := by decide +kernel
theorem dX1_noneIsPastLast_18 : decode cX1_noneIsPastLast 18 = .ok (.iaload, 1) := by decide +kernel
theorem dX1_noneIsPastLast_19 : decode cX1_noneIsPastLast 19 = .ok (.if_icmp .le 5, 3) := by decide +kernel
theorem dX1_noneIsPastLast_22 : decode cX1_noneIsPastLast 22 = .ok (.iconst 0, 1) := by decide +kernel
theorem dX1_noneIsPastLast_23 : decode cX1_noneIsPastLast 23 = .ok (.ireturn, 1) := by decide +kernel
theorem dX1_noneIsPastLast_24 : decode cX1_noneIsPastLast 24 = .ok (.iinc 2 1, 3) := by decide +kernel
theorem dX1_noneIsPastLast_27 : decode cX1_noneIsPastLast 27 = .ok (.goto (-25), 3) := by decide +kernel
theorem dX1_noneIsPastLast_30 : decode cX1_noneIsPastLast 30 = .ok (.iconst 1, 1) := by decide +kernel
theorem dX1_noneIsPastLast_31 : decode cX1_noneIsPastLast 31 = .ok (.ireturn, 1) := by decide +kernel
theorem dX2_date_0 : decode cX2_date 0 = .ok (.iload_n 1, 1) := by decide +kernel
theorem dX2_date_1 : decode cX2_date 1 = .ok (.invokestatic 58, 3) := by decide +kernel
theorem dX2_date_4 : decode cX2_date 4 = .ok (.iload_n 2, 1) := by decide +kernel
theorem dX2_date_5 : decode cX2_date 5 = .ok (.invokestatic 58, 3) := by decide +kernel
theorem dX2_date_8 : decode cX2_date 8 = .ok (.iload_n 1, 1) := by decide +kernel
theorem dX2_date_9 : decode cX2_date 9 = .ok (.iload_n 2, 1) := by decide +kernel
theorem dX2_date_10 : decode cX2_date 10 = .ok (.if_icmp .gt 11, 3) := by decide +kernel
theorem dX2_date_13 : decode cX2_date 13 = .ok (.iload_n 2, 1) := by decide +kernel
theorem dX2_date_14 : decode cX2_date 14 = .ok (.iload_n 1, 1) := by decide +kernel
theorem dX2_date_15 : decode cX2_date 15 = .ok (.isub, 1) := by decide +kernel
theorem dX2_date_16 : decode cX2_date 16 = .ok (.bipush 63, 2) := by decide +kernel
theorem dX2_date_18 : decode cX2_date 18 = .ok (.if_icmp .le 13, 3) := by decide +kernel
theorem dX2_date_21 : decode cX2_date 21 = .ok (.new 61, 3) := by decide +kernel
theorem dX2_date_24 : decode cX2_date 24 = .ok (.dup, 1) := by decide +kernel
theorem dX2_date_25 : decode cX2_date 25 = .ok (.ldc 63, 2) := by decide +kernel
theorem dX2_date_27 : decode cX2_date 27 = .ok (.invokespecial 65, 3) := by decide +kernel
theorem dX2_date_30 : decode cX2_date 30 = .ok (.athrow, 1) := by decide +kernel
theorem dX2_date_31 : decode cX2_date 31 = .ok (.aload_n 0, 1) := by decide +kernel
theorem dX2_date_32 : decode cX2_date 32 = .ok (.getfield 28, 3) := by decide +kernel
theorem dX2_date_35 : decode cX2_date 35 = .ok (.getfield 68, 3) := by decide +kernel
theorem dX2_date_38 : decode cX2_date 38 = .ok (.bipush 8, 2) := by decide +kernel
theorem dX2_date_40 : decode cX2_date 40 = .ok (.if_icmp .lt 13, 3) := by decide +kernel
theorem dX2_date_43 : decode cX2_date 43 = .ok (.new 71, 3) := by decide +kernel
theorem dX2_date_46 : decode cX2_date 46 = .ok (.dup, 1) := by decide +kernel
theorem dX2_date_47 : decode cX2_date 47 = .ok (.ldc 73, 2) := by decide +kernel
theorem dX2_date_49 : decode cX2_date 49 = .ok (.invokespecial 75, 3) := by decide +kernel
theorem dX2_date_52 : decode cX2_date 52 = .ok (.athrow, 1) := by decide +kernel
theorem dX2_date_53 : decode cX2_date 53 = .ok (.aload_n 0, 1) := by decide +kernel
theorem dX2_date_54 : decode cX2_date 54 = .ok (.invokevirtual 76, 3) := by decide +kernel
theorem dX2_date_57 : decode cX2_date 57 = .ok (.aload_n 0, 1) := by decide +kernel
theorem dX2_date_58 : decode cX2_date 58 = .ok (.getfield 28, 3) := by decide +kernel
theorem dX2_date_61 : decode cX2_date 61 = .ok (.iload_n 1, 1) := by decide +kernel
theorem dX2_date_62 : decode cX2_date 62 = .ok (.iload_n 2, 1) := by decide +kernel
theorem dX2_date_63 : decode cX2_date 63 = .ok (.invokevirtual 79, 3) := by decide +kernel
theorem dX2_date_66 : decode cX2_date 66 = .ok (.ireturn, 1) := by decide +kernel
theorem dX2_needYears_0 : decode cX2_needYears 0 = .ok (.iload_n 0, 1) := by decide +kernel
theorem dX2_needYears_1 : decode cX2_needYears 1 = .ok (.ifCond .lt 10, 3) := by decide +kernel
theorem dX2_needYears_4 : decode cX2_needYears 4 = .ok (.iload_n 0, 1) := by decide +kernel
theorem dX2_needYears_5 : decode cX2_needYears 5 = .ok (.sipush 255, 3) := by decide +kernel
theorem dX2_needYears_8 : decode cX2_needYears 8 = .ok (.if_icmp .le 13, 3) := by decide +kernel
theorem dX2_needYears_11 : decode cX2_needYears 11 = .ok (.new 61, 3) := by decide +kernel
theorem dX2_needYears_14 : decode cX2_needYears 14 = .ok (.dup, 1) := by decide +kernel
theorem dX2_needYears_15 : decode cX2_needYears 15 = .ok (.ldc 195, 2) := by decide +kernel
theorem dX2_needYears_17 : decode cX2_needYears 17 = .ok (.invokespecial 65, 3) := by decide +kernel
theorem dX2_needYears_20 : decode cX2_needYears 20 = .ok (.athrow, 1) := by decide +kernel
theorem dX2_needYears_21 : decode cX2_needYears 21 = .ok (.return_, 1) := by decide +kernel
theorem dX2_forget_0 : decode cX2_forget 0 = .ok (.aload_n 0, 1) := by decide +kernel
theorem dX2_forget_1 : decode cX2_forget 1 = .ok (.iconst 0, 1) := by decide +kernel
theorem dX2_forget_2 : decode cX2_forget 2 = .ok (.putfield 48, 3) := by decide +kernel
theorem dX2_forget_5 : decode cX2_forget 5 = .ok (.aload_n 0, 1) := by decide +kernel
theorem dX2_forget_6 : decode cX2_forget 6 = .ok (.iconst 0, 1) := by decide +kernel
theorem dX2_forget_7 : decode cX2_forget 7 = .ok (.putfield 45, 3) := by decide +kernel
theorem dX2_forget_10 : decode cX2_forget 10 = .ok (.return_, 1) := by decide +kernel
theorem dX1_addDate_0 : decode cX1_addDate 0 = .ok (.aload_n 0, 1) := by decide +kernel
theorem dX1_addDate_1 : decode cX1_addDate 1 = .ok (.getfield 38, 3) := by decide +kernel
theorem dX1_addDate_4 : decode cX1_addDate 4 = .ok (.istore_n 3, 1) := by decide +kernel
theorem dX1_addDate_5 : decode cX1_addDate 5 = .ok (.aload_n 0, 1) := by decide +kernel
theorem dX1_addDate_6 : decode cX1_addDate 6 = .ok (.getfield 9, 3) := by decide +kernel
theorem dX1_addDate_9 : decode cX1_addDate 9 = .ok (.iload_n 3, 1) := by decide +kernel
theorem dX1_addDate_10 : decode cX1_addDate 10 = .ok (.iload_n 1, 1) := by decide +kernel
theorem dX1_addDate_11 : decode cX1_addDate 11 = .ok (.iastore, 1) := by decide +kernel
theorem dX1_addDate_12 : decode cX1_addDate 12 = .ok (.aload_n 0, 1) := by decide +kernel
theorem dX1_addDate_13 : decode cX1_addDate 13 = .ok (.getfield 15, 3) := by decide +kernel
theorem dX1_addDate_16 : decode cX1_addDate 16 = .ok (.iload_n 3, 1) := by decide +kernel
theorem dX1_addDate_17 : decode cX1_addDate 17 = .ok (.iload_n 2, 1) := by decide +kernel
theorem dX1_addDate_18 : decode cX1_addDate 18 = .ok (.iastore, 1) := by decide +kernel
theorem dX1_addDate_19 : decode cX1_addDate 19 = .ok (.aload_n 0, 1) := by decide +kernel
theorem dX1_addDate_20 : decode cX1_addDate 20 = .ok (.getfield 18, 3) := by decide +kernel
theorem dX1_addDate_23 : decode cX1_addDate 23 = .ok (.iload_n 3, 1) := by decide +kernel
theorem dX1_addDate_24 : decode cX1_addDate 24 = .ok (.iconst (-1), 1) := by decide +kernel
theorem dX1_addDate_25 : decode cX1_addDate 25 = .ok (.iastore, 1) := by decide +kernel
theorem dX1_addDate_26 : decode cX1_addDate 26 = .ok (.iconst 0, 1) := by decide +kernel
theorem dX1_addDate_27 : decode cX1_addDate 27 = .ok (.istore 4, 2) := by decide +kernel
theorem dX1_addDate_29 : decode cX1_addDate 29 = .ok (.iload 4, 2) := by decide +kernel
theorem dX1_addDate_31 : decode cX1_addDate 31 = .ok (.bipush 63, 2) := by decide +kernel
theorem dX1_addDate_33 : decode cX1_addDate 33 = .ok (.if_icmp .gt 19, 3) := by decide +kernel
theorem dX1_addDate_36 : decode cX1_addDate 36 = .ok (.aload_n 0, 1) := by decide +kernel
theorem dX1_addDate_37 : decode cX1_addDate 37 = .ok (.getfield 23, 3) := by decide +kernel
theorem dX1_addDate_40 : decode cX1_addDate 40 = .ok (.iload_n 3, 1) := by decide +kernel
theorem dX1_addDate_41 : decode cX1_addDate 41 = .ok (.aaload, 1) := by decide +kernel
theorem dX1_addDate_42 : decode cX1_addDate 42 = .ok (.iload 4, 2) := by decide +kernel
theorem dX1_addDate_44 : decode cX1_addDate 44 = .ok (.iconst 1, 1) := by decide +kernel
theorem dX1_addDate_45 : decode cX1_addDate 45 = .ok (.iastore, 1) := by decide +kernel
theorem dX1_addDate_46 : decode cX1_addDate 46 = .ok (.iinc 4 1, 3) := by decide +kernel
theorem dX1_addDate_49 : decode cX1_addDate 49 = .ok (.goto (-20), 3) := by decide +kernel
theorem dX1_addDate_52 : decode cX1_addDate 52 = .ok (.aload_n 0, 1) := by decide +kernel
theorem dX1_addDate_53 : decode cX1_addDate 53 = .ok (.dup, 1) := by decide +kernel
theorem dX1_addDate_54 : decode cX1_addDate 54 = .ok (.getfield 38, 3) := by decide +kernel
theorem dX1_addDate_57 : decode cX1_addDate 57 = .ok (.iconst 1, 1) := by decide +kernel
theorem dX1_addDate_58 : decode cX1_addDate 58 = .ok (.iadd, 1) := by decide +kernel
theorem dX1_addDate_59 : decode cX1_addDate 59 = .ok (.putfield 38, 3) := by decide +kernel
theorem dX1_addDate_62 : decode cX1_addDate 62 = .ok (.iload_n 3, 1) := by decide +kernel
theorem dX1_addDate_63 : decode cX1_addDate 63 = .ok (.ireturn, 1) := by decide +kernel
theorem dX2_weight_0 : decode cX2_weight 0 = .ok (.aload_n 0, 1) := by decide +kernel
theorem dX2_weight_1 : decode cX2_weight 1 = .ok (.iload_n 1, 1) := by decide +kernel
theorem dX2_weight_2 : decode cX2_weight 2 = .ok (.iload_n 2, 1) := by decide +kernel
theorem dX2_weight_3 : decode cX2_weight 3 = .ok (.invokevirtual 82, 3) := by decide +kernel
theorem dX2_weight_6 : decode cX2_weight 6 = .ok (.iload_n 3, 1) := by decide +kernel
theorem dX2_weight_7 : decode cX2_weight 7 = .ok (.iconst 1, 1) := by decide +kernel
theorem dX2_weight_8 : decode cX2_weight 8 = .ok (.if_icmp .lt 10, 3) := by decide +kernel
theorem dX2_weight_11 : decode cX2_weight 11 = .ok (.iload_n 3, 1) := by decide +kernel
theorem dX2_weight_12 : decode cX2_weight 12 = .ok (.sipush 1000, 3) := by decide +kernel
theorem dX2_weight_15 : decode cX2_weight 15 = .ok (.if_icmp .le 13, 3) := by decide +kernel
theorem dX2_weight_18 : decode cX2_weight 18 = .ok (.new 61, 3) := by decide +kernel
theorem dX2_weight_21 : decode cX2_weight 21 = .ok (.dup, 1) := by decide +kernel
theorem dX2_weight_22 : decode cX2_weight 22 = .ok (.ldc 86, 2) := by decide +kernel
theorem dX2_weight_24 : decode cX2_weight 24 = .ok (.invokespecial 65, 3) := by decide +kernel
theorem dX2_weight_27 : decode cX2_weight 27 = .ok (.athrow, 1) := by decide +kernel
theorem dX2_weight_28 : decode cX2_weight 28 = .ok (.aload_n 0, 1) := by decide +kernel
theorem dX2_weight_29 : decode cX2_weight 29 = .ok (.invokevirtual 76, 3) := by decide +kernel
theorem dX2_weight_32 : decode cX2_weight 32 = .ok (.aload_n 0, 1) := by decide +kernel
theorem dX2_weight_33 : decode cX2_weight 33 = .ok (.getfield 28, 3) := by decide +kernel
theorem dX2_weight_36 : decode cX2_weight 36 = .ok (.iload_n 1, 1) := by decide +kernel
theorem dX2_weight_37 : decode cX2_weight 37 = .ok (.iload_n 2, 1) := by decide +kernel
theorem dX2_weight_38 : decode cX2_weight 38 = .ok (.iload_n 3, 1) := by decide +kernel
theorem dX2_weight_39 : decode cX2_weight 39 = .ok (.invokevirtual 88, 3) := by decide +kernel
theorem dX2_weight_42 : decode cX2_weight 42 = .ok (.ireturn, 1) := by decide +kernel
theorem dX2_needYearOf_0 : decode cX2_needYearOf 0 = .ok (.aload_n 0, 1) := by decide +kernel
theorem dX2_needYearOf_1 : decode cX2_needYearOf 1 = .ok (.iload_n 1, 1) := by decide +kernel
theorem dX2_needYearOf_2 : decode cX2_needYearOf 2 = .ok (.invokevirtual 92, 3) := by decide +kernel
theorem dX2_needYearOf_5 : decode cX2_needYearOf 5 = .ok (.iload_n 2, 1) := by decide +kernel
theorem dX2_needYearOf_6 : decode cX2_needYearOf 6 = .ok (.aload_n 0, 1) := by decide +kernel
theorem dX2_needYearOf_7 : decode cX2_needYearOf 7 = .ok (.getfield 28, 3) := by decide +kernel
theorem dX2_needYearOf_10 : decode cX2_needYearOf 10 = .ok (.getfield 186, 3) := by decide +kernel
theorem dX2_needYearOf_13 : decode cX2_needYearOf 13 = .ok (.iload_n 1, 1) := by decide +kernel
theorem dX2_needYearOf_14 : decode cX2_needYearOf 14 = .ok (.iaload, 1) := by decide +kernel
theorem dX2_needYearOf_15 : decode cX2_needYearOf 15 = .ok (.if_icmp .lt 16, 3) := by decide +kernel
theorem dX2_needYearOf_18 : decode cX2_needYearOf 18 = .ok (.iload_n 2, 1) := by decide +kernel
theorem dX2_needYearOf_19 : decode cX2_needYearOf 19 = .ok (.aload_n 0, 1) := by decide +kernel
theorem dX2_needYearOf_20 : decode cX2_needYearOf 20 = .ok (.getfield 28, 3) := by decide +kernel
theorem dX2_needYearOf_23 : decode cX2_needYearOf 23 = .ok (.getfield 189, 3) := by decide +kernel
theorem dX2_needYearOf_26 : decode cX2_needYearOf 26 = .ok (.iload_n 1, 1) := by decide +kernel
theorem dX2_needYearOf_27 : decode cX2_needYearOf 27 = .ok (.iaload, 1) := by decide +kernel
theorem dX2_needYearOf_28 : decode cX2_needYearOf 28 = .ok (.if_icmp .le 13, 3) := by decide +kernel
theorem dX2_needYearOf_31 : decode cX2_needYearOf 31 = .ok (.new 150, 3) := by decide +kernel
theorem dX2_needYearOf_34 : decode cX2_needYearOf 34 = .ok (.dup, 1) := by decide +kernel
theorem dX2_needYearOf_35 : decode cX2_needYearOf 35 = .ok (.ldc 192, 2) := by decide +kernel
theorem dX2_needYearOf_37 : decode cX2_needYearOf 37 = .ok (.invokespecial 154, 3) := by decide +kernel
theorem dX2_needYearOf_40 : decode cX2_needYearOf 40 = .ok (.athrow, 1) := by decide +kernel
theorem dX2_needYearOf_41 : decode cX2_needYearOf 41 = .ok (.return_, 1) := by decide +kernel
theorem dX2_needDate_0 : decode cX2_needDate 0 = .ok (.iload_n 1, 1) := by decide +kernel
theorem dX2_needDate_1 : decode cX2_needDate 1 = .ok (.ifCond .lt 14, 3) := by decide +kernel
theorem dX2_needDate_4 : decode cX2_needDate 4 = .ok (.iload_n 1, 1) := by decide +kernel
theorem dX2_needDate_5 : decode cX2_needDate 5 = .ok (.aload_n 0, 1) := by decide +kernel
theorem dX2_needDate_6 : decode cX2_needDate 6 = .ok (.getfield 28, 3) := by decide +kernel
theorem dX2_needDate_9 : decode cX2_needDate 9 = .ok (.getfield 68, 3) := by decide +kernel
theorem dX2_needDate_12 : decode cX2_needDate 12 = .ok (.if_icmp .lt 13, 3) := by decide +kernel
theorem dX2_needDate_15 : decode cX2_needDate 15 = .ok (.new 150, 3) := by decide +kernel
theorem dX2_needDate_18 : decode cX2_needDate 18 = .ok (.dup, 1) := by decide +kernel
theorem dX2_needDate_19 : decode cX2_needDate 19 = .ok (.ldc 184, 2) := by decide +kernel
theorem dX2_needDate_21 : decode cX2_needDate 21 = .ok (.invokespecial 154, 3) := by decide +kernel
theorem dX2_needDate_24 : decode cX2_needDate 24 = .ok (.athrow, 1) := by decide +kernel
theorem dX2_needDate_25 : decode cX2_needDate 25 = .ok (.return_, 1) := by decide +kernel
theorem dX1_changeWeight_0 : decode cX1_changeWeight 0 = .ok (.aload_n 0, 1) := by decide +kernel
theorem dX1_changeWeight_1 : decode cX1_changeWeight 1 = .ok (.iload_n 1, 1) := by decide +kernel
theorem dX1_changeWeight_2 : decode cX1_changeWeight 2 = .ok (.iload_n 2, 1) := by decide +kernel
theorem dX1_changeWeight_3 : decode cX1_changeWeight 3 = .ok (.invokevirtual 45, 3) := by decide +kernel
theorem dX1_changeWeight_6 : decode cX1_changeWeight 6 = .ok (.istore 4, 2) := by decide +kernel
theorem dX1_changeWeight_8 : decode cX1_changeWeight 8 = .ok (.aload_n 0, 1) := by decide +kernel
theorem dX1_changeWeight_9 : decode cX1_changeWeight 9 = .ok (.getfield 23, 3) := by decide +kernel
theorem dX1_changeWeight_12 : decode cX1_changeWeight 12 = .ok (.iload_n 1, 1) := by decide +kernel
theorem dX1_changeWeight_13 : decode cX1_changeWeight 13 = .ok (.aaload, 1) := by decide +kernel
theorem dX1_changeWeight_14 : decode cX1_changeWeight 14 = .ok (.iload_n 2, 1) := by decide +kernel
theorem dX1_changeWeight_15 : decode cX1_changeWeight 15 = .ok (.aload_n 0, 1) := by decide +kernel
theorem dX1_changeWeight_16 : decode cX1_changeWeight 16 = .ok (.getfield 9, 3) := by decide +kernel
theorem dX1_changeWeight_19 : decode cX1_changeWeight 19 = .ok (.iload_n 1, 1) := by decide +kernel
theorem dX1_changeWeight_20 : decode cX1_changeWeight 20 = .ok (.iaload, 1) := by decide +kernel
theorem dX1_changeWeight_21 : decode cX1_changeWeight 21 = .ok (.isub, 1) := by decide +kernel
theorem dX1_changeWeight_22 : decode cX1_changeWeight 22 = .ok (.iload_n 3, 1) := by decide +kernel
theorem dX1_changeWeight_23 : decode cX1_changeWeight 23 = .ok (.iastore, 1) := by decide +kernel
theorem dX1_changeWeight_24 : decode cX1_changeWeight 24 = .ok (.iload 4, 2) := by decide +kernel
theorem dX1_changeWeight_26 : decode cX1_changeWeight 26 = .ok (.ireturn, 1) := by decide +kernel
theorem dX1_weightOf_0 : decode cX1_weightOf 0 = .ok (.aload_n 0, 1) := by decide +kernel
theorem dX1_weightOf_1 : decode cX1_weightOf 1 = .ok (.getfield 23, 3) := by decide +kernel
theorem dX1_weightOf_4 : decode cX1_weightOf 4 = .ok (.iload_n 1, 1) := by decide +kernel
theorem dX1_weightOf_5 : decode cX1_weightOf 5 = .ok (.aaload, 1) := by decide +kernel
theorem dX1_weightOf_6 : decode cX1_weightOf 6 = .ok (.iload_n 2, 1) := by decide +kernel
theorem dX1_weightOf_7 : decode cX1_weightOf 7 = .ok (.aload_n 0, 1) := by decide +kernel
theorem dX1_weightOf_8 : decode cX1_weightOf 8 = .ok (.getfield 9, 3) := by decide +kernel
theorem dX1_weightOf_11 : decode cX1_weightOf 11 = .ok (.iload_n 1, 1) := by decide +kernel
theorem dX1_weightOf_12 : decode cX1_weightOf 12 = .ok (.iaload, 1) := by decide +kernel
theorem dX1_weightOf_13 : decode cX1_weightOf 13 = .ok (.isub, 1) := by decide +kernel
theorem dX1_weightOf_14 : decode cX1_weightOf 14 = .ok (.iaload, 1) := by decide +kernel
theorem dX1_weightOf_15 : decode cX1_weightOf 15 = .ok (.ireturn, 1) := by decide +kernel
theorem dX2_before_0 : decode cX2_before 0 = .ok (.aload_n 0, 1) := by decide +kernel
theorem dX2_before_1 : decode cX2_before 1 = .ok (.iload_n 1, 1) := by decide +kernel
theorem dX2_before_2 : decode cX2_before 2 = .ok (.invokevirtual 92, 3) := by decide +kernel
theorem dX2_before_5 : decode cX2_before 5 = .ok (.aload_n 0, 1) := by decide +kernel
theorem dX2_before_6 : decode cX2_before 6 = .ok (.iload_n 2, 1) := by decide +kernel
theorem dX2_before_7 : decode cX2_before 7 = .ok (.invokevirtual 92, 3) := by decide +kernel
theorem dX2_before_10 : decode cX2_before 10 = .ok (.iload_n 3, 1) := by decide +kernel
theorem dX2_before_11 : decode cX2_before 11 = .ok (.invokestatic 58, 3) := by decide +kernel
theorem dX2_before_14 : decode cX2_before 14 = .ok (.iload 4, 2) := by decide +kernel
theorem dX2_before_16 : decode cX2_before 16 = .ok (.invokestatic 58, 3) := by decide +kernel
theorem dX2_before_19 : decode cX2_before 19 = .ok (.iload_n 1, 1) := by decide +kernel
theorem dX2_before_20 : decode cX2_before 20 = .ok (.iload_n 2, 1) := by decide +kernel
theorem dX2_before_21 : decode cX2_before 21 = .ok (.if_icmp .eq 9, 3) := by decide +kernel
theorem dX2_before_24 : decode cX2_before 24 = .ok (.iload_n 3, 1) := by decide +kernel
theorem dX2_before_25 : decode cX2_before 25 = .ok (.iload 4, 2) := by decide +kernel
theorem dX2_before_27 : decode cX2_before 27 = .ok (.if_icmp .le 13, 3) := by decide +kernel
theorem dX2_before_30 : decode cX2_before 30 = .ok (.new 61, 3) := by decide +kernel
theorem dX2_before_33 : decode cX2_before 33 = .ok (.dup, 1) := by decide +kernel
theorem dX2_before_34 : decode cX2_before 34 = .ok (.ldc 95, 2) := by decide +kernel
theorem dX2_before_36 : decode cX2_before 36 = .ok (.invokespecial 65, 3) := by decide +kernel
theorem dX2_before_39 : decode cX2_before 39 = .ok (.athrow, 1) := by decide +kernel
theorem dX2_before_40 : decode cX2_before 40 = .ok (.aload_n 0, 1) := by decide +kernel
theorem dX2_before_41 : decode cX2_before 41 = .ok (.getfield 28, 3) := by decide +kernel
theorem dX2_before_44 : decode cX2_before 44 = .ok (.getfield 97, 3) := by decide +kernel
theorem dX2_before_47 : decode cX2_before 47 = .ok (.bipush 24, 2) := by decide +kernel
theorem dX2_before_49 : decode cX2_before 49 = .ok (.if_icmp .lt 13, 3) := by decide +kernel
theorem dX2_before_52 : decode cX2_before 52 = .ok (.new 71, 3) := by decide +kernel
theorem dX2_before_55 : decode cX2_before 55 = .ok (.dup, 1) := by decide +kernel
theorem dX2_before_56 : decode cX2_before 56 = .ok (.ldc 100, 2) := by decide +kernel
theorem dX2_before_58 : decode cX2_before 58 = .ok (.invokespecial 75, 3) := by decide +kernel
theorem dX2_before_61 : decode cX2_before 61 = .ok (.athrow, 1) := by decide +kernel
theorem dX2_before_62 : decode cX2_before 62 = .ok (.aload_n 0, 1) := by decide +kernel
theorem dX2_before_63 : decode cX2_before 63 = .ok (.invokevirtual 76, 3) := by decide +kernel
theorem dX2_before_66 : decode cX2_before 66 = .ok (.aload_n 0, 1) := by decide +kernel
theorem dX2_before_67 : decode cX2_before 67 = .ok (.getfield 28, 3) := by decide +kernel
theorem dX2_before_70 : decode cX2_before 70 = .ok (.iload_n 1, 1) := by decide +kernel
theorem dX2_before_71 : decode cX2_before 71 = .ok (.iload_n 2, 1) := by decide +kernel
theorem dX2_before_72 : decode cX2_before 72 = .ok (.iload_n 3, 1) := by decide +kernel
theorem dX2_before_73 : decode cX2_before 73 = .ok (.iload 4, 2) := by decide +kernel
theorem dX2_before_75 : decode cX2_before 75 = .ok (.invokevirtual 102, 3) := by decide +kernel
theorem dX2_before_78 : decode cX2_before 78 = .ok (.ireturn, 1) := by decide +kernel
theorem dX1_addOrder_0 : decode cX1_addOrder 0 = .ok (.aload_n 0, 1) := by decide +kernel
theorem dX1_addOrder_1 : decode cX1_addOrder 1 = .ok (.getfield 42, 3) := by decide +kernel
theorem dX1_addOrder_4 : decode cX1_addOrder 4 = .ok (.istore 5, 2) := by decide +kernel
theorem dX1_addOrder_6 : decode cX1_addOrder 6 = .ok (.aload_n 0, 1) := by decide +kernel
theorem dX1_addOrder_7 : decode cX1_addOrder 7 = .ok (.getfield 26, 3) := by decide +kernel
theorem dX1_addOrder_10 : decode cX1_addOrder 10 = .ok (.iload 5, 2) := by decide +kernel
theorem dX1_addOrder_12 : decode cX1_addOrder 12 = .ok (.iload_n 1, 1) := by decide +kernel
theorem dX1_addOrder_13 : decode cX1_addOrder 13 = .ok (.iastore, 1) := by decide +kernel
theorem dX1_addOrder_14 : decode cX1_addOrder 14 = .ok (.aload_n 0, 1) := by decide +kernel
theorem dX1_addOrder_15 : decode cX1_addOrder 15 = .ok (.getfield 29, 3) := by decide +kernel
theorem dX1_addOrder_18 : decode cX1_addOrder 18 = .ok (.iload 5, 2) := by decide +kernel
theorem dX1_addOrder_20 : decode cX1_addOrder 20 = .ok (.iload_n 2, 1) := by decide +kernel
theorem dX1_addOrder_21 : decode cX1_addOrder 21 = .ok (.iastore, 1) := by decide +kernel
theorem dX1_addOrder_22 : decode cX1_addOrder 22 = .ok (.aload_n 0, 1) := by decide +kernel
theorem dX1_addOrder_23 : decode cX1_addOrder 23 = .ok (.getfield 32, 3) := by decide +kernel
theorem dX1_addOrder_26 : decode cX1_addOrder 26 = .ok (.iload 5, 2) := by decide +kernel
theorem dX1_addOrder_28 : decode cX1_addOrder 28 = .ok (.iload_n 3, 1) := by decide +kernel
theorem dX1_addOrder_29 : decode cX1_addOrder 29 = .ok (.iastore, 1) := by decide +kernel
theorem dX1_addOrder_30 : decode cX1_addOrder 30 = .ok (.aload_n 0, 1) := by decide +kernel
theorem dX1_addOrder_31 : decode cX1_addOrder 31 = .ok (.getfield 35, 3) := by decide +kernel
theorem dX1_addOrder_34 : decode cX1_addOrder 34 = .ok (.iload 5, 2) := by decide +kernel
theorem dX1_addOrder_36 : decode cX1_addOrder 36 = .ok (.iload 4, 2) := by decide +kernel
theorem dX1_addOrder_38 : decode cX1_addOrder 38 = .ok (.iastore, 1) := by decide +kernel
theorem dX1_addOrder_39 : decode cX1_addOrder 39 = .ok (.aload_n 0, 1) := by decide +kernel
theorem dX1_addOrder_40 : decode cX1_addOrder 40 = .ok (.dup, 1) := by decide +kernel
theorem dX1_addOrder_41 : decode cX1_addOrder 41 = .ok (.getfield 42, 3) := by decide +kernel
theorem dX1_addOrder_44 : decode cX1_addOrder 44 = .ok (.iconst 1, 1) := by decide +kernel
theorem dX1_addOrder_45 : decode cX1_addOrder 45 = .ok (.iadd, 1) := by decide +kernel
theorem dX1_addOrder_46 : decode cX1_addOrder 46 = .ok (.putfield 42, 3) := by decide +kernel
theorem dX1_addOrder_49 : decode cX1_addOrder 49 = .ok (.iload 5, 2) := by decide +kernel
theorem dX1_addOrder_51 : decode cX1_addOrder 51 = .ok (.ireturn, 1) := by decide +kernel
theorem dX2_member_0 : decode cX2_member 0 = .ok (.aload_n 0, 1) := by decide +kernel
theorem dX2_member_1 : decode cX2_member 1 = .ok (.iload_n 1, 1) := by decide +kernel
theorem dX2_member_2 : decode cX2_member 2 = .ok (.invokevirtual 92, 3) := by decide +kernel
theorem dX2_member_5 : decode cX2_member 5 = .ok (.iload_n 2, 1) := by decide +kernel
theorem dX2_member_6 : decode cX2_member 6 = .ok (.iconst (-1), 1) := by decide +kernel
theorem dX2_member_7 : decode cX2_member 7 = .ok (.if_icmp .eq 7, 3) := by decide +kernel
theorem dX2_member_10 : decode cX2_member 10 = .ok (.iload_n 2, 1) := by decide +kernel
theorem dX2_member_11 : decode cX2_member 11 = .ok (.invokestatic 106, 3) := by decide +kernel
theorem dX2_member_14 : decode cX2_member 14 = .ok (.aload_n 0, 1) := by decide +kernel
theorem dX2_member_15 : decode cX2_member 15 = .ok (.getfield 28, 3) := by decide +kernel
theorem dX2_member_18 : decode cX2_member 18 = .ok (.getfield 109, 3) := by decide +kernel
theorem dX2_member_21 : decode cX2_member 21 = .ok (.iload_n 1, 1) := by decide +kernel
theorem dX2_member_22 : decode cX2_member 22 = .ok (.iaload, 1) := by decide +kernel
theorem dX2_member_23 : decode cX2_member 23 = .ok (.istore_n 3, 1) := by decide +kernel
theorem dX2_member_24 : decode cX2_member 24 = .ok (.aload_n 0, 1) := by decide +kernel
theorem dX2_member_25 : decode cX2_member 25 = .ok (.getfield 28, 3) := by decide +kernel
theorem dX2_member_28 : decode cX2_member 28 = .ok (.getfield 109, 3) := by decide +kernel
theorem dX2_member_31 : decode cX2_member 31 = .ok (.iload_n 1, 1) := by decide +kernel
theorem dX2_member_32 : decode cX2_member 32 = .ok (.iload_n 2, 1) := by decide +kernel
theorem dX2_member_33 : decode cX2_member 33 = .ok (.iastore, 1) := by decide +kernel
theorem dX2_member_34 : decode cX2_member 34 = .ok (.iload_n 3, 1) := by decide +kernel
theorem dX2_member_35 : decode cX2_member 35 = .ok (.ireturn, 1) := by decide +kernel
theorem dX2_needPhase_0 : decode cX2_needPhase 0 = .ok (.iload_n 0, 1) := by decide +kernel
theorem dX2_needPhase_1 : decode cX2_needPhase 1 = .ok (.ifCond .lt 8, 3) := by decide +kernel
theorem dX2_needPhase_4 : decode cX2_needPhase 4 = .ok (.iload_n 0, 1) := by decide +kernel
theorem dX2_needPhase_5 : decode cX2_needPhase 5 = .ok (.iconst 4, 1) := by decide +kernel
theorem dX2_needPhase_6 : decode cX2_needPhase 6 = .ok (.if_icmp .lt 13, 3) := by decide +kernel
theorem dX2_needPhase_9 : decode cX2_needPhase 9 = .ok (.new 150, 3) := by decide +kernel
theorem dX2_needPhase_12 : decode cX2_needPhase 12 = .ok (.dup, 1) := by decide +kernel
theorem dX2_needPhase_13 : decode cX2_needPhase 13 = .ok (.ldc 194, 2) := by decide +kernel
theorem dX2_needPhase_15 : decode cX2_needPhase 15 = .ok (.invokespecial 154, 3) := by decide +kernel
theorem dX2_needPhase_18 : decode cX2_needPhase 18 = .ok (.athrow, 1) := by decide +kernel
theorem dX2_needPhase_19 : decode cX2_needPhase 19 = .ok (.return_, 1) := by decide +kernel
theorem dX2_burn_0 : decode cX2_burn 0 = .ok (.iload_n 1, 1) := by decide +kernel
theorem dX2_burn_1 : decode cX2_burn 1 = .ok (.ifCond .lt 9, 3) := by decide +kernel
theorem dX2_burn_4 : decode cX2_burn 4 = .ok (.iload_n 1, 1) := by decide +kernel
theorem dX2_burn_5 : decode cX2_burn 5 = .ok (.bipush 100, 2) := by decide +kernel
theorem dX2_burn_7 : decode cX2_burn 7 = .ok (.if_icmp .le 13, 3) := by decide +kernel
theorem dX2_burn_10 : decode cX2_burn 10 = .ok (.new 61, 3) := by decide +kernel
theorem dX2_burn_13 : decode cX2_burn 13 = .ok (.dup, 1) := by decide +kernel
theorem dX2_burn_14 : decode cX2_burn 14 = .ok (.ldc 113, 2) := by decide +kernel
theorem dX2_burn_16 : decode cX2_burn 16 = .ok (.invokespecial 65, 3) := by decide +kernel
theorem dX2_burn_19 : decode cX2_burn 19 = .ok (.athrow, 1) := by decide +kernel
theorem dX2_burn_20 : decode cX2_burn 20 = .ok (.aload_n 0, 1) := by decide +kernel
theorem dX2_burn_21 : decode cX2_burn 21 = .ok (.getfield 52, 3) := by decide +kernel
theorem dX2_burn_24 : decode cX2_burn 24 = .ok (.istore_n 2, 1) := by decide +kernel
theorem dX2_burn_25 : decode cX2_burn 25 = .ok (.aload_n 0, 1) := by decide +kernel
theorem dX2_burn_26 : decode cX2_burn 26 = .ok (.iload_n 1, 1) := by decide +kernel
theorem dX2_burn_27 : decode cX2_burn 27 = .ok (.putfield 52, 3) := by decide +kernel
theorem dX2_burn_30 : decode cX2_burn 30 = .ok (.iload_n 2, 1) := by decide +kernel
theorem dX2_burn_31 : decode cX2_burn 31 = .ok (.ireturn, 1) := by decide +kernel
theorem dX2_thin_0 : decode cX2_thin 0 = .ok (.iload_n 1, 1) := by decide +kernel
theorem dX2_thin_1 : decode cX2_thin 1 = .ok (.iconst 1, 1) := by decide +kernel
theorem dX2_thin_2 : decode cX2_thin 2 = .ok (.if_icmp .lt 9, 3) := by decide +kernel
theorem dX2_thin_5 : decode cX2_thin 5 = .ok (.iload_n 1, 1) := by decide +kernel
theorem dX2_thin_6 : decode cX2_thin 6 = .ok (.bipush 20, 2) := by decide +kernel
theorem dX2_thin_8 : decode cX2_thin 8 = .ok (.if_icmp .le 13, 3) := by decide +kernel
theorem dX2_thin_11 : decode cX2_thin 11 = .ok (.new 61, 3) := by decide +kernel
theorem dX2_thin_14 : decode cX2_thin 14 = .ok (.dup, 1) := by decide +kernel
theorem dX2_thin_15 : decode cX2_thin 15 = .ok (.ldc 115, 2) := by decide +kernel
theorem dX2_thin_17 : decode cX2_thin 17 = .ok (.invokespecial 65, 3) := by decide +kernel
theorem dX2_thin_20 : decode cX2_thin 20 = .ok (.athrow, 1) := by decide +kernel
theorem dX2_thin_21 : decode cX2_thin 21 = .ok (.aload_n 0, 1) := by decide +kernel
theorem dX2_thin_22 : decode cX2_thin 22 = .ok (.getfield 55, 3) := by decide +kernel
theorem dX2_thin_25 : decode cX2_thin 25 = .ok (.istore_n 2, 1) := by decide +kernel
theorem dX2_thin_26 : decode cX2_thin 26 = .ok (.aload_n 0, 1) := by decide +kernel
theorem dX2_thin_27 : decode cX2_thin 27 = .ok (.iload_n 1, 1) := by decide +kernel
theorem dX2_thin_28 : decode cX2_thin 28 = .ok (.putfield 55, 3) := by decide +kernel
theorem dX2_thin_31 : decode cX2_thin 31 = .ok (.iload_n 2, 1) := by decide +kernel
theorem dX2_thin_32 : decode cX2_thin 32 = .ok (.ireturn, 1) := by decide +kernel
theorem dX2_run_0 : decode cX2_run 0 = .ok (.iload_n 1, 1) := by decide +kernel
theorem dX2_run_1 : decode cX2_run 1 = .ok (.ifCond .lt 9, 3) := by decide +kernel
theorem dX2_run_4 : decode cX2_run 4 = .ok (.iload_n 1, 1) := by decide +kernel
theorem dX2_run_5 : decode cX2_run 5 = .ok (.bipush 100, 2) := by decide +kernel
theorem dX2_run_7 : decode cX2_run 7 = .ok (.if_icmp .le 13, 3) := by decide +kernel
theorem dX2_run_10 : decode cX2_run 10 = .ok (.new 61, 3) := by decide +kernel
theorem dX2_run_13 : decode cX2_run 13 = .ok (.dup, 1) := by decide +kernel
theorem dX2_run_14 : decode cX2_run 14 = .ok (.ldc 137, 2) := by decide +kernel
theorem dX2_run_16 : decode cX2_run 16 = .ok (.invokespecial 65, 3) := by decide +kernel
theorem dX2_run_19 : decode cX2_run 19 = .ok (.athrow, 1) := by decide +kernel
theorem dX2_run_20 : decode cX2_run 20 = .ok (.aload_n 0, 1) := by decide +kernel
theorem dX2_run_21 : decode cX2_run 21 = .ok (.invokevirtual 138, 3) := by decide +kernel
theorem dX2_run_24 : decode cX2_run 24 = .ok (.aload_n 0, 1) := by decide +kernel
theorem dX2_run_25 : decode cX2_run 25 = .ok (.getfield 37, 3) := by decide +kernel
theorem dX2_run_28 : decode cX2_run 28 = .ok (.getfield 117, 3) := by decide +kernel
theorem dX2_run_31 : decode cX2_run 31 = .ok (.aload_n 0, 1) := by decide +kernel
theorem dX2_run_32 : decode cX2_run 32 = .ok (.iload_n 1, 1) := by decide +kernel
theorem dX2_run_33 : decode cX2_run 33 = .ok (.invokevirtual 141, 3) := by decide +kernel
theorem dX2_run_36 : decode cX2_run 36 = .ok (.iadd, 1) := by decide +kernel
theorem dX2_run_37 : decode cX2_run 37 = .ok (.bipush 60, 2) := by decide +kernel
theorem dX2_run_39 : decode cX2_run 39 = .ok (.if_icmp .le 13, 3) := by decide +kernel
theorem dX2_run_42 : decode cX2_run 42 = .ok (.new 71, 3) := by decide +kernel
theorem dX2_run_45 : decode cX2_run 45 = .ok (.dup, 1) := by decide +kernel
theorem dX2_run_46 : decode cX2_run 46 = .ok (.ldc 145, 2) := by decide +kernel
theorem dX2_run_48 : decode cX2_run 48 = .ok (.invokespecial 75, 3) := by decide +kernel
theorem dX2_run_51 : decode cX2_run 51 = .ok (.athrow, 1) := by decide +kernel
theorem dX2_run_52 : decode cX2_run 52 = .ok (.iconst 0, 1) := by decide +kernel
theorem dX2_run_53 : decode cX2_run 53 = .ok (.istore_n 2, 1) := by decide +kernel
theorem dX2_run_54 : decode cX2_run 54 = .ok (.iload_n 2, 1) := by decide +kernel
theorem dX2_run_55 : decode cX2_run 55 = .ok (.iload_n 1, 1) := by decide +kernel
theorem dX2_run_56 : decode cX2_run 56 = .ok (.if_icmp .ge 13, 3) := by decide +kernel
theorem dX2_run_59 : decode cX2_run 59 = .ok (.aload_n 0, 1) := by decide +kernel
theorem dX2_run_60 : decode cX2_run 60 = .ok (.invokevirtual 147, 3) := by decide +kernel
theorem dX2_run_63 : decode cX2_run 63 = .ok (.iinc 2 1, 3) := by decide +kernel
theorem dX2_run_66 : decode cX2_run 66 = .ok (.goto (-12), 3) := by decide +kernel
theorem dX2_run_69 : decode cX2_run 69 = .ok (.aload_n 0, 1) := by decide +kernel
theorem dX2_run_70 : decode cX2_run 70 = .ok (.getfield 37, 3) := by decide +kernel
theorem dX2_run_73 : decode cX2_run 73 = .ok (.getfield 117, 3) := by decide +kernel
theorem dX2_run_76 : decode cX2_run 76 = .ok (.ireturn, 1) := by decide +kernel
theorem dX2_needStarted_0 : decode cX2_needStarted 0 = .ok (.aload_n 0, 1) := by decide +kernel
theorem dX2_needStarted_1 : decode cX2_needStarted 1 = .ok (.getfield 48, 3) := by decide +kernel
theorem dX2_needStarted_4 : decode cX2_needStarted 4 = .ok (.ifCond .ne 13, 3) := by decide +kernel
theorem dX2_needStarted_7 : decode cX2_needStarted 7 = .ok (.new 71, 3) := by decide +kernel
theorem dX2_needStarted_10 : decode cX2_needStarted 10 = .ok (.dup, 1) := by decide +kernel
theorem dX2_needStarted_11 : decode cX2_needStarted 11 = .ok (.ldc 196, 2) := by decide +kernel
theorem dX2_needStarted_13 : decode cX2_needStarted 13 = .ok (.invokespecial 75, 3) := by decide +kernel
theorem dX2_needStarted_16 : decode cX2_needStarted 16 = .ok (.athrow, 1) := by decide +kernel
theorem dX2_needStarted_17 : decode cX2_needStarted 17 = .ok (.return_, 1) := by decide +kernel
theorem dX2_rowsToCome_0 : decode cX2_rowsToCome 0 = .ok (.iconst 0, 1) := by decide +kernel
theorem dX2_rowsToCome_1 : decode cX2_rowsToCome 1 = .ok (.istore_n 2, 1) := by decide +kernel
theorem dX2_rowsToCome_2 : decode cX2_rowsToCome 2 = .ok (.iconst 1, 1) := by decide +kernel
theorem dX2_rowsToCome_3 : decode cX2_rowsToCome 3 = .ok (.istore_n 3, 1) := by decide +kernel
theorem dX2_rowsToCome_4 : decode cX2_rowsToCome 4 = .ok (.iload_n 3, 1) := by decide +kernel
theorem dX2_rowsToCome_5 : decode cX2_rowsToCome 5 = .ok (.iload_n 1, 1) := by decide +kernel
theorem dX2_rowsToCome_6 : decode cX2_rowsToCome 6 = .ok (.if_icmp .gt 28, 3) := by decide +kernel
theorem dX2_rowsToCome_9 : decode cX2_rowsToCome 9 = .ok (.aload_n 0, 1) := by decide +kernel
theorem dX2_rowsToCome_10 : decode cX2_rowsToCome 10 = .ok (.aload_n 0, 1) := by decide +kernel
theorem dX2_rowsToCome_11 : decode cX2_rowsToCome 11 = .ok (.getfield 37, 3) := by decide +kernel
theorem dX2_rowsToCome_14 : decode cX2_rowsToCome 14 = .ok (.getfield 120, 3) := by decide +kernel
theorem dX2_rowsToCome_17 : decode cX2_rowsToCome 17 = .ok (.iload_n 3, 1) := by decide +kernel
theorem dX2_rowsToCome_18 : decode cX2_rowsToCome 18 = .ok (.iadd, 1) := by decide +kernel
theorem dX2_rowsToCome_19 : decode cX2_rowsToCome 19 = .ok (.invokevirtual 198, 3) := by decide +kernel
theorem dX2_rowsToCome_22 : decode cX2_rowsToCome 22 = .ok (.ifCond .eq 6, 3) := by decide +kernel
theorem dX2_rowsToCome_25 : decode cX2_rowsToCome 25 = .ok (.iinc 2 1, 3) := by decide +kernel
theorem dX2_rowsToCome_28 : decode cX2_rowsToCome 28 = .ok (.iinc 3 1, 3) := by decide +kernel
theorem dX2_rowsToCome_31 : decode cX2_rowsToCome 31 = .ok (.goto (-27), 3) := by decide +kernel
theorem dX2_rowsToCome_34 : decode cX2_rowsToCome 34 = .ok (.iload_n 2, 1) := by decide +kernel
theorem dX2_rowsToCome_35 : decode cX2_rowsToCome 35 = .ok (.ireturn, 1) := by decide +kernel
theorem dX2_isKept_0 : decode cX2_isKept 0 = .ok (.iload_n 1, 1) := by decide +kernel
theorem dX2_isKept_1 : decode cX2_isKept 1 = .ok (.aload_n 0, 1) := by decide +kernel
theorem dX2_isKept_2 : decode cX2_isKept 2 = .ok (.getfield 52, 3) := by decide +kernel
theorem dX2_isKept_5 : decode cX2_isKept 5 = .ok (.if_icmp .le 28, 3) := by decide +kernel
theorem dX2_isKept_8 : decode cX2_isKept 8 = .ok (.aload_n 0, 1) := by decide +kernel
theorem dX2_isKept_9 : decode cX2_isKept 9 = .ok (.getfield 55, 3) := by decide +kernel
theorem dX2_isKept_12 : decode cX2_isKept 12 = .ok (.ifCond .le 21, 3) := by decide +kernel
theorem dX2_isKept_15 : decode cX2_isKept 15 = .ok (.iload_n 1, 1) := by decide +kernel
theorem dX2_isKept_16 : decode cX2_isKept 16 = .ok (.aload_n 0, 1) := by decide +kernel
theorem dX2_isKept_17 : decode cX2_isKept 17 = .ok (.getfield 52, 3) := by decide +kernel
theorem dX2_isKept_20 : decode cX2_isKept 20 = .ok (.isub, 1) := by decide +kernel
theorem dX2_isKept_21 : decode cX2_isKept 21 = .ok (.aload_n 0, 1) := by decide +kernel
theorem dX2_isKept_22 : decode cX2_isKept 22 = .ok (.getfield 55, 3) := by decide +kernel
theorem dX2_isKept_25 : decode cX2_isKept 25 = .ok (.irem, 1) := by decide +kernel
theorem dX2_isKept_26 : decode cX2_isKept 26 = .ok (.ifCond .ne 7, 3) := by decide +kernel
theorem dX2_isKept_29 : decode cX2_isKept 29 = .ok (.iconst 1, 1) := by decide +kernel
theorem dX2_isKept_30 : decode cX2_isKept 30 = .ok (.goto 4, 3) := by decide +kernel
theorem dX2_isKept_33 : decode cX2_isKept 33 = .ok (.iconst 0, 1) := by decide +kernel
theorem dX2_isKept_34 : decode cX2_isKept 34 = .ok (.ireturn, 1) := by decide +kernel
theorem dX2_stepAll_0 : decode cX2_stepAll 0 = .ok (.iconst 0, 1) := by decide +kernel
theorem dX2_stepAll_1 : decode cX2_stepAll 1 = .ok (.istore_n 1, 1) := by decide +kernel
theorem dX2_stepAll_2 : decode cX2_stepAll 2 = .ok (.iload_n 1, 1) := by decide +kernel
theorem dX2_stepAll_3 : decode cX2_stepAll 3 = .ok (.aload_n 0, 1) := by decide +kernel
theorem dX2_stepAll_4 : decode cX2_stepAll 4 = .ok (.getfield 22, 3) := by decide +kernel
theorem dX2_stepAll_7 : decode cX2_stepAll 7 = .ok (.if_icmp .ge 14, 3) := by decide +kernel
theorem dX2_stepAll_10 : decode cX2_stepAll 10 = .ok (.aload_n 0, 1) := by decide +kernel
theorem dX2_stepAll_11 : decode cX2_stepAll 11 = .ok (.iload_n 1, 1) := by decide +kernel
theorem dX2_stepAll_12 : decode cX2_stepAll 12 = .ok (.invokevirtual 202, 3) := by decide +kernel
theorem dX2_stepAll_15 : decode cX2_stepAll 15 = .ok (.iinc 1 1, 3) := by decide +kernel
theorem dX2_stepAll_18 : decode cX2_stepAll 18 = .ok (.goto (-16), 3) := by decide +kernel
theorem dX2_stepAll_21 : decode cX2_stepAll 21 = .ok (.aload_n 0, 1) := by decide +kernel
theorem dX2_stepAll_22 : decode cX2_stepAll 22 = .ok (.getfield 37, 3) := by decide +kernel
theorem dX2_stepAll_25 : decode cX2_stepAll 25 = .ok (.dup, 1) := by decide +kernel
theorem dX2_stepAll_26 : decode cX2_stepAll 26 = .ok (.getfield 120, 3) := by decide +kernel
theorem dX2_stepAll_29 : decode cX2_stepAll 29 = .ok (.iconst 1, 1) := by decide +kernel
theorem dX2_stepAll_30 : decode cX2_stepAll 30 = .ok (.iadd, 1) := by decide +kernel
theorem dX2_stepAll_31 : decode cX2_stepAll 31 = .ok (.putfield 120, 3) := by decide +kernel
theorem dX2_stepAll_34 : decode cX2_stepAll 34 = .ok (.aload_n 0, 1) := by decide +kernel
theorem dX2_stepAll_35 : decode cX2_stepAll 35 = .ok (.aload_n 0, 1) := by decide +kernel
theorem dX2_stepAll_36 : decode cX2_stepAll 36 = .ok (.getfield 37, 3) := by decide +kernel
theorem dX2_stepAll_39 : decode cX2_stepAll 39 = .ok (.getfield 120, 3) := by decide +kernel
theorem dX2_stepAll_42 : decode cX2_stepAll 42 = .ok (.invokevirtual 198, 3) := by decide +kernel
theorem dX2_stepAll_45 : decode cX2_stepAll 45 = .ok (.ifCond .eq 10, 3) := by decide +kernel
theorem dX2_stepAll_48 : decode cX2_stepAll 48 = .ok (.aload_n 0, 1) := by decide +kernel
theorem dX2_stepAll_49 : decode cX2_stepAll 49 = .ok (.getfield 37, 3) := by decide +kernel
theorem dX2_stepAll_52 : decode cX2_stepAll 52 = .ok (.invokevirtual 205, 3) := by decide +kernel
theorem dX2_stepAll_55 : decode cX2_stepAll 55 = .ok (.return_, 1) := by decide +kernel
theorem dX2_stepChain_0 : decode cX2_stepChain 0 = .ok (.aload_n 0, 1) := by decide +kernel
theorem dX2_stepChain_1 : decode cX2_stepChain 1 = .ok (.getfield 37, 3) := by decide +kernel
theorem dX2_stepChain_4 : decode cX2_stepChain 4 = .ok (.getfield 129, 3) := by decide +kernel
theorem dX2_stepChain_7 : decode cX2_stepChain 7 = .ok (.iload_n 1, 1) := by decide +kernel
theorem dX2_stepChain_8 : decode cX2_stepChain 8 = .ok (.aaload, 1) := by decide +kernel
theorem dX2_stepChain_9 : decode cX2_stepChain 9 = .ok (.astore_n 2, 1) := by decide +kernel
theorem dX2_stepChain_10 : decode cX2_stepChain 10 = .ok (.iconst 0, 1) := by decide +kernel
theorem dX2_stepChain_11 : decode cX2_stepChain 11 = .ok (.istore_n 3, 1) := by decide +kernel
theorem dX2_stepChain_12 : decode cX2_stepChain 12 = .ok (.iload_n 3, 1) := by decide +kernel
theorem dX2_stepChain_13 : decode cX2_stepChain 13 = .ok (.aload_n 0, 1) := by decide +kernel
theorem dX2_stepChain_14 : decode cX2_stepChain 14 = .ok (.getfield 28, 3) := by decide +kernel
theorem dX2_stepChain_17 : decode cX2_stepChain 17 = .ok (.getfield 68, 3) := by decide +kernel
theorem dX2_stepChain_20 : decode cX2_stepChain 20 = .ok (.if_icmp .ge 59, 3) := by decide +kernel
theorem dX2_stepChain_23 : decode cX2_stepChain 23 = .ok (.aload_n 0, 1) := by decide +kernel
theorem dX2_stepChain_24 : decode cX2_stepChain 24 = .ok (.getfield 37, 3) := by decide +kernel
theorem dX2_stepChain_27 : decode cX2_stepChain 27 = .ok (.getfield 123, 3) := by decide +kernel
theorem dX2_stepChain_30 : decode cX2_stepChain 30 = .ok (.iload_n 1, 1) := by decide +kernel
theorem dX2_stepChain_31 : decode cX2_stepChain 31 = .ok (.ldc2_w 208, 3) := by decide +kernel
theorem dX2_stepChain_34 : decode cX2_stepChain 34 = .ok (.aload_n 0, 1) := by decide +kernel
theorem dX2_stepChain_35 : decode cX2_stepChain 35 = .ok (.getfield 37, 3) := by decide +kernel
theorem dX2_stepChain_38 : decode cX2_stepChain 38 = .ok (.getfield 123, 3) := by decide +kernel
theorem dX2_stepChain_41 : decode cX2_stepChain 41 = .ok (.iload_n 1, 1) := by decide +kernel
theorem dX2_stepChain_42 : decode cX2_stepChain 42 = .ok (.laload, 1) := by decide +kernel
theorem dX2_stepChain_43 : decode cX2_stepChain 43 = .ok (.lmul, 1) := by decide +kernel
theorem dX2_stepChain_44 : decode cX2_stepChain 44 = .ok (.ldc2_w 210, 3) := by decide +kernel
theorem dX2_stepChain_47 : decode cX2_stepChain 47 = .ok (.ladd, 1) := by decide +kernel
theorem dX2_stepChain_48 : decode cX2_stepChain 48 = .ok (.lastore, 1) := by decide +kernel
theorem dX2_stepChain_49 : decode cX2_stepChain 49 = .ok (.aload_n 2, 1) := by decide +kernel
theorem dX2_stepChain_50 : decode cX2_stepChain 50 = .ok (.iload_n 3, 1) := by decide +kernel
theorem dX2_stepChain_51 : decode cX2_stepChain 51 = .ok (.aload_n 0, 1) := by decide +kernel
theorem dX2_stepChain_52 : decode cX2_stepChain 52 = .ok (.getfield 28, 3) := by decide +kernel
theorem dX2_stepChain_55 : decode cX2_stepChain 55 = .ok (.iload_n 3, 1) := by decide +kernel
theorem dX2_stepChain_56 : decode cX2_stepChain 56 = .ok (.aload_n 2, 1) := by decide +kernel
theorem dX2_stepChain_57 : decode cX2_stepChain 57 = .ok (.aload_n 0, 1) := by decide +kernel
theorem dX2_stepChain_58 : decode cX2_stepChain 58 = .ok (.getfield 37, 3) := by decide +kernel
theorem dX2_stepChain_61 : decode cX2_stepChain 61 = .ok (.getfield 123, 3) := by decide +kernel
theorem dX2_stepChain_64 : decode cX2_stepChain 64 = .ok (.iload_n 1, 1) := by decide +kernel
theorem dX2_stepChain_65 : decode cX2_stepChain 65 = .ok (.laload, 1) := by decide +kernel
theorem dX2_stepChain_66 : decode cX2_stepChain 66 = .ok (.bipush 33, 2) := by decide +kernel
theorem dX2_stepChain_68 : decode cX2_stepChain 68 = .ok (.lushr, 1) := by decide +kernel
theorem dX2_stepChain_69 : decode cX2_stepChain 69 = .ok (.invokevirtual 212, 3) := by decide +kernel
theorem dX2_stepChain_72 : decode cX2_stepChain 72 = .ok (.iastore, 1) := by decide +kernel
theorem dX2_stepChain_73 : decode cX2_stepChain 73 = .ok (.iinc 3 1, 3) := by decide +kernel
theorem dX2_stepChain_76 : decode cX2_stepChain 76 = .ok (.goto (-64), 3) := by decide +kernel
theorem dX2_stepChain_79 : decode cX2_stepChain 79 = .ok (.return_, 1) := by decide +kernel
theorem dX1_drawnYear_0 : decode cX1_drawnYear 0 = .ok (.aload_n 0, 1) := by decide +kernel
theorem dX1_drawnYear_1 : decode cX1_drawnYear 1 = .ok (.iload_n 1, 1) := by decide +kernel
theorem dX1_drawnYear_2 : decode cX1_drawnYear 2 = .ok (.aload_n 2, 1) := by decide +kernel
theorem dX1_drawnYear_3 : decode cX1_drawnYear 3 = .ok (.invokevirtual 64, 3) := by decide +kernel
theorem dX1_drawnYear_6 : decode cX1_drawnYear 6 = .ok (.istore 5, 2) := by decide +kernel
theorem dX1_drawnYear_8 : decode cX1_drawnYear 8 = .ok (.aload_n 0, 1) := by decide +kernel
theorem dX1_drawnYear_9 : decode cX1_drawnYear 9 = .ok (.iload_n 1, 1) := by decide +kernel
theorem dX1_drawnYear_10 : decode cX1_drawnYear 10 = .ok (.aload_n 2, 1) := by decide +kernel
theorem dX1_drawnYear_11 : decode cX1_drawnYear 11 = .ok (.invokevirtual 68, 3) := by decide +kernel
theorem dX1_drawnYear_14 : decode cX1_drawnYear 14 = .ok (.istore 6, 2) := by decide +kernel
theorem dX1_drawnYear_16 : decode cX1_drawnYear 16 = .ok (.lconst 0, 1) := by decide +kernel
theorem dX1_drawnYear_17 : decode cX1_drawnYear 17 = .ok (.lstore 7, 2) := by decide +kernel
theorem dX1_drawnYear_19 : decode cX1_drawnYear 19 = .ok (.iload 5, 2) := by decide +kernel
theorem dX1_drawnYear_21 : decode cX1_drawnYear 21 = .ok (.istore 9, 2) := by decide +kernel
theorem dX1_drawnYear_23 : decode cX1_drawnYear 23 = .ok (.iload 9, 2) := by decide +kernel
theorem dX1_drawnYear_25 : decode cX1_drawnYear 25 = .ok (.iload 6, 2) := by decide +kernel
theorem dX1_drawnYear_27 : decode cX1_drawnYear 27 = .ok (.if_icmp .gt 22, 3) := by decide +kernel
theorem dX1_drawnYear_30 : decode cX1_drawnYear 30 = .ok (.lload 7, 2) := by decide +kernel
theorem dX1_drawnYear_32 : decode cX1_drawnYear 32 = .ok (.aload_n 0, 1) := by decide +kernel
theorem dX1_drawnYear_33 : decode cX1_drawnYear 33 = .ok (.iload_n 1, 1) := by decide +kernel
theorem dX1_drawnYear_34 : decode cX1_drawnYear 34 = .ok (.iload 9, 2) := by decide +kernel
theorem dX1_drawnYear_36 : decode cX1_drawnYear 36 = .ok (.invokevirtual 45, 3) := by decide +kernel
theorem dX1_drawnYear_39 : decode cX1_drawnYear 39 = .ok (.i2l, 1) := by decide +kernel
theorem dX1_drawnYear_40 : decode cX1_drawnYear 40 = .ok (.ladd, 1) := by decide +kernel
theorem dX1_drawnYear_41 : decode cX1_drawnYear 41 = .ok (.lstore 7, 2) := by decide +kernel
theorem dX1_drawnYear_43 : decode cX1_drawnYear 43 = .ok (.iinc 9 1, 3) := by decide +kernel
theorem dX1_drawnYear_46 : decode cX1_drawnYear 46 = .ok (.goto (-23), 3) := by decide +kernel
theorem dX1_drawnYear_49 : decode cX1_drawnYear 49 = .ok (.lload 7, 2) := by decide +kernel
theorem dX1_drawnYear_51 : decode cX1_drawnYear 51 = .ok (.lconst 0, 1) := by decide +kernel
theorem dX1_drawnYear_52 : decode cX1_drawnYear 52 = .ok (.lcmp, 1) := by decide +kernel
theorem dX1_drawnYear_53 : decode cX1_drawnYear 53 = .ok (.ifCond .gt 7, 3) := by decide +kernel
theorem dX1_drawnYear_56 : decode cX1_drawnYear 56 = .ok (.aload_n 2, 1) := by decide +kernel
theorem dX1_drawnYear_57 : decode cX1_drawnYear 57 = .ok (.iload_n 1, 1) := by decide +kernel
theorem dX1_drawnYear_58 : decode cX1_drawnYear 58 = .ok (.iaload, 1) := by decide +kernel
theorem dX1_drawnYear_59 : decode cX1_drawnYear 59 = .ok (.ireturn, 1) := by decide +kernel
theorem dX1_drawnYear_60 : decode cX1_drawnYear 60 = .ok (.lload_n 3, 1) := by decide +kernel
theorem dX1_drawnYear_61 : decode cX1_drawnYear 61 = .ok (.lload 7, 2) := by decide +kernel
theorem dX1_drawnYear_63 : decode cX1_drawnYear 63 = .ok (.lrem, 1) := by decide +kernel
theorem dX1_drawnYear_64 : decode cX1_drawnYear 64 = .ok (.lstore 9, 2) := by decide +kernel
theorem dX1_drawnYear_66 : decode cX1_drawnYear 66 = .ok (.iload 5, 2) := by decide +kernel
theorem dX1_drawnYear_68 : decode cX1_drawnYear 68 = .ok (.istore 11, 2) := by decide +kernel
theorem dX1_drawnYear_70 : decode cX1_drawnYear 70 = .ok (.iload 11, 2) := by decide +kernel
theorem dX1_drawnYear_72 : decode cX1_drawnYear 72 = .ok (.iload 6, 2) := by decide +kernel
theorem dX1_drawnYear_74 : decode cX1_drawnYear 74 = .ok (.if_icmp .ge 32, 3) := by decide +kernel
theorem dX1_drawnYear_77 : decode cX1_drawnYear 77 = .ok (.lload 9, 2) := by decide +kernel
theorem dX1_drawnYear_79 : decode cX1_drawnYear 79 = .ok (.aload_n 0, 1) := by decide +kernel
theorem dX1_drawnYear_80 : decode cX1_drawnYear 80 = .ok (.iload_n 1, 1) := by decide +kernel
theorem dX1_drawnYear_81 : decode cX1_drawnYear 81 = .ok (.iload 11, 2) := by decide +kernel
theorem dX1_drawnYear_83 : decode cX1_drawnYear 83 = .ok (.invokevirtual 45, 3) := by decide +kernel
theorem dX1_drawnYear_86 : decode cX1_drawnYear 86 = .ok (.i2l, 1) := by decide +kernel
theorem dX1_drawnYear_87 : decode cX1_drawnYear 87 = .ok (.lsub, 1) := by decide +kernel
theorem dX1_drawnYear_88 : decode cX1_drawnYear 88 = .ok (.lstore 9, 2) := by decide +kernel
theorem dX1_drawnYear_90 : decode cX1_drawnYear 90 = .ok (.lload 9, 2) := by decide +kernel
theorem dX1_drawnYear_92 : decode cX1_drawnYear 92 = .ok (.lconst 0, 1) := by decide +kernel
theorem dX1_drawnYear_93 : decode cX1_drawnYear 93 = .ok (.lcmp, 1) := by decide +kernel
theorem dX1_drawnYear_94 : decode cX1_drawnYear 94 = .ok (.ifCond .ge 6, 3) := by decide +kernel
theorem dX1_drawnYear_97 : decode cX1_drawnYear 97 = .ok (.iload 11, 2) := by decide +kernel
theorem dX1_drawnYear_99 : decode cX1_drawnYear 99 = .ok (.ireturn, 1) := by decide +kernel
theorem dX1_drawnYear_100 : decode cX1_drawnYear 100 = .ok (.iinc 11 1, 3) := by decide +kernel
theorem dX1_drawnYear_103 : decode cX1_drawnYear 103 = .ok (.goto (-33), 3) := by decide +kernel
theorem dX1_drawnYear_106 : decode cX1_drawnYear 106 = .ok (.iload 6, 2) := by decide +kernel
theorem dX1_drawnYear_108 : decode cX1_drawnYear 108 = .ok (.ireturn, 1) := by decide +kernel
theorem dX1_lowYear_0 : decode cX1_lowYear 0 = .ok (.aload_n 0, 1) := by decide +kernel
theorem dX1_lowYear_1 : decode cX1_lowYear 1 = .ok (.getfield 9, 3) := by decide +kernel
theorem dX1_lowYear_4 : decode cX1_lowYear 4 = .ok (.iload_n 1, 1) := by decide +kernel
theorem dX1_lowYear_5 : decode cX1_lowYear 5 = .ok (.iaload, 1) := by decide +kernel
theorem dX1_lowYear_6 : decode cX1_lowYear 6 = .ok (.istore_n 3, 1) := by decide +kernel
theorem dX1_lowYear_7 : decode cX1_lowYear 7 = .ok (.iconst 0, 1) := by decide +kernel
theorem dX1_lowYear_8 : decode cX1_lowYear 8 = .ok (.istore 4, 2) := by decide +kernel
theorem dX1_lowYear_10 : decode cX1_lowYear 10 = .ok (.iload 4, 2) := by decide +kernel
theorem dX1_lowYear_12 : decode cX1_lowYear 12 = .ok (.aload_n 0, 1) := by decide +kernel
theorem dX1_lowYear_13 : decode cX1_lowYear 13 = .ok (.getfield 42, 3) := by decide +kernel
theorem dX1_lowYear_16 : decode cX1_lowYear 16 = .ok (.if_icmp .ge 78, 3) := by decide +kernel
theorem dX1_lowYear_19 : decode cX1_lowYear 19 = .ok (.aload_n 0, 1) := by decide +kernel
theorem dX1_lowYear_20 : decode cX1_lowYear 20 = .ok (.getfield 29, 3) := by decide +kernel
theorem dX1_lowYear_23 : decode cX1_lowYear 23 = .ok (.iload 4, 2) := by decide +kernel
theorem dX1_lowYear_25 : decode cX1_lowYear 25 = .ok (.iaload, 1) := by decide +kernel
theorem dX1_lowYear_26 : decode cX1_lowYear 26 = .ok (.iload_n 1, 1) := by decide +kernel
theorem dX1_lowYear_27 : decode cX1_lowYear 27 = .ok (.if_icmp .ne 28, 3) := by decide +kernel
theorem dX1_lowYear_30 : decode cX1_lowYear 30 = .ok (.iload_n 3, 1) := by decide +kernel
theorem dX1_lowYear_31 : decode cX1_lowYear 31 = .ok (.aload_n 2, 1) := by decide +kernel
theorem dX1_lowYear_32 : decode cX1_lowYear 32 = .ok (.aload_n 0, 1) := by decide +kernel
theorem dX1_lowYear_33 : decode cX1_lowYear 33 = .ok (.getfield 26, 3) := by decide +kernel
theorem dX1_lowYear_36 : decode cX1_lowYear 36 = .ok (.iload 4, 2) := by decide +kernel
theorem dX1_lowYear_38 : decode cX1_lowYear 38 = .ok (.iaload, 1) := by decide +kernel
theorem dX1_lowYear_39 : decode cX1_lowYear 39 = .ok (.iaload, 1) := by decide +kernel
theorem dX1_lowYear_40 : decode cX1_lowYear 40 = .ok (.aload_n 0, 1) := by decide +kernel
theorem dX1_lowYear_41 : decode cX1_lowYear 41 = .ok (.getfield 32, 3) := by decide +kernel
theorem dX1_lowYear_44 : decode cX1_lowYear 44 = .ok (.iload 4, 2) := by decide +kernel
theorem dX1_lowYear_46 : decode cX1_lowYear 46 = .ok (.iaload, 1) := by decide +kernel
theorem dX1_lowYear_47 : decode cX1_lowYear 47 = .ok (.iadd, 1) := by decide +kernel
theorem dX1_lowYear_48 : decode cX1_lowYear 48 = .ok (.invokestatic 49, 3) := by decide +kernel
theorem dX1_lowYear_51 : decode cX1_lowYear 51 = .ok (.istore_n 3, 1) := by decide +kernel
theorem dX1_lowYear_52 : decode cX1_lowYear 52 = .ok (.goto 36, 3) := by decide +kernel
theorem dX1_lowYear_55 : decode cX1_lowYear 55 = .ok (.aload_n 0, 1) := by decide +kernel
theorem dX1_lowYear_56 : decode cX1_lowYear 56 = .ok (.getfield 26, 3) := by decide +kernel
theorem dX1_lowYear_59 : decode cX1_lowYear 59 = .ok (.iload 4, 2) := by decide +kernel
theorem dX1_lowYear_61 : decode cX1_lowYear 61 = .ok (.iaload, 1) := by decide +kernel
theorem dX1_lowYear_62 : decode cX1_lowYear 62 = .ok (.iload_n 1, 1) := by decide +kernel
theorem dX1_lowYear_63 : decode cX1_lowYear 63 = .ok (.if_icmp .ne 25, 3) := by decide +kernel
theorem dX1_lowYear_66 : decode cX1_lowYear 66 = .ok (.iload_n 3, 1) := by decide +kernel
theorem dX1_lowYear_67 : decode cX1_lowYear 67 = .ok (.aload_n 2, 1) := by decide +kernel
theorem dX1_lowYear_68 : decode cX1_lowYear 68 = .ok (.aload_n 0, 1) := by decide +kernel
theorem dX1_lowYear_69 : decode cX1_lowYear 69 = .ok (.getfield 29, 3) := by decide +kernel
theorem dX1_lowYear_72 : decode cX1_lowYear 72 = .ok (.iload 4, 2) := by decide +kernel
theorem dX1_lowYear_74 : decode cX1_lowYear 74 = .ok (.iaload, 1) := by decide +kernel
theorem dX1_lowYear_75 : decode cX1_lowYear 75 = .ok (.iaload, 1) := by decide +kernel
theorem dX1_lowYear_76 : decode cX1_lowYear 76 = .ok (.aload_n 0, 1) := by decide +kernel
theorem dX1_lowYear_77 : decode cX1_lowYear 77 = .ok (.getfield 35, 3) := by decide +kernel
theorem dX1_lowYear_80 : decode cX1_lowYear 80 = .ok (.iload 4, 2) := by decide +kernel
theorem dX1_lowYear_82 : decode cX1_lowYear 82 = .ok (.iaload, 1) := by decide +kernel
theorem dX1_lowYear_83 : decode cX1_lowYear 83 = .ok (.isub, 1) := by decide +kernel
theorem dX1_lowYear_84 : decode cX1_lowYear 84 = .ok (.invokestatic 49, 3) := by decide +kernel
theorem dX1_lowYear_87 : decode cX1_lowYear 87 = .ok (.istore_n 3, 1) := by decide +kernel
theorem dX1_lowYear_88 : decode cX1_lowYear 88 = .ok (.iinc 4 1, 3) := by decide +kernel
theorem dX1_lowYear_91 : decode cX1_lowYear 91 = .ok (.goto (-81), 3) := by decide +kernel
theorem dX1_lowYear_94 : decode cX1_lowYear 94 = .ok (.iload_n 3, 1) := by decide +kernel
theorem dX1_lowYear_95 : decode cX1_lowYear 95 = .ok (.ireturn, 1) := by decide +kernel
theorem dX1_highYear_0 : decode cX1_highYear 0 = .ok (.aload_n 0, 1) := by decide +kernel
theorem dX1_highYear_1 : decode cX1_highYear 1 = .ok (.getfield 15, 3) := by decide +kernel
theorem dX1_highYear_4 : decode cX1_highYear 4 = .ok (.iload_n 1, 1) := by decide +kernel
theorem dX1_highYear_5 : decode cX1_highYear 5 = .ok (.iaload, 1) := by decide +kernel
theorem dX1_highYear_6 : decode cX1_highYear 6 = .ok (.istore_n 3, 1) := by decide +kernel
theorem dX1_highYear_7 : decode cX1_highYear 7 = .ok (.iconst 0, 1) := by decide +kernel
theorem dX1_highYear_8 : decode cX1_highYear 8 = .ok (.istore 4, 2) := by decide +kernel
theorem dX1_highYear_10 : decode cX1_highYear 10 = .ok (.iload 4, 2) := by decide +kernel
theorem dX1_highYear_12 : decode cX1_highYear 12 = .ok (.aload_n 0, 1) := by decide +kernel
theorem dX1_highYear_13 : decode cX1_highYear 13 = .ok (.getfield 42, 3) := by decide +kernel
theorem dX1_highYear_16 : decode cX1_highYear 16 = .ok (.if_icmp .ge 78, 3) := by decide +kernel
theorem dX1_highYear_19 : decode cX1_highYear 19 = .ok (.aload_n 0, 1) := by decide +kernel
theorem dX1_highYear_20 : decode cX1_highYear 20 = .ok (.getfield 29, 3) := by decide +kernel
theorem dX1_highYear_23 : decode cX1_highYear 23 = .ok (.iload 4, 2) := by decide +kernel
theorem dX1_highYear_25 : decode cX1_highYear 25 = .ok (.iaload, 1) := by decide +kernel
theorem dX1_highYear_26 : decode cX1_highYear 26 = .ok (.iload_n 1, 1) := by decide +kernel
theorem dX1_highYear_27 : decode cX1_highYear 27 = .ok (.if_icmp .ne 28, 3) := by decide +kernel
theorem dX1_highYear_30 : decode cX1_highYear 30 = .ok (.iload_n 3, 1) := by decide +kernel
theorem dX1_highYear_31 : decode cX1_highYear 31 = .ok (.aload_n 2, 1) := by decide +kernel
theorem dX1_highYear_32 : decode cX1_highYear 32 = .ok (.aload_n 0, 1) := by decide +kernel
theorem dX1_highYear_33 : decode cX1_highYear 33 = .ok (.getfield 26, 3) := by decide +kernel
theorem dX1_highYear_36 : decode cX1_highYear 36 = .ok (.iload 4, 2) := by decide +kernel
theorem dX1_highYear_38 : decode cX1_highYear 38 = .ok (.iaload, 1) := by decide +kernel
theorem dX1_highYear_39 : decode cX1_highYear 39 = .ok (.iaload, 1) := by decide +kernel
theorem dX1_highYear_40 : decode cX1_highYear 40 = .ok (.aload_n 0, 1) := by decide +kernel
theorem dX1_highYear_41 : decode cX1_highYear 41 = .ok (.getfield 35, 3) := by decide +kernel
theorem dX1_highYear_44 : decode cX1_highYear 44 = .ok (.iload 4, 2) := by decide +kernel
theorem dX1_highYear_46 : decode cX1_highYear 46 = .ok (.iaload, 1) := by decide +kernel
theorem dX1_highYear_47 : decode cX1_highYear 47 = .ok (.iadd, 1) := by decide +kernel
theorem dX1_highYear_48 : decode cX1_highYear 48 = .ok (.invokestatic 61, 3) := by decide +kernel
theorem dX1_highYear_51 : decode cX1_highYear 51 = .ok (.istore_n 3, 1) := by decide +kernel
theorem dX1_highYear_52 : decode cX1_highYear 52 = .ok (.goto 36, 3) := by decide +kernel
theorem dX1_highYear_55 : decode cX1_highYear 55 = .ok (.aload_n 0, 1) := by decide +kernel
theorem dX1_highYear_56 : decode cX1_highYear 56 = .ok (.getfield 26, 3) := by decide +kernel
theorem dX1_highYear_59 : decode cX1_highYear 59 = .ok (.iload 4, 2) := by decide +kernel
theorem dX1_highYear_61 : decode cX1_highYear 61 = .ok (.iaload, 1) := by decide +kernel
theorem dX1_highYear_62 : decode cX1_highYear 62 = .ok (.iload_n 1, 1) := by decide +kernel
theorem dX1_highYear_63 : decode cX1_highYear 63 = .ok (.if_icmp .ne 25, 3) := by decide +kernel
theorem dX1_highYear_66 : decode cX1_highYear 66 = .ok (.iload_n 3, 1) := by decide +kernel
theorem dX1_highYear_67 : decode cX1_highYear 67 = .ok (.aload_n 2, 1) := by decide +kernel
theorem dX1_highYear_68 : decode cX1_highYear 68 = .ok (.aload_n 0, 1) := by decide +kernel
theorem dX1_highYear_69 : decode cX1_highYear 69 = .ok (.getfield 29, 3) := by decide +kernel
theorem dX1_highYear_72 : decode cX1_highYear 72 = .ok (.iload 4, 2) := by decide +kernel
theorem dX1_highYear_74 : decode cX1_highYear 74 = .ok (.iaload, 1) := by decide +kernel
theorem dX1_highYear_75 : decode cX1_highYear 75 = .ok (.iaload, 1) := by decide +kernel
theorem dX1_highYear_76 : decode cX1_highYear 76 = .ok (.aload_n 0, 1) := by decide +kernel
theorem dX1_highYear_77 : decode cX1_highYear 77 = .ok (.getfield 32, 3) := by decide +kernel
theorem dX1_highYear_80 : decode cX1_highYear 80 = .ok (.iload 4, 2) := by decide +kernel
theorem dX1_highYear_82 : decode cX1_highYear 82 = .ok (.iaload, 1) := by decide +kernel
theorem dX1_highYear_83 : decode cX1_highYear 83 = .ok (.isub, 1) := by decide +kernel
theorem dX1_highYear_84 : decode cX1_highYear 84 = .ok (.invokestatic 61, 3) := by decide +kernel
theorem dX1_highYear_87 : decode cX1_highYear 87 = .ok (.istore_n 3, 1) := by decide +kernel
theorem dX1_highYear_88 : decode cX1_highYear 88 = .ok (.iinc 4 1, 3) := by decide +kernel
theorem dX1_highYear_91 : decode cX1_highYear 91 = .ok (.goto (-81), 3) := by decide +kernel
theorem dX1_highYear_94 : decode cX1_highYear 94 = .ok (.iload_n 3, 1) := by decide +kernel
theorem dX1_highYear_95 : decode cX1_highYear 95 = .ok (.ireturn, 1) := by decide +kernel
theorem dX0_keepYears_0 : decode cX0_keepYears 0 = .ok (.iconst 0, 1) := by decide +kernel
theorem dX0_keepYears_1 : decode cX0_keepYears 1 = .ok (.istore_n 1, 1) := by decide +kernel
theorem dX0_keepYears_2 : decode cX0_keepYears 2 = .ok (.iload_n 1, 1) := by decide +kernel
theorem dX0_keepYears_3 : decode cX0_keepYears 3 = .ok (.aload_n 0, 1) := by decide +kernel
theorem dX0_keepYears_4 : decode cX0_keepYears 4 = .ok (.getfield 16, 3) := by decide +kernel
theorem dX0_keepYears_7 : decode cX0_keepYears 7 = .ok (.arraylength, 1) := by decide +kernel
theorem dX0_keepYears_8 : decode cX0_keepYears 8 = .ok (.if_icmp .ge 34, 3) := by decide +kernel
theorem dX0_keepYears_11 : decode cX0_keepYears 11 = .ok (.aload_n 0, 1) := by decide +kernel
theorem dX0_keepYears_12 : decode cX0_keepYears 12 = .ok (.getfield 11, 3) := by decide +kernel
theorem dX0_keepYears_15 : decode cX0_keepYears 15 = .ok (.iload_n 1, 1) := by decide +kernel
theorem dX0_keepYears_16 : decode cX0_keepYears 16 = .ok (.aaload, 1) := by decide +kernel
theorem dX0_keepYears_17 : decode cX0_keepYears 17 = .ok (.iconst 0, 1) := by decide +kernel
theorem dX0_keepYears_18 : decode cX0_keepYears 18 = .ok (.aload_n 0, 1) := by decide +kernel
theorem dX0_keepYears_19 : decode cX0_keepYears 19 = .ok (.getfield 20, 3) := by decide +kernel
theorem dX0_keepYears_22 : decode cX0_keepYears 22 = .ok (.iload_n 1, 1) := by decide +kernel
theorem dX0_keepYears_23 : decode cX0_keepYears 23 = .ok (.aaload, 1) := by decide +kernel
theorem dX0_keepYears_24 : decode cX0_keepYears 24 = .ok (.aload_n 0, 1) := by decide +kernel
theorem dX0_keepYears_25 : decode cX0_keepYears 25 = .ok (.getfield 23, 3) := by decide +kernel
theorem dX0_keepYears_28 : decode cX0_keepYears 28 = .ok (.bipush 8, 2) := by decide +kernel
theorem dX0_keepYears_30 : decode cX0_keepYears 30 = .ok (.imul, 1) := by decide +kernel
theorem dX0_keepYears_31 : decode cX0_keepYears 31 = .ok (.bipush 8, 2) := by decide +kernel
theorem dX0_keepYears_33 : decode cX0_keepYears 33 = .ok (.invokestatic 30, 3) := by decide +kernel
theorem dX0_keepYears_36 : decode cX0_keepYears 36 = .ok (.iinc 1 1, 3) := by decide +kernel
theorem dX0_keepYears_39 : decode cX0_keepYears 39 = .ok (.goto (-37), 3) := by decide +kernel
theorem dX0_keepYears_42 : decode cX0_keepYears 42 = .ok (.aload_n 0, 1) := by decide +kernel
theorem dX0_keepYears_43 : decode cX0_keepYears 43 = .ok (.dup, 1) := by decide +kernel
theorem dX0_keepYears_44 : decode cX0_keepYears 44 = .ok (.getfield 23, 3) := by decide +kernel
theorem dX0_keepYears_47 : decode cX0_keepYears 47 = .ok (.iconst 1, 1) := by decide +kernel
theorem dX0_keepYears_48 : decode cX0_keepYears 48 = .ok (.iadd, 1) := by decide +kernel
theorem dX0_keepYears_49 : decode cX0_keepYears 49 = .ok (.putfield 23, 3) := by decide +kernel
theorem dX0_keepYears_52 : decode cX0_keepYears 52 = .ok (.return_, 1) := by decide +kernel
theorem dX2_at_0 : decode cX2_at 0 = .ok (.iload_n 1, 1) := by decide +kernel
theorem dX2_at_1 : decode cX2_at 1 = .ok (.ifCond .lt 11, 3) := by decide +kernel
theorem dX2_at_4 : decode cX2_at 4 = .ok (.iload_n 1, 1) := by decide +kernel
theorem dX2_at_5 : decode cX2_at 5 = .ok (.aload_n 0, 1) := by decide +kernel
theorem dX2_at_6 : decode cX2_at 6 = .ok (.getfield 22, 3) := by decide +kernel
theorem dX2_at_9 : decode cX2_at 9 = .ok (.if_icmp .lt 13, 3) := by decide +kernel
theorem dX2_at_12 : decode cX2_at 12 = .ok (.new 150, 3) := by decide +kernel
theorem dX2_at_15 : decode cX2_at 15 = .ok (.dup, 1) := by decide +kernel
theorem dX2_at_16 : decode cX2_at 16 = .ok (.ldc 152, 2) := by decide +kernel
theorem dX2_at_18 : decode cX2_at 18 = .ok (.invokespecial 154, 3) := by decide +kernel
theorem dX2_at_21 : decode cX2_at 21 = .ok (.athrow, 1) := by decide +kernel
theorem dX2_at_22 : decode cX2_at 22 = .ok (.aload_n 0, 1) := by decide +kernel
theorem dX2_at_23 : decode cX2_at 23 = .ok (.iload_n 3, 1) := by decide +kernel
theorem dX2_at_24 : decode cX2_at 24 = .ok (.invokevirtual 92, 3) := by decide +kernel
theorem dX2_at_27 : decode cX2_at 27 = .ok (.iload_n 2, 1) := by decide +kernel
theorem dX2_at_28 : decode cX2_at 28 = .ok (.iconst (-1), 1) := by decide +kernel
theorem dX2_at_29 : decode cX2_at 29 = .ok (.if_icmp .ge 13, 3) := by decide +kernel
theorem dX2_at_32 : decode cX2_at 32 = .ok (.new 150, 3) := by decide +kernel
theorem dX2_at_35 : decode cX2_at 35 = .ok (.dup, 1) := by decide +kernel
theorem dX2_at_36 : decode cX2_at 36 = .ok (.ldc 155, 2) := by decide +kernel
theorem dX2_at_38 : decode cX2_at 38 = .ok (.invokespecial 154, 3) := by decide +kernel
theorem dX2_at_41 : decode cX2_at 41 = .ok (.athrow, 1) := by decide +kernel
theorem dX2_at_42 : decode cX2_at 42 = .ok (.aload_n 0, 1) := by decide +kernel
theorem dX2_at_43 : decode cX2_at 43 = .ok (.invokevirtual 138, 3) := by decide +kernel
theorem dX2_at_46 : decode cX2_at 46 = .ok (.iload_n 2, 1) := by decide +kernel
theorem dX2_at_47 : decode cX2_at 47 = .ok (.aload_n 0, 1) := by decide +kernel
theorem dX2_at_48 : decode cX2_at 48 = .ok (.getfield 37, 3) := by decide +kernel
theorem dX2_at_51 : decode cX2_at 51 = .ok (.getfield 117, 3) := by decide +kernel
theorem dX2_at_54 : decode cX2_at 54 = .ok (.if_icmp .lt 13, 3) := by decide +kernel
theorem dX2_at_57 : decode cX2_at 57 = .ok (.new 150, 3) := by decide +kernel
theorem dX2_at_60 : decode cX2_at 60 = .ok (.dup, 1) := by decide +kernel
theorem dX2_at_61 : decode cX2_at 61 = .ok (.ldc 155, 2) := by decide +kernel
theorem dX2_at_63 : decode cX2_at 63 = .ok (.invokespecial 154, 3) := by decide +kernel
theorem dX2_at_66 : decode cX2_at 66 = .ok (.athrow, 1) := by decide +kernel
theorem dX2_at_67 : decode cX2_at 67 = .ok (.iload_n 2, 1) := by decide +kernel
theorem dX2_at_68 : decode cX2_at 68 = .ok (.iconst (-1), 1) := by decide +kernel
theorem dX2_at_69 : decode cX2_at 69 = .ok (.if_icmp .ne 17, 3) := by decide +kernel
theorem dX2_at_72 : decode cX2_at 72 = .ok (.aload_n 0, 1) := by decide +kernel
theorem dX2_at_73 : decode cX2_at 73 = .ok (.getfield 37, 3) := by decide +kernel
theorem dX2_at_76 : decode cX2_at 76 = .ok (.getfield 129, 3) := by decide +kernel
theorem dX2_at_79 : decode cX2_at 79 = .ok (.iload_n 1, 1) := by decide +kernel
theorem dX2_at_80 : decode cX2_at 80 = .ok (.aaload, 1) := by decide +kernel
theorem dX2_at_81 : decode cX2_at 81 = .ok (.iload_n 3, 1) := by decide +kernel
theorem dX2_at_82 : decode cX2_at 82 = .ok (.iaload, 1) := by decide +kernel
theorem dX2_at_83 : decode cX2_at 83 = .ok (.goto 13, 3) := by decide +kernel
theorem dX2_at_86 : decode cX2_at 86 = .ok (.aload_n 0, 1) := by decide +kernel
theorem dX2_at_87 : decode cX2_at 87 = .ok (.getfield 37, 3) := by decide +kernel
theorem dX2_at_90 : decode cX2_at 90 = .ok (.iload_n 1, 1) := by decide +kernel
theorem dX2_at_91 : decode cX2_at 91 = .ok (.iload_n 2, 1) := by decide +kernel
theorem dX2_at_92 : decode cX2_at 92 = .ok (.iload_n 3, 1) := by decide +kernel
theorem dX2_at_93 : decode cX2_at 93 = .ok (.invokevirtual 157, 3) := by decide +kernel
theorem dX2_at_96 : decode cX2_at 96 = .ok (.ireturn, 1) := by decide +kernel
theorem dX0_keptYear_0 : decode cX0_keptYear 0 = .ok (.aload_n 0, 1) := by decide +kernel
theorem dX0_keptYear_1 : decode cX0_keptYear 1 = .ok (.getfield 20, 3) := by decide +kernel
theorem dX0_keptYear_4 : decode cX0_keptYear 4 = .ok (.iload_n 1, 1) := by decide +kernel
theorem dX0_keptYear_5 : decode cX0_keptYear 5 = .ok (.aaload, 1) := by decide +kernel
theorem dX0_keptYear_6 : decode cX0_keptYear 6 = .ok (.iload_n 2, 1) := by decide +kernel
theorem dX0_keptYear_7 : decode cX0_keptYear 7 = .ok (.bipush 8, 2) := by decide +kernel
theorem dX0_keptYear_9 : decode cX0_keptYear 9 = .ok (.imul, 1) := by decide +kernel
theorem dX0_keptYear_10 : decode cX0_keptYear 10 = .ok (.iload_n 3, 1) := by decide +kernel
theorem dX0_keptYear_11 : decode cX0_keptYear 11 = .ok (.iadd, 1) := by decide +kernel
theorem dX0_keptYear_12 : decode cX0_keptYear 12 = .ok (.iaload, 1) := by decide +kernel
theorem dX0_keptYear_13 : decode cX0_keptYear 13 = .ok (.ireturn, 1) := by decide +kernel
theorem dX2_counted_0 : decode cX2_counted 0 = .ok (.aload_n 0, 1) := by decide +kernel
theorem dX2_counted_1 : decode cX2_counted 1 = .ok (.iload_n 1, 1) := by decide +kernel
theorem dX2_counted_2 : decode cX2_counted 2 = .ok (.iload_n 2, 1) := by decide +kernel
theorem dX2_counted_3 : decode cX2_counted 3 = .ok (.invokevirtual 82, 3) := by decide +kernel
theorem dX2_counted_6 : decode cX2_counted 6 = .ok (.aload_n 0, 1) := by decide +kernel
theorem dX2_counted_7 : decode cX2_counted 7 = .ok (.invokevirtual 138, 3) := by decide +kernel
theorem dX2_counted_10 : decode cX2_counted 10 = .ok (.iconst 0, 1) := by decide +kernel
theorem dX2_counted_11 : decode cX2_counted 11 = .ok (.istore_n 3, 1) := by decide +kernel
theorem dX2_counted_12 : decode cX2_counted 12 = .ok (.iconst 0, 1) := by decide +kernel
theorem dX2_counted_13 : decode cX2_counted 13 = .ok (.istore 4, 2) := by decide +kernel
theorem dX2_counted_15 : decode cX2_counted 15 = .ok (.iload 4, 2) := by decide +kernel
theorem dX2_counted_17 : decode cX2_counted 17 = .ok (.aload_n 0, 1) := by decide +kernel
theorem dX2_counted_18 : decode cX2_counted 18 = .ok (.getfield 22, 3) := by decide +kernel
theorem dX2_counted_21 : decode cX2_counted 21 = .ok (.if_icmp .ge 49, 3) := by decide +kernel
theorem dX2_counted_24 : decode cX2_counted 24 = .ok (.iconst 0, 1) := by decide +kernel
theorem dX2_counted_25 : decode cX2_counted 25 = .ok (.istore 5, 2) := by decide +kernel
theorem dX2_counted_27 : decode cX2_counted 27 = .ok (.iload 5, 2) := by decide +kernel
theorem dX2_counted_29 : decode cX2_counted 29 = .ok (.aload_n 0, 1) := by decide +kernel
theorem dX2_counted_30 : decode cX2_counted 30 = .ok (.getfield 37, 3) := by decide +kernel
theorem dX2_counted_33 : decode cX2_counted 33 = .ok (.getfield 117, 3) := by decide +kernel
theorem dX2_counted_36 : decode cX2_counted 36 = .ok (.if_icmp .ge 28, 3) := by decide +kernel
theorem dX2_counted_39 : decode cX2_counted 39 = .ok (.aload_n 0, 1) := by decide +kernel
theorem dX2_counted_40 : decode cX2_counted 40 = .ok (.getfield 37, 3) := by decide +kernel
theorem dX2_counted_43 : decode cX2_counted 43 = .ok (.iload 4, 2) := by decide +kernel
theorem dX2_counted_45 : decode cX2_counted 45 = .ok (.iload 5, 2) := by decide +kernel
theorem dX2_counted_47 : decode cX2_counted 47 = .ok (.iload_n 1, 1) := by decide +kernel
theorem dX2_counted_48 : decode cX2_counted 48 = .ok (.invokevirtual 157, 3) := by decide +kernel
theorem dX2_counted_51 : decode cX2_counted 51 = .ok (.iload_n 2, 1) := by decide +kernel
theorem dX2_counted_52 : decode cX2_counted 52 = .ok (.if_icmp .ne 6, 3) := by decide +kernel
theorem dX2_counted_55 : decode cX2_counted 55 = .ok (.iinc 3 1, 3) := by decide +kernel
theorem dX2_counted_58 : decode cX2_counted 58 = .ok (.iinc 5 1, 3) := by decide +kernel
theorem dX2_counted_61 : decode cX2_counted 61 = .ok (.goto (-34), 3) := by decide +kernel
theorem dX2_counted_64 : decode cX2_counted 64 = .ok (.iinc 4 1, 3) := by decide +kernel
theorem dX2_counted_67 : decode cX2_counted 67 = .ok (.goto (-52), 3) := by decide +kernel
theorem dX2_counted_70 : decode cX2_counted 70 = .ok (.iload_n 3, 1) := by decide +kernel
theorem dX2_counted_71 : decode cX2_counted 71 = .ok (.ireturn, 1) := by decide +kernel
theorem dX2_apart_0 : decode cX2_apart 0 = .ok (.aload_n 0, 1) := by decide +kernel
theorem dX2_apart_1 : decode cX2_apart 1 = .ok (.iload_n 1, 1) := by decide +kernel
theorem dX2_apart_2 : decode cX2_apart 2 = .ok (.invokevirtual 92, 3) := by decide +kernel
theorem dX2_apart_5 : decode cX2_apart 5 = .ok (.aload_n 0, 1) := by decide +kernel
theorem dX2_apart_6 : decode cX2_apart 6 = .ok (.invokevirtual 138, 3) := by decide +kernel
theorem dX2_apart_9 : decode cX2_apart 9 = .ok (.aload_n 0, 1) := by decide +kernel
theorem dX2_apart_10 : decode cX2_apart 10 = .ok (.iconst 0, 1) := by decide +kernel
theorem dX2_apart_11 : decode cX2_apart 11 = .ok (.iload_n 1, 1) := by decide +kernel
theorem dX2_apart_12 : decode cX2_apart 12 = .ok (.invokevirtual 160, 3) := by decide +kernel
theorem dX2_apart_15 : decode cX2_apart 15 = .ok (.istore_n 2, 1) := by decide +kernel
theorem dX2_apart_16 : decode cX2_apart 16 = .ok (.iload_n 2, 1) := by decide +kernel
theorem dX2_apart_17 : decode cX2_apart 17 = .ok (.istore_n 3, 1) := by decide +kernel
theorem dX2_apart_18 : decode cX2_apart 18 = .ok (.iconst 1, 1) := by decide +kernel
theorem dX2_apart_19 : decode cX2_apart 19 = .ok (.istore 4, 2) := by decide +kernel
theorem dX2_apart_21 : decode cX2_apart 21 = .ok (.iload 4, 2) := by decide +kernel
theorem dX2_apart_23 : decode cX2_apart 23 = .ok (.aload_n 0, 1) := by decide +kernel
theorem dX2_apart_24 : decode cX2_apart 24 = .ok (.getfield 22, 3) := by decide +kernel
theorem dX2_apart_27 : decode cX2_apart 27 = .ok (.if_icmp .ge 32, 3) := by decide +kernel
theorem dX2_apart_30 : decode cX2_apart 30 = .ok (.aload_n 0, 1) := by decide +kernel
theorem dX2_apart_31 : decode cX2_apart 31 = .ok (.iload 4, 2) := by decide +kernel
theorem dX2_apart_33 : decode cX2_apart 33 = .ok (.iload_n 1, 1) := by decide +kernel
theorem dX2_apart_34 : decode cX2_apart 34 = .ok (.invokevirtual 160, 3) := by decide +kernel
theorem dX2_apart_37 : decode cX2_apart 37 = .ok (.istore 5, 2) := by decide +kernel
theorem dX2_apart_39 : decode cX2_apart 39 = .ok (.iload_n 2, 1) := by decide +kernel
theorem dX2_apart_40 : decode cX2_apart 40 = .ok (.iload 5, 2) := by decide +kernel
theorem dX2_apart_42 : decode cX2_apart 42 = .ok (.invokestatic 13, 3) := by decide +kernel
theorem dX2_apart_45 : decode cX2_apart 45 = .ok (.istore_n 2, 1) := by decide +kernel
theorem dX2_apart_46 : decode cX2_apart 46 = .ok (.iload_n 3, 1) := by decide +kernel
theorem dX2_apart_47 : decode cX2_apart 47 = .ok (.iload 5, 2) := by decide +kernel
theorem dX2_apart_49 : decode cX2_apart 49 = .ok (.invokestatic 19, 3) := by decide +kernel
theorem dX2_apart_52 : decode cX2_apart 52 = .ok (.istore_n 3, 1) := by decide +kernel
theorem dX2_apart_53 : decode cX2_apart 53 = .ok (.iinc 4 1, 3) := by decide +kernel
theorem dX2_apart_56 : decode cX2_apart 56 = .ok (.goto (-35), 3) := by decide +kernel
theorem dX2_apart_59 : decode cX2_apart 59 = .ok (.iload_n 3, 1) := by decide +kernel
theorem dX2_apart_60 : decode cX2_apart 60 = .ok (.iload_n 2, 1) := by decide +kernel
theorem dX2_apart_61 : decode cX2_apart 61 = .ok (.isub, 1) := by decide +kernel
theorem dX2_apart_62 : decode cX2_apart 62 = .ok (.ireturn, 1) := by decide +kernel
theorem dX2_sumOfYears_0 : decode cX2_sumOfYears 0 = .ok (.iconst 0, 1) := by decide +kernel
theorem dX2_sumOfYears_1 : decode cX2_sumOfYears 1 = .ok (.istore_n 3, 1) := by decide +kernel
theorem dX2_sumOfYears_2 : decode cX2_sumOfYears 2 = .ok (.iconst 0, 1) := by decide +kernel
theorem dX2_sumOfYears_3 : decode cX2_sumOfYears 3 = .ok (.istore 4, 2) := by decide +kernel
theorem dX2_sumOfYears_5 : decode cX2_sumOfYears 5 = .ok (.iload 4, 2) := by decide +kernel
theorem dX2_sumOfYears_7 : decode cX2_sumOfYears 7 = .ok (.aload_n 0, 1) := by decide +kernel
theorem dX2_sumOfYears_8 : decode cX2_sumOfYears 8 = .ok (.getfield 37, 3) := by decide +kernel
theorem dX2_sumOfYears_11 : decode cX2_sumOfYears 11 = .ok (.getfield 117, 3) := by decide +kernel
theorem dX2_sumOfYears_14 : decode cX2_sumOfYears 14 = .ok (.if_icmp .ge 23, 3) := by decide +kernel
theorem dX2_sumOfYears_17 : decode cX2_sumOfYears 17 = .ok (.iload_n 3, 1) := by decide +kernel
theorem dX2_sumOfYears_18 : decode cX2_sumOfYears 18 = .ok (.aload_n 0, 1) := by decide +kernel
theorem dX2_sumOfYears_19 : decode cX2_sumOfYears 19 = .ok (.getfield 37, 3) := by decide +kernel
theorem dX2_sumOfYears_22 : decode cX2_sumOfYears 22 = .ok (.iload_n 1, 1) := by decide +kernel
theorem dX2_sumOfYears_23 : decode cX2_sumOfYears 23 = .ok (.iload 4, 2) := by decide +kernel
theorem dX2_sumOfYears_25 : decode cX2_sumOfYears 25 = .ok (.iload_n 2, 1) := by decide +kernel
theorem dX2_sumOfYears_26 : decode cX2_sumOfYears 26 = .ok (.invokevirtual 157, 3) := by decide +kernel
theorem dX2_sumOfYears_29 : decode cX2_sumOfYears 29 = .ok (.iadd, 1) := by decide +kernel
theorem dX2_sumOfYears_30 : decode cX2_sumOfYears 30 = .ok (.istore_n 3, 1) := by decide +kernel
theorem dX2_sumOfYears_31 : decode cX2_sumOfYears 31 = .ok (.iinc 4 1, 3) := by decide +kernel
theorem dX2_sumOfYears_34 : decode cX2_sumOfYears 34 = .ok (.goto (-29), 3) := by decide +kernel
theorem dX2_sumOfYears_37 : decode cX2_sumOfYears 37 = .ok (.iload_n 3, 1) := by decide +kernel
theorem dX2_sumOfYears_38 : decode cX2_sumOfYears 38 = .ok (.ireturn, 1) := by decide +kernel
theorem dX2_agreement_0 : decode cX2_agreement 0 = .ok (.aload_n 0, 1) := by decide +kernel
theorem dX2_agreement_1 : decode cX2_agreement 1 = .ok (.iload_n 1, 1) := by decide +kernel
theorem dX2_agreement_2 : decode cX2_agreement 2 = .ok (.invokevirtual 92, 3) := by decide +kernel
theorem dX2_agreement_5 : decode cX2_agreement 5 = .ok (.aload_n 0, 1) := by decide +kernel
theorem dX2_agreement_6 : decode cX2_agreement 6 = .ok (.invokevirtual 138, 3) := by decide +kernel
theorem dX2_agreement_9 : decode cX2_agreement 9 = .ok (.lconst 0, 1) := by decide +kernel
theorem dX2_agreement_10 : decode cX2_agreement 10 = .ok (.lstore_n 2, 1) := by decide +kernel
theorem dX2_agreement_11 : decode cX2_agreement 11 = .ok (.iconst 0, 1) := by decide +kernel
theorem dX2_agreement_12 : decode cX2_agreement 12 = .ok (.istore 4, 2) := by decide +kernel
theorem dX2_agreement_14 : decode cX2_agreement 14 = .ok (.iload 4, 2) := by decide +kernel
theorem dX2_agreement_16 : decode cX2_agreement 16 = .ok (.aload_n 0, 1) := by decide +kernel
theorem dX2_agreement_17 : decode cX2_agreement 17 = .ok (.getfield 22, 3) := by decide +kernel
theorem dX2_agreement_20 : decode cX2_agreement 20 = .ok (.if_icmp .ge 54, 3) := by decide +kernel
theorem dX2_agreement_23 : decode cX2_agreement 23 = .ok (.iconst 0, 1) := by decide +kernel
theorem dX2_agreement_24 : decode cX2_agreement 24 = .ok (.istore 5, 2) := by decide +kernel
theorem dX2_agreement_26 : decode cX2_agreement 26 = .ok (.iload 5, 2) := by decide +kernel
theorem dX2_agreement_28 : decode cX2_agreement 28 = .ok (.aload_n 0, 1) := by decide +kernel
theorem dX2_agreement_29 : decode cX2_agreement 29 = .ok (.getfield 37, 3) := by decide +kernel
theorem dX2_agreement_32 : decode cX2_agreement 32 = .ok (.getfield 117, 3) := by decide +kernel
theorem dX2_agreement_35 : decode cX2_agreement 35 = .ok (.if_icmp .ge 33, 3) := by decide +kernel
theorem dX2_agreement_38 : decode cX2_agreement 38 = .ok (.lload_n 2, 1) := by decide +kernel
theorem dX2_agreement_39 : decode cX2_agreement 39 = .ok (.aload_n 0, 1) := by decide +kernel
theorem dX2_agreement_40 : decode cX2_agreement 40 = .ok (.getfield 28, 3) := by decide +kernel
theorem dX2_agreement_43 : decode cX2_agreement 43 = .ok (.iload_n 1, 1) := by decide +kernel
theorem dX2_agreement_44 : decode cX2_agreement 44 = .ok (.aload_n 0, 1) := by decide +kernel
theorem dX2_agreement_45 : decode cX2_agreement 45 = .ok (.getfield 37, 3) := by decide +kernel
theorem dX2_agreement_48 : decode cX2_agreement 48 = .ok (.iload 4, 2) := by decide +kernel
theorem dX2_agreement_50 : decode cX2_agreement 50 = .ok (.iload 5, 2) := by decide +kernel
theorem dX2_agreement_52 : decode cX2_agreement 52 = .ok (.iload_n 1, 1) := by decide +kernel
theorem dX2_agreement_53 : decode cX2_agreement 53 = .ok (.invokevirtual 157, 3) := by decide +kernel
theorem dX2_agreement_56 : decode cX2_agreement 56 = .ok (.invokevirtual 163, 3) := by decide +kernel
theorem dX2_agreement_59 : decode cX2_agreement 59 = .ok (.i2l, 1) := by decide +kernel
theorem dX2_agreement_60 : decode cX2_agreement 60 = .ok (.ladd, 1) := by decide +kernel
theorem dX2_agreement_61 : decode cX2_agreement 61 = .ok (.lstore_n 2, 1) := by decide +kernel
theorem dX2_agreement_62 : decode cX2_agreement 62 = .ok (.iinc 5 1, 3) := by decide +kernel
theorem dX2_agreement_65 : decode cX2_agreement 65 = .ok (.goto (-39), 3) := by decide +kernel
theorem dX2_agreement_68 : decode cX2_agreement 68 = .ok (.iinc 4 1, 3) := by decide +kernel
theorem dX2_agreement_71 : decode cX2_agreement 71 = .ok (.goto (-57), 3) := by decide +kernel
theorem dX2_agreement_74 : decode cX2_agreement 74 = .ok (.aload_n 0, 1) := by decide +kernel
theorem dX2_agreement_75 : decode cX2_agreement 75 = .ok (.getfield 22, 3) := by decide +kernel
theorem dX2_agreement_78 : decode cX2_agreement 78 = .ok (.i2l, 1) := by decide +kernel
theorem dX2_agreement_79 : decode cX2_agreement 79 = .ok (.aload_n 0, 1) := by decide +kernel
theorem dX2_agreement_80 : decode cX2_agreement 80 = .ok (.getfield 37, 3) := by decide +kernel
theorem dX2_agreement_83 : decode cX2_agreement 83 = .ok (.getfield 117, 3) := by decide +kernel
theorem dX2_agreement_86 : decode cX2_agreement 86 = .ok (.i2l, 1) := by decide +kernel
theorem dX2_agreement_87 : decode cX2_agreement 87 = .ok (.lmul, 1) := by decide +kernel
theorem dX2_agreement_88 : decode cX2_agreement 88 = .ok (.aload_n 0, 1) := by decide +kernel
theorem dX2_agreement_89 : decode cX2_agreement 89 = .ok (.getfield 28, 3) := by decide +kernel
theorem dX2_agreement_92 : decode cX2_agreement 92 = .ok (.iload_n 1, 1) := by decide +kernel
theorem dX2_agreement_93 : decode cX2_agreement 93 = .ok (.invokevirtual 166, 3) := by decide +kernel
theorem dX2_agreement_96 : decode cX2_agreement 96 = .ok (.i2l, 1) := by decide +kernel
theorem dX2_agreement_97 : decode cX2_agreement 97 = .ok (.lmul, 1) := by decide +kernel
theorem dX2_agreement_98 : decode cX2_agreement 98 = .ok (.lstore 4, 2) := by decide +kernel
theorem dX2_agreement_100 : decode cX2_agreement 100 = .ok (.lload 4, 2) := by decide +kernel
theorem dX2_agreement_102 : decode cX2_agreement 102 = .ok (.lconst 0, 1) := by decide +kernel
theorem dX2_agreement_103 : decode cX2_agreement 103 = .ok (.lcmp, 1) := by decide +kernel
theorem dX2_agreement_104 : decode cX2_agreement 104 = .ok (.ifCond .le 15, 3) := by decide +kernel
theorem dX2_agreement_107 : decode cX2_agreement 107 = .ok (.ldc2_w 169, 3) := by decide +kernel
theorem dX2_agreement_110 : decode cX2_agreement 110 = .ok (.lload_n 2, 1) := by decide +kernel
theorem dX2_agreement_111 : decode cX2_agreement 111 = .ok (.lmul, 1) := by decide +kernel
theorem dX2_agreement_112 : decode cX2_agreement 112 = .ok (.lload 4, 2) := by decide +kernel
theorem dX2_agreement_114 : decode cX2_agreement 114 = .ok (.ldiv, 1) := by decide +kernel
theorem dX2_agreement_115 : decode cX2_agreement 115 = .ok (.l2i, 1) := by decide +kernel
theorem dX2_agreement_116 : decode cX2_agreement 116 = .ok (.goto 4, 3) := by decide +kernel
theorem dX2_agreement_119 : decode cX2_agreement 119 = .ok (.iconst (-1), 1) := by decide +kernel
theorem dX2_agreement_120 : decode cX2_agreement 120 = .ok (.ireturn, 1) := by decide +kernel
theorem dX1_greatestWeight_0 : decode cX1_greatestWeight 0 = .ok (.iconst 0, 1) := by decide +kernel
theorem dX1_greatestWeight_1 : decode cX1_greatestWeight 1 = .ok (.istore_n 2, 1) := by decide +kernel
theorem dX1_greatestWeight_2 : decode cX1_greatestWeight 2 = .ok (.aload_n 0, 1) := by decide +kernel
theorem dX1_greatestWeight_3 : decode cX1_greatestWeight 3 = .ok (.getfield 9, 3) := by decide +kernel
theorem dX1_greatestWeight_6 : decode cX1_greatestWeight 6 = .ok (.iload_n 1, 1) := by decide +kernel
theorem dX1_greatestWeight_7 : decode cX1_greatestWeight 7 = .ok (.iaload, 1) := by decide +kernel
theorem dX1_greatestWeight_8 : decode cX1_greatestWeight 8 = .ok (.istore_n 3, 1) := by decide +kernel
theorem dX1_greatestWeight_9 : decode cX1_greatestWeight 9 = .ok (.iload_n 3, 1) := by decide +kernel
theorem dX1_greatestWeight_10 : decode cX1_greatestWeight 10 = .ok (.aload_n 0, 1) := by decide +kernel
theorem dX1_greatestWeight_11 : decode cX1_greatestWeight 11 = .ok (.getfield 15, 3) := by decide +kernel
theorem dX1_greatestWeight_14 : decode cX1_greatestWeight 14 = .ok (.iload_n 1, 1) := by decide +kernel
theorem dX1_greatestWeight_15 : decode cX1_greatestWeight 15 = .ok (.iaload, 1) := by decide +kernel
theorem dX1_greatestWeight_16 : decode cX1_greatestWeight 16 = .ok (.if_icmp .gt 20, 3) := by decide +kernel
theorem dX1_greatestWeight_19 : decode cX1_greatestWeight 19 = .ok (.iload_n 2, 1) := by decide +kernel
theorem dX1_greatestWeight_20 : decode cX1_greatestWeight 20 = .ok (.aload_n 0, 1) := by decide +kernel
theorem dX1_greatestWeight_21 : decode cX1_greatestWeight 21 = .ok (.iload_n 1, 1) := by decide +kernel
theorem dX1_greatestWeight_22 : decode cX1_greatestWeight 22 = .ok (.iload_n 3, 1) := by decide +kernel
theorem dX1_greatestWeight_23 : decode cX1_greatestWeight 23 = .ok (.invokevirtual 45, 3) := by decide +kernel
theorem dX1_greatestWeight_26 : decode cX1_greatestWeight 26 = .ok (.invokestatic 49, 3) := by decide +kernel
theorem dX1_greatestWeight_29 : decode cX1_greatestWeight 29 = .ok (.istore_n 2, 1) := by decide +kernel
theorem dX1_greatestWeight_30 : decode cX1_greatestWeight 30 = .ok (.iinc 3 1, 3) := by decide +kernel
theorem dX1_greatestWeight_33 : decode cX1_greatestWeight 33 = .ok (.goto (-24), 3) := by decide +kernel
theorem dX1_greatestWeight_36 : decode cX1_greatestWeight 36 = .ok (.iload_n 2, 1) := by decide +kernel
theorem dX1_greatestWeight_37 : decode cX1_greatestWeight 37 = .ok (.ireturn, 1) := by decide +kernel
theorem dX2_spans_0 : decode cX2_spans 0 = .ok (.iload_n 1, 1) := by decide +kernel
theorem dX2_spans_1 : decode cX2_spans 1 = .ok (.invokestatic 106, 3) := by decide +kernel
theorem dX2_spans_4 : decode cX2_spans 4 = .ok (.iload_n 2, 1) := by decide +kernel
theorem dX2_spans_5 : decode cX2_spans 5 = .ok (.invokestatic 58, 3) := by decide +kernel
theorem dX2_spans_8 : decode cX2_spans 8 = .ok (.aload_n 0, 1) := by decide +kernel
theorem dX2_spans_9 : decode cX2_spans 9 = .ok (.invokevirtual 138, 3) := by decide +kernel
theorem dX2_spans_12 : decode cX2_spans 12 = .ok (.iconst 0, 1) := by decide +kernel
theorem dX2_spans_13 : decode cX2_spans 13 = .ok (.istore_n 3, 1) := by decide +kernel
theorem dX2_spans_14 : decode cX2_spans 14 = .ok (.iconst 0, 1) := by decide +kernel
theorem dX2_spans_15 : decode cX2_spans 15 = .ok (.istore 4, 2) := by decide +kernel
theorem dX2_spans_17 : decode cX2_spans 17 = .ok (.iload 4, 2) := by decide +kernel
theorem dX2_spans_19 : decode cX2_spans 19 = .ok (.aload_n 0, 1) := by decide +kernel
theorem dX2_spans_20 : decode cX2_spans 20 = .ok (.getfield 22, 3) := by decide +kernel
theorem dX2_spans_23 : decode cX2_spans 23 = .ok (.if_icmp .ge 46, 3) := by decide +kernel
theorem dX2_spans_26 : decode cX2_spans 26 = .ok (.iconst 0, 1) := by decide +kernel
theorem dX2_spans_27 : decode cX2_spans 27 = .ok (.istore 5, 2) := by decide +kernel
theorem dX2_spans_29 : decode cX2_spans 29 = .ok (.iload 5, 2) := by decide +kernel
theorem dX2_spans_31 : decode cX2_spans 31 = .ok (.aload_n 0, 1) := by decide +kernel
theorem dX2_spans_32 : decode cX2_spans 32 = .ok (.getfield 37, 3) := by decide +kernel
theorem dX2_spans_35 : decode cX2_spans 35 = .ok (.getfield 117, 3) := by decide +kernel
theorem dX2_spans_38 : decode cX2_spans 38 = .ok (.if_icmp .ge 25, 3) := by decide +kernel
theorem dX2_spans_41 : decode cX2_spans 41 = .ok (.aload_n 0, 1) := by decide +kernel
theorem dX2_spans_42 : decode cX2_spans 42 = .ok (.iload_n 1, 1) := by decide +kernel
theorem dX2_spans_43 : decode cX2_spans 43 = .ok (.iload 4, 2) := by decide +kernel
theorem dX2_spans_45 : decode cX2_spans 45 = .ok (.iload 5, 2) := by decide +kernel
theorem dX2_spans_47 : decode cX2_spans 47 = .ok (.invokevirtual 171, 3) := by decide +kernel
theorem dX2_spans_50 : decode cX2_spans 50 = .ok (.iload_n 2, 1) := by decide +kernel
theorem dX2_spans_51 : decode cX2_spans 51 = .ok (.if_icmp .ne 6, 3) := by decide +kernel
theorem dX2_spans_54 : decode cX2_spans 54 = .ok (.iinc 3 1, 3) := by decide +kernel
theorem dX2_spans_57 : decode cX2_spans 57 = .ok (.iinc 5 1, 3) := by decide +kernel
theorem dX2_spans_60 : decode cX2_spans 60 = .ok (.goto (-31), 3) := by decide +kernel
theorem dX2_spans_63 : decode cX2_spans 63 = .ok (.iinc 4 1, 3) := by decide +kernel
theorem dX2_spans_66 : decode cX2_spans 66 = .ok (.goto (-49), 3) := by decide +kernel
theorem dX2_spans_69 : decode cX2_spans 69 = .ok (.iload_n 3, 1) := by decide +kernel
theorem dX2_spans_70 : decode cX2_spans 70 = .ok (.ireturn, 1) := by decide +kernel
theorem dX2_spanOf_0 : decode cX2_spanOf 0 = .ok (.sipush 256, 3) := by decide +kernel
theorem dX2_spanOf_3 : decode cX2_spanOf 3 = .ok (.istore 4, 2) := by decide +kernel
theorem dX2_spanOf_5 : decode cX2_spanOf 5 = .ok (.iconst (-1), 1) := by decide +kernel
theorem dX2_spanOf_6 : decode cX2_spanOf 6 = .ok (.istore 5, 2) := by decide +kernel
theorem dX2_spanOf_8 : decode cX2_spanOf 8 = .ok (.iconst 0, 1) := by decide +kernel
theorem dX2_spanOf_9 : decode cX2_spanOf 9 = .ok (.istore 6, 2) := by decide +kernel
theorem dX2_spanOf_11 : decode cX2_spanOf 11 = .ok (.iload 6, 2) := by decide +kernel
theorem dX2_spanOf_13 : decode cX2_spanOf 13 = .ok (.aload_n 0, 1) := by decide +kernel
theorem dX2_spanOf_14 : decode cX2_spanOf 14 = .ok (.getfield 28, 3) := by decide +kernel
theorem dX2_spanOf_17 : decode cX2_spanOf 17 = .ok (.getfield 68, 3) := by decide +kernel
theorem dX2_spanOf_20 : decode cX2_spanOf 20 = .ok (.if_icmp .ge 54, 3) := by decide +kernel
theorem dX2_spanOf_23 : decode cX2_spanOf 23 = .ok (.aload_n 0, 1) := by decide +kernel
theorem dX2_spanOf_24 : decode cX2_spanOf 24 = .ok (.getfield 28, 3) := by decide +kernel
theorem dX2_spanOf_27 : decode cX2_spanOf 27 = .ok (.getfield 109, 3) := by decide +kernel
theorem dX2_spanOf_30 : decode cX2_spanOf 30 = .ok (.iload 6, 2) := by decide +kernel
theorem dX2_spanOf_32 : decode cX2_spanOf 32 = .ok (.iaload, 1) := by decide +kernel
theorem dX2_spanOf_33 : decode cX2_spanOf 33 = .ok (.iload_n 1, 1) := by decide +kernel
theorem dX2_spanOf_34 : decode cX2_spanOf 34 = .ok (.if_icmp .ne 34, 3) := by decide +kernel
theorem dX2_spanOf_37 : decode cX2_spanOf 37 = .ok (.aload_n 0, 1) := by decide +kernel
theorem dX2_spanOf_38 : decode cX2_spanOf 38 = .ok (.getfield 37, 3) := by decide +kernel
theorem dX2_spanOf_41 : decode cX2_spanOf 41 = .ok (.iload_n 2, 1) := by decide +kernel
theorem dX2_spanOf_42 : decode cX2_spanOf 42 = .ok (.iload_n 3, 1) := by decide +kernel
theorem dX2_spanOf_43 : decode cX2_spanOf 43 = .ok (.iload 6, 2) := by decide +kernel
theorem dX2_spanOf_45 : decode cX2_spanOf 45 = .ok (.invokevirtual 157, 3) := by decide +kernel
theorem dX2_spanOf_48 : decode cX2_spanOf 48 = .ok (.istore 7, 2) := by decide +kernel
theorem dX2_spanOf_50 : decode cX2_spanOf 50 = .ok (.iload 4, 2) := by decide +kernel
theorem dX2_spanOf_52 : decode cX2_spanOf 52 = .ok (.iload 7, 2) := by decide +kernel
theorem dX2_spanOf_54 : decode cX2_spanOf 54 = .ok (.invokestatic 13, 3) := by decide +kernel
theorem dX2_spanOf_57 : decode cX2_spanOf 57 = .ok (.istore 4, 2) := by decide +kernel
theorem dX2_spanOf_59 : decode cX2_spanOf 59 = .ok (.iload 5, 2) := by decide +kernel
theorem dX2_spanOf_61 : decode cX2_spanOf 61 = .ok (.iload 7, 2) := by decide +kernel
theorem dX2_spanOf_63 : decode cX2_spanOf 63 = .ok (.invokestatic 19, 3) := by decide +kernel
theorem dX2_spanOf_66 : decode cX2_spanOf 66 = .ok (.istore 5, 2) := by decide +kernel
theorem dX2_spanOf_68 : decode cX2_spanOf 68 = .ok (.iinc 6 1, 3) := by decide +kernel
theorem dX2_spanOf_71 : decode cX2_spanOf 71 = .ok (.goto (-60), 3) := by decide +kernel
theorem dX2_spanOf_74 : decode cX2_spanOf 74 = .ok (.iload 5, 2) := by decide +kernel
theorem dX2_spanOf_76 : decode cX2_spanOf 76 = .ok (.iconst (-1), 1) := by decide +kernel
theorem dX2_spanOf_77 : decode cX2_spanOf 77 = .ok (.if_icmp .ne 7, 3) := by decide +kernel
theorem dX2_spanOf_80 : decode cX2_spanOf 80 = .ok (.iconst (-1), 1) := by decide +kernel
theorem dX2_spanOf_81 : decode cX2_spanOf 81 = .ok (.goto 8, 3) := by decide +kernel
theorem dX2_spanOf_84 : decode cX2_spanOf 84 = .ok (.iload 5, 2) := by decide +kernel
theorem dX2_spanOf_86 : decode cX2_spanOf 86 = .ok (.iload 4, 2) := by decide +kernel
theorem dX2_spanOf_88 : decode cX2_spanOf 88 = .ok (.isub, 1) := by decide +kernel
theorem dX2_spanOf_89 : decode cX2_spanOf 89 = .ok (.ireturn, 1) := by decide +kernel
theorem dX2_save_0 : decode cX2_save 0 = .ok (.aload_n 0, 1) := by decide +kernel
theorem dX2_save_1 : decode cX2_save 1 = .ok (.invokevirtual 138, 3) := by decide +kernel
theorem dX2_save_4 : decode cX2_save 4 = .ok (.aload_n 0, 1) := by decide +kernel
theorem dX2_save_5 : decode cX2_save 5 = .ok (.getfield 45, 3) := by decide +kernel
theorem dX2_save_8 : decode cX2_save 8 = .ok (.iconst 4, 1) := by decide +kernel
theorem dX2_save_9 : decode cX2_save 9 = .ok (.if_icmp .lt 13, 3) := by decide +kernel
theorem dX2_save_12 : decode cX2_save 12 = .ok (.new 71, 3) := by decide +kernel
theorem dX2_save_15 : decode cX2_save 15 = .ok (.dup, 1) := by decide +kernel
theorem dX2_save_16 : decode cX2_save 16 = .ok (.ldc 174, 2) := by decide +kernel
theorem dX2_save_18 : decode cX2_save 18 = .ok (.invokespecial 75, 3) := by decide +kernel
theorem dX2_save_21 : decode cX2_save 21 = .ok (.athrow, 1) := by decide +kernel
theorem dX2_save_22 : decode cX2_save 22 = .ok (.aload_n 0, 1) := by decide +kernel
theorem dX2_save_23 : decode cX2_save 23 = .ok (.getfield 41, 3) := by decide +kernel
theorem dX2_save_26 : decode cX2_save 26 = .ok (.aload_n 0, 1) := by decide +kernel
theorem dX2_save_27 : decode cX2_save 27 = .ok (.getfield 45, 3) := by decide +kernel
theorem dX2_save_30 : decode cX2_save 30 = .ok (.aaload, 1) := by decide +kernel
theorem dX2_save_31 : decode cX2_save 31 = .ok (.aload_n 0, 1) := by decide +kernel
theorem dX2_save_32 : decode cX2_save 32 = .ok (.getfield 37, 3) := by decide +kernel
theorem dX2_save_35 : decode cX2_save 35 = .ok (.invokevirtual 176, 3) := by decide +kernel
theorem dX2_save_38 : decode cX2_save 38 = .ok (.aload_n 0, 1) := by decide +kernel
theorem dX2_save_39 : decode cX2_save 39 = .ok (.dup, 1) := by decide +kernel
theorem dX2_save_40 : decode cX2_save 40 = .ok (.getfield 45, 3) := by decide +kernel
theorem dX2_save_43 : decode cX2_save 43 = .ok (.iconst 1, 1) := by decide +kernel
theorem dX2_save_44 : decode cX2_save 44 = .ok (.iadd, 1) := by decide +kernel
theorem dX2_save_45 : decode cX2_save 45 = .ok (.putfield 45, 3) := by decide +kernel
theorem dX2_save_48 : decode cX2_save 48 = .ok (.aload_n 0, 1) := by decide +kernel
theorem dX2_save_49 : decode cX2_save 49 = .ok (.getfield 45, 3) := by decide +kernel
theorem dX2_save_52 : decode cX2_save 52 = .ok (.iconst 1, 1) := by decide +kernel
theorem dX2_save_53 : decode cX2_save 53 = .ok (.isub, 1) := by decide +kernel
theorem dX2_save_54 : decode cX2_save 54 = .ok (.ireturn, 1) := by decide +kernel
theorem dX0_take_0 : decode cX0_take 0 = .ok (.iconst 0, 1) := by decide +kernel
theorem dX0_take_1 : decode cX0_take 1 = .ok (.istore_n 2, 1) := by decide +kernel
theorem dX0_take_2 : decode cX0_take 2 = .ok (.iload_n 2, 1) := by decide +kernel
theorem dX0_take_3 : decode cX0_take 3 = .ok (.aload_n 0, 1) := by decide +kernel
theorem dX0_take_4 : decode cX0_take 4 = .ok (.getfield 16, 3) := by decide +kernel
theorem dX0_take_7 : decode cX0_take 7 = .ok (.arraylength, 1) := by decide +kernel
theorem dX0_take_8 : decode cX0_take 8 = .ok (.if_icmp .ge 64, 3) := by decide +kernel
theorem dX0_take_11 : decode cX0_take 11 = .ok (.aload_n 1, 1) := by decide +kernel
theorem dX0_take_12 : decode cX0_take 12 = .ok (.getfield 11, 3) := by decide +kernel
theorem dX0_take_15 : decode cX0_take 15 = .ok (.iload_n 2, 1) := by decide +kernel
theorem dX0_take_16 : decode cX0_take 16 = .ok (.aaload, 1) := by decide +kernel
theorem dX0_take_17 : decode cX0_take 17 = .ok (.iconst 0, 1) := by decide +kernel
theorem dX0_take_18 : decode cX0_take 18 = .ok (.aload_n 0, 1) := by decide +kernel
theorem dX0_take_19 : decode cX0_take 19 = .ok (.getfield 11, 3) := by decide +kernel
theorem dX0_take_22 : decode cX0_take 22 = .ok (.iload_n 2, 1) := by decide +kernel
theorem dX0_take_23 : decode cX0_take 23 = .ok (.aaload, 1) := by decide +kernel
theorem dX0_take_24 : decode cX0_take 24 = .ok (.iconst 0, 1) := by decide +kernel
theorem dX0_take_25 : decode cX0_take 25 = .ok (.bipush 8, 2) := by decide +kernel
theorem dX0_take_27 : decode cX0_take 27 = .ok (.invokestatic 30, 3) := by decide +kernel
theorem dX0_take_30 : decode cX0_take 30 = .ok (.aload_n 1, 1) := by decide +kernel
theorem dX0_take_31 : decode cX0_take 31 = .ok (.getfield 20, 3) := by decide +kernel
theorem dX0_take_34 : decode cX0_take 34 = .ok (.iload_n 2, 1) := by decide +kernel
theorem dX0_take_35 : decode cX0_take 35 = .ok (.aaload, 1) := by decide +kernel
theorem dX0_take_36 : decode cX0_take 36 = .ok (.iconst 0, 1) := by decide +kernel
theorem dX0_take_37 : decode cX0_take 37 = .ok (.aload_n 0, 1) := by decide +kernel
theorem dX0_take_38 : decode cX0_take 38 = .ok (.getfield 20, 3) := by decide +kernel
theorem dX0_take_41 : decode cX0_take 41 = .ok (.iload_n 2, 1) := by decide +kernel
theorem dX0_take_42 : decode cX0_take 42 = .ok (.aaload, 1) := by decide +kernel
theorem dX0_take_43 : decode cX0_take 43 = .ok (.iconst 0, 1) := by decide +kernel
theorem dX0_take_44 : decode cX0_take 44 = .ok (.aload_n 1, 1) := by decide +kernel
theorem dX0_take_45 : decode cX0_take 45 = .ok (.getfield 23, 3) := by decide +kernel
theorem dX0_take_48 : decode cX0_take 48 = .ok (.bipush 8, 2) := by decide +kernel
theorem dX0_take_50 : decode cX0_take 50 = .ok (.imul, 1) := by decide +kernel
theorem dX0_take_51 : decode cX0_take 51 = .ok (.invokestatic 30, 3) := by decide +kernel
theorem dX0_take_54 : decode cX0_take 54 = .ok (.aload_n 0, 1) := by decide +kernel
theorem dX0_take_55 : decode cX0_take 55 = .ok (.getfield 16, 3) := by decide +kernel
theorem dX0_take_58 : decode cX0_take 58 = .ok (.iload_n 2, 1) := by decide +kernel
theorem dX0_take_59 : decode cX0_take 59 = .ok (.aload_n 1, 1) := by decide +kernel
theorem dX0_take_60 : decode cX0_take 60 = .ok (.getfield 16, 3) := by decide +kernel
theorem dX0_take_63 : decode cX0_take 63 = .ok (.iload_n 2, 1) := by decide +kernel
theorem dX0_take_64 : decode cX0_take 64 = .ok (.laload, 1) := by decide +kernel
theorem dX0_take_65 : decode cX0_take 65 = .ok (.lastore, 1) := by decide +kernel
theorem dX0_take_66 : decode cX0_take 66 = .ok (.iinc 2 1, 3) := by decide +kernel
theorem dX0_take_69 : decode cX0_take 69 = .ok (.goto (-67), 3) := by decide +kernel
theorem dX0_take_72 : decode cX0_take 72 = .ok (.aload_n 0, 1) := by decide +kernel
theorem dX0_take_73 : decode cX0_take 73 = .ok (.aload_n 1, 1) := by decide +kernel
theorem dX0_take_74 : decode cX0_take 74 = .ok (.getfield 23, 3) := by decide +kernel
theorem dX0_take_77 : decode cX0_take 77 = .ok (.putfield 23, 3) := by decide +kernel
theorem dX0_take_80 : decode cX0_take 80 = .ok (.aload_n 0, 1) := by decide +kernel
theorem dX0_take_81 : decode cX0_take 81 = .ok (.aload_n 1, 1) := by decide +kernel
theorem dX0_take_82 : decode cX0_take 82 = .ok (.getfield 27, 3) := by decide +kernel
theorem dX0_take_85 : decode cX0_take 85 = .ok (.putfield 27, 3) := by decide +kernel
theorem dX0_take_88 : decode cX0_take 88 = .ok (.return_, 1) := by decide +kernel
theorem dX2_back_0 : decode cX2_back 0 = .ok (.iload_n 1, 1) := by decide +kernel
theorem dX2_back_1 : decode cX2_back 1 = .ok (.ifCond .lt 11, 3) := by decide +kernel
theorem dX2_back_4 : decode cX2_back 4 = .ok (.iload_n 1, 1) := by decide +kernel
theorem dX2_back_5 : decode cX2_back 5 = .ok (.aload_n 0, 1) := by decide +kernel
theorem dX2_back_6 : decode cX2_back 6 = .ok (.getfield 45, 3) := by decide +kernel
theorem dX2_back_9 : decode cX2_back 9 = .ok (.if_icmp .lt 13, 3) := by decide +kernel
theorem dX2_back_12 : decode cX2_back 12 = .ok (.new 150, 3) := by decide +kernel
theorem dX2_back_15 : decode cX2_back 15 = .ok (.dup, 1) := by decide +kernel
theorem dX2_back_16 : decode cX2_back 16 = .ok (.ldc 180, 2) := by decide +kernel
theorem dX2_back_18 : decode cX2_back 18 = .ok (.invokespecial 154, 3) := by decide +kernel
theorem dX2_back_21 : decode cX2_back 21 = .ok (.athrow, 1) := by decide +kernel
theorem dX2_back_22 : decode cX2_back 22 = .ok (.aload_n 0, 1) := by decide +kernel
theorem dX2_back_23 : decode cX2_back 23 = .ok (.getfield 37, 3) := by decide +kernel
theorem dX2_back_26 : decode cX2_back 26 = .ok (.aload_n 0, 1) := by decide +kernel
theorem dX2_back_27 : decode cX2_back 27 = .ok (.getfield 41, 3) := by decide +kernel
theorem dX2_back_30 : decode cX2_back 30 = .ok (.iload_n 1, 1) := by decide +kernel
theorem dX2_back_31 : decode cX2_back 31 = .ok (.aaload, 1) := by decide +kernel
theorem dX2_back_32 : decode cX2_back 32 = .ok (.invokevirtual 176, 3) := by decide +kernel
theorem dX2_back_35 : decode cX2_back 35 = .ok (.aload_n 0, 1) := by decide +kernel
theorem dX2_back_36 : decode cX2_back 36 = .ok (.iconst 1, 1) := by decide +kernel
theorem dX2_back_37 : decode cX2_back 37 = .ok (.putfield 48, 3) := by decide +kernel
theorem dX2_back_40 : decode cX2_back 40 = .ok (.aload_n 0, 1) := by decide +kernel
theorem dX2_back_41 : decode cX2_back 41 = .ok (.getfield 37, 3) := by decide +kernel
theorem dX2_back_44 : decode cX2_back 44 = .ok (.getfield 117, 3) := by decide +kernel
theorem dX2_back_47 : decode cX2_back 47 = .ok (.ireturn, 1) := by decide +kernel
theorem dX2_count_0 : decode cX2_count 0 = .ok (.iload_n 1, 1) := by decide +kernel
theorem dX2_count_1 : decode cX2_count 1 = .ok (.tableswitch 103 0 5 #[39, 47, 55, 60, 79, 98], 39) := by decide +kernel
theorem dX2_count_40 : decode cX2_count 40 = .ok (.aload_n 0, 1) := by decide +kernel
theorem dX2_count_41 : decode cX2_count 41 = .ok (.getfield 28, 3) := by decide +kernel
theorem dX2_count_44 : decode cX2_count 44 = .ok (.getfield 68, 3) := by decide +kernel
theorem dX2_count_47 : decode cX2_count 47 = .ok (.ireturn, 1) := by decide +kernel
theorem dX2_count_48 : decode cX2_count 48 = .ok (.aload_n 0, 1) := by decide +kernel
theorem dX2_count_49 : decode cX2_count 49 = .ok (.getfield 28, 3) := by decide +kernel
theorem dX2_count_52 : decode cX2_count 52 = .ok (.getfield 97, 3) := by decide +kernel
theorem dX2_count_55 : decode cX2_count 55 = .ok (.ireturn, 1) := by decide +kernel
theorem dX2_count_56 : decode cX2_count 56 = .ok (.aload_n 0, 1) := by decide +kernel
theorem dX2_count_57 : decode cX2_count 57 = .ok (.getfield 22, 3) := by decide +kernel
theorem dX2_count_60 : decode cX2_count 60 = .ok (.ireturn, 1) := by decide +kernel
theorem dX2_count_61 : decode cX2_count 61 = .ok (.aload_n 0, 1) := by decide +kernel
theorem dX2_count_62 : decode cX2_count 62 = .ok (.getfield 48, 3) := by decide +kernel
theorem dX2_count_65 : decode cX2_count 65 = .ok (.ifCond .eq 13, 3) := by decide +kernel
theorem dX2_count_68 : decode cX2_count 68 = .ok (.aload_n 0, 1) := by decide +kernel
theorem dX2_count_69 : decode cX2_count 69 = .ok (.getfield 37, 3) := by decide +kernel
theorem dX2_count_72 : decode cX2_count 72 = .ok (.getfield 117, 3) := by decide +kernel
theorem dX2_count_75 : decode cX2_count 75 = .ok (.goto 4, 3) := by decide +kernel
theorem dX2_count_78 : decode cX2_count 78 = .ok (.iconst 0, 1) := by decide +kernel
theorem dX2_count_79 : decode cX2_count 79 = .ok (.ireturn, 1) := by decide +kernel
theorem dX2_count_80 : decode cX2_count 80 = .ok (.aload_n 0, 1) := by decide +kernel
theorem dX2_count_81 : decode cX2_count 81 = .ok (.getfield 48, 3) := by decide +kernel
theorem dX2_count_84 : decode cX2_count 84 = .ok (.ifCond .eq 13, 3) := by decide +kernel
theorem dX2_count_87 : decode cX2_count 87 = .ok (.aload_n 0, 1) := by decide +kernel
theorem dX2_count_88 : decode cX2_count 88 = .ok (.getfield 37, 3) := by decide +kernel
theorem dX2_count_91 : decode cX2_count 91 = .ok (.getfield 120, 3) := by decide +kernel
theorem dX2_count_94 : decode cX2_count 94 = .ok (.goto 4, 3) := by decide +kernel
theorem dX2_count_97 : decode cX2_count 97 = .ok (.iconst 0, 1) := by decide +kernel
theorem dX2_count_98 : decode cX2_count 98 = .ok (.ireturn, 1) := by decide +kernel
theorem dX2_count_99 : decode cX2_count 99 = .ok (.aload_n 0, 1) := by decide +kernel
theorem dX2_count_100 : decode cX2_count 100 = .ok (.getfield 45, 3) := by decide +kernel
theorem dX2_count_103 : decode cX2_count 103 = .ok (.ireturn, 1) := by decide +kernel
theorem dX2_count_104 : decode cX2_count 104 = .ok (.new 150, 3) := by decide +kernel
theorem dX2_count_107 : decode cX2_count 107 = .ok (.dup, 1) := by decide +kernel
theorem dX2_count_108 : decode cX2_count 108 = .ok (.ldc 182, 2) := by decide +kernel
theorem dX2_count_110 : decode cX2_count 110 = .ok (.invokespecial 154, 3) := by decide +kernel
theorem dX2_count_113 : decode cX2_count 113 = .ok (.athrow, 1) := by decide +kernel
end
section
theorem dX3_init_0 : decode cX3_init 0 = .ok (.aload_n 0, 1) := by decide +kernel
theorem dX3_init_1 : decode cX3_init 1 = .ok (.invokespecial 1, 3) := by decide +kernel
theorem dX3_init_4 : decode cX3_init 4 = .ok (.aload_n 0, 1) := by decide +kernel
theorem dX3_init_5 : decode cX3_init 5 = .ok (.bipush 8, 2) := by decide +kernel
theorem dX3_init_7 : decode cX3_init 7 = .ok (.newarray .int, 2) := by decide +kernel
theorem dX3_init_9 : decode cX3_init 9 = .ok (.putfield 7, 3) := by decide +kernel
theorem dX3_init_12 : decode cX3_init 12 = .ok (.aload_n 0, 1) := by decide +kernel
theorem dX3_init_13 : decode cX3_init 13 = .ok (.bipush 8, 2) := by decide +kernel
theorem dX3_init_15 : decode cX3_init 15 = .ok (.newarray .int, 2) := by decide +kernel
theorem dX3_init_17 : decode cX3_init 17 = .ok (.putfield 13, 3) := by decide +kernel
theorem dX3_init_20 : decode cX3_init 20 = .ok (.aload_n 0, 1) := by decide +kernel
theorem dX3_init_21 : decode cX3_init 21 = .ok (.sipush 512, 3) := by decide +kernel
theorem dX3_init_24 : decode cX3_init 24 = .ok (.newarray .int, 2) := by decide +kernel
theorem dX3_init_26 : decode cX3_init 26 = .ok (.putfield 16, 3) := by decide +kernel
theorem dX3_init_29 : decode cX3_init 29 = .ok (.aload_n 0, 1) := by decide +kernel
theorem dX3_init_30 : decode cX3_init 30 = .ok (.bipush 8, 2) := by decide +kernel
theorem dX3_init_32 : decode cX3_init 32 = .ok (.newarray .int, 2) := by decide +kernel
theorem dX3_init_34 : decode cX3_init 34 = .ok (.putfield 19, 3) := by decide +kernel
theorem dX3_init_37 : decode cX3_init 37 = .ok (.aload_n 0, 1) := by decide +kernel
theorem dX3_init_38 : decode cX3_init 38 = .ok (.bipush 24, 2) := by decide +kernel
theorem dX3_init_40 : decode cX3_init 40 = .ok (.newarray .int, 2) := by decide +kernel
theorem dX3_init_42 : decode cX3_init 42 = .ok (.putfield 22, 3) := by decide +kernel
theorem dX3_init_45 : decode cX3_init 45 = .ok (.aload_n 0, 1) := by decide +kernel
theorem dX3_init_46 : decode cX3_init 46 = .ok (.bipush 24, 2) := by decide +kernel
theorem dX3_init_48 : decode cX3_init 48 = .ok (.newarray .int, 2) := by decide +kernel
theorem dX3_init_50 : decode cX3_init 50 = .ok (.putfield 25, 3) := by decide +kernel
theorem dX3_init_53 : decode cX3_init 53 = .ok (.aload_n 0, 1) := by decide +kernel
theorem dX3_init_54 : decode cX3_init 54 = .ok (.bipush 24, 2) := by decide +kernel
theorem dX3_init_56 : decode cX3_init 56 = .ok (.newarray .int, 2) := by decide +kernel
theorem dX3_init_58 : decode cX3_init 58 = .ok (.putfield 28, 3) := by decide +kernel
theorem dX3_init_61 : decode cX3_init 61 = .ok (.aload_n 0, 1) := by decide +kernel
theorem dX3_init_62 : decode cX3_init 62 = .ok (.bipush 24, 2) := by decide +kernel
theorem dX3_init_64 : decode cX3_init 64 = .ok (.newarray .int, 2) := by decide +kernel
theorem dX3_init_66 : decode cX3_init 66 = .ok (.putfield 31, 3) := by decide +kernel
theorem dX3_init_69 : decode cX3_init 69 = .ok (.aload_n 0, 1) := by decide +kernel
theorem dX3_init_70 : decode cX3_init 70 = .ok (.iconst 1, 1) := by decide +kernel
theorem dX3_init_71 : decode cX3_init 71 = .ok (.putfield 34, 3) := by decide +kernel
theorem dX3_init_74 : decode cX3_init 74 = .ok (.aload_n 0, 1) := by decide +kernel
theorem dX3_init_75 : decode cX3_init 75 = .ok (.bipush 32, 2) := by decide +kernel
theorem dX3_init_77 : decode cX3_init 77 = .ok (.newarray .int, 2) := by decide +kernel
theorem dX3_init_79 : decode cX3_init 79 = .ok (.putfield 38, 3) := by decide +kernel
theorem dX3_init_82 : decode cX3_init 82 = .ok (.aload_n 0, 1) := by decide +kernel
theorem dX3_init_83 : decode cX3_init 83 = .ok (.iconst 4, 1) := by decide +kernel
theorem dX3_init_84 : decode cX3_init 84 = .ok (.newarray .long, 2) := by decide +kernel
theorem dX3_init_86 : decode cX3_init 86 = .ok (.putfield 41, 3) := by decide +kernel
theorem dX3_init_89 : decode cX3_init 89 = .ok (.aload_n 0, 1) := by decide +kernel
theorem dX3_init_90 : decode cX3_init 90 = .ok (.sipush 1920, 3) := by decide +kernel
theorem dX3_init_93 : decode cX3_init 93 = .ok (.newarray .int, 2) := by decide +kernel
theorem dX3_init_95 : decode cX3_init 95 = .ok (.putfield 45, 3) := by decide +kernel
theorem dX3_init_98 : decode cX3_init 98 = .ok (.aload_n 0, 1) := by decide +kernel
theorem dX3_init_99 : decode cX3_init 99 = .ok (.sipush 128, 3) := by decide +kernel
theorem dX3_init_102 : decode cX3_init 102 = .ok (.newarray .int, 2) := by decide +kernel
theorem dX3_init_104 : decode cX3_init 104 = .ok (.putfield 48, 3) := by decide +kernel
theorem dX3_init_107 : decode cX3_init 107 = .ok (.aload_n 0, 1) := by decide +kernel
theorem dX3_init_108 : decode cX3_init 108 = .ok (.bipush 16, 2) := by decide +kernel
theorem dX3_init_110 : decode cX3_init 110 = .ok (.newarray .long, 2) := by decide +kernel
theorem dX3_init_112 : decode cX3_init 112 = .ok (.putfield 51, 3) := by decide +kernel
theorem dX3_init_115 : decode cX3_init 115 = .ok (.aload_n 0, 1) := by decide +kernel
theorem dX3_init_116 : decode cX3_init 116 = .ok (.sipush 7680, 3) := by decide +kernel
theorem dX3_init_119 : decode cX3_init 119 = .ok (.newarray .int, 2) := by decide +kernel
theorem dX3_init_121 : decode cX3_init 121 = .ok (.putfield 54, 3) := by decide +kernel
theorem dX3_init_124 : decode cX3_init 124 = .ok (.aload_n 0, 1) := by decide +kernel
theorem dX3_init_125 : decode cX3_init 125 = .ok (.iconst 4, 1) := by decide +kernel
theorem dX3_init_126 : decode cX3_init 126 = .ok (.newarray .int, 2) := by decide +kernel
theorem dX3_init_128 : decode cX3_init 128 = .ok (.putfield 57, 3) := by decide +kernel
theorem dX3_init_131 : decode cX3_init 131 = .ok (.aload_n 0, 1) := by decide +kernel
theorem dX3_init_132 : decode cX3_init 132 = .ok (.iconst 4, 1) := by decide +kernel
theorem dX3_init_133 : decode cX3_init 133 = .ok (.newarray .int, 2) := by decide +kernel
theorem dX3_init_135 : decode cX3_init 135 = .ok (.putfield 60, 3) := by decide +kernel
theorem dX3_init_138 : decode cX3_init 138 = .ok (.aload_n 0, 1) := by decide +kernel
theorem dX3_init_139 : decode cX3_init 139 = .ok (.iload_n 1, 1) := by decide +kernel
theorem dX3_init_140 : decode cX3_init 140 = .ok (.putfield 63, 3) := by decide +kernel
theorem dX3_init_143 : decode cX3_init 143 = .ok (.aload_n 0, 1) := by decide +kernel
theorem dX3_init_144 : decode cX3_init 144 = .ok (.iload_n 2, 1) := by decide +kernel
theorem dX3_init_145 : decode cX3_init 145 = .ok (.iconst 1, 1) := by decide +kernel
theorem dX3_init_146 : decode cX3_init 146 = .ok (.if_icmp .ge 7, 3) := by decide +kernel
theorem dX3_init_149 : decode cX3_init 149 = .ok (.iconst 1, 1) := by decide +kernel
theorem dX3_init_150 : decode cX3_init 150 = .ok (.goto 13, 3) := by decide +kernel
theorem dX3_init_153 : decode cX3_init 153 = .ok (.iload_n 2, 1) := by decide +kernel
theorem dX3_init_154 : decode cX3_init 154 = .ok (.iconst 4, 1) := by decide +kernel
theorem dX3_init_155 : decode cX3_init 155 = .ok (.if_icmp .le 7, 3) := by decide +kernel
theorem dX3_init_158 : decode cX3_init 158 = .ok (.iconst 4, 1) := by decide +kernel
theorem dX3_init_159 : decode cX3_init 159 = .ok (.goto 4, 3) := by decide +kernel
theorem dX3_init_162 : decode cX3_init 162 = .ok (.iload_n 2, 1) := by decide +kernel
theorem dX3_init_163 : decode cX3_init 163 = .ok (.putfield 66, 3) := by decide +kernel
theorem dX3_init_166 : decode cX3_init 166 = .ok (.return_, 1) := by decide +kernel
theorem dX3_thrown_0 : decode cX3_thrown 0 = .ok (.aload_n 0, 1) := by decide +kernel
theorem dX3_thrown_1 : decode cX3_thrown 1 = .ok (.getfield 69, 3) := by decide +kernel
theorem dX3_thrown_4 : decode cX3_thrown 4 = .ok (.ireturn, 1) := by decide +kernel
theorem dX3_date_0 : decode cX3_date 0 = .ok (.iload_n 1, 1) := by decide +kernel
theorem dX3_date_1 : decode cX3_date 1 = .ok (.iconst 0, 1) := by decide +kernel
theorem dX3_date_2 : decode cX3_date 2 = .ok (.sipush 255, 3) := by decide +kernel
theorem dX3_date_5 : decode cX3_date 5 = .ok (.invokestatic 75, 3) := by decide +kernel
theorem dX3_date_8 : decode cX3_date 8 = .ok (.ifCond .eq 27, 3) := by decide +kernel
theorem dX3_date_11 : decode cX3_date 11 = .ok (.iload_n 2, 1) := by decide +kernel
theorem dX3_date_12 : decode cX3_date 12 = .ok (.iconst 0, 1) := by decide +kernel
theorem dX3_date_13 : decode cX3_date 13 = .ok (.sipush 255, 3) := by decide +kernel
theorem dX3_date_16 : decode cX3_date 16 = .ok (.invokestatic 75, 3) := by decide +kernel
theorem dX3_date_19 : decode cX3_date 19 = .ok (.ifCond .eq 16, 3) := by decide +kernel
theorem dX3_date_22 : decode cX3_date 22 = .ok (.iload_n 1, 1) := by decide +kernel
theorem dX3_date_23 : decode cX3_date 23 = .ok (.iload_n 2, 1) := by decide +kernel
theorem dX3_date_24 : decode cX3_date 24 = .ok (.if_icmp .gt 11, 3) := by decide +kernel
theorem dX3_date_27 : decode cX3_date 27 = .ok (.iload_n 2, 1) := by decide +kernel
theorem dX3_date_28 : decode cX3_date 28 = .ok (.iload_n 1, 1) := by decide +kernel
theorem dX3_date_29 : decode cX3_date 29 = .ok (.isub, 1) := by decide +kernel
theorem dX3_date_30 : decode cX3_date 30 = .ok (.bipush 63, 2) := by decide +kernel
theorem dX3_date_32 : decode cX3_date 32 = .ok (.if_icmp .le 7, 3) := by decide +kernel
theorem dX3_date_35 : decode cX3_date 35 = .ok (.iconst 1, 1) := by decide +kernel
theorem dX3_date_36 : decode cX3_date 36 = .ok (.goto 4, 3) := by decide +kernel
theorem dX3_date_39 : decode cX3_date 39 = .ok (.iconst 0, 1) := by decide +kernel
theorem dX3_date_40 : decode cX3_date 40 = .ok (.istore_n 3, 1) := by decide +kernel
theorem dX3_date_41 : decode cX3_date 41 = .ok (.aload_n 0, 1) := by decide +kernel
theorem dX3_date_42 : decode cX3_date 42 = .ok (.iload_n 3, 1) := by decide +kernel
theorem dX3_date_43 : decode cX3_date 43 = .ok (.aload_n 0, 1) := by decide +kernel
theorem dX3_date_44 : decode cX3_date 44 = .ok (.getfield 72, 3) := by decide +kernel
theorem dX3_date_47 : decode cX3_date 47 = .ok (.bipush 8, 2) := by decide +kernel
theorem dX3_date_49 : decode cX3_date 49 = .ok (.if_icmp .ne 7, 3) := by decide +kernel
theorem dX3_date_52 : decode cX3_date 52 = .ok (.iconst 1, 1) := by decide +kernel
theorem dX3_date_53 : decode cX3_date 53 = .ok (.goto 4, 3) := by decide +kernel
theorem dX3_date_56 : decode cX3_date 56 = .ok (.iconst 0, 1) := by decide +kernel
theorem dX3_date_57 : decode cX3_date 57 = .ok (.iconst 0, 1) := by decide +kernel
theorem dX3_date_58 : decode cX3_date 58 = .ok (.invokevirtual 86, 3) := by decide +kernel
theorem dX3_date_61 : decode cX3_date 61 = .ok (.ifCond .eq 5, 3) := by decide +kernel
theorem dX3_date_64 : decode cX3_date 64 = .ok (.iconst 0, 1) := by decide +kernel
theorem dX3_date_65 : decode cX3_date 65 = .ok (.ireturn, 1) := by decide +kernel
theorem dX3_date_66 : decode cX3_date 66 = .ok (.aload_n 0, 1) := by decide +kernel
theorem dX3_date_67 : decode cX3_date 67 = .ok (.getfield 7, 3) := by decide +kernel
theorem dX3_date_70 : decode cX3_date 70 = .ok (.aload_n 0, 1) := by decide +kernel
theorem dX3_date_71 : decode cX3_date 71 = .ok (.getfield 72, 3) := by decide +kernel
theorem dX3_date_74 : decode cX3_date 74 = .ok (.iload_n 1, 1) := by decide +kernel
theorem dX3_date_75 : decode cX3_date 75 = .ok (.iastore, 1) := by decide +kernel
theorem dX3_date_76 : decode cX3_date 76 = .ok (.aload_n 0, 1) := by decide +kernel
theorem dX3_date_77 : decode cX3_date 77 = .ok (.getfield 13, 3) := by decide +kernel
theorem dX3_date_80 : decode cX3_date 80 = .ok (.aload_n 0, 1) := by decide +kernel
theorem dX3_date_81 : decode cX3_date 81 = .ok (.getfield 72, 3) := by decide +kernel
theorem dX3_date_84 : decode cX3_date 84 = .ok (.iload_n 2, 1) := by decide +kernel
theorem dX3_date_85 : decode cX3_date 85 = .ok (.iastore, 1) := by decide +kernel
theorem dX3_date_86 : decode cX3_date 86 = .ok (.aload_n 0, 1) := by decide +kernel
theorem dX3_date_87 : decode cX3_date 87 = .ok (.getfield 19, 3) := by decide +kernel
theorem dX3_date_90 : decode cX3_date 90 = .ok (.aload_n 0, 1) := by decide +kernel
theorem dX3_date_91 : decode cX3_date 91 = .ok (.getfield 72, 3) := by decide +kernel
theorem dX3_date_94 : decode cX3_date 94 = .ok (.iconst (-1), 1) := by decide +kernel
theorem dX3_date_95 : decode cX3_date 95 = .ok (.iastore, 1) := by decide +kernel
theorem dX3_date_96 : decode cX3_date 96 = .ok (.iconst 0, 1) := by decide +kernel
theorem dX3_date_97 : decode cX3_date 97 = .ok (.istore 4, 2) := by decide +kernel
theorem dX3_date_99 : decode cX3_date 99 = .ok (.iload 4, 2) := by decide +kernel
theorem dX3_date_101 : decode cX3_date 101 = .ok (.bipush 64, 2) := by decide +kernel
theorem dX3_date_103 : decode cX3_date 103 = .ok (.if_icmp .ge 25, 3) := by decide +kernel
theorem dX3_date_106 : decode cX3_date 106 = .ok (.aload_n 0, 1) := by decide +kernel
theorem dX3_date_107 : decode cX3_date 107 = .ok (.getfield 16, 3) := by decide +kernel
theorem dX3_date_110 : decode cX3_date 110 = .ok (.bipush 64, 2) := by decide +kernel
theorem dX3_date_112 : decode cX3_date 112 = .ok (.aload_n 0, 1) := by decide +kernel
theorem dX3_date_113 : decode cX3_date 113 = .ok (.getfield 72, 3) := by decide +kernel
theorem dX3_date_116 : decode cX3_date 116 = .ok (.imul, 1) := by decide +kernel
theorem dX3_date_117 : decode cX3_date 117 = .ok (.iload 4, 2) := by decide +kernel
theorem dX3_date_119 : decode cX3_date 119 = .ok (.iadd, 1) := by decide +kernel
theorem dX3_date_120 : decode cX3_date 120 = .ok (.iconst 1, 1) := by decide +kernel
theorem dX3_date_121 : decode cX3_date 121 = .ok (.iastore, 1) := by decide +kernel
theorem dX3_date_122 : decode cX3_date 122 = .ok (.iinc 4 1, 3) := by decide +kernel
theorem dX3_date_125 : decode cX3_date 125 = .ok (.goto (-26), 3) := by decide +kernel
theorem dX3_date_128 : decode cX3_date 128 = .ok (.aload_n 0, 1) := by decide +kernel
theorem dX3_date_129 : decode cX3_date 129 = .ok (.dup, 1) := by decide +kernel
theorem dX3_date_130 : decode cX3_date 130 = .ok (.getfield 72, 3) := by decide +kernel
theorem dX3_date_133 : decode cX3_date 133 = .ok (.iconst 1, 1) := by decide +kernel
theorem dX3_date_134 : decode cX3_date 134 = .ok (.iadd, 1) := by decide +kernel
theorem dX3_date_135 : decode cX3_date 135 = .ok (.putfield 72, 3) := by decide +kernel
theorem dX3_date_138 : decode cX3_date 138 = .ok (.aload_n 0, 1) := by decide +kernel
theorem dX3_date_139 : decode cX3_date 139 = .ok (.invokevirtual 90, 3) := by decide +kernel
theorem dX3_date_142 : decode cX3_date 142 = .ok (.aload_n 0, 1) := by decide +kernel
theorem dX3_date_143 : decode cX3_date 143 = .ok (.getfield 72, 3) := by decide +kernel
theorem dX3_date_146 : decode cX3_date 146 = .ok (.iconst 1, 1) := by decide +kernel
theorem dX3_date_147 : decode cX3_date 147 = .ok (.isub, 1) := by decide +kernel
theorem dX3_date_148 : decode cX3_date 148 = .ok (.ireturn, 1) := by decide +kernel
theorem dX3_in_0 : decode cX3_in 0 = .ok (.iload_n 0, 1) := by decide +kernel
theorem dX3_in_1 : decode cX3_in 1 = .ok (.iload_n 1, 1) := by decide +kernel
theorem dX3_in_2 : decode cX3_in 2 = .ok (.if_icmp .lt 12, 3) := by decide +kernel
theorem dX3_in_5 : decode cX3_in 5 = .ok (.iload_n 0, 1) := by decide +kernel
theorem dX3_in_6 : decode cX3_in 6 = .ok (.iload_n 2, 1) := by decide +kernel
theorem dX3_in_7 : decode cX3_in 7 = .ok (.if_icmp .gt 7, 3) := by decide +kernel
theorem dX3_in_10 : decode cX3_in 10 = .ok (.iconst 1, 1) := by decide +kernel
theorem dX3_in_11 : decode cX3_in 11 = .ok (.goto 4, 3) := by decide +kernel
theorem dX3_in_14 : decode cX3_in 14 = .ok (.iconst 0, 1) := by decide +kernel
theorem dX3_in_15 : decode cX3_in 15 = .ok (.ireturn, 1) := by decide +kernel
theorem dX3_throwing_0 : decode cX3_throwing 0 = .ok (.aload_n 0, 1) := by decide +kernel
theorem dX3_throwing_1 : decode cX3_throwing 1 = .ok (.iload_n 1, 1) := by decide +kernel
theorem dX3_throwing_2 : decode cX3_throwing 2 = .ok (.ifCond .eq 7, 3) := by decide +kernel
theorem dX3_throwing_5 : decode cX3_throwing 5 = .ok (.iconst 1, 1) := by decide +kernel
theorem dX3_throwing_6 : decode cX3_throwing 6 = .ok (.goto 20, 3) := by decide +kernel
theorem dX3_throwing_9 : decode cX3_throwing 9 = .ok (.iload_n 2, 1) := by decide +kernel
theorem dX3_throwing_10 : decode cX3_throwing 10 = .ok (.ifCond .eq 7, 3) := by decide +kernel
theorem dX3_throwing_13 : decode cX3_throwing 13 = .ok (.iconst 2, 1) := by decide +kernel
theorem dX3_throwing_14 : decode cX3_throwing 14 = .ok (.goto 12, 3) := by decide +kernel
theorem dX3_throwing_17 : decode cX3_throwing 17 = .ok (.iload_n 3, 1) := by decide +kernel
theorem dX3_throwing_18 : decode cX3_throwing 18 = .ok (.ifCond .eq 7, 3) := by decide +kernel
theorem dX3_throwing_21 : decode cX3_throwing 21 = .ok (.iconst 3, 1) := by decide +kernel
theorem dX3_throwing_22 : decode cX3_throwing 22 = .ok (.goto 4, 3) := by decide +kernel
theorem dX3_throwing_25 : decode cX3_throwing 25 = .ok (.iconst 0, 1) := by decide +kernel
theorem dX3_throwing_26 : decode cX3_throwing 26 = .ok (.putfield 69, 3) := by decide +kernel
theorem dX3_throwing_29 : decode cX3_throwing 29 = .ok (.aload_n 0, 1) := by decide +kernel
theorem dX3_throwing_30 : decode cX3_throwing 30 = .ok (.getfield 69, 3) := by decide +kernel
theorem dX3_throwing_33 : decode cX3_throwing 33 = .ok (.ifCond .le 7, 3) := by decide +kernel
theorem dX3_throwing_36 : decode cX3_throwing 36 = .ok (.iconst 1, 1) := by decide +kernel
theorem dX3_throwing_37 : decode cX3_throwing 37 = .ok (.goto 4, 3) := by decide +kernel
theorem dX3_throwing_40 : decode cX3_throwing 40 = .ok (.iconst 0, 1) := by decide +kernel
theorem dX3_throwing_41 : decode cX3_throwing 41 = .ok (.ireturn, 1) := by decide +kernel
theorem dX3_gone_0 : decode cX3_gone 0 = .ok (.aload_n 0, 1) := by decide +kernel
theorem dX3_gone_1 : decode cX3_gone 1 = .ok (.iconst 0, 1) := by decide +kernel
theorem dX3_gone_2 : decode cX3_gone 2 = .ok (.putfield 79, 3) := by decide +kernel
theorem dX3_gone_5 : decode cX3_gone 5 = .ok (.aload_n 0, 1) := by decide +kernel
theorem dX3_gone_6 : decode cX3_gone 6 = .ok (.iconst 0, 1) := by decide +kernel
theorem dX3_gone_7 : decode cX3_gone 7 = .ok (.putfield 83, 3) := by decide +kernel
theorem dX3_gone_10 : decode cX3_gone 10 = .ok (.return_, 1) := by decide +kernel
theorem dX3_weight_0 : decode cX3_weight 0 = .ok (.aload_n 0, 1) := by decide +kernel
theorem dX3_weight_1 : decode cX3_weight 1 = .ok (.aload_n 0, 1) := by decide +kernel
theorem dX3_weight_2 : decode cX3_weight 2 = .ok (.iload_n 1, 1) := by decide +kernel
theorem dX3_weight_3 : decode cX3_weight 3 = .ok (.iload_n 2, 1) := by decide +kernel
theorem dX3_weight_4 : decode cX3_weight 4 = .ok (.invokevirtual 97, 3) := by decide +kernel
theorem dX3_weight_7 : decode cX3_weight 7 = .ok (.ifCond .ne 7, 3) := by decide +kernel
theorem dX3_weight_10 : decode cX3_weight 10 = .ok (.iconst 1, 1) := by decide +kernel
theorem dX3_weight_11 : decode cX3_weight 11 = .ok (.goto 4, 3) := by decide +kernel
theorem dX3_weight_14 : decode cX3_weight 14 = .ok (.iconst 0, 1) := by decide +kernel
theorem dX3_weight_15 : decode cX3_weight 15 = .ok (.iload_n 3, 1) := by decide +kernel
theorem dX3_weight_16 : decode cX3_weight 16 = .ok (.iconst 1, 1) := by decide +kernel
theorem dX3_weight_17 : decode cX3_weight 17 = .ok (.sipush 1000, 3) := by decide +kernel
theorem dX3_weight_20 : decode cX3_weight 20 = .ok (.invokestatic 75, 3) := by decide +kernel
theorem dX3_weight_23 : decode cX3_weight 23 = .ok (.ifCond .ne 7, 3) := by decide +kernel
theorem dX3_weight_26 : decode cX3_weight 26 = .ok (.iconst 1, 1) := by decide +kernel
theorem dX3_weight_27 : decode cX3_weight 27 = .ok (.goto 4, 3) := by decide +kernel
theorem dX3_weight_30 : decode cX3_weight 30 = .ok (.iconst 0, 1) := by decide +kernel
theorem dX3_weight_31 : decode cX3_weight 31 = .ok (.iconst 0, 1) := by decide +kernel
theorem dX3_weight_32 : decode cX3_weight 32 = .ok (.invokevirtual 86, 3) := by decide +kernel
theorem dX3_weight_35 : decode cX3_weight 35 = .ok (.ifCond .eq 5, 3) := by decide +kernel
theorem dX3_weight_38 : decode cX3_weight 38 = .ok (.iconst 0, 1) := by decide +kernel
theorem dX3_weight_39 : decode cX3_weight 39 = .ok (.ireturn, 1) := by decide +kernel
theorem dX3_weight_40 : decode cX3_weight 40 = .ok (.aload_n 0, 1) := by decide +kernel
theorem dX3_weight_41 : decode cX3_weight 41 = .ok (.iload_n 1, 1) := by decide +kernel
theorem dX3_weight_42 : decode cX3_weight 42 = .ok (.iload_n 2, 1) := by decide +kernel
theorem dX3_weight_43 : decode cX3_weight 43 = .ok (.invokevirtual 101, 3) := by decide +kernel
theorem dX3_weight_46 : decode cX3_weight 46 = .ok (.istore 4, 2) := by decide +kernel
theorem dX3_weight_48 : decode cX3_weight 48 = .ok (.aload_n 0, 1) := by decide +kernel
theorem dX3_weight_49 : decode cX3_weight 49 = .ok (.getfield 16, 3) := by decide +kernel
theorem dX3_weight_52 : decode cX3_weight 52 = .ok (.bipush 64, 2) := by decide +kernel
theorem dX3_weight_54 : decode cX3_weight 54 = .ok (.iload_n 1, 1) := by decide +kernel
theorem dX3_weight_55 : decode cX3_weight 55 = .ok (.imul, 1) := by decide +kernel
theorem dX3_weight_56 : decode cX3_weight 56 = .ok (.iload_n 2, 1) := by decide +kernel
theorem dX3_weight_57 : decode cX3_weight 57 = .ok (.iadd, 1) := by decide +kernel
theorem dX3_weight_58 : decode cX3_weight 58 = .ok (.aload_n 0, 1) := by decide +kernel
theorem dX3_weight_59 : decode cX3_weight 59 = .ok (.getfield 7, 3) := by decide +kernel
theorem dX3_weight_62 : decode cX3_weight 62 = .ok (.iload_n 1, 1) := by decide +kernel
theorem dX3_weight_63 : decode cX3_weight 63 = .ok (.iaload, 1) := by decide +kernel
theorem dX3_weight_64 : decode cX3_weight 64 = .ok (.isub, 1) := by decide +kernel
theorem dX3_weight_65 : decode cX3_weight 65 = .ok (.iload_n 3, 1) := by decide +kernel
theorem dX3_weight_66 : decode cX3_weight 66 = .ok (.iastore, 1) := by decide +kernel
theorem dX3_weight_67 : decode cX3_weight 67 = .ok (.aload_n 0, 1) := by decide +kernel
theorem dX3_weight_68 : decode cX3_weight 68 = .ok (.invokevirtual 90, 3) := by decide +kernel
theorem dX3_weight_71 : decode cX3_weight 71 = .ok (.iload 4, 2) := by decide +kernel
theorem dX3_weight_73 : decode cX3_weight 73 = .ok (.ireturn, 1) := by decide +kernel
theorem dX3_hasYear_0 : decode cX3_hasYear 0 = .ok (.aload_n 0, 1) := by decide +kernel
theorem dX3_hasYear_1 : decode cX3_hasYear 1 = .ok (.iload_n 1, 1) := by decide +kernel
theorem dX3_hasYear_2 : decode cX3_hasYear 2 = .ok (.invokevirtual 93, 3) := by decide +kernel
theorem dX3_hasYear_5 : decode cX3_hasYear 5 = .ok (.ifCond .eq 26, 3) := by decide +kernel
theorem dX3_hasYear_8 : decode cX3_hasYear 8 = .ok (.iload_n 2, 1) := by decide +kernel
theorem dX3_hasYear_9 : decode cX3_hasYear 9 = .ok (.aload_n 0, 1) := by decide +kernel
theorem dX3_hasYear_10 : decode cX3_hasYear 10 = .ok (.getfield 7, 3) := by decide +kernel
theorem dX3_hasYear_13 : decode cX3_hasYear 13 = .ok (.iload_n 1, 1) := by decide +kernel
theorem dX3_hasYear_14 : decode cX3_hasYear 14 = .ok (.iaload, 1) := by decide +kernel
theorem dX3_hasYear_15 : decode cX3_hasYear 15 = .ok (.aload_n 0, 1) := by decide +kernel
theorem dX3_hasYear_16 : decode cX3_hasYear 16 = .ok (.getfield 13, 3) := by decide +kernel
theorem dX3_hasYear_19 : decode cX3_hasYear 19 = .ok (.iload_n 1, 1) := by decide +kernel
theorem dX3_hasYear_20 : decode cX3_hasYear 20 = .ok (.iaload, 1) := by decide +kernel
theorem dX3_hasYear_21 : decode cX3_hasYear 21 = .ok (.invokestatic 75, 3) := by decide +kernel
theorem dX3_hasYear_24 : decode cX3_hasYear 24 = .ok (.ifCond .eq 7, 3) := by decide +kernel
theorem dX3_hasYear_27 : decode cX3_hasYear 27 = .ok (.iconst 1, 1) := by decide +kernel
theorem dX3_hasYear_28 : decode cX3_hasYear 28 = .ok (.goto 4, 3) := by decide +kernel
theorem dX3_hasYear_31 : decode cX3_hasYear 31 = .ok (.iconst 0, 1) := by decide +kernel
theorem dX3_hasYear_32 : decode cX3_hasYear 32 = .ok (.ireturn, 1) := by decide +kernel
theorem dX3_isDate_0 : decode cX3_isDate 0 = .ok (.iload_n 1, 1) := by decide +kernel
theorem dX3_isDate_1 : decode cX3_isDate 1 = .ok (.iconst 0, 1) := by decide +kernel
theorem dX3_isDate_2 : decode cX3_isDate 2 = .ok (.aload_n 0, 1) := by decide +kernel
theorem dX3_isDate_3 : decode cX3_isDate 3 = .ok (.getfield 72, 3) := by decide +kernel
theorem dX3_isDate_6 : decode cX3_isDate 6 = .ok (.iconst 1, 1) := by decide +kernel
theorem dX3_isDate_7 : decode cX3_isDate 7 = .ok (.isub, 1) := by decide +kernel
theorem dX3_isDate_8 : decode cX3_isDate 8 = .ok (.invokestatic 75, 3) := by decide +kernel
theorem dX3_isDate_11 : decode cX3_isDate 11 = .ok (.ireturn, 1) := by decide +kernel
theorem dX3_weightOf_0 : decode cX3_weightOf 0 = .ok (.aload_n 0, 1) := by decide +kernel
theorem dX3_weightOf_1 : decode cX3_weightOf 1 = .ok (.getfield 16, 3) := by decide +kernel
theorem dX3_weightOf_4 : decode cX3_weightOf 4 = .ok (.bipush 64, 2) := by decide +kernel
theorem dX3_weightOf_6 : decode cX3_weightOf 6 = .ok (.iload_n 1, 1) := by decide +kernel
theorem dX3_weightOf_7 : decode cX3_weightOf 7 = .ok (.imul, 1) := by decide +kernel
theorem dX3_weightOf_8 : decode cX3_weightOf 8 = .ok (.iload_n 2, 1) := by decide +kernel
theorem dX3_weightOf_9 : decode cX3_weightOf 9 = .ok (.iadd, 1) := by decide +kernel
theorem dX3_weightOf_10 : decode cX3_weightOf 10 = .ok (.aload_n 0, 1) := by decide +kernel
theorem dX3_weightOf_11 : decode cX3_weightOf 11 = .ok (.getfield 7, 3) := by decide +kernel
theorem dX3_weightOf_14 : decode cX3_weightOf 14 = .ok (.iload_n 1, 1) := by decide +kernel
theorem dX3_weightOf_15 : decode cX3_weightOf 15 = .ok (.iaload, 1) := by decide +kernel
theorem dX3_weightOf_16 : decode cX3_weightOf 16 = .ok (.isub, 1) := by decide +kernel
theorem dX3_weightOf_17 : decode cX3_weightOf 17 = .ok (.iaload, 1) := by decide +kernel
theorem dX3_weightOf_18 : decode cX3_weightOf 18 = .ok (.ireturn, 1) := by decide +kernel
theorem dX3_before_0 : decode cX3_before 0 = .ok (.iload_n 1, 1) := by decide +kernel
theorem dX3_before_1 : decode cX3_before 1 = .ok (.iload_n 2, 1) := by decide +kernel
theorem dX3_before_2 : decode cX3_before 2 = .ok (.if_icmp .eq 32, 3) := by decide +kernel
theorem dX3_before_5 : decode cX3_before 5 = .ok (.iload_n 3, 1) := by decide +kernel
theorem dX3_before_6 : decode cX3_before 6 = .ok (.iconst 0, 1) := by decide +kernel
theorem dX3_before_7 : decode cX3_before 7 = .ok (.sipush 255, 3) := by decide +kernel
theorem dX3_before_10 : decode cX3_before 10 = .ok (.invokestatic 75, 3) := by decide +kernel
theorem dX3_before_13 : decode cX3_before 13 = .ok (.ifCond .eq 21, 3) := by decide +kernel
theorem dX3_before_16 : decode cX3_before 16 = .ok (.iload 4, 2) := by decide +kernel
theorem dX3_before_18 : decode cX3_before 18 = .ok (.iconst 0, 1) := by decide +kernel
theorem dX3_before_19 : decode cX3_before 19 = .ok (.sipush 255, 3) := by decide +kernel
theorem dX3_before_22 : decode cX3_before 22 = .ok (.invokestatic 75, 3) := by decide +kernel
theorem dX3_before_25 : decode cX3_before 25 = .ok (.ifCond .eq 9, 3) := by decide +kernel
theorem dX3_before_28 : decode cX3_before 28 = .ok (.iload_n 3, 1) := by decide +kernel
theorem dX3_before_29 : decode cX3_before 29 = .ok (.iload 4, 2) := by decide +kernel
theorem dX3_before_31 : decode cX3_before 31 = .ok (.if_icmp .le 7, 3) := by decide +kernel
theorem dX3_before_34 : decode cX3_before 34 = .ok (.iconst 1, 1) := by decide +kernel
theorem dX3_before_35 : decode cX3_before 35 = .ok (.goto 4, 3) := by decide +kernel
theorem dX3_before_38 : decode cX3_before 38 = .ok (.iconst 0, 1) := by decide +kernel
theorem dX3_before_39 : decode cX3_before 39 = .ok (.istore 5, 2) := by decide +kernel
theorem dX3_before_41 : decode cX3_before 41 = .ok (.aload_n 0, 1) := by decide +kernel
theorem dX3_before_42 : decode cX3_before 42 = .ok (.aload_n 0, 1) := by decide +kernel
theorem dX3_before_43 : decode cX3_before 43 = .ok (.iload_n 1, 1) := by decide +kernel
theorem dX3_before_44 : decode cX3_before 44 = .ok (.invokevirtual 93, 3) := by decide +kernel
theorem dX3_before_47 : decode cX3_before 47 = .ok (.ifCond .eq 11, 3) := by decide +kernel
theorem dX3_before_50 : decode cX3_before 50 = .ok (.aload_n 0, 1) := by decide +kernel
theorem dX3_before_51 : decode cX3_before 51 = .ok (.iload_n 2, 1) := by decide +kernel
theorem dX3_before_52 : decode cX3_before 52 = .ok (.invokevirtual 93, 3) := by decide +kernel
theorem dX3_before_55 : decode cX3_before 55 = .ok (.ifCond .ne 7, 3) := by decide +kernel
theorem dX3_before_58 : decode cX3_before 58 = .ok (.iconst 1, 1) := by decide +kernel
theorem dX3_before_59 : decode cX3_before 59 = .ok (.goto 4, 3) := by decide +kernel
theorem dX3_before_62 : decode cX3_before 62 = .ok (.iconst 0, 1) := by decide +kernel
theorem dX3_before_63 : decode cX3_before 63 = .ok (.iload 5, 2) := by decide +kernel
theorem dX3_before_65 : decode cX3_before 65 = .ok (.aload_n 0, 1) := by decide +kernel
theorem dX3_before_66 : decode cX3_before 66 = .ok (.getfield 105, 3) := by decide +kernel
theorem dX3_before_69 : decode cX3_before 69 = .ok (.bipush 24, 2) := by decide +kernel
theorem dX3_before_71 : decode cX3_before 71 = .ok (.if_icmp .ne 7, 3) := by decide +kernel
theorem dX3_before_74 : decode cX3_before 74 = .ok (.iconst 1, 1) := by decide +kernel
theorem dX3_before_75 : decode cX3_before 75 = .ok (.goto 4, 3) := by decide +kernel
theorem dX3_before_78 : decode cX3_before 78 = .ok (.iconst 0, 1) := by decide +kernel
theorem dX3_before_79 : decode cX3_before 79 = .ok (.invokevirtual 86, 3) := by decide +kernel
theorem dX3_before_82 : decode cX3_before 82 = .ok (.ifCond .eq 5, 3) := by decide +kernel
theorem dX3_before_85 : decode cX3_before 85 = .ok (.iconst 0, 1) := by decide +kernel
theorem dX3_before_86 : decode cX3_before 86 = .ok (.ireturn, 1) := by decide +kernel
theorem dX3_before_87 : decode cX3_before 87 = .ok (.aload_n 0, 1) := by decide +kernel
theorem dX3_before_88 : decode cX3_before 88 = .ok (.getfield 22, 3) := by decide +kernel
theorem dX3_before_91 : decode cX3_before 91 = .ok (.aload_n 0, 1) := by decide +kernel
theorem dX3_before_92 : decode cX3_before 92 = .ok (.getfield 105, 3) := by decide +kernel
theorem dX3_before_95 : decode cX3_before 95 = .ok (.iload_n 1, 1) := by decide +kernel
theorem dX3_before_96 : decode cX3_before 96 = .ok (.iastore, 1) := by decide +kernel
theorem dX3_before_97 : decode cX3_before 97 = .ok (.aload_n 0, 1) := by decide +kernel
theorem dX3_before_98 : decode cX3_before 98 = .ok (.getfield 25, 3) := by decide +kernel
theorem dX3_before_101 : decode cX3_before 101 = .ok (.aload_n 0, 1) := by decide +kernel
theorem dX3_before_102 : decode cX3_before 102 = .ok (.getfield 105, 3) := by decide +kernel
theorem dX3_before_105 : decode cX3_before 105 = .ok (.iload_n 2, 1) := by decide +kernel
theorem dX3_before_106 : decode cX3_before 106 = .ok (.iastore, 1) := by decide +kernel
theorem dX3_before_107 : decode cX3_before 107 = .ok (.aload_n 0, 1) := by decide +kernel
theorem dX3_before_108 : decode cX3_before 108 = .ok (.getfield 28, 3) := by decide +kernel
theorem dX3_before_111 : decode cX3_before 111 = .ok (.aload_n 0, 1) := by decide +kernel
theorem dX3_before_112 : decode cX3_before 112 = .ok (.getfield 105, 3) := by decide +kernel
theorem dX3_before_115 : decode cX3_before 115 = .ok (.iload_n 3, 1) := by decide +kernel
theorem dX3_before_116 : decode cX3_before 116 = .ok (.iastore, 1) := by decide +kernel
theorem dX3_before_117 : decode cX3_before 117 = .ok (.aload_n 0, 1) := by decide +kernel
theorem dX3_before_118 : decode cX3_before 118 = .ok (.getfield 31, 3) := by decide +kernel
theorem dX3_before_121 : decode cX3_before 121 = .ok (.aload_n 0, 1) := by decide +kernel
theorem dX3_before_122 : decode cX3_before 122 = .ok (.getfield 105, 3) := by decide +kernel
theorem dX3_before_125 : decode cX3_before 125 = .ok (.iload 4, 2) := by decide +kernel
theorem dX3_before_127 : decode cX3_before 127 = .ok (.iastore, 1) := by decide +kernel
theorem dX3_before_128 : decode cX3_before 128 = .ok (.aload_n 0, 1) := by decide +kernel
theorem dX3_before_129 : decode cX3_before 129 = .ok (.dup, 1) := by decide +kernel
theorem dX3_before_130 : decode cX3_before 130 = .ok (.getfield 105, 3) := by decide +kernel
theorem dX3_before_133 : decode cX3_before 133 = .ok (.iconst 1, 1) := by decide +kernel
theorem dX3_before_134 : decode cX3_before 134 = .ok (.iadd, 1) := by decide +kernel
theorem dX3_before_135 : decode cX3_before 135 = .ok (.putfield 105, 3) := by decide +kernel
theorem dX3_before_138 : decode cX3_before 138 = .ok (.aload_n 0, 1) := by decide +kernel
theorem dX3_before_139 : decode cX3_before 139 = .ok (.invokevirtual 90, 3) := by decide +kernel
theorem dX3_before_142 : decode cX3_before 142 = .ok (.aload_n 0, 1) := by decide +kernel
theorem dX3_before_143 : decode cX3_before 143 = .ok (.getfield 105, 3) := by decide +kernel
theorem dX3_before_146 : decode cX3_before 146 = .ok (.iconst 1, 1) := by decide +kernel
theorem dX3_before_147 : decode cX3_before 147 = .ok (.isub, 1) := by decide +kernel
theorem dX3_before_148 : decode cX3_before 148 = .ok (.ireturn, 1) := by decide +kernel
theorem dX3_member_0 : decode cX3_member 0 = .ok (.aload_n 0, 1) := by decide +kernel
theorem dX3_member_1 : decode cX3_member 1 = .ok (.aload_n 0, 1) := by decide +kernel
theorem dX3_member_2 : decode cX3_member 2 = .ok (.iload_n 1, 1) := by decide +kernel
theorem dX3_member_3 : decode cX3_member 3 = .ok (.invokevirtual 93, 3) := by decide +kernel
theorem dX3_member_6 : decode cX3_member 6 = .ok (.ifCond .eq 12, 3) := by decide +kernel
theorem dX3_member_9 : decode cX3_member 9 = .ok (.iload_n 2, 1) := by decide +kernel
theorem dX3_member_10 : decode cX3_member 10 = .ok (.iconst (-1), 1) := by decide +kernel
theorem dX3_member_11 : decode cX3_member 11 = .ok (.iconst 3, 1) := by decide +kernel
theorem dX3_member_12 : decode cX3_member 12 = .ok (.invokestatic 75, 3) := by decide +kernel
theorem dX3_member_15 : decode cX3_member 15 = .ok (.ifCond .ne 7, 3) := by decide +kernel
theorem dX3_member_18 : decode cX3_member 18 = .ok (.iconst 1, 1) := by decide +kernel
theorem dX3_member_19 : decode cX3_member 19 = .ok (.goto 4, 3) := by decide +kernel
theorem dX3_member_22 : decode cX3_member 22 = .ok (.iconst 0, 1) := by decide +kernel
theorem dX3_member_23 : decode cX3_member 23 = .ok (.iconst 0, 1) := by decide +kernel
theorem dX3_member_24 : decode cX3_member 24 = .ok (.iconst 0, 1) := by decide +kernel
theorem dX3_member_25 : decode cX3_member 25 = .ok (.invokevirtual 86, 3) := by decide +kernel
theorem dX3_member_28 : decode cX3_member 28 = .ok (.ifCond .eq 5, 3) := by decide +kernel
theorem dX3_member_31 : decode cX3_member 31 = .ok (.iconst 0, 1) := by decide +kernel
theorem dX3_member_32 : decode cX3_member 32 = .ok (.ireturn, 1) := by decide +kernel
theorem dX3_member_33 : decode cX3_member 33 = .ok (.aload_n 0, 1) := by decide +kernel
theorem dX3_member_34 : decode cX3_member 34 = .ok (.getfield 19, 3) := by decide +kernel
theorem dX3_member_37 : decode cX3_member 37 = .ok (.iload_n 1, 1) := by decide +kernel
theorem dX3_member_38 : decode cX3_member 38 = .ok (.iaload, 1) := by decide +kernel
theorem dX3_member_39 : decode cX3_member 39 = .ok (.istore_n 3, 1) := by decide +kernel
theorem dX3_member_40 : decode cX3_member 40 = .ok (.aload_n 0, 1) := by decide +kernel
theorem dX3_member_41 : decode cX3_member 41 = .ok (.getfield 19, 3) := by decide +kernel
theorem dX3_member_44 : decode cX3_member 44 = .ok (.iload_n 1, 1) := by decide +kernel
theorem dX3_member_45 : decode cX3_member 45 = .ok (.iload_n 2, 1) := by decide +kernel
theorem dX3_member_46 : decode cX3_member 46 = .ok (.iastore, 1) := by decide +kernel
theorem dX3_member_47 : decode cX3_member 47 = .ok (.iload_n 3, 1) := by decide +kernel
theorem dX3_member_48 : decode cX3_member 48 = .ok (.ireturn, 1) := by decide +kernel
theorem dX3_burn_0 : decode cX3_burn 0 = .ok (.aload_n 0, 1) := by decide +kernel
theorem dX3_burn_1 : decode cX3_burn 1 = .ok (.iload_n 1, 1) := by decide +kernel
theorem dX3_burn_2 : decode cX3_burn 2 = .ok (.iconst 0, 1) := by decide +kernel
theorem dX3_burn_3 : decode cX3_burn 3 = .ok (.bipush 100, 2) := by decide +kernel
theorem dX3_burn_5 : decode cX3_burn 5 = .ok (.invokestatic 75, 3) := by decide +kernel
theorem dX3_burn_8 : decode cX3_burn 8 = .ok (.ifCond .ne 7, 3) := by decide +kernel
theorem dX3_burn_11 : decode cX3_burn 11 = .ok (.iconst 1, 1) := by decide +kernel
theorem dX3_burn_12 : decode cX3_burn 12 = .ok (.goto 4, 3) := by decide +kernel
theorem dX3_burn_15 : decode cX3_burn 15 = .ok (.iconst 0, 1) := by decide +kernel
theorem dX3_burn_16 : decode cX3_burn 16 = .ok (.iconst 0, 1) := by decide +kernel
theorem dX3_burn_17 : decode cX3_burn 17 = .ok (.iconst 0, 1) := by decide +kernel
theorem dX3_burn_18 : decode cX3_burn 18 = .ok (.invokevirtual 86, 3) := by decide +kernel
theorem dX3_burn_21 : decode cX3_burn 21 = .ok (.ifCond .eq 5, 3) := by decide +kernel
theorem dX3_burn_24 : decode cX3_burn 24 = .ok (.iconst 0, 1) := by decide +kernel
theorem dX3_burn_25 : decode cX3_burn 25 = .ok (.ireturn, 1) := by decide +kernel
theorem dX3_burn_26 : decode cX3_burn 26 = .ok (.aload_n 0, 1) := by decide +kernel
theorem dX3_burn_27 : decode cX3_burn 27 = .ok (.getfield 108, 3) := by decide +kernel
theorem dX3_burn_30 : decode cX3_burn 30 = .ok (.istore_n 2, 1) := by decide +kernel
theorem dX3_burn_31 : decode cX3_burn 31 = .ok (.aload_n 0, 1) := by decide +kernel
theorem dX3_burn_32 : decode cX3_burn 32 = .ok (.iload_n 1, 1) := by decide +kernel
theorem dX3_burn_33 : decode cX3_burn 33 = .ok (.putfield 108, 3) := by decide +kernel
theorem dX3_burn_36 : decode cX3_burn 36 = .ok (.iload_n 2, 1) := by decide +kernel
theorem dX3_burn_37 : decode cX3_burn 37 = .ok (.ireturn, 1) := by decide +kernel
theorem dX3_thin_0 : decode cX3_thin 0 = .ok (.aload_n 0, 1) := by decide +kernel
theorem dX3_thin_1 : decode cX3_thin 1 = .ok (.iload_n 1, 1) := by decide +kernel
theorem dX3_thin_2 : decode cX3_thin 2 = .ok (.iconst 1, 1) := by decide +kernel
theorem dX3_thin_3 : decode cX3_thin 3 = .ok (.bipush 20, 2) := by decide +kernel
theorem dX3_thin_5 : decode cX3_thin 5 = .ok (.invokestatic 75, 3) := by decide +kernel
theorem dX3_thin_8 : decode cX3_thin 8 = .ok (.ifCond .ne 7, 3) := by decide +kernel
theorem dX3_thin_11 : decode cX3_thin 11 = .ok (.iconst 1, 1) := by decide +kernel
theorem dX3_thin_12 : decode cX3_thin 12 = .ok (.goto 4, 3) := by decide +kernel
theorem dX3_thin_15 : decode cX3_thin 15 = .ok (.iconst 0, 1) := by decide +kernel
theorem dX3_thin_16 : decode cX3_thin 16 = .ok (.iconst 0, 1) := by decide +kernel
theorem dX3_thin_17 : decode cX3_thin 17 = .ok (.iconst 0, 1) := by decide +kernel
theorem dX3_thin_18 : decode cX3_thin 18 = .ok (.invokevirtual 86, 3) := by decide +kernel
theorem dX3_thin_21 : decode cX3_thin 21 = .ok (.ifCond .eq 5, 3) := by decide +kernel
theorem dX3_thin_24 : decode cX3_thin 24 = .ok (.iconst 0, 1) := by decide +kernel
theorem dX3_thin_25 : decode cX3_thin 25 = .ok (.ireturn, 1) := by decide +kernel
theorem dX3_thin_26 : decode cX3_thin 26 = .ok (.aload_n 0, 1) := by decide +kernel
theorem dX3_thin_27 : decode cX3_thin 27 = .ok (.getfield 34, 3) := by decide +kernel
theorem dX3_thin_30 : decode cX3_thin 30 = .ok (.istore_n 2, 1) := by decide +kernel
theorem dX3_thin_31 : decode cX3_thin 31 = .ok (.aload_n 0, 1) := by decide +kernel
theorem dX3_thin_32 : decode cX3_thin 32 = .ok (.iload_n 1, 1) := by decide +kernel
theorem dX3_thin_33 : decode cX3_thin 33 = .ok (.putfield 34, 3) := by decide +kernel
theorem dX3_thin_36 : decode cX3_thin 36 = .ok (.iload_n 2, 1) := by decide +kernel
theorem dX3_thin_37 : decode cX3_thin 37 = .ok (.ireturn, 1) := by decide +kernel
theorem dX3_start_0 : decode cX3_start 0 = .ok (.aload_n 0, 1) := by decide +kernel
theorem dX3_start_1 : decode cX3_start 1 = .ok (.iconst 0, 1) := by decide +kernel
theorem dX3_start_2 : decode cX3_start 2 = .ok (.putfield 69, 3) := by decide +kernel
theorem dX3_start_5 : decode cX3_start 5 = .ok (.aload_n 0, 1) := by decide +kernel
theorem dX3_start_6 : decode cX3_start 6 = .ok (.iconst 0, 1) := by decide +kernel
theorem dX3_start_7 : decode cX3_start 7 = .ok (.putfield 79, 3) := by decide +kernel
theorem dX3_start_10 : decode cX3_start 10 = .ok (.iconst 0, 1) := by decide +kernel
theorem dX3_start_11 : decode cX3_start 11 = .ok (.istore_n 1, 1) := by decide +kernel
theorem dX3_start_12 : decode cX3_start 12 = .ok (.iload_n 1, 1) := by decide +kernel
theorem dX3_start_13 : decode cX3_start 13 = .ok (.aload_n 0, 1) := by decide +kernel
theorem dX3_start_14 : decode cX3_start 14 = .ok (.getfield 72, 3) := by decide +kernel
theorem dX3_start_17 : decode cX3_start 17 = .ok (.if_icmp .ge 21, 3) := by decide +kernel
theorem dX3_start_20 : decode cX3_start 20 = .ok (.aload_n 0, 1) := by decide +kernel
theorem dX3_start_21 : decode cX3_start 21 = .ok (.getfield 38, 3) := by decide +kernel
theorem dX3_start_24 : decode cX3_start 24 = .ok (.iload_n 1, 1) := by decide +kernel
theorem dX3_start_25 : decode cX3_start 25 = .ok (.aload_n 0, 1) := by decide +kernel
theorem dX3_start_26 : decode cX3_start 26 = .ok (.getfield 7, 3) := by decide +kernel
theorem dX3_start_29 : decode cX3_start 29 = .ok (.iload_n 1, 1) := by decide +kernel
theorem dX3_start_30 : decode cX3_start 30 = .ok (.iaload, 1) := by decide +kernel
theorem dX3_start_31 : decode cX3_start 31 = .ok (.iastore, 1) := by decide +kernel
theorem dX3_start_32 : decode cX3_start 32 = .ok (.iinc 1 1, 3) := by decide +kernel
theorem dX3_start_35 : decode cX3_start 35 = .ok (.goto (-23), 3) := by decide +kernel
theorem dX3_start_38 : decode cX3_start 38 = .ok (.iconst 1, 1) := by decide +kernel
theorem dX3_start_39 : decode cX3_start 39 = .ok (.istore_n 1, 1) := by decide +kernel
theorem dX3_start_40 : decode cX3_start 40 = .ok (.iload_n 1, 1) := by decide +kernel
theorem dX3_start_41 : decode cX3_start 41 = .ok (.ifCond .eq 20, 3) := by decide +kernel
theorem dX3_start_44 : decode cX3_start 44 = .ok (.aload_n 0, 1) := by decide +kernel
theorem dX3_start_45 : decode cX3_start 45 = .ok (.iconst 0, 1) := by decide +kernel
theorem dX3_start_46 : decode cX3_start 46 = .ok (.invokevirtual 111, 3) := by decide +kernel
theorem dX3_start_49 : decode cX3_start 49 = .ok (.ifCond .eq 12, 3) := by decide +kernel
theorem dX3_start_52 : decode cX3_start 52 = .ok (.aload_n 0, 1) := by decide +kernel
theorem dX3_start_53 : decode cX3_start 53 = .ok (.iconst 0, 1) := by decide +kernel
theorem dX3_start_54 : decode cX3_start 54 = .ok (.invokevirtual 114, 3) := by decide +kernel
theorem dX3_start_57 : decode cX3_start 57 = .ok (.istore_n 1, 1) := by decide +kernel
theorem dX3_start_58 : decode cX3_start 58 = .ok (.goto (-18), 3) := by decide +kernel
theorem dX3_start_61 : decode cX3_start 61 = .ok (.aload_n 0, 1) := by decide +kernel
theorem dX3_start_62 : decode cX3_start 62 = .ok (.iconst 0, 1) := by decide +kernel
theorem dX3_start_63 : decode cX3_start 63 = .ok (.invokevirtual 111, 3) := by decide +kernel
theorem dX3_start_66 : decode cX3_start 66 = .ok (.ifCond .ne 5, 3) := by decide +kernel
theorem dX3_start_69 : decode cX3_start 69 = .ok (.iconst 1, 1) := by decide +kernel
theorem dX3_start_70 : decode cX3_start 70 = .ok (.ireturn, 1) := by decide +kernel
theorem dX3_start_71 : decode cX3_start 71 = .ok (.aload_n 0, 1) := by decide +kernel
theorem dX3_start_72 : decode cX3_start 72 = .ok (.iconst 1, 1) := by decide +kernel
theorem dX3_start_73 : decode cX3_start 73 = .ok (.putfield 79, 3) := by decide +kernel
theorem dX3_start_76 : decode cX3_start 76 = .ok (.aload_n 0, 1) := by decide +kernel
theorem dX3_start_77 : decode cX3_start 77 = .ok (.iconst 0, 1) := by decide +kernel
theorem dX3_start_78 : decode cX3_start 78 = .ok (.putfield 117, 3) := by decide +kernel
theorem dX3_start_81 : decode cX3_start 81 = .ok (.aload_n 0, 1) := by decide +kernel
theorem dX3_start_82 : decode cX3_start 82 = .ok (.iconst 0, 1) := by decide +kernel
theorem dX3_start_83 : decode cX3_start 83 = .ok (.putfield 120, 3) := by decide +kernel
theorem dX3_start_86 : decode cX3_start 86 = .ok (.iconst 0, 1) := by decide +kernel
theorem dX3_start_87 : decode cX3_start 87 = .ok (.istore_n 2, 1) := by decide +kernel
theorem dX3_start_88 : decode cX3_start 88 = .ok (.iload_n 2, 1) := by decide +kernel
theorem dX3_start_89 : decode cX3_start 89 = .ok (.aload_n 0, 1) := by decide +kernel
theorem dX3_start_90 : decode cX3_start 90 = .ok (.getfield 66, 3) := by decide +kernel
theorem dX3_start_93 : decode cX3_start 93 = .ok (.if_icmp .ge 60, 3) := by decide +kernel
theorem dX3_start_96 : decode cX3_start 96 = .ok (.iconst 0, 1) := by decide +kernel
theorem dX3_start_97 : decode cX3_start 97 = .ok (.istore_n 3, 1) := by decide +kernel
theorem dX3_start_98 : decode cX3_start 98 = .ok (.iload_n 3, 1) := by decide +kernel
theorem dX3_start_99 : decode cX3_start 99 = .ok (.aload_n 0, 1) := by decide +kernel
theorem dX3_start_100 : decode cX3_start 100 = .ok (.getfield 72, 3) := by decide +kernel
theorem dX3_start_103 : decode cX3_start 103 = .ok (.if_icmp .ge 26, 3) := by decide +kernel
theorem dX3_start_106 : decode cX3_start 106 = .ok (.aload_n 0, 1) := by decide +kernel
theorem dX3_start_107 : decode cX3_start 107 = .ok (.getfield 38, 3) := by decide +kernel
theorem dX3_start_110 : decode cX3_start 110 = .ok (.bipush 8, 2) := by decide +kernel
theorem dX3_start_112 : decode cX3_start 112 = .ok (.iload_n 2, 1) := by decide +kernel
theorem dX3_start_113 : decode cX3_start 113 = .ok (.imul, 1) := by decide +kernel
theorem dX3_start_114 : decode cX3_start 114 = .ok (.iload_n 3, 1) := by decide +kernel
theorem dX3_start_115 : decode cX3_start 115 = .ok (.iadd, 1) := by decide +kernel
theorem dX3_start_116 : decode cX3_start 116 = .ok (.aload_n 0, 1) := by decide +kernel
theorem dX3_start_117 : decode cX3_start 117 = .ok (.getfield 38, 3) := by decide +kernel
theorem dX3_start_120 : decode cX3_start 120 = .ok (.iload_n 3, 1) := by decide +kernel
theorem dX3_start_121 : decode cX3_start 121 = .ok (.iaload, 1) := by decide +kernel
theorem dX3_start_122 : decode cX3_start 122 = .ok (.iastore, 1) := by decide +kernel
theorem dX3_start_123 : decode cX3_start 123 = .ok (.iinc 3 1, 3) := by decide +kernel
theorem dX3_start_126 : decode cX3_start 126 = .ok (.goto (-28), 3) := by decide +kernel
theorem dX3_start_129 : decode cX3_start 129 = .ok (.aload_n 0, 1) := by decide +kernel
theorem dX3_start_130 : decode cX3_start 130 = .ok (.getfield 41, 3) := by decide +kernel
theorem dX3_start_133 : decode cX3_start 133 = .ok (.iload_n 2, 1) := by decide +kernel
theorem dX3_start_134 : decode cX3_start 134 = .ok (.aload_n 0, 1) := by decide +kernel
theorem dX3_start_135 : decode cX3_start 135 = .ok (.getfield 63, 3) := by decide +kernel
theorem dX3_start_138 : decode cX3_start 138 = .ok (.i2l, 1) := by decide +kernel
theorem dX3_start_139 : decode cX3_start 139 = .ok (.ldc2_w 123, 3) := by decide +kernel
theorem dX3_start_142 : decode cX3_start 142 = .ok (.iload_n 2, 1) := by decide +kernel
theorem dX3_start_143 : decode cX3_start 143 = .ok (.i2l, 1) := by decide +kernel
theorem dX3_start_144 : decode cX3_start 144 = .ok (.lmul, 1) := by decide +kernel
theorem dX3_start_145 : decode cX3_start 145 = .ok (.ladd, 1) := by decide +kernel
theorem dX3_start_146 : decode cX3_start 146 = .ok (.lastore, 1) := by decide +kernel
theorem dX3_start_147 : decode cX3_start 147 = .ok (.iinc 2 1, 3) := by decide +kernel
theorem dX3_start_150 : decode cX3_start 150 = .ok (.goto (-62), 3) := by decide +kernel
theorem dX3_start_153 : decode cX3_start 153 = .ok (.iconst 0, 1) := by decide +kernel
theorem dX3_start_154 : decode cX3_start 154 = .ok (.ireturn, 1) := by decide +kernel
theorem dX3_fits_0 : decode cX3_fits 0 = .ok (.iconst 1, 1) := by decide +kernel
theorem dX3_fits_1 : decode cX3_fits 1 = .ok (.istore_n 2, 1) := by decide +kernel
theorem dX3_fits_2 : decode cX3_fits 2 = .ok (.iconst 0, 1) := by decide +kernel
theorem dX3_fits_3 : decode cX3_fits 3 = .ok (.istore_n 3, 1) := by decide +kernel
theorem dX3_fits_4 : decode cX3_fits 4 = .ok (.iload_n 3, 1) := by decide +kernel
theorem dX3_fits_5 : decode cX3_fits 5 = .ok (.aload_n 0, 1) := by decide +kernel
theorem dX3_fits_6 : decode cX3_fits 6 = .ok (.getfield 72, 3) := by decide +kernel
theorem dX3_fits_9 : decode cX3_fits 9 = .ok (.if_icmp .ge 39, 3) := by decide +kernel
theorem dX3_fits_12 : decode cX3_fits 12 = .ok (.iload_n 2, 1) := by decide +kernel
theorem dX3_fits_13 : decode cX3_fits 13 = .ok (.ifCond .eq 27, 3) := by decide +kernel
theorem dX3_fits_16 : decode cX3_fits 16 = .ok (.aload_n 0, 1) := by decide +kernel
theorem dX3_fits_17 : decode cX3_fits 17 = .ok (.getfield 38, 3) := by decide +kernel
theorem dX3_fits_20 : decode cX3_fits 20 = .ok (.bipush 8, 2) := by decide +kernel
theorem dX3_fits_22 : decode cX3_fits 22 = .ok (.iload_n 1, 1) := by decide +kernel
theorem dX3_fits_23 : decode cX3_fits 23 = .ok (.imul, 1) := by decide +kernel
theorem dX3_fits_24 : decode cX3_fits 24 = .ok (.iload_n 3, 1) := by decide +kernel
theorem dX3_fits_25 : decode cX3_fits 25 = .ok (.iadd, 1) := by decide +kernel
theorem dX3_fits_26 : decode cX3_fits 26 = .ok (.iaload, 1) := by decide +kernel
theorem dX3_fits_27 : decode cX3_fits 27 = .ok (.aload_n 0, 1) := by decide +kernel
theorem dX3_fits_28 : decode cX3_fits 28 = .ok (.getfield 13, 3) := by decide +kernel
theorem dX3_fits_31 : decode cX3_fits 31 = .ok (.iload_n 3, 1) := by decide +kernel
theorem dX3_fits_32 : decode cX3_fits 32 = .ok (.iaload, 1) := by decide +kernel
theorem dX3_fits_33 : decode cX3_fits 33 = .ok (.if_icmp .gt 7, 3) := by decide +kernel
theorem dX3_fits_36 : decode cX3_fits 36 = .ok (.iconst 1, 1) := by decide +kernel
theorem dX3_fits_37 : decode cX3_fits 37 = .ok (.goto 4, 3) := by decide +kernel
theorem dX3_fits_40 : decode cX3_fits 40 = .ok (.iconst 0, 1) := by decide +kernel
theorem dX3_fits_41 : decode cX3_fits 41 = .ok (.istore_n 2, 1) := by decide +kernel
theorem dX3_fits_42 : decode cX3_fits 42 = .ok (.iinc 3 1, 3) := by decide +kernel
theorem dX3_fits_45 : decode cX3_fits 45 = .ok (.goto (-41), 3) := by decide +kernel
theorem dX3_fits_48 : decode cX3_fits 48 = .ok (.iload_n 2, 1) := by decide +kernel
theorem dX3_fits_49 : decode cX3_fits 49 = .ok (.ireturn, 1) := by decide +kernel
theorem dX3_lifts_0 : decode cX3_lifts 0 = .ok (.iconst 0, 1) := by decide +kernel
theorem dX3_lifts_1 : decode cX3_lifts 1 = .ok (.istore_n 2, 1) := by decide +kernel
theorem dX3_lifts_2 : decode cX3_lifts 2 = .ok (.iconst 0, 1) := by decide +kernel
theorem dX3_lifts_3 : decode cX3_lifts 3 = .ok (.istore_n 3, 1) := by decide +kernel
theorem dX3_lifts_4 : decode cX3_lifts 4 = .ok (.iload_n 3, 1) := by decide +kernel
theorem dX3_lifts_5 : decode cX3_lifts 5 = .ok (.aload_n 0, 1) := by decide +kernel
theorem dX3_lifts_6 : decode cX3_lifts 6 = .ok (.getfield 105, 3) := by decide +kernel
theorem dX3_lifts_9 : decode cX3_lifts 9 = .ok (.if_icmp .ge 132, 3) := by decide +kernel
theorem dX3_lifts_12 : decode cX3_lifts 12 = .ok (.bipush 8, 2) := by decide +kernel
theorem dX3_lifts_14 : decode cX3_lifts 14 = .ok (.iload_n 1, 1) := by decide +kernel
theorem dX3_lifts_15 : decode cX3_lifts 15 = .ok (.imul, 1) := by decide +kernel
theorem dX3_lifts_16 : decode cX3_lifts 16 = .ok (.aload_n 0, 1) := by decide +kernel
theorem dX3_lifts_17 : decode cX3_lifts 17 = .ok (.getfield 22, 3) := by decide +kernel
theorem dX3_lifts_20 : decode cX3_lifts 20 = .ok (.iload_n 3, 1) := by decide +kernel
theorem dX3_lifts_21 : decode cX3_lifts 21 = .ok (.iaload, 1) := by decide +kernel
theorem dX3_lifts_22 : decode cX3_lifts 22 = .ok (.iadd, 1) := by decide +kernel
theorem dX3_lifts_23 : decode cX3_lifts 23 = .ok (.istore 4, 2) := by decide +kernel
theorem dX3_lifts_25 : decode cX3_lifts 25 = .ok (.bipush 8, 2) := by decide +kernel
theorem dX3_lifts_27 : decode cX3_lifts 27 = .ok (.iload_n 1, 1) := by decide +kernel
theorem dX3_lifts_28 : decode cX3_lifts 28 = .ok (.imul, 1) := by decide +kernel
theorem dX3_lifts_29 : decode cX3_lifts 29 = .ok (.aload_n 0, 1) := by decide +kernel
theorem dX3_lifts_30 : decode cX3_lifts 30 = .ok (.getfield 25, 3) := by decide +kernel
theorem dX3_lifts_33 : decode cX3_lifts 33 = .ok (.iload_n 3, 1) := by decide +kernel
theorem dX3_lifts_34 : decode cX3_lifts 34 = .ok (.iaload, 1) := by decide +kernel
theorem dX3_lifts_35 : decode cX3_lifts 35 = .ok (.iadd, 1) := by decide +kernel
theorem dX3_lifts_36 : decode cX3_lifts 36 = .ok (.istore 5, 2) := by decide +kernel
theorem dX3_lifts_38 : decode cX3_lifts 38 = .ok (.aload_n 0, 1) := by decide +kernel
theorem dX3_lifts_39 : decode cX3_lifts 39 = .ok (.getfield 38, 3) := by decide +kernel
theorem dX3_lifts_42 : decode cX3_lifts 42 = .ok (.iload 5, 2) := by decide +kernel
theorem dX3_lifts_44 : decode cX3_lifts 44 = .ok (.iaload, 1) := by decide +kernel
theorem dX3_lifts_45 : decode cX3_lifts 45 = .ok (.aload_n 0, 1) := by decide +kernel
theorem dX3_lifts_46 : decode cX3_lifts 46 = .ok (.getfield 38, 3) := by decide +kernel
theorem dX3_lifts_49 : decode cX3_lifts 49 = .ok (.iload 4, 2) := by decide +kernel
theorem dX3_lifts_51 : decode cX3_lifts 51 = .ok (.iaload, 1) := by decide +kernel
theorem dX3_lifts_52 : decode cX3_lifts 52 = .ok (.aload_n 0, 1) := by decide +kernel
theorem dX3_lifts_53 : decode cX3_lifts 53 = .ok (.getfield 28, 3) := by decide +kernel
theorem dX3_lifts_56 : decode cX3_lifts 56 = .ok (.iload_n 3, 1) := by decide +kernel
theorem dX3_lifts_57 : decode cX3_lifts 57 = .ok (.iaload, 1) := by decide +kernel
theorem dX3_lifts_58 : decode cX3_lifts 58 = .ok (.iadd, 1) := by decide +kernel
theorem dX3_lifts_59 : decode cX3_lifts 59 = .ok (.if_icmp .ge 29, 3) := by decide +kernel
theorem dX3_lifts_62 : decode cX3_lifts 62 = .ok (.aload_n 0, 1) := by decide +kernel
theorem dX3_lifts_63 : decode cX3_lifts 63 = .ok (.getfield 38, 3) := by decide +kernel
theorem dX3_lifts_66 : decode cX3_lifts 66 = .ok (.iload 5, 2) := by decide +kernel
theorem dX3_lifts_68 : decode cX3_lifts 68 = .ok (.aload_n 0, 1) := by decide +kernel
theorem dX3_lifts_69 : decode cX3_lifts 69 = .ok (.getfield 38, 3) := by decide +kernel
theorem dX3_lifts_72 : decode cX3_lifts 72 = .ok (.iload 4, 2) := by decide +kernel
theorem dX3_lifts_74 : decode cX3_lifts 74 = .ok (.iaload, 1) := by decide +kernel
theorem dX3_lifts_75 : decode cX3_lifts 75 = .ok (.aload_n 0, 1) := by decide +kernel
theorem dX3_lifts_76 : decode cX3_lifts 76 = .ok (.getfield 28, 3) := by decide +kernel
theorem dX3_lifts_79 : decode cX3_lifts 79 = .ok (.iload_n 3, 1) := by decide +kernel
theorem dX3_lifts_80 : decode cX3_lifts 80 = .ok (.iaload, 1) := by decide +kernel
theorem dX3_lifts_81 : decode cX3_lifts 81 = .ok (.iadd, 1) := by decide +kernel
theorem dX3_lifts_82 : decode cX3_lifts 82 = .ok (.iastore, 1) := by decide +kernel
theorem dX3_lifts_83 : decode cX3_lifts 83 = .ok (.iconst 1, 1) := by decide +kernel
theorem dX3_lifts_84 : decode cX3_lifts 84 = .ok (.istore_n 2, 1) := by decide +kernel
theorem dX3_lifts_85 : decode cX3_lifts 85 = .ok (.goto 50, 3) := by decide +kernel
theorem dX3_lifts_88 : decode cX3_lifts 88 = .ok (.aload_n 0, 1) := by decide +kernel
theorem dX3_lifts_89 : decode cX3_lifts 89 = .ok (.getfield 38, 3) := by decide +kernel
theorem dX3_lifts_92 : decode cX3_lifts 92 = .ok (.iload 4, 2) := by decide +kernel
theorem dX3_lifts_94 : decode cX3_lifts 94 = .ok (.iaload, 1) := by decide +kernel
theorem dX3_lifts_95 : decode cX3_lifts 95 = .ok (.aload_n 0, 1) := by decide +kernel
theorem dX3_lifts_96 : decode cX3_lifts 96 = .ok (.getfield 38, 3) := by decide +kernel
theorem dX3_lifts_99 : decode cX3_lifts 99 = .ok (.iload 5, 2) := by decide +kernel
theorem dX3_lifts_101 : decode cX3_lifts 101 = .ok (.iaload, 1) := by decide +kernel
theorem dX3_lifts_102 : decode cX3_lifts 102 = .ok (.aload_n 0, 1) := by decide +kernel
theorem dX3_lifts_103 : decode cX3_lifts 103 = .ok (.getfield 31, 3) := by decide +kernel
theorem dX3_lifts_106 : decode cX3_lifts 106 = .ok (.iload_n 3, 1) := by decide +kernel
theorem dX3_lifts_107 : decode cX3_lifts 107 = .ok (.iaload, 1) := by decide +kernel
theorem dX3_lifts_108 : decode cX3_lifts 108 = .ok (.isub, 1) := by decide +kernel
theorem dX3_lifts_109 : decode cX3_lifts 109 = .ok (.if_icmp .ge 26, 3) := by decide +kernel
theorem dX3_lifts_112 : decode cX3_lifts 112 = .ok (.aload_n 0, 1) := by decide +kernel
theorem dX3_lifts_113 : decode cX3_lifts 113 = .ok (.getfield 38, 3) := by decide +kernel
theorem dX3_lifts_116 : decode cX3_lifts 116 = .ok (.iload 4, 2) := by decide +kernel
theorem dX3_lifts_118 : decode cX3_lifts 118 = .ok (.aload_n 0, 1) := by decide +kernel
theorem dX3_lifts_119 : decode cX3_lifts 119 = .ok (.getfield 38, 3) := by decide +kernel
theorem dX3_lifts_122 : decode cX3_lifts 122 = .ok (.iload 5, 2) := by decide +kernel
theorem dX3_lifts_124 : decode cX3_lifts 124 = .ok (.iaload, 1) := by decide +kernel
theorem dX3_lifts_125 : decode cX3_lifts 125 = .ok (.aload_n 0, 1) := by decide +kernel
theorem dX3_lifts_126 : decode cX3_lifts 126 = .ok (.getfield 31, 3) := by decide +kernel
theorem dX3_lifts_129 : decode cX3_lifts 129 = .ok (.iload_n 3, 1) := by decide +kernel
theorem dX3_lifts_130 : decode cX3_lifts 130 = .ok (.iaload, 1) := by decide +kernel
theorem dX3_lifts_131 : decode cX3_lifts 131 = .ok (.isub, 1) := by decide +kernel
theorem dX3_lifts_132 : decode cX3_lifts 132 = .ok (.iastore, 1) := by decide +kernel
theorem dX3_lifts_133 : decode cX3_lifts 133 = .ok (.iconst 1, 1) := by decide +kernel
theorem dX3_lifts_134 : decode cX3_lifts 134 = .ok (.istore_n 2, 1) := by decide +kernel
theorem dX3_lifts_135 : decode cX3_lifts 135 = .ok (.iinc 3 1, 3) := by decide +kernel
theorem dX3_lifts_138 : decode cX3_lifts 138 = .ok (.goto (-134), 3) := by decide +kernel
theorem dX3_lifts_141 : decode cX3_lifts 141 = .ok (.iload_n 2, 1) := by decide +kernel
theorem dX3_lifts_142 : decode cX3_lifts 142 = .ok (.ireturn, 1) := by decide +kernel
theorem dX3_run_0 : decode cX3_run 0 = .ok (.iload_n 1, 1) := by decide +kernel
theorem dX3_run_1 : decode cX3_run 1 = .ok (.iconst 0, 1) := by decide +kernel
theorem dX3_run_2 : decode cX3_run 2 = .ok (.bipush 100, 2) := by decide +kernel
theorem dX3_run_4 : decode cX3_run 4 = .ok (.invokestatic 75, 3) := by decide +kernel
theorem dX3_run_7 : decode cX3_run 7 = .ok (.ifCond .ne 7, 3) := by decide +kernel
theorem dX3_run_10 : decode cX3_run 10 = .ok (.iconst 1, 1) := by decide +kernel
theorem dX3_run_11 : decode cX3_run 11 = .ok (.goto 4, 3) := by decide +kernel
theorem dX3_run_14 : decode cX3_run 14 = .ok (.iconst 0, 1) := by decide +kernel
theorem dX3_run_15 : decode cX3_run 15 = .ok (.istore_n 2, 1) := by decide +kernel
theorem dX3_run_16 : decode cX3_run 16 = .ok (.iconst 0, 1) := by decide +kernel
theorem dX3_run_17 : decode cX3_run 17 = .ok (.istore_n 3, 1) := by decide +kernel
theorem dX3_run_18 : decode cX3_run 18 = .ok (.iconst 1, 1) := by decide +kernel
theorem dX3_run_19 : decode cX3_run 19 = .ok (.istore 4, 2) := by decide +kernel
theorem dX3_run_21 : decode cX3_run 21 = .ok (.iload 4, 2) := by decide +kernel
theorem dX3_run_23 : decode cX3_run 23 = .ok (.iload_n 1, 1) := by decide +kernel
theorem dX3_run_24 : decode cX3_run 24 = .ok (.if_icmp .gt 35, 3) := by decide +kernel
theorem dX3_run_27 : decode cX3_run 27 = .ok (.iload_n 2, 1) := by decide +kernel
theorem dX3_run_28 : decode cX3_run 28 = .ok (.ifCond .ne 31, 3) := by decide +kernel
theorem dX3_run_31 : decode cX3_run 31 = .ok (.iload_n 3, 1) := by decide +kernel
theorem dX3_run_32 : decode cX3_run 32 = .ok (.aload_n 0, 1) := by decide +kernel
theorem dX3_run_33 : decode cX3_run 33 = .ok (.aload_n 0, 1) := by decide +kernel
theorem dX3_run_34 : decode cX3_run 34 = .ok (.getfield 117, 3) := by decide +kernel
theorem dX3_run_37 : decode cX3_run 37 = .ok (.iload 4, 2) := by decide +kernel
theorem dX3_run_39 : decode cX3_run 39 = .ok (.iadd, 1) := by decide +kernel
theorem dX3_run_40 : decode cX3_run 40 = .ok (.invokevirtual 136, 3) := by decide +kernel
theorem dX3_run_43 : decode cX3_run 43 = .ok (.ifCond .eq 7, 3) := by decide +kernel
theorem dX3_run_46 : decode cX3_run 46 = .ok (.iconst 1, 1) := by decide +kernel
theorem dX3_run_47 : decode cX3_run 47 = .ok (.goto 4, 3) := by decide +kernel
theorem dX3_run_50 : decode cX3_run 50 = .ok (.iconst 0, 1) := by decide +kernel
theorem dX3_run_51 : decode cX3_run 51 = .ok (.iadd, 1) := by decide +kernel
theorem dX3_run_52 : decode cX3_run 52 = .ok (.istore_n 3, 1) := by decide +kernel
theorem dX3_run_53 : decode cX3_run 53 = .ok (.iinc 4 1, 3) := by decide +kernel
theorem dX3_run_56 : decode cX3_run 56 = .ok (.goto (-35), 3) := by decide +kernel
theorem dX3_run_59 : decode cX3_run 59 = .ok (.aload_n 0, 1) := by decide +kernel
theorem dX3_run_60 : decode cX3_run 60 = .ok (.iload_n 2, 1) := by decide +kernel
theorem dX3_run_61 : decode cX3_run 61 = .ok (.aload_n 0, 1) := by decide +kernel
theorem dX3_run_62 : decode cX3_run 62 = .ok (.getfield 79, 3) := by decide +kernel
theorem dX3_run_65 : decode cX3_run 65 = .ok (.ifCond .eq 14, 3) := by decide +kernel
theorem dX3_run_68 : decode cX3_run 68 = .ok (.aload_n 0, 1) := by decide +kernel
theorem dX3_run_69 : decode cX3_run 69 = .ok (.getfield 120, 3) := by decide +kernel
theorem dX3_run_72 : decode cX3_run 72 = .ok (.iload_n 3, 1) := by decide +kernel
theorem dX3_run_73 : decode cX3_run 73 = .ok (.iadd, 1) := by decide +kernel
theorem dX3_run_74 : decode cX3_run 74 = .ok (.bipush 60, 2) := by decide +kernel
theorem dX3_run_76 : decode cX3_run 76 = .ok (.if_icmp .le 7, 3) := by decide +kernel
theorem dX3_run_79 : decode cX3_run 79 = .ok (.iconst 1, 1) := by decide +kernel
theorem dX3_run_80 : decode cX3_run 80 = .ok (.goto 4, 3) := by decide +kernel
theorem dX3_run_83 : decode cX3_run 83 = .ok (.iconst 0, 1) := by decide +kernel
theorem dX3_run_84 : decode cX3_run 84 = .ok (.iconst 0, 1) := by decide +kernel
theorem dX3_run_85 : decode cX3_run 85 = .ok (.invokevirtual 86, 3) := by decide +kernel
theorem dX3_run_88 : decode cX3_run 88 = .ok (.ifCond .eq 5, 3) := by decide +kernel
theorem dX3_run_91 : decode cX3_run 91 = .ok (.iconst 0, 1) := by decide +kernel
theorem dX3_run_92 : decode cX3_run 92 = .ok (.ireturn, 1) := by decide +kernel
theorem dX3_run_93 : decode cX3_run 93 = .ok (.iconst 0, 1) := by decide +kernel
theorem dX3_run_94 : decode cX3_run 94 = .ok (.istore 4, 2) := by decide +kernel
theorem dX3_run_96 : decode cX3_run 96 = .ok (.iload 4, 2) := by decide +kernel
theorem dX3_run_98 : decode cX3_run 98 = .ok (.iload_n 1, 1) := by decide +kernel
theorem dX3_run_99 : decode cX3_run 99 = .ok (.if_icmp .ge 13, 3) := by decide +kernel
theorem dX3_run_102 : decode cX3_run 102 = .ok (.aload_n 0, 1) := by decide +kernel
theorem dX3_run_103 : decode cX3_run 103 = .ok (.invokevirtual 142, 3) := by decide +kernel
theorem dX3_run_106 : decode cX3_run 106 = .ok (.iinc 4 1, 3) := by decide +kernel
theorem dX3_run_109 : decode cX3_run 109 = .ok (.goto (-13), 3) := by decide +kernel
theorem dX3_run_112 : decode cX3_run 112 = .ok (.aload_n 0, 1) := by decide +kernel
theorem dX3_run_113 : decode cX3_run 113 = .ok (.getfield 120, 3) := by decide +kernel
theorem dX3_run_116 : decode cX3_run 116 = .ok (.ireturn, 1) := by decide +kernel
theorem dX3_isKept_0 : decode cX3_isKept 0 = .ok (.iload_n 1, 1) := by decide +kernel
theorem dX3_isKept_1 : decode cX3_isKept 1 = .ok (.aload_n 0, 1) := by decide +kernel
theorem dX3_isKept_2 : decode cX3_isKept 2 = .ok (.getfield 108, 3) := by decide +kernel
theorem dX3_isKept_5 : decode cX3_isKept 5 = .ok (.if_icmp .le 21, 3) := by decide +kernel
theorem dX3_isKept_8 : decode cX3_isKept 8 = .ok (.iload_n 1, 1) := by decide +kernel
theorem dX3_isKept_9 : decode cX3_isKept 9 = .ok (.aload_n 0, 1) := by decide +kernel
theorem dX3_isKept_10 : decode cX3_isKept 10 = .ok (.getfield 108, 3) := by decide +kernel
theorem dX3_isKept_13 : decode cX3_isKept 13 = .ok (.isub, 1) := by decide +kernel
theorem dX3_isKept_14 : decode cX3_isKept 14 = .ok (.aload_n 0, 1) := by decide +kernel
theorem dX3_isKept_15 : decode cX3_isKept 15 = .ok (.getfield 34, 3) := by decide +kernel
theorem dX3_isKept_18 : decode cX3_isKept 18 = .ok (.irem, 1) := by decide +kernel
theorem dX3_isKept_19 : decode cX3_isKept 19 = .ok (.ifCond .ne 7, 3) := by decide +kernel
theorem dX3_isKept_22 : decode cX3_isKept 22 = .ok (.iconst 1, 1) := by decide +kernel
theorem dX3_isKept_23 : decode cX3_isKept 23 = .ok (.goto 4, 3) := by decide +kernel
theorem dX3_isKept_26 : decode cX3_isKept 26 = .ok (.iconst 0, 1) := by decide +kernel
theorem dX3_isKept_27 : decode cX3_isKept 27 = .ok (.ireturn, 1) := by decide +kernel
theorem dX3_step_0 : decode cX3_step 0 = .ok (.aload_n 0, 1) := by decide +kernel
theorem dX3_step_1 : decode cX3_step 1 = .ok (.dup, 1) := by decide +kernel
theorem dX3_step_2 : decode cX3_step 2 = .ok (.getfield 117, 3) := by decide +kernel
theorem dX3_step_5 : decode cX3_step 5 = .ok (.iconst 1, 1) := by decide +kernel
theorem dX3_step_6 : decode cX3_step 6 = .ok (.iadd, 1) := by decide +kernel
theorem dX3_step_7 : decode cX3_step 7 = .ok (.putfield 117, 3) := by decide +kernel
theorem dX3_step_10 : decode cX3_step 10 = .ok (.iconst 0, 1) := by decide +kernel
theorem dX3_step_11 : decode cX3_step 11 = .ok (.istore_n 1, 1) := by decide +kernel
theorem dX3_step_12 : decode cX3_step 12 = .ok (.iload_n 1, 1) := by decide +kernel
theorem dX3_step_13 : decode cX3_step 13 = .ok (.aload_n 0, 1) := by decide +kernel
theorem dX3_step_14 : decode cX3_step 14 = .ok (.getfield 66, 3) := by decide +kernel
theorem dX3_step_17 : decode cX3_step 17 = .ok (.if_icmp .ge 85, 3) := by decide +kernel
theorem dX3_step_20 : decode cX3_step 20 = .ok (.iconst 0, 1) := by decide +kernel
theorem dX3_step_21 : decode cX3_step 21 = .ok (.istore_n 2, 1) := by decide +kernel
theorem dX3_step_22 : decode cX3_step 22 = .ok (.iload_n 2, 1) := by decide +kernel
theorem dX3_step_23 : decode cX3_step 23 = .ok (.aload_n 0, 1) := by decide +kernel
theorem dX3_step_24 : decode cX3_step 24 = .ok (.getfield 72, 3) := by decide +kernel
theorem dX3_step_27 : decode cX3_step 27 = .ok (.if_icmp .ge 15, 3) := by decide +kernel
theorem dX3_step_30 : decode cX3_step 30 = .ok (.aload_n 0, 1) := by decide +kernel
theorem dX3_step_31 : decode cX3_step 31 = .ok (.iload_n 1, 1) := by decide +kernel
theorem dX3_step_32 : decode cX3_step 32 = .ok (.iload_n 2, 1) := by decide +kernel
theorem dX3_step_33 : decode cX3_step 33 = .ok (.invokevirtual 132, 3) := by decide +kernel
theorem dX3_step_36 : decode cX3_step 36 = .ok (.iinc 2 1, 3) := by decide +kernel
theorem dX3_step_39 : decode cX3_step 39 = .ok (.goto (-17), 3) := by decide +kernel
theorem dX3_step_42 : decode cX3_step 42 = .ok (.iconst 0, 1) := by decide +kernel
theorem dX3_step_43 : decode cX3_step 43 = .ok (.istore_n 2, 1) := by decide +kernel
theorem dX3_step_44 : decode cX3_step 44 = .ok (.iload_n 2, 1) := by decide +kernel
theorem dX3_step_45 : decode cX3_step 45 = .ok (.aload_n 0, 1) := by decide +kernel
theorem dX3_step_46 : decode cX3_step 46 = .ok (.getfield 72, 3) := by decide +kernel
theorem dX3_step_49 : decode cX3_step 49 = .ok (.if_icmp .ge 47, 3) := by decide +kernel
theorem dX3_step_52 : decode cX3_step 52 = .ok (.aload_n 0, 1) := by decide +kernel
theorem dX3_step_53 : decode cX3_step 53 = .ok (.aload_n 0, 1) := by decide +kernel
theorem dX3_step_54 : decode cX3_step 54 = .ok (.getfield 117, 3) := by decide +kernel
theorem dX3_step_57 : decode cX3_step 57 = .ok (.invokevirtual 136, 3) := by decide +kernel
theorem dX3_step_60 : decode cX3_step 60 = .ok (.ifCond .eq 36, 3) := by decide +kernel
theorem dX3_step_63 : decode cX3_step 63 = .ok (.aload_n 0, 1) := by decide +kernel
theorem dX3_step_64 : decode cX3_step 64 = .ok (.getfield 45, 3) := by decide +kernel
theorem dX3_step_67 : decode cX3_step 67 = .ok (.aload_n 0, 1) := by decide +kernel
theorem dX3_step_68 : decode cX3_step 68 = .ok (.iload_n 1, 1) := by decide +kernel
theorem dX3_step_69 : decode cX3_step 69 = .ok (.aload_n 0, 1) := by decide +kernel
theorem dX3_step_70 : decode cX3_step 70 = .ok (.getfield 120, 3) := by decide +kernel
theorem dX3_step_73 : decode cX3_step 73 = .ok (.invokevirtual 139, 3) := by decide +kernel
theorem dX3_step_76 : decode cX3_step 76 = .ok (.iload_n 2, 1) := by decide +kernel
theorem dX3_step_77 : decode cX3_step 77 = .ok (.iadd, 1) := by decide +kernel
theorem dX3_step_78 : decode cX3_step 78 = .ok (.aload_n 0, 1) := by decide +kernel
theorem dX3_step_79 : decode cX3_step 79 = .ok (.getfield 38, 3) := by decide +kernel
theorem dX3_step_82 : decode cX3_step 82 = .ok (.bipush 8, 2) := by decide +kernel
theorem dX3_step_84 : decode cX3_step 84 = .ok (.iload_n 1, 1) := by decide +kernel
theorem dX3_step_85 : decode cX3_step 85 = .ok (.imul, 1) := by decide +kernel
theorem dX3_step_86 : decode cX3_step 86 = .ok (.iload_n 2, 1) := by decide +kernel
theorem dX3_step_87 : decode cX3_step 87 = .ok (.iadd, 1) := by decide +kernel
theorem dX3_step_88 : decode cX3_step 88 = .ok (.iaload, 1) := by decide +kernel
theorem dX3_step_89 : decode cX3_step 89 = .ok (.iastore, 1) := by decide +kernel
theorem dX3_step_90 : decode cX3_step 90 = .ok (.iinc 2 1, 3) := by decide +kernel
theorem dX3_step_93 : decode cX3_step 93 = .ok (.goto (-49), 3) := by decide +kernel
theorem dX3_step_96 : decode cX3_step 96 = .ok (.iinc 1 1, 3) := by decide +kernel
theorem dX3_step_99 : decode cX3_step 99 = .ok (.goto (-87), 3) := by decide +kernel
theorem dX3_step_102 : decode cX3_step 102 = .ok (.aload_n 0, 1) := by decide +kernel
theorem dX3_step_103 : decode cX3_step 103 = .ok (.dup, 1) := by decide +kernel
theorem dX3_step_104 : decode cX3_step 104 = .ok (.getfield 120, 3) := by decide +kernel
theorem dX3_step_107 : decode cX3_step 107 = .ok (.aload_n 0, 1) := by decide +kernel
theorem dX3_step_108 : decode cX3_step 108 = .ok (.aload_n 0, 1) := by decide +kernel
theorem dX3_step_109 : decode cX3_step 109 = .ok (.getfield 117, 3) := by decide +kernel
theorem dX3_step_112 : decode cX3_step 112 = .ok (.invokevirtual 136, 3) := by decide +kernel
theorem dX3_step_115 : decode cX3_step 115 = .ok (.ifCond .eq 7, 3) := by decide +kernel
theorem dX3_step_118 : decode cX3_step 118 = .ok (.iconst 1, 1) := by decide +kernel
theorem dX3_step_119 : decode cX3_step 119 = .ok (.goto 4, 3) := by decide +kernel
theorem dX3_step_122 : decode cX3_step 122 = .ok (.iconst 0, 1) := by decide +kernel
theorem dX3_step_123 : decode cX3_step 123 = .ok (.iadd, 1) := by decide +kernel
theorem dX3_step_124 : decode cX3_step 124 = .ok (.putfield 120, 3) := by decide +kernel
theorem dX3_step_127 : decode cX3_step 127 = .ok (.return_, 1) := by decide +kernel
theorem dX3_draw_0 : decode cX3_draw 0 = .ok (.bipush 8, 2) := by decide +kernel
theorem dX3_draw_2 : decode cX3_draw 2 = .ok (.iload_n 1, 1) := by decide +kernel
theorem dX3_draw_3 : decode cX3_draw 3 = .ok (.imul, 1) := by decide +kernel
theorem dX3_draw_4 : decode cX3_draw 4 = .ok (.iload_n 2, 1) := by decide +kernel
theorem dX3_draw_5 : decode cX3_draw 5 = .ok (.iadd, 1) := by decide +kernel
theorem dX3_draw_6 : decode cX3_draw 6 = .ok (.istore_n 3, 1) := by decide +kernel
theorem dX3_draw_7 : decode cX3_draw 7 = .ok (.iconst 0, 1) := by decide +kernel
theorem dX3_draw_8 : decode cX3_draw 8 = .ok (.istore 4, 2) := by decide +kernel
theorem dX3_draw_10 : decode cX3_draw 10 = .ok (.aload_n 0, 1) := by decide +kernel
theorem dX3_draw_11 : decode cX3_draw 11 = .ok (.getfield 7, 3) := by decide +kernel
theorem dX3_draw_14 : decode cX3_draw 14 = .ok (.iload_n 2, 1) := by decide +kernel
theorem dX3_draw_15 : decode cX3_draw 15 = .ok (.iaload, 1) := by decide +kernel
theorem dX3_draw_16 : decode cX3_draw 16 = .ok (.istore 5, 2) := by decide +kernel
theorem dX3_draw_18 : decode cX3_draw 18 = .ok (.iload 5, 2) := by decide +kernel
theorem dX3_draw_20 : decode cX3_draw 20 = .ok (.aload_n 0, 1) := by decide +kernel
theorem dX3_draw_21 : decode cX3_draw 21 = .ok (.getfield 13, 3) := by decide +kernel
theorem dX3_draw_24 : decode cX3_draw 24 = .ok (.iload_n 2, 1) := by decide +kernel
theorem dX3_draw_25 : decode cX3_draw 25 = .ok (.iaload, 1) := by decide +kernel
theorem dX3_draw_26 : decode cX3_draw 26 = .ok (.if_icmp .gt 42, 3) := by decide +kernel
theorem dX3_draw_29 : decode cX3_draw 29 = .ok (.aload_n 0, 1) := by decide +kernel
theorem dX3_draw_30 : decode cX3_draw 30 = .ok (.getfield 38, 3) := by decide +kernel
theorem dX3_draw_33 : decode cX3_draw 33 = .ok (.iload_n 3, 1) := by decide +kernel
theorem dX3_draw_34 : decode cX3_draw 34 = .ok (.iload 5, 2) := by decide +kernel
theorem dX3_draw_36 : decode cX3_draw 36 = .ok (.iastore, 1) := by decide +kernel
theorem dX3_draw_37 : decode cX3_draw 37 = .ok (.iload 4, 2) := by decide +kernel
theorem dX3_draw_39 : decode cX3_draw 39 = .ok (.aload_n 0, 1) := by decide +kernel
theorem dX3_draw_40 : decode cX3_draw 40 = .ok (.iload_n 1, 1) := by decide +kernel
theorem dX3_draw_41 : decode cX3_draw 41 = .ok (.iload_n 2, 1) := by decide +kernel
theorem dX3_draw_42 : decode cX3_draw 42 = .ok (.invokevirtual 125, 3) := by decide +kernel
theorem dX3_draw_45 : decode cX3_draw 45 = .ok (.ifCond .eq 13, 3) := by decide +kernel
theorem dX3_draw_48 : decode cX3_draw 48 = .ok (.aload_n 0, 1) := by decide +kernel
theorem dX3_draw_49 : decode cX3_draw 49 = .ok (.iload_n 2, 1) := by decide +kernel
theorem dX3_draw_50 : decode cX3_draw 50 = .ok (.iload 5, 2) := by decide +kernel
theorem dX3_draw_52 : decode cX3_draw 52 = .ok (.invokevirtual 101, 3) := by decide +kernel
theorem dX3_draw_55 : decode cX3_draw 55 = .ok (.goto 4, 3) := by decide +kernel
theorem dX3_draw_58 : decode cX3_draw 58 = .ok (.iconst 0, 1) := by decide +kernel
theorem dX3_draw_59 : decode cX3_draw 59 = .ok (.iadd, 1) := by decide +kernel
theorem dX3_draw_60 : decode cX3_draw 60 = .ok (.istore 4, 2) := by decide +kernel
theorem dX3_draw_62 : decode cX3_draw 62 = .ok (.iinc 5 1, 3) := by decide +kernel
theorem dX3_draw_65 : decode cX3_draw 65 = .ok (.goto (-47), 3) := by decide +kernel
theorem dX3_draw_68 : decode cX3_draw 68 = .ok (.aload_n 0, 1) := by decide +kernel
theorem dX3_draw_69 : decode cX3_draw 69 = .ok (.getfield 41, 3) := by decide +kernel
theorem dX3_draw_72 : decode cX3_draw 72 = .ok (.iload_n 1, 1) := by decide +kernel
theorem dX3_draw_73 : decode cX3_draw 73 = .ok (.ldc2_w 128, 3) := by decide +kernel
theorem dX3_draw_76 : decode cX3_draw 76 = .ok (.aload_n 0, 1) := by decide +kernel
theorem dX3_draw_77 : decode cX3_draw 77 = .ok (.getfield 41, 3) := by decide +kernel
theorem dX3_draw_80 : decode cX3_draw 80 = .ok (.iload_n 1, 1) := by decide +kernel
theorem dX3_draw_81 : decode cX3_draw 81 = .ok (.laload, 1) := by decide +kernel
theorem dX3_draw_82 : decode cX3_draw 82 = .ok (.lmul, 1) := by decide +kernel
theorem dX3_draw_83 : decode cX3_draw 83 = .ok (.ldc2_w 130, 3) := by decide +kernel
theorem dX3_draw_86 : decode cX3_draw 86 = .ok (.ladd, 1) := by decide +kernel
theorem dX3_draw_87 : decode cX3_draw 87 = .ok (.lastore, 1) := by decide +kernel
theorem dX3_draw_88 : decode cX3_draw 88 = .ok (.aload_n 0, 1) := by decide +kernel
theorem dX3_draw_89 : decode cX3_draw 89 = .ok (.getfield 41, 3) := by decide +kernel
theorem dX3_draw_92 : decode cX3_draw 92 = .ok (.iload_n 1, 1) := by decide +kernel
theorem dX3_draw_93 : decode cX3_draw 93 = .ok (.laload, 1) := by decide +kernel
theorem dX3_draw_94 : decode cX3_draw 94 = .ok (.bipush 33, 2) := by decide +kernel
theorem dX3_draw_96 : decode cX3_draw 96 = .ok (.lushr, 1) := by decide +kernel
theorem dX3_draw_97 : decode cX3_draw 97 = .ok (.iload 4, 2) := by decide +kernel
theorem dX3_draw_99 : decode cX3_draw 99 = .ok (.i2l, 1) := by decide +kernel
theorem dX3_draw_100 : decode cX3_draw 100 = .ok (.lrem, 1) := by decide +kernel
theorem dX3_draw_101 : decode cX3_draw 101 = .ok (.lstore 5, 2) := by decide +kernel
theorem dX3_draw_103 : decode cX3_draw 103 = .ok (.iconst 0, 1) := by decide +kernel
theorem dX3_draw_104 : decode cX3_draw 104 = .ok (.istore 7, 2) := by decide +kernel
theorem dX3_draw_106 : decode cX3_draw 106 = .ok (.aload_n 0, 1) := by decide +kernel
theorem dX3_draw_107 : decode cX3_draw 107 = .ok (.getfield 7, 3) := by decide +kernel
theorem dX3_draw_110 : decode cX3_draw 110 = .ok (.iload_n 2, 1) := by decide +kernel
theorem dX3_draw_111 : decode cX3_draw 111 = .ok (.iaload, 1) := by decide +kernel
theorem dX3_draw_112 : decode cX3_draw 112 = .ok (.iconst 1, 1) := by decide +kernel
theorem dX3_draw_113 : decode cX3_draw 113 = .ok (.isub, 1) := by decide +kernel
theorem dX3_draw_114 : decode cX3_draw 114 = .ok (.istore 8, 2) := by decide +kernel
theorem dX3_draw_116 : decode cX3_draw 116 = .ok (.iload 7, 2) := by decide +kernel
theorem dX3_draw_118 : decode cX3_draw 118 = .ok (.i2l, 1) := by decide +kernel
theorem dX3_draw_119 : decode cX3_draw 119 = .ok (.lload 5, 2) := by decide +kernel
theorem dX3_draw_121 : decode cX3_draw 121 = .ok (.lcmp, 1) := by decide +kernel
theorem dX3_draw_122 : decode cX3_draw 122 = .ok (.ifCond .gt 42, 3) := by decide +kernel
theorem dX3_draw_125 : decode cX3_draw 125 = .ok (.iinc 8 1, 3) := by decide +kernel
theorem dX3_draw_128 : decode cX3_draw 128 = .ok (.aload_n 0, 1) := by decide +kernel
theorem dX3_draw_129 : decode cX3_draw 129 = .ok (.getfield 38, 3) := by decide +kernel
theorem dX3_draw_132 : decode cX3_draw 132 = .ok (.iload_n 3, 1) := by decide +kernel
theorem dX3_draw_133 : decode cX3_draw 133 = .ok (.iload 8, 2) := by decide +kernel
theorem dX3_draw_135 : decode cX3_draw 135 = .ok (.iastore, 1) := by decide +kernel
theorem dX3_draw_136 : decode cX3_draw 136 = .ok (.iload 7, 2) := by decide +kernel
theorem dX3_draw_138 : decode cX3_draw 138 = .ok (.aload_n 0, 1) := by decide +kernel
theorem dX3_draw_139 : decode cX3_draw 139 = .ok (.iload_n 1, 1) := by decide +kernel
theorem dX3_draw_140 : decode cX3_draw 140 = .ok (.iload_n 2, 1) := by decide +kernel
theorem dX3_draw_141 : decode cX3_draw 141 = .ok (.invokevirtual 125, 3) := by decide +kernel
theorem dX3_draw_144 : decode cX3_draw 144 = .ok (.ifCond .eq 13, 3) := by decide +kernel
theorem dX3_draw_147 : decode cX3_draw 147 = .ok (.aload_n 0, 1) := by decide +kernel
theorem dX3_draw_148 : decode cX3_draw 148 = .ok (.iload_n 2, 1) := by decide +kernel
theorem dX3_draw_149 : decode cX3_draw 149 = .ok (.iload 8, 2) := by decide +kernel
theorem dX3_draw_151 : decode cX3_draw 151 = .ok (.invokevirtual 101, 3) := by decide +kernel
theorem dX3_draw_154 : decode cX3_draw 154 = .ok (.goto 4, 3) := by decide +kernel
theorem dX3_draw_157 : decode cX3_draw 157 = .ok (.iconst 0, 1) := by decide +kernel
theorem dX3_draw_158 : decode cX3_draw 158 = .ok (.iadd, 1) := by decide +kernel
theorem dX3_draw_159 : decode cX3_draw 159 = .ok (.istore 7, 2) := by decide +kernel
theorem dX3_draw_161 : decode cX3_draw 161 = .ok (.goto (-45), 3) := by decide +kernel
theorem dX3_draw_164 : decode cX3_draw 164 = .ok (.return_, 1) := by decide +kernel
theorem dX3_holds_0 : decode cX3_holds 0 = .ok (.iconst 1, 1) := by decide +kernel
theorem dX3_holds_1 : decode cX3_holds 1 = .ok (.istore_n 3, 1) := by decide +kernel
theorem dX3_holds_2 : decode cX3_holds 2 = .ok (.iconst 0, 1) := by decide +kernel
theorem dX3_holds_3 : decode cX3_holds 3 = .ok (.istore 4, 2) := by decide +kernel
theorem dX3_holds_5 : decode cX3_holds 5 = .ok (.iload 4, 2) := by decide +kernel
theorem dX3_holds_7 : decode cX3_holds 7 = .ok (.aload_n 0, 1) := by decide +kernel
theorem dX3_holds_8 : decode cX3_holds 8 = .ok (.getfield 105, 3) := by decide +kernel
theorem dX3_holds_11 : decode cX3_holds 11 = .ok (.if_icmp .ge 103, 3) := by decide +kernel
theorem dX3_holds_14 : decode cX3_holds 14 = .ok (.aload_n 0, 1) := by decide +kernel
theorem dX3_holds_15 : decode cX3_holds 15 = .ok (.getfield 22, 3) := by decide +kernel
theorem dX3_holds_18 : decode cX3_holds 18 = .ok (.iload 4, 2) := by decide +kernel
theorem dX3_holds_20 : decode cX3_holds 20 = .ok (.iaload, 1) := by decide +kernel
theorem dX3_holds_21 : decode cX3_holds 21 = .ok (.iload_n 2, 1) := by decide +kernel
theorem dX3_holds_22 : decode cX3_holds 22 = .ok (.if_icmp .eq 17, 3) := by decide +kernel
theorem dX3_holds_25 : decode cX3_holds 25 = .ok (.aload_n 0, 1) := by decide +kernel
theorem dX3_holds_26 : decode cX3_holds 26 = .ok (.getfield 25, 3) := by decide +kernel
theorem dX3_holds_29 : decode cX3_holds 29 = .ok (.iload 4, 2) := by decide +kernel
theorem dX3_holds_31 : decode cX3_holds 31 = .ok (.iaload, 1) := by decide +kernel
theorem dX3_holds_32 : decode cX3_holds 32 = .ok (.iload_n 2, 1) := by decide +kernel
theorem dX3_holds_33 : decode cX3_holds 33 = .ok (.if_icmp .eq 6, 3) := by decide +kernel
theorem dX3_holds_36 : decode cX3_holds 36 = .ok (.goto 72, 3) := by decide +kernel
theorem dX3_holds_39 : decode cX3_holds 39 = .ok (.aload_n 0, 1) := by decide +kernel
theorem dX3_holds_40 : decode cX3_holds 40 = .ok (.getfield 38, 3) := by decide +kernel
theorem dX3_holds_43 : decode cX3_holds 43 = .ok (.bipush 8, 2) := by decide +kernel
theorem dX3_holds_45 : decode cX3_holds 45 = .ok (.iload_n 1, 1) := by decide +kernel
theorem dX3_holds_46 : decode cX3_holds 46 = .ok (.imul, 1) := by decide +kernel
theorem dX3_holds_47 : decode cX3_holds 47 = .ok (.aload_n 0, 1) := by decide +kernel
theorem dX3_holds_48 : decode cX3_holds 48 = .ok (.getfield 25, 3) := by decide +kernel
theorem dX3_holds_51 : decode cX3_holds 51 = .ok (.iload 4, 2) := by decide +kernel
theorem dX3_holds_53 : decode cX3_holds 53 = .ok (.iaload, 1) := by decide +kernel
theorem dX3_holds_54 : decode cX3_holds 54 = .ok (.iadd, 1) := by decide +kernel
theorem dX3_holds_55 : decode cX3_holds 55 = .ok (.iaload, 1) := by decide +kernel
theorem dX3_holds_56 : decode cX3_holds 56 = .ok (.aload_n 0, 1) := by decide +kernel
theorem dX3_holds_57 : decode cX3_holds 57 = .ok (.getfield 38, 3) := by decide +kernel
theorem dX3_holds_60 : decode cX3_holds 60 = .ok (.bipush 8, 2) := by decide +kernel
theorem dX3_holds_62 : decode cX3_holds 62 = .ok (.iload_n 1, 1) := by decide +kernel
theorem dX3_holds_63 : decode cX3_holds 63 = .ok (.imul, 1) := by decide +kernel
theorem dX3_holds_64 : decode cX3_holds 64 = .ok (.aload_n 0, 1) := by decide +kernel
theorem dX3_holds_65 : decode cX3_holds 65 = .ok (.getfield 22, 3) := by decide +kernel
theorem dX3_holds_68 : decode cX3_holds 68 = .ok (.iload 4, 2) := by decide +kernel
theorem dX3_holds_70 : decode cX3_holds 70 = .ok (.iaload, 1) := by decide +kernel
theorem dX3_holds_71 : decode cX3_holds 71 = .ok (.iadd, 1) := by decide +kernel
theorem dX3_holds_72 : decode cX3_holds 72 = .ok (.iaload, 1) := by decide +kernel
theorem dX3_holds_73 : decode cX3_holds 73 = .ok (.isub, 1) := by decide +kernel
theorem dX3_holds_74 : decode cX3_holds 74 = .ok (.istore 5, 2) := by decide +kernel
theorem dX3_holds_76 : decode cX3_holds 76 = .ok (.iload_n 3, 1) := by decide +kernel
theorem dX3_holds_77 : decode cX3_holds 77 = .ok (.ifCond .eq 29, 3) := by decide +kernel
theorem dX3_holds_80 : decode cX3_holds 80 = .ok (.iload 5, 2) := by decide +kernel
theorem dX3_holds_82 : decode cX3_holds 82 = .ok (.aload_n 0, 1) := by decide +kernel
theorem dX3_holds_83 : decode cX3_holds 83 = .ok (.getfield 28, 3) := by decide +kernel
theorem dX3_holds_86 : decode cX3_holds 86 = .ok (.iload 4, 2) := by decide +kernel
theorem dX3_holds_88 : decode cX3_holds 88 = .ok (.iaload, 1) := by decide +kernel
theorem dX3_holds_89 : decode cX3_holds 89 = .ok (.aload_n 0, 1) := by decide +kernel
theorem dX3_holds_90 : decode cX3_holds 90 = .ok (.getfield 31, 3) := by decide +kernel
theorem dX3_holds_93 : decode cX3_holds 93 = .ok (.iload 4, 2) := by decide +kernel
theorem dX3_holds_95 : decode cX3_holds 95 = .ok (.iaload, 1) := by decide +kernel
theorem dX3_holds_96 : decode cX3_holds 96 = .ok (.invokestatic 75, 3) := by decide +kernel
theorem dX3_holds_99 : decode cX3_holds 99 = .ok (.ifCond .eq 7, 3) := by decide +kernel
theorem dX3_holds_102 : decode cX3_holds 102 = .ok (.iconst 1, 1) := by decide +kernel
theorem dX3_holds_103 : decode cX3_holds 103 = .ok (.goto 4, 3) := by decide +kernel
theorem dX3_holds_106 : decode cX3_holds 106 = .ok (.iconst 0, 1) := by decide +kernel
theorem dX3_holds_107 : decode cX3_holds 107 = .ok (.istore_n 3, 1) := by decide +kernel
theorem dX3_holds_108 : decode cX3_holds 108 = .ok (.iinc 4 1, 3) := by decide +kernel
theorem dX3_holds_111 : decode cX3_holds 111 = .ok (.goto (-106), 3) := by decide +kernel
theorem dX3_holds_114 : decode cX3_holds 114 = .ok (.iload_n 3, 1) := by decide +kernel
theorem dX3_holds_115 : decode cX3_holds 115 = .ok (.ireturn, 1) := by decide +kernel
theorem dX3_rowAt_0 : decode cX3_rowAt 0 = .ok (.bipush 8, 2) := by decide +kernel
theorem dX3_rowAt_2 : decode cX3_rowAt 2 = .ok (.bipush 60, 2) := by decide +kernel
theorem dX3_rowAt_4 : decode cX3_rowAt 4 = .ok (.iload_n 1, 1) := by decide +kernel
theorem dX3_rowAt_5 : decode cX3_rowAt 5 = .ok (.imul, 1) := by decide +kernel
theorem dX3_rowAt_6 : decode cX3_rowAt 6 = .ok (.iload_n 2, 1) := by decide +kernel
theorem dX3_rowAt_7 : decode cX3_rowAt 7 = .ok (.iadd, 1) := by decide +kernel
theorem dX3_rowAt_8 : decode cX3_rowAt 8 = .ok (.imul, 1) := by decide +kernel
theorem dX3_rowAt_9 : decode cX3_rowAt 9 = .ok (.ireturn, 1) := by decide +kernel
theorem dX3_at_0 : decode cX3_at 0 = .ok (.iload_n 1, 1) := by decide +kernel
theorem dX3_at_1 : decode cX3_at 1 = .ok (.iconst 0, 1) := by decide +kernel
theorem dX3_at_2 : decode cX3_at 2 = .ok (.aload_n 0, 1) := by decide +kernel
theorem dX3_at_3 : decode cX3_at 3 = .ok (.getfield 66, 3) := by decide +kernel
theorem dX3_at_6 : decode cX3_at 6 = .ok (.iconst 1, 1) := by decide +kernel
theorem dX3_at_7 : decode cX3_at 7 = .ok (.isub, 1) := by decide +kernel
theorem dX3_at_8 : decode cX3_at 8 = .ok (.invokestatic 75, 3) := by decide +kernel
theorem dX3_at_11 : decode cX3_at 11 = .ok (.ifCond .eq 31, 3) := by decide +kernel
theorem dX3_at_14 : decode cX3_at 14 = .ok (.iload_n 2, 1) := by decide +kernel
theorem dX3_at_15 : decode cX3_at 15 = .ok (.iconst (-1), 1) := by decide +kernel
theorem dX3_at_16 : decode cX3_at 16 = .ok (.if_icmp .lt 26, 3) := by decide +kernel
theorem dX3_at_19 : decode cX3_at 19 = .ok (.aload_n 0, 1) := by decide +kernel
theorem dX3_at_20 : decode cX3_at 20 = .ok (.getfield 79, 3) := by decide +kernel
theorem dX3_at_23 : decode cX3_at 23 = .ok (.ifCond .eq 11, 3) := by decide +kernel
theorem dX3_at_26 : decode cX3_at 26 = .ok (.iload_n 2, 1) := by decide +kernel
theorem dX3_at_27 : decode cX3_at 27 = .ok (.aload_n 0, 1) := by decide +kernel
theorem dX3_at_28 : decode cX3_at 28 = .ok (.getfield 120, 3) := by decide +kernel
theorem dX3_at_31 : decode cX3_at 31 = .ok (.if_icmp .ge 11, 3) := by decide +kernel
theorem dX3_at_34 : decode cX3_at 34 = .ok (.aload_n 0, 1) := by decide +kernel
theorem dX3_at_35 : decode cX3_at 35 = .ok (.iload_n 3, 1) := by decide +kernel
theorem dX3_at_36 : decode cX3_at 36 = .ok (.invokevirtual 93, 3) := by decide +kernel
theorem dX3_at_39 : decode cX3_at 39 = .ok (.ifCond .ne 7, 3) := by decide +kernel
theorem dX3_at_42 : decode cX3_at 42 = .ok (.iconst 1, 1) := by decide +kernel
theorem dX3_at_43 : decode cX3_at 43 = .ok (.goto 4, 3) := by decide +kernel
theorem dX3_at_46 : decode cX3_at 46 = .ok (.iconst 0, 1) := by decide +kernel
theorem dX3_at_47 : decode cX3_at 47 = .ok (.istore 4, 2) := by decide +kernel
theorem dX3_at_49 : decode cX3_at 49 = .ok (.aload_n 0, 1) := by decide +kernel
theorem dX3_at_50 : decode cX3_at 50 = .ok (.iload 4, 2) := by decide +kernel
theorem dX3_at_52 : decode cX3_at 52 = .ok (.aload_n 0, 1) := by decide +kernel
theorem dX3_at_53 : decode cX3_at 53 = .ok (.getfield 79, 3) := by decide +kernel
theorem dX3_at_56 : decode cX3_at 56 = .ok (.ifCond .ne 7, 3) := by decide +kernel
theorem dX3_at_59 : decode cX3_at 59 = .ok (.iconst 1, 1) := by decide +kernel
theorem dX3_at_60 : decode cX3_at 60 = .ok (.goto 4, 3) := by decide +kernel
theorem dX3_at_63 : decode cX3_at 63 = .ok (.iconst 0, 1) := by decide +kernel
theorem dX3_at_64 : decode cX3_at 64 = .ok (.iconst 0, 1) := by decide +kernel
theorem dX3_at_65 : decode cX3_at 65 = .ok (.invokevirtual 86, 3) := by decide +kernel
theorem dX3_at_68 : decode cX3_at 68 = .ok (.ifCond .eq 5, 3) := by decide +kernel
theorem dX3_at_71 : decode cX3_at 71 = .ok (.iconst 0, 1) := by decide +kernel
theorem dX3_at_72 : decode cX3_at 72 = .ok (.ireturn, 1) := by decide +kernel
theorem dX3_at_73 : decode cX3_at 73 = .ok (.iload_n 2, 1) := by decide +kernel
theorem dX3_at_74 : decode cX3_at 74 = .ok (.iconst (-1), 1) := by decide +kernel
theorem dX3_at_75 : decode cX3_at 75 = .ok (.if_icmp .ne 17, 3) := by decide +kernel
theorem dX3_at_78 : decode cX3_at 78 = .ok (.aload_n 0, 1) := by decide +kernel
theorem dX3_at_79 : decode cX3_at 79 = .ok (.getfield 38, 3) := by decide +kernel
theorem dX3_at_82 : decode cX3_at 82 = .ok (.bipush 8, 2) := by decide +kernel
theorem dX3_at_84 : decode cX3_at 84 = .ok (.iload_n 1, 1) := by decide +kernel
theorem dX3_at_85 : decode cX3_at 85 = .ok (.imul, 1) := by decide +kernel
theorem dX3_at_86 : decode cX3_at 86 = .ok (.iload_n 3, 1) := by decide +kernel
theorem dX3_at_87 : decode cX3_at 87 = .ok (.iadd, 1) := by decide +kernel
theorem dX3_at_88 : decode cX3_at 88 = .ok (.iaload, 1) := by decide +kernel
theorem dX3_at_89 : decode cX3_at 89 = .ok (.goto 16, 3) := by decide +kernel
theorem dX3_at_92 : decode cX3_at 92 = .ok (.aload_n 0, 1) := by decide +kernel
theorem dX3_at_93 : decode cX3_at 93 = .ok (.getfield 45, 3) := by decide +kernel
theorem dX3_at_96 : decode cX3_at 96 = .ok (.aload_n 0, 1) := by decide +kernel
theorem dX3_at_97 : decode cX3_at 97 = .ok (.iload_n 1, 1) := by decide +kernel
theorem dX3_at_98 : decode cX3_at 98 = .ok (.iload_n 2, 1) := by decide +kernel
theorem dX3_at_99 : decode cX3_at 99 = .ok (.invokevirtual 139, 3) := by decide +kernel
theorem dX3_at_102 : decode cX3_at 102 = .ok (.iload_n 3, 1) := by decide +kernel
theorem dX3_at_103 : decode cX3_at 103 = .ok (.iadd, 1) := by decide +kernel
theorem dX3_at_104 : decode cX3_at 104 = .ok (.iaload, 1) := by decide +kernel
theorem dX3_at_105 : decode cX3_at 105 = .ok (.ireturn, 1) := by decide +kernel
theorem dX3_counted_0 : decode cX3_counted 0 = .ok (.aload_n 0, 1) := by decide +kernel
theorem dX3_counted_1 : decode cX3_counted 1 = .ok (.aload_n 0, 1) := by decide +kernel
theorem dX3_counted_2 : decode cX3_counted 2 = .ok (.iload_n 1, 1) := by decide +kernel
theorem dX3_counted_3 : decode cX3_counted 3 = .ok (.iload_n 2, 1) := by decide +kernel
theorem dX3_counted_4 : decode cX3_counted 4 = .ok (.invokevirtual 97, 3) := by decide +kernel
theorem dX3_counted_7 : decode cX3_counted 7 = .ok (.ifCond .ne 7, 3) := by decide +kernel
theorem dX3_counted_10 : decode cX3_counted 10 = .ok (.iconst 1, 1) := by decide +kernel
theorem dX3_counted_11 : decode cX3_counted 11 = .ok (.goto 4, 3) := by decide +kernel
theorem dX3_counted_14 : decode cX3_counted 14 = .ok (.iconst 0, 1) := by decide +kernel
theorem dX3_counted_15 : decode cX3_counted 15 = .ok (.aload_n 0, 1) := by decide +kernel
theorem dX3_counted_16 : decode cX3_counted 16 = .ok (.getfield 79, 3) := by decide +kernel
theorem dX3_counted_19 : decode cX3_counted 19 = .ok (.ifCond .ne 7, 3) := by decide +kernel
theorem dX3_counted_22 : decode cX3_counted 22 = .ok (.iconst 1, 1) := by decide +kernel
theorem dX3_counted_23 : decode cX3_counted 23 = .ok (.goto 4, 3) := by decide +kernel
theorem dX3_counted_26 : decode cX3_counted 26 = .ok (.iconst 0, 1) := by decide +kernel
theorem dX3_counted_27 : decode cX3_counted 27 = .ok (.iconst 0, 1) := by decide +kernel
theorem dX3_counted_28 : decode cX3_counted 28 = .ok (.invokevirtual 86, 3) := by decide +kernel
theorem dX3_counted_31 : decode cX3_counted 31 = .ok (.ifCond .eq 5, 3) := by decide +kernel
theorem dX3_counted_34 : decode cX3_counted 34 = .ok (.iconst 0, 1) := by decide +kernel
theorem dX3_counted_35 : decode cX3_counted 35 = .ok (.ireturn, 1) := by decide +kernel
theorem dX3_counted_36 : decode cX3_counted 36 = .ok (.iconst 0, 1) := by decide +kernel
theorem dX3_counted_37 : decode cX3_counted 37 = .ok (.istore_n 3, 1) := by decide +kernel
theorem dX3_counted_38 : decode cX3_counted 38 = .ok (.iconst 0, 1) := by decide +kernel
theorem dX3_counted_39 : decode cX3_counted 39 = .ok (.istore 4, 2) := by decide +kernel
theorem dX3_counted_41 : decode cX3_counted 41 = .ok (.iload 4, 2) := by decide +kernel
theorem dX3_counted_43 : decode cX3_counted 43 = .ok (.aload_n 0, 1) := by decide +kernel
theorem dX3_counted_44 : decode cX3_counted 44 = .ok (.getfield 66, 3) := by decide +kernel
theorem dX3_counted_47 : decode cX3_counted 47 = .ok (.aload_n 0, 1) := by decide +kernel
theorem dX3_counted_48 : decode cX3_counted 48 = .ok (.getfield 120, 3) := by decide +kernel
theorem dX3_counted_51 : decode cX3_counted 51 = .ok (.imul, 1) := by decide +kernel
theorem dX3_counted_52 : decode cX3_counted 52 = .ok (.if_icmp .ge 46, 3) := by decide +kernel
theorem dX3_counted_55 : decode cX3_counted 55 = .ok (.iload_n 3, 1) := by decide +kernel
theorem dX3_counted_56 : decode cX3_counted 56 = .ok (.aload_n 0, 1) := by decide +kernel
theorem dX3_counted_57 : decode cX3_counted 57 = .ok (.getfield 45, 3) := by decide +kernel
theorem dX3_counted_60 : decode cX3_counted 60 = .ok (.aload_n 0, 1) := by decide +kernel
theorem dX3_counted_61 : decode cX3_counted 61 = .ok (.iload 4, 2) := by decide +kernel
theorem dX3_counted_63 : decode cX3_counted 63 = .ok (.aload_n 0, 1) := by decide +kernel
theorem dX3_counted_64 : decode cX3_counted 64 = .ok (.getfield 120, 3) := by decide +kernel
theorem dX3_counted_67 : decode cX3_counted 67 = .ok (.idiv, 1) := by decide +kernel
theorem dX3_counted_68 : decode cX3_counted 68 = .ok (.iload 4, 2) := by decide +kernel
theorem dX3_counted_70 : decode cX3_counted 70 = .ok (.aload_n 0, 1) := by decide +kernel
theorem dX3_counted_71 : decode cX3_counted 71 = .ok (.getfield 120, 3) := by decide +kernel
theorem dX3_counted_74 : decode cX3_counted 74 = .ok (.irem, 1) := by decide +kernel
theorem dX3_counted_75 : decode cX3_counted 75 = .ok (.invokevirtual 139, 3) := by decide +kernel
theorem dX3_counted_78 : decode cX3_counted 78 = .ok (.iload_n 1, 1) := by decide +kernel
theorem dX3_counted_79 : decode cX3_counted 79 = .ok (.iadd, 1) := by decide +kernel
theorem dX3_counted_80 : decode cX3_counted 80 = .ok (.iaload, 1) := by decide +kernel
theorem dX3_counted_81 : decode cX3_counted 81 = .ok (.iload_n 2, 1) := by decide +kernel
theorem dX3_counted_82 : decode cX3_counted 82 = .ok (.if_icmp .ne 7, 3) := by decide +kernel
theorem dX3_counted_85 : decode cX3_counted 85 = .ok (.iconst 1, 1) := by decide +kernel
theorem dX3_counted_86 : decode cX3_counted 86 = .ok (.goto 4, 3) := by decide +kernel
theorem dX3_counted_89 : decode cX3_counted 89 = .ok (.iconst 0, 1) := by decide +kernel
theorem dX3_counted_90 : decode cX3_counted 90 = .ok (.iadd, 1) := by decide +kernel
theorem dX3_counted_91 : decode cX3_counted 91 = .ok (.istore_n 3, 1) := by decide +kernel
theorem dX3_counted_92 : decode cX3_counted 92 = .ok (.iinc 4 1, 3) := by decide +kernel
theorem dX3_counted_95 : decode cX3_counted 95 = .ok (.goto (-54), 3) := by decide +kernel
theorem dX3_counted_98 : decode cX3_counted 98 = .ok (.iload_n 3, 1) := by decide +kernel
theorem dX3_counted_99 : decode cX3_counted 99 = .ok (.ireturn, 1) := by decide +kernel
theorem dX3_apart_0 : decode cX3_apart 0 = .ok (.aload_n 0, 1) := by decide +kernel
theorem dX3_apart_1 : decode cX3_apart 1 = .ok (.aload_n 0, 1) := by decide +kernel
theorem dX3_apart_2 : decode cX3_apart 2 = .ok (.iload_n 1, 1) := by decide +kernel
theorem dX3_apart_3 : decode cX3_apart 3 = .ok (.invokevirtual 93, 3) := by decide +kernel
theorem dX3_apart_6 : decode cX3_apart 6 = .ok (.ifCond .ne 7, 3) := by decide +kernel
theorem dX3_apart_9 : decode cX3_apart 9 = .ok (.iconst 1, 1) := by decide +kernel
theorem dX3_apart_10 : decode cX3_apart 10 = .ok (.goto 4, 3) := by decide +kernel
theorem dX3_apart_13 : decode cX3_apart 13 = .ok (.iconst 0, 1) := by decide +kernel
theorem dX3_apart_14 : decode cX3_apart 14 = .ok (.aload_n 0, 1) := by decide +kernel
theorem dX3_apart_15 : decode cX3_apart 15 = .ok (.getfield 79, 3) := by decide +kernel
theorem dX3_apart_18 : decode cX3_apart 18 = .ok (.ifCond .ne 7, 3) := by decide +kernel
theorem dX3_apart_21 : decode cX3_apart 21 = .ok (.iconst 1, 1) := by decide +kernel
theorem dX3_apart_22 : decode cX3_apart 22 = .ok (.goto 4, 3) := by decide +kernel
theorem dX3_apart_25 : decode cX3_apart 25 = .ok (.iconst 0, 1) := by decide +kernel
theorem dX3_apart_26 : decode cX3_apart 26 = .ok (.iconst 0, 1) := by decide +kernel
theorem dX3_apart_27 : decode cX3_apart 27 = .ok (.invokevirtual 86, 3) := by decide +kernel
theorem dX3_apart_30 : decode cX3_apart 30 = .ok (.ifCond .eq 5, 3) := by decide +kernel
theorem dX3_apart_33 : decode cX3_apart 33 = .ok (.iconst 0, 1) := by decide +kernel
theorem dX3_apart_34 : decode cX3_apart 34 = .ok (.ireturn, 1) := by decide +kernel
theorem dX3_apart_35 : decode cX3_apart 35 = .ok (.iconst 0, 1) := by decide +kernel
theorem dX3_apart_36 : decode cX3_apart 36 = .ok (.istore_n 2, 1) := by decide +kernel
theorem dX3_apart_37 : decode cX3_apart 37 = .ok (.iconst 0, 1) := by decide +kernel
theorem dX3_apart_38 : decode cX3_apart 38 = .ok (.istore_n 3, 1) := by decide +kernel
theorem dX3_apart_39 : decode cX3_apart 39 = .ok (.iconst 0, 1) := by decide +kernel
theorem dX3_apart_40 : decode cX3_apart 40 = .ok (.istore 4, 2) := by decide +kernel
theorem dX3_apart_42 : decode cX3_apart 42 = .ok (.iload 4, 2) := by decide +kernel
theorem dX3_apart_44 : decode cX3_apart 44 = .ok (.aload_n 0, 1) := by decide +kernel
theorem dX3_apart_45 : decode cX3_apart 45 = .ok (.getfield 66, 3) := by decide +kernel
theorem dX3_apart_48 : decode cX3_apart 48 = .ok (.if_icmp .ge 86, 3) := by decide +kernel
theorem dX3_apart_51 : decode cX3_apart 51 = .ok (.iconst 0, 1) := by decide +kernel
theorem dX3_apart_52 : decode cX3_apart 52 = .ok (.istore 5, 2) := by decide +kernel
theorem dX3_apart_54 : decode cX3_apart 54 = .ok (.iconst 0, 1) := by decide +kernel
theorem dX3_apart_55 : decode cX3_apart 55 = .ok (.istore 6, 2) := by decide +kernel
theorem dX3_apart_57 : decode cX3_apart 57 = .ok (.iload 6, 2) := by decide +kernel
theorem dX3_apart_59 : decode cX3_apart 59 = .ok (.aload_n 0, 1) := by decide +kernel
theorem dX3_apart_60 : decode cX3_apart 60 = .ok (.getfield 120, 3) := by decide +kernel
theorem dX3_apart_63 : decode cX3_apart 63 = .ok (.if_icmp .ge 29, 3) := by decide +kernel
theorem dX3_apart_66 : decode cX3_apart 66 = .ok (.iload 5, 2) := by decide +kernel
theorem dX3_apart_68 : decode cX3_apart 68 = .ok (.aload_n 0, 1) := by decide +kernel
theorem dX3_apart_69 : decode cX3_apart 69 = .ok (.getfield 45, 3) := by decide +kernel
theorem dX3_apart_72 : decode cX3_apart 72 = .ok (.aload_n 0, 1) := by decide +kernel
theorem dX3_apart_73 : decode cX3_apart 73 = .ok (.iload 4, 2) := by decide +kernel
theorem dX3_apart_75 : decode cX3_apart 75 = .ok (.iload 6, 2) := by decide +kernel
theorem dX3_apart_77 : decode cX3_apart 77 = .ok (.invokevirtual 139, 3) := by decide +kernel
theorem dX3_apart_80 : decode cX3_apart 80 = .ok (.iload_n 1, 1) := by decide +kernel
theorem dX3_apart_81 : decode cX3_apart 81 = .ok (.iadd, 1) := by decide +kernel
theorem dX3_apart_82 : decode cX3_apart 82 = .ok (.iaload, 1) := by decide +kernel
theorem dX3_apart_83 : decode cX3_apart 83 = .ok (.iadd, 1) := by decide +kernel
theorem dX3_apart_84 : decode cX3_apart 84 = .ok (.istore 5, 2) := by decide +kernel
theorem dX3_apart_86 : decode cX3_apart 86 = .ok (.iinc 6 1, 3) := by decide +kernel
theorem dX3_apart_89 : decode cX3_apart 89 = .ok (.goto (-32), 3) := by decide +kernel
theorem dX3_apart_92 : decode cX3_apart 92 = .ok (.iload 4, 2) := by decide +kernel
theorem dX3_apart_94 : decode cX3_apart 94 = .ok (.ifCond .eq 9, 3) := by decide +kernel
theorem dX3_apart_97 : decode cX3_apart 97 = .ok (.iload 5, 2) := by decide +kernel
theorem dX3_apart_99 : decode cX3_apart 99 = .ok (.iload_n 2, 1) := by decide +kernel
theorem dX3_apart_100 : decode cX3_apart 100 = .ok (.if_icmp .ge 8, 3) := by decide +kernel
theorem dX3_apart_103 : decode cX3_apart 103 = .ok (.iload 5, 2) := by decide +kernel
theorem dX3_apart_105 : decode cX3_apart 105 = .ok (.goto 4, 3) := by decide +kernel
theorem dX3_apart_108 : decode cX3_apart 108 = .ok (.iload_n 2, 1) := by decide +kernel
theorem dX3_apart_109 : decode cX3_apart 109 = .ok (.istore_n 2, 1) := by decide +kernel
theorem dX3_apart_110 : decode cX3_apart 110 = .ok (.iload 4, 2) := by decide +kernel
theorem dX3_apart_112 : decode cX3_apart 112 = .ok (.ifCond .eq 9, 3) := by decide +kernel
theorem dX3_apart_115 : decode cX3_apart 115 = .ok (.iload 5, 2) := by decide +kernel
theorem dX3_apart_117 : decode cX3_apart 117 = .ok (.iload_n 3, 1) := by decide +kernel
theorem dX3_apart_118 : decode cX3_apart 118 = .ok (.if_icmp .le 8, 3) := by decide +kernel
theorem dX3_apart_121 : decode cX3_apart 121 = .ok (.iload 5, 2) := by decide +kernel
theorem dX3_apart_123 : decode cX3_apart 123 = .ok (.goto 4, 3) := by decide +kernel
theorem dX3_apart_126 : decode cX3_apart 126 = .ok (.iload_n 3, 1) := by decide +kernel
theorem dX3_apart_127 : decode cX3_apart 127 = .ok (.istore_n 3, 1) := by decide +kernel
theorem dX3_apart_128 : decode cX3_apart 128 = .ok (.iinc 4 1, 3) := by decide +kernel
theorem dX3_apart_131 : decode cX3_apart 131 = .ok (.goto (-89), 3) := by decide +kernel
theorem dX3_apart_134 : decode cX3_apart 134 = .ok (.iload_n 3, 1) := by decide +kernel
theorem dX3_apart_135 : decode cX3_apart 135 = .ok (.iload_n 2, 1) := by decide +kernel
theorem dX3_apart_136 : decode cX3_apart 136 = .ok (.isub, 1) := by decide +kernel
theorem dX3_apart_137 : decode cX3_apart 137 = .ok (.ireturn, 1) := by decide +kernel
theorem dX3_agreement_0 : decode cX3_agreement 0 = .ok (.aload_n 0, 1) := by decide +kernel
theorem dX3_agreement_1 : decode cX3_agreement 1 = .ok (.aload_n 0, 1) := by decide +kernel
theorem dX3_agreement_2 : decode cX3_agreement 2 = .ok (.iload_n 1, 1) := by decide +kernel
theorem dX3_agreement_3 : decode cX3_agreement 3 = .ok (.invokevirtual 93, 3) := by decide +kernel
theorem dX3_agreement_6 : decode cX3_agreement 6 = .ok (.ifCond .ne 7, 3) := by decide +kernel
theorem dX3_agreement_9 : decode cX3_agreement 9 = .ok (.iconst 1, 1) := by decide +kernel
theorem dX3_agreement_10 : decode cX3_agreement 10 = .ok (.goto 4, 3) := by decide +kernel
theorem dX3_agreement_13 : decode cX3_agreement 13 = .ok (.iconst 0, 1) := by decide +kernel
theorem dX3_agreement_14 : decode cX3_agreement 14 = .ok (.aload_n 0, 1) := by decide +kernel
theorem dX3_agreement_15 : decode cX3_agreement 15 = .ok (.getfield 79, 3) := by decide +kernel
theorem dX3_agreement_18 : decode cX3_agreement 18 = .ok (.ifCond .ne 7, 3) := by decide +kernel
theorem dX3_agreement_21 : decode cX3_agreement 21 = .ok (.iconst 1, 1) := by decide +kernel
theorem dX3_agreement_22 : decode cX3_agreement 22 = .ok (.goto 4, 3) := by decide +kernel
theorem dX3_agreement_25 : decode cX3_agreement 25 = .ok (.iconst 0, 1) := by decide +kernel
theorem dX3_agreement_26 : decode cX3_agreement 26 = .ok (.iconst 0, 1) := by decide +kernel
theorem dX3_agreement_27 : decode cX3_agreement 27 = .ok (.invokevirtual 86, 3) := by decide +kernel
theorem dX3_agreement_30 : decode cX3_agreement 30 = .ok (.ifCond .eq 5, 3) := by decide +kernel
theorem dX3_agreement_33 : decode cX3_agreement 33 = .ok (.iconst 0, 1) := by decide +kernel
theorem dX3_agreement_34 : decode cX3_agreement 34 = .ok (.ireturn, 1) := by decide +kernel
theorem dX3_agreement_35 : decode cX3_agreement 35 = .ok (.aload_n 0, 1) := by decide +kernel
theorem dX3_agreement_36 : decode cX3_agreement 36 = .ok (.getfield 120, 3) := by decide +kernel
theorem dX3_agreement_39 : decode cX3_agreement 39 = .ok (.ifCond .ne 5, 3) := by decide +kernel
theorem dX3_agreement_42 : decode cX3_agreement 42 = .ok (.iconst (-1), 1) := by decide +kernel
theorem dX3_agreement_43 : decode cX3_agreement 43 = .ok (.ireturn, 1) := by decide +kernel
theorem dX3_agreement_44 : decode cX3_agreement 44 = .ok (.lconst 0, 1) := by decide +kernel
theorem dX3_agreement_45 : decode cX3_agreement 45 = .ok (.lstore_n 2, 1) := by decide +kernel
theorem dX3_agreement_46 : decode cX3_agreement 46 = .ok (.iconst 0, 1) := by decide +kernel
theorem dX3_agreement_47 : decode cX3_agreement 47 = .ok (.istore 4, 2) := by decide +kernel
theorem dX3_agreement_49 : decode cX3_agreement 49 = .ok (.iload 4, 2) := by decide +kernel
theorem dX3_agreement_51 : decode cX3_agreement 51 = .ok (.aload_n 0, 1) := by decide +kernel
theorem dX3_agreement_52 : decode cX3_agreement 52 = .ok (.getfield 66, 3) := by decide +kernel
theorem dX3_agreement_55 : decode cX3_agreement 55 = .ok (.aload_n 0, 1) := by decide +kernel
theorem dX3_agreement_56 : decode cX3_agreement 56 = .ok (.getfield 120, 3) := by decide +kernel
theorem dX3_agreement_59 : decode cX3_agreement 59 = .ok (.imul, 1) := by decide +kernel
theorem dX3_agreement_60 : decode cX3_agreement 60 = .ok (.if_icmp .ge 43, 3) := by decide +kernel
theorem dX3_agreement_63 : decode cX3_agreement 63 = .ok (.lload_n 2, 1) := by decide +kernel
theorem dX3_agreement_64 : decode cX3_agreement 64 = .ok (.aload_n 0, 1) := by decide +kernel
theorem dX3_agreement_65 : decode cX3_agreement 65 = .ok (.iload_n 1, 1) := by decide +kernel
theorem dX3_agreement_66 : decode cX3_agreement 66 = .ok (.aload_n 0, 1) := by decide +kernel
theorem dX3_agreement_67 : decode cX3_agreement 67 = .ok (.getfield 45, 3) := by decide +kernel
theorem dX3_agreement_70 : decode cX3_agreement 70 = .ok (.aload_n 0, 1) := by decide +kernel
theorem dX3_agreement_71 : decode cX3_agreement 71 = .ok (.iload 4, 2) := by decide +kernel
theorem dX3_agreement_73 : decode cX3_agreement 73 = .ok (.aload_n 0, 1) := by decide +kernel
theorem dX3_agreement_74 : decode cX3_agreement 74 = .ok (.getfield 120, 3) := by decide +kernel
theorem dX3_agreement_77 : decode cX3_agreement 77 = .ok (.idiv, 1) := by decide +kernel
theorem dX3_agreement_78 : decode cX3_agreement 78 = .ok (.iload 4, 2) := by decide +kernel
theorem dX3_agreement_80 : decode cX3_agreement 80 = .ok (.aload_n 0, 1) := by decide +kernel
theorem dX3_agreement_81 : decode cX3_agreement 81 = .ok (.getfield 120, 3) := by decide +kernel
theorem dX3_agreement_84 : decode cX3_agreement 84 = .ok (.irem, 1) := by decide +kernel
theorem dX3_agreement_85 : decode cX3_agreement 85 = .ok (.invokevirtual 139, 3) := by decide +kernel
theorem dX3_agreement_88 : decode cX3_agreement 88 = .ok (.iload_n 1, 1) := by decide +kernel
theorem dX3_agreement_89 : decode cX3_agreement 89 = .ok (.iadd, 1) := by decide +kernel
theorem dX3_agreement_90 : decode cX3_agreement 90 = .ok (.iaload, 1) := by decide +kernel
theorem dX3_agreement_91 : decode cX3_agreement 91 = .ok (.invokevirtual 101, 3) := by decide +kernel
theorem dX3_agreement_94 : decode cX3_agreement 94 = .ok (.i2l, 1) := by decide +kernel
theorem dX3_agreement_95 : decode cX3_agreement 95 = .ok (.ladd, 1) := by decide +kernel
theorem dX3_agreement_96 : decode cX3_agreement 96 = .ok (.lstore_n 2, 1) := by decide +kernel
theorem dX3_agreement_97 : decode cX3_agreement 97 = .ok (.iinc 4 1, 3) := by decide +kernel
theorem dX3_agreement_100 : decode cX3_agreement 100 = .ok (.goto (-51), 3) := by decide +kernel
theorem dX3_agreement_103 : decode cX3_agreement 103 = .ok (.iconst 0, 1) := by decide +kernel
theorem dX3_agreement_104 : decode cX3_agreement 104 = .ok (.istore 4, 2) := by decide +kernel
theorem dX3_agreement_106 : decode cX3_agreement 106 = .ok (.aload_n 0, 1) := by decide +kernel
theorem dX3_agreement_107 : decode cX3_agreement 107 = .ok (.getfield 7, 3) := by decide +kernel
theorem dX3_agreement_110 : decode cX3_agreement 110 = .ok (.iload_n 1, 1) := by decide +kernel
theorem dX3_agreement_111 : decode cX3_agreement 111 = .ok (.iaload, 1) := by decide +kernel
theorem dX3_agreement_112 : decode cX3_agreement 112 = .ok (.istore 5, 2) := by decide +kernel
theorem dX3_agreement_114 : decode cX3_agreement 114 = .ok (.iload 5, 2) := by decide +kernel
theorem dX3_agreement_116 : decode cX3_agreement 116 = .ok (.aload_n 0, 1) := by decide +kernel
theorem dX3_agreement_117 : decode cX3_agreement 117 = .ok (.getfield 13, 3) := by decide +kernel
theorem dX3_agreement_120 : decode cX3_agreement 120 = .ok (.iload_n 1, 1) := by decide +kernel
theorem dX3_agreement_121 : decode cX3_agreement 121 = .ok (.iaload, 1) := by decide +kernel
theorem dX3_agreement_122 : decode cX3_agreement 122 = .ok (.if_icmp .gt 35, 3) := by decide +kernel
theorem dX3_agreement_125 : decode cX3_agreement 125 = .ok (.aload_n 0, 1) := by decide +kernel
theorem dX3_agreement_126 : decode cX3_agreement 126 = .ok (.iload_n 1, 1) := by decide +kernel
theorem dX3_agreement_127 : decode cX3_agreement 127 = .ok (.iload 5, 2) := by decide +kernel
theorem dX3_agreement_129 : decode cX3_agreement 129 = .ok (.invokevirtual 101, 3) := by decide +kernel
theorem dX3_agreement_132 : decode cX3_agreement 132 = .ok (.iload 4, 2) := by decide +kernel
theorem dX3_agreement_134 : decode cX3_agreement 134 = .ok (.if_icmp .le 13, 3) := by decide +kernel
theorem dX3_agreement_137 : decode cX3_agreement 137 = .ok (.aload_n 0, 1) := by decide +kernel
theorem dX3_agreement_138 : decode cX3_agreement 138 = .ok (.iload_n 1, 1) := by decide +kernel
theorem dX3_agreement_139 : decode cX3_agreement 139 = .ok (.iload 5, 2) := by decide +kernel
theorem dX3_agreement_141 : decode cX3_agreement 141 = .ok (.invokevirtual 101, 3) := by decide +kernel
theorem dX3_agreement_144 : decode cX3_agreement 144 = .ok (.goto 5, 3) := by decide +kernel
theorem dX3_agreement_147 : decode cX3_agreement 147 = .ok (.iload 4, 2) := by decide +kernel
theorem dX3_agreement_149 : decode cX3_agreement 149 = .ok (.istore 4, 2) := by decide +kernel
theorem dX3_agreement_151 : decode cX3_agreement 151 = .ok (.iinc 5 1, 3) := by decide +kernel
theorem dX3_agreement_154 : decode cX3_agreement 154 = .ok (.goto (-40), 3) := by decide +kernel
theorem dX3_agreement_157 : decode cX3_agreement 157 = .ok (.ldc2_w 145, 3) := by decide +kernel
theorem dX3_agreement_160 : decode cX3_agreement 160 = .ok (.lload_n 2, 1) := by decide +kernel
theorem dX3_agreement_161 : decode cX3_agreement 161 = .ok (.lmul, 1) := by decide +kernel
theorem dX3_agreement_162 : decode cX3_agreement 162 = .ok (.aload_n 0, 1) := by decide +kernel
theorem dX3_agreement_163 : decode cX3_agreement 163 = .ok (.getfield 66, 3) := by decide +kernel
theorem dX3_agreement_166 : decode cX3_agreement 166 = .ok (.i2l, 1) := by decide +kernel
theorem dX3_agreement_167 : decode cX3_agreement 167 = .ok (.aload_n 0, 1) := by decide +kernel
theorem dX3_agreement_168 : decode cX3_agreement 168 = .ok (.getfield 120, 3) := by decide +kernel
theorem dX3_agreement_171 : decode cX3_agreement 171 = .ok (.i2l, 1) := by decide +kernel
theorem dX3_agreement_172 : decode cX3_agreement 172 = .ok (.lmul, 1) := by decide +kernel
theorem dX3_agreement_173 : decode cX3_agreement 173 = .ok (.iload 4, 2) := by decide +kernel
theorem dX3_agreement_175 : decode cX3_agreement 175 = .ok (.i2l, 1) := by decide +kernel
theorem dX3_agreement_176 : decode cX3_agreement 176 = .ok (.lmul, 1) := by decide +kernel
theorem dX3_agreement_177 : decode cX3_agreement 177 = .ok (.ldiv, 1) := by decide +kernel
theorem dX3_agreement_178 : decode cX3_agreement 178 = .ok (.l2i, 1) := by decide +kernel
theorem dX3_agreement_179 : decode cX3_agreement 179 = .ok (.ireturn, 1) := by decide +kernel
theorem dX3_spans_0 : decode cX3_spans 0 = .ok (.aload_n 0, 1) := by decide +kernel
theorem dX3_spans_1 : decode cX3_spans 1 = .ok (.iload_n 1, 1) := by decide +kernel
theorem dX3_spans_2 : decode cX3_spans 2 = .ok (.iconst 0, 1) := by decide +kernel
theorem dX3_spans_3 : decode cX3_spans 3 = .ok (.iconst 3, 1) := by decide +kernel
theorem dX3_spans_4 : decode cX3_spans 4 = .ok (.invokestatic 75, 3) := by decide +kernel
theorem dX3_spans_7 : decode cX3_spans 7 = .ok (.ifCond .ne 7, 3) := by decide +kernel
theorem dX3_spans_10 : decode cX3_spans 10 = .ok (.iconst 1, 1) := by decide +kernel
theorem dX3_spans_11 : decode cX3_spans 11 = .ok (.goto 4, 3) := by decide +kernel
theorem dX3_spans_14 : decode cX3_spans 14 = .ok (.iconst 0, 1) := by decide +kernel
theorem dX3_spans_15 : decode cX3_spans 15 = .ok (.iload_n 2, 1) := by decide +kernel
theorem dX3_spans_16 : decode cX3_spans 16 = .ok (.iconst 0, 1) := by decide +kernel
theorem dX3_spans_17 : decode cX3_spans 17 = .ok (.sipush 255, 3) := by decide +kernel
theorem dX3_spans_20 : decode cX3_spans 20 = .ok (.invokestatic 75, 3) := by decide +kernel
theorem dX3_spans_23 : decode cX3_spans 23 = .ok (.ifCond .ne 7, 3) := by decide +kernel
theorem dX3_spans_26 : decode cX3_spans 26 = .ok (.iconst 1, 1) := by decide +kernel
theorem dX3_spans_27 : decode cX3_spans 27 = .ok (.goto 4, 3) := by decide +kernel
theorem dX3_spans_30 : decode cX3_spans 30 = .ok (.iconst 0, 1) := by decide +kernel
theorem dX3_spans_31 : decode cX3_spans 31 = .ok (.aload_n 0, 1) := by decide +kernel
theorem dX3_spans_32 : decode cX3_spans 32 = .ok (.getfield 79, 3) := by decide +kernel
theorem dX3_spans_35 : decode cX3_spans 35 = .ok (.ifCond .ne 7, 3) := by decide +kernel
theorem dX3_spans_38 : decode cX3_spans 38 = .ok (.iconst 1, 1) := by decide +kernel
theorem dX3_spans_39 : decode cX3_spans 39 = .ok (.goto 4, 3) := by decide +kernel
theorem dX3_spans_42 : decode cX3_spans 42 = .ok (.iconst 0, 1) := by decide +kernel
theorem dX3_spans_43 : decode cX3_spans 43 = .ok (.invokevirtual 86, 3) := by decide +kernel
theorem dX3_spans_46 : decode cX3_spans 46 = .ok (.ifCond .eq 5, 3) := by decide +kernel
theorem dX3_spans_49 : decode cX3_spans 49 = .ok (.iconst 0, 1) := by decide +kernel
theorem dX3_spans_50 : decode cX3_spans 50 = .ok (.ireturn, 1) := by decide +kernel
theorem dX3_spans_51 : decode cX3_spans 51 = .ok (.iconst 0, 1) := by decide +kernel
theorem dX3_spans_52 : decode cX3_spans 52 = .ok (.istore_n 3, 1) := by decide +kernel
theorem dX3_spans_53 : decode cX3_spans 53 = .ok (.iconst 0, 1) := by decide +kernel
theorem dX3_spans_54 : decode cX3_spans 54 = .ok (.istore 4, 2) := by decide +kernel
theorem dX3_spans_56 : decode cX3_spans 56 = .ok (.iload 4, 2) := by decide +kernel
theorem dX3_spans_58 : decode cX3_spans 58 = .ok (.aload_n 0, 1) := by decide +kernel
theorem dX3_spans_59 : decode cX3_spans 59 = .ok (.getfield 66, 3) := by decide +kernel
theorem dX3_spans_62 : decode cX3_spans 62 = .ok (.aload_n 0, 1) := by decide +kernel
theorem dX3_spans_63 : decode cX3_spans 63 = .ok (.getfield 120, 3) := by decide +kernel
theorem dX3_spans_66 : decode cX3_spans 66 = .ok (.imul, 1) := by decide +kernel
theorem dX3_spans_67 : decode cX3_spans 67 = .ok (.if_icmp .ge 44, 3) := by decide +kernel
theorem dX3_spans_70 : decode cX3_spans 70 = .ok (.iload_n 3, 1) := by decide +kernel
theorem dX3_spans_71 : decode cX3_spans 71 = .ok (.aload_n 0, 1) := by decide +kernel
theorem dX3_spans_72 : decode cX3_spans 72 = .ok (.iload_n 1, 1) := by decide +kernel
theorem dX3_spans_73 : decode cX3_spans 73 = .ok (.aload_n 0, 1) := by decide +kernel
theorem dX3_spans_74 : decode cX3_spans 74 = .ok (.iload 4, 2) := by decide +kernel
theorem dX3_spans_76 : decode cX3_spans 76 = .ok (.aload_n 0, 1) := by decide +kernel
theorem dX3_spans_77 : decode cX3_spans 77 = .ok (.getfield 120, 3) := by decide +kernel
theorem dX3_spans_80 : decode cX3_spans 80 = .ok (.idiv, 1) := by decide +kernel
theorem dX3_spans_81 : decode cX3_spans 81 = .ok (.iload 4, 2) := by decide +kernel
theorem dX3_spans_83 : decode cX3_spans 83 = .ok (.aload_n 0, 1) := by decide +kernel
theorem dX3_spans_84 : decode cX3_spans 84 = .ok (.getfield 120, 3) := by decide +kernel
theorem dX3_spans_87 : decode cX3_spans 87 = .ok (.irem, 1) := by decide +kernel
theorem dX3_spans_88 : decode cX3_spans 88 = .ok (.invokevirtual 139, 3) := by decide +kernel
theorem dX3_spans_91 : decode cX3_spans 91 = .ok (.invokevirtual 147, 3) := by decide +kernel
theorem dX3_spans_94 : decode cX3_spans 94 = .ok (.iload_n 2, 1) := by decide +kernel
theorem dX3_spans_95 : decode cX3_spans 95 = .ok (.if_icmp .ne 7, 3) := by decide +kernel
theorem dX3_spans_98 : decode cX3_spans 98 = .ok (.iconst 1, 1) := by decide +kernel
theorem dX3_spans_99 : decode cX3_spans 99 = .ok (.goto 4, 3) := by decide +kernel
theorem dX3_spans_102 : decode cX3_spans 102 = .ok (.iconst 0, 1) := by decide +kernel
theorem dX3_spans_103 : decode cX3_spans 103 = .ok (.iadd, 1) := by decide +kernel
theorem dX3_spans_104 : decode cX3_spans 104 = .ok (.istore_n 3, 1) := by decide +kernel
theorem dX3_spans_105 : decode cX3_spans 105 = .ok (.iinc 4 1, 3) := by decide +kernel
theorem dX3_spans_108 : decode cX3_spans 108 = .ok (.goto (-52), 3) := by decide +kernel
theorem dX3_spans_111 : decode cX3_spans 111 = .ok (.iload_n 3, 1) := by decide +kernel
theorem dX3_spans_112 : decode cX3_spans 112 = .ok (.ireturn, 1) := by decide +kernel
theorem dX3_spanOf_0 : decode cX3_spanOf 0 = .ok (.sipush 1000, 3) := by decide +kernel
theorem dX3_spanOf_3 : decode cX3_spanOf 3 = .ok (.istore_n 3, 1) := by decide +kernel
theorem dX3_spanOf_4 : decode cX3_spanOf 4 = .ok (.iconst (-1), 1) := by decide +kernel
theorem dX3_spanOf_5 : decode cX3_spanOf 5 = .ok (.istore 4, 2) := by decide +kernel
theorem dX3_spanOf_7 : decode cX3_spanOf 7 = .ok (.iconst 0, 1) := by decide +kernel
theorem dX3_spanOf_8 : decode cX3_spanOf 8 = .ok (.istore 5, 2) := by decide +kernel
theorem dX3_spanOf_10 : decode cX3_spanOf 10 = .ok (.iload 5, 2) := by decide +kernel
theorem dX3_spanOf_12 : decode cX3_spanOf 12 = .ok (.aload_n 0, 1) := by decide +kernel
theorem dX3_spanOf_13 : decode cX3_spanOf 13 = .ok (.getfield 72, 3) := by decide +kernel
theorem dX3_spanOf_16 : decode cX3_spanOf 16 = .ok (.if_icmp .ge 80, 3) := by decide +kernel
theorem dX3_spanOf_19 : decode cX3_spanOf 19 = .ok (.aload_n 0, 1) := by decide +kernel
theorem dX3_spanOf_20 : decode cX3_spanOf 20 = .ok (.getfield 19, 3) := by decide +kernel
theorem dX3_spanOf_23 : decode cX3_spanOf 23 = .ok (.iload 5, 2) := by decide +kernel
theorem dX3_spanOf_25 : decode cX3_spanOf 25 = .ok (.iaload, 1) := by decide +kernel
theorem dX3_spanOf_26 : decode cX3_spanOf 26 = .ok (.iload_n 1, 1) := by decide +kernel
theorem dX3_spanOf_27 : decode cX3_spanOf 27 = .ok (.if_icmp .eq 6, 3) := by decide +kernel
theorem dX3_spanOf_30 : decode cX3_spanOf 30 = .ok (.goto 60, 3) := by decide +kernel
theorem dX3_spanOf_33 : decode cX3_spanOf 33 = .ok (.aload_n 0, 1) := by decide +kernel
theorem dX3_spanOf_34 : decode cX3_spanOf 34 = .ok (.getfield 45, 3) := by decide +kernel
theorem dX3_spanOf_37 : decode cX3_spanOf 37 = .ok (.iload_n 2, 1) := by decide +kernel
theorem dX3_spanOf_38 : decode cX3_spanOf 38 = .ok (.iload 5, 2) := by decide +kernel
theorem dX3_spanOf_40 : decode cX3_spanOf 40 = .ok (.iadd, 1) := by decide +kernel
theorem dX3_spanOf_41 : decode cX3_spanOf 41 = .ok (.iaload, 1) := by decide +kernel
theorem dX3_spanOf_42 : decode cX3_spanOf 42 = .ok (.iload_n 3, 1) := by decide +kernel
theorem dX3_spanOf_43 : decode cX3_spanOf 43 = .ok (.if_icmp .ge 15, 3) := by decide +kernel
theorem dX3_spanOf_46 : decode cX3_spanOf 46 = .ok (.aload_n 0, 1) := by decide +kernel
theorem dX3_spanOf_47 : decode cX3_spanOf 47 = .ok (.getfield 45, 3) := by decide +kernel
theorem dX3_spanOf_50 : decode cX3_spanOf 50 = .ok (.iload_n 2, 1) := by decide +kernel
theorem dX3_spanOf_51 : decode cX3_spanOf 51 = .ok (.iload 5, 2) := by decide +kernel
theorem dX3_spanOf_53 : decode cX3_spanOf 53 = .ok (.iadd, 1) := by decide +kernel
theorem dX3_spanOf_54 : decode cX3_spanOf 54 = .ok (.iaload, 1) := by decide +kernel
theorem dX3_spanOf_55 : decode cX3_spanOf 55 = .ok (.goto 4, 3) := by decide +kernel
theorem dX3_spanOf_58 : decode cX3_spanOf 58 = .ok (.iload_n 3, 1) := by decide +kernel
theorem dX3_spanOf_59 : decode cX3_spanOf 59 = .ok (.istore_n 3, 1) := by decide +kernel
theorem dX3_spanOf_60 : decode cX3_spanOf 60 = .ok (.aload_n 0, 1) := by decide +kernel
theorem dX3_spanOf_61 : decode cX3_spanOf 61 = .ok (.getfield 45, 3) := by decide +kernel
theorem dX3_spanOf_64 : decode cX3_spanOf 64 = .ok (.iload_n 2, 1) := by decide +kernel
theorem dX3_spanOf_65 : decode cX3_spanOf 65 = .ok (.iload 5, 2) := by decide +kernel
theorem dX3_spanOf_67 : decode cX3_spanOf 67 = .ok (.iadd, 1) := by decide +kernel
theorem dX3_spanOf_68 : decode cX3_spanOf 68 = .ok (.iaload, 1) := by decide +kernel
theorem dX3_spanOf_69 : decode cX3_spanOf 69 = .ok (.iload 4, 2) := by decide +kernel
theorem dX3_spanOf_71 : decode cX3_spanOf 71 = .ok (.if_icmp .le 15, 3) := by decide +kernel
theorem dX3_spanOf_74 : decode cX3_spanOf 74 = .ok (.aload_n 0, 1) := by decide +kernel
theorem dX3_spanOf_75 : decode cX3_spanOf 75 = .ok (.getfield 45, 3) := by decide +kernel
theorem dX3_spanOf_78 : decode cX3_spanOf 78 = .ok (.iload_n 2, 1) := by decide +kernel
theorem dX3_spanOf_79 : decode cX3_spanOf 79 = .ok (.iload 5, 2) := by decide +kernel
theorem dX3_spanOf_81 : decode cX3_spanOf 81 = .ok (.iadd, 1) := by decide +kernel
theorem dX3_spanOf_82 : decode cX3_spanOf 82 = .ok (.iaload, 1) := by decide +kernel
theorem dX3_spanOf_83 : decode cX3_spanOf 83 = .ok (.goto 5, 3) := by decide +kernel
theorem dX3_spanOf_86 : decode cX3_spanOf 86 = .ok (.iload 4, 2) := by decide +kernel
theorem dX3_spanOf_88 : decode cX3_spanOf 88 = .ok (.istore 4, 2) := by decide +kernel
theorem dX3_spanOf_90 : decode cX3_spanOf 90 = .ok (.iinc 5 1, 3) := by decide +kernel
theorem dX3_spanOf_93 : decode cX3_spanOf 93 = .ok (.goto (-83), 3) := by decide +kernel
theorem dX3_spanOf_96 : decode cX3_spanOf 96 = .ok (.iload 4, 2) := by decide +kernel
theorem dX3_spanOf_98 : decode cX3_spanOf 98 = .ok (.ifCond .ge 7, 3) := by decide +kernel
theorem dX3_spanOf_101 : decode cX3_spanOf 101 = .ok (.iconst (-1), 1) := by decide +kernel
theorem dX3_spanOf_102 : decode cX3_spanOf 102 = .ok (.goto 7, 3) := by decide +kernel
theorem dX3_spanOf_105 : decode cX3_spanOf 105 = .ok (.iload 4, 2) := by decide +kernel
theorem dX3_spanOf_107 : decode cX3_spanOf 107 = .ok (.iload_n 3, 1) := by decide +kernel
theorem dX3_spanOf_108 : decode cX3_spanOf 108 = .ok (.isub, 1) := by decide +kernel
theorem dX3_spanOf_109 : decode cX3_spanOf 109 = .ok (.ireturn, 1) := by decide +kernel
theorem dX3_save_0 : decode cX3_save 0 = .ok (.aload_n 0, 1) := by decide +kernel
theorem dX3_save_1 : decode cX3_save 1 = .ok (.aload_n 0, 1) := by decide +kernel
theorem dX3_save_2 : decode cX3_save 2 = .ok (.getfield 79, 3) := by decide +kernel
theorem dX3_save_5 : decode cX3_save 5 = .ok (.ifCond .eq 11, 3) := by decide +kernel
theorem dX3_save_8 : decode cX3_save 8 = .ok (.aload_n 0, 1) := by decide +kernel
theorem dX3_save_9 : decode cX3_save 9 = .ok (.getfield 83, 3) := by decide +kernel
theorem dX3_save_12 : decode cX3_save 12 = .ok (.iconst 4, 1) := by decide +kernel
theorem dX3_save_13 : decode cX3_save 13 = .ok (.if_icmp .ne 7, 3) := by decide +kernel
theorem dX3_save_16 : decode cX3_save 16 = .ok (.iconst 1, 1) := by decide +kernel
theorem dX3_save_17 : decode cX3_save 17 = .ok (.goto 4, 3) := by decide +kernel
theorem dX3_save_20 : decode cX3_save 20 = .ok (.iconst 0, 1) := by decide +kernel
theorem dX3_save_21 : decode cX3_save 21 = .ok (.iconst 0, 1) := by decide +kernel
theorem dX3_save_22 : decode cX3_save 22 = .ok (.iconst 0, 1) := by decide +kernel
theorem dX3_save_23 : decode cX3_save 23 = .ok (.invokevirtual 86, 3) := by decide +kernel
theorem dX3_save_26 : decode cX3_save 26 = .ok (.ifCond .eq 5, 3) := by decide +kernel
theorem dX3_save_29 : decode cX3_save 29 = .ok (.iconst 0, 1) := by decide +kernel
theorem dX3_save_30 : decode cX3_save 30 = .ok (.ireturn, 1) := by decide +kernel
theorem dX3_save_31 : decode cX3_save 31 = .ok (.iconst 0, 1) := by decide +kernel
theorem dX3_save_32 : decode cX3_save 32 = .ok (.istore_n 1, 1) := by decide +kernel
theorem dX3_save_33 : decode cX3_save 33 = .ok (.iload_n 1, 1) := by decide +kernel
theorem dX3_save_34 : decode cX3_save 34 = .ok (.bipush 32, 2) := by decide +kernel
theorem dX3_save_36 : decode cX3_save 36 = .ok (.if_icmp .ge 29, 3) := by decide +kernel
theorem dX3_save_39 : decode cX3_save 39 = .ok (.aload_n 0, 1) := by decide +kernel
theorem dX3_save_40 : decode cX3_save 40 = .ok (.getfield 48, 3) := by decide +kernel
theorem dX3_save_43 : decode cX3_save 43 = .ok (.bipush 32, 2) := by decide +kernel
theorem dX3_save_45 : decode cX3_save 45 = .ok (.aload_n 0, 1) := by decide +kernel
theorem dX3_save_46 : decode cX3_save 46 = .ok (.getfield 83, 3) := by decide +kernel
theorem dX3_save_49 : decode cX3_save 49 = .ok (.imul, 1) := by decide +kernel
theorem dX3_save_50 : decode cX3_save 50 = .ok (.iload_n 1, 1) := by decide +kernel
theorem dX3_save_51 : decode cX3_save 51 = .ok (.iadd, 1) := by decide +kernel
theorem dX3_save_52 : decode cX3_save 52 = .ok (.aload_n 0, 1) := by decide +kernel
theorem dX3_save_53 : decode cX3_save 53 = .ok (.getfield 38, 3) := by decide +kernel
theorem dX3_save_56 : decode cX3_save 56 = .ok (.iload_n 1, 1) := by decide +kernel
theorem dX3_save_57 : decode cX3_save 57 = .ok (.iaload, 1) := by decide +kernel
theorem dX3_save_58 : decode cX3_save 58 = .ok (.iastore, 1) := by decide +kernel
theorem dX3_save_59 : decode cX3_save 59 = .ok (.iinc 1 1, 3) := by decide +kernel
theorem dX3_save_62 : decode cX3_save 62 = .ok (.goto (-29), 3) := by decide +kernel
theorem dX3_save_65 : decode cX3_save 65 = .ok (.iconst 0, 1) := by decide +kernel
theorem dX3_save_66 : decode cX3_save 66 = .ok (.istore_n 1, 1) := by decide +kernel
theorem dX3_save_67 : decode cX3_save 67 = .ok (.iload_n 1, 1) := by decide +kernel
theorem dX3_save_68 : decode cX3_save 68 = .ok (.iconst 4, 1) := by decide +kernel
theorem dX3_save_69 : decode cX3_save 69 = .ok (.if_icmp .ge 28, 3) := by decide +kernel
theorem dX3_save_72 : decode cX3_save 72 = .ok (.aload_n 0, 1) := by decide +kernel
theorem dX3_save_73 : decode cX3_save 73 = .ok (.getfield 51, 3) := by decide +kernel
theorem dX3_save_76 : decode cX3_save 76 = .ok (.iconst 4, 1) := by decide +kernel
theorem dX3_save_77 : decode cX3_save 77 = .ok (.aload_n 0, 1) := by decide +kernel
theorem dX3_save_78 : decode cX3_save 78 = .ok (.getfield 83, 3) := by decide +kernel
theorem dX3_save_81 : decode cX3_save 81 = .ok (.imul, 1) := by decide +kernel
theorem dX3_save_82 : decode cX3_save 82 = .ok (.iload_n 1, 1) := by decide +kernel
theorem dX3_save_83 : decode cX3_save 83 = .ok (.iadd, 1) := by decide +kernel
theorem dX3_save_84 : decode cX3_save 84 = .ok (.aload_n 0, 1) := by decide +kernel
theorem dX3_save_85 : decode cX3_save 85 = .ok (.getfield 41, 3) := by decide +kernel
theorem dX3_save_88 : decode cX3_save 88 = .ok (.iload_n 1, 1) := by decide +kernel
theorem dX3_save_89 : decode cX3_save 89 = .ok (.laload, 1) := by decide +kernel
theorem dX3_save_90 : decode cX3_save 90 = .ok (.lastore, 1) := by decide +kernel
theorem dX3_save_91 : decode cX3_save 91 = .ok (.iinc 1 1, 3) := by decide +kernel
theorem dX3_save_94 : decode cX3_save 94 = .ok (.goto (-27), 3) := by decide +kernel
theorem dX3_save_97 : decode cX3_save 97 = .ok (.iconst 0, 1) := by decide +kernel
theorem dX3_save_98 : decode cX3_save 98 = .ok (.istore_n 1, 1) := by decide +kernel
theorem dX3_save_99 : decode cX3_save 99 = .ok (.iload_n 1, 1) := by decide +kernel
theorem dX3_save_100 : decode cX3_save 100 = .ok (.sipush 1920, 3) := by decide +kernel
theorem dX3_save_103 : decode cX3_save 103 = .ok (.if_icmp .ge 30, 3) := by decide +kernel
theorem dX3_save_106 : decode cX3_save 106 = .ok (.aload_n 0, 1) := by decide +kernel
theorem dX3_save_107 : decode cX3_save 107 = .ok (.getfield 54, 3) := by decide +kernel
theorem dX3_save_110 : decode cX3_save 110 = .ok (.sipush 1920, 3) := by decide +kernel
theorem dX3_save_113 : decode cX3_save 113 = .ok (.aload_n 0, 1) := by decide +kernel
theorem dX3_save_114 : decode cX3_save 114 = .ok (.getfield 83, 3) := by decide +kernel
theorem dX3_save_117 : decode cX3_save 117 = .ok (.imul, 1) := by decide +kernel
theorem dX3_save_118 : decode cX3_save 118 = .ok (.iload_n 1, 1) := by decide +kernel
theorem dX3_save_119 : decode cX3_save 119 = .ok (.iadd, 1) := by decide +kernel
theorem dX3_save_120 : decode cX3_save 120 = .ok (.aload_n 0, 1) := by decide +kernel
theorem dX3_save_121 : decode cX3_save 121 = .ok (.getfield 45, 3) := by decide +kernel
theorem dX3_save_124 : decode cX3_save 124 = .ok (.iload_n 1, 1) := by decide +kernel
theorem dX3_save_125 : decode cX3_save 125 = .ok (.iaload, 1) := by decide +kernel
theorem dX3_save_126 : decode cX3_save 126 = .ok (.iastore, 1) := by decide +kernel
theorem dX3_save_127 : decode cX3_save 127 = .ok (.iinc 1 1, 3) := by decide +kernel
theorem dX3_save_130 : decode cX3_save 130 = .ok (.goto (-31), 3) := by decide +kernel
theorem dX3_save_133 : decode cX3_save 133 = .ok (.aload_n 0, 1) := by decide +kernel
theorem dX3_save_134 : decode cX3_save 134 = .ok (.getfield 57, 3) := by decide +kernel
theorem dX3_save_137 : decode cX3_save 137 = .ok (.aload_n 0, 1) := by decide +kernel
theorem dX3_save_138 : decode cX3_save 138 = .ok (.getfield 83, 3) := by decide +kernel
theorem dX3_save_141 : decode cX3_save 141 = .ok (.aload_n 0, 1) := by decide +kernel
theorem dX3_save_142 : decode cX3_save 142 = .ok (.getfield 120, 3) := by decide +kernel
theorem dX3_save_145 : decode cX3_save 145 = .ok (.iastore, 1) := by decide +kernel
theorem dX3_save_146 : decode cX3_save 146 = .ok (.aload_n 0, 1) := by decide +kernel
theorem dX3_save_147 : decode cX3_save 147 = .ok (.getfield 60, 3) := by decide +kernel
theorem dX3_save_150 : decode cX3_save 150 = .ok (.aload_n 0, 1) := by decide +kernel
theorem dX3_save_151 : decode cX3_save 151 = .ok (.getfield 83, 3) := by decide +kernel
theorem dX3_save_154 : decode cX3_save 154 = .ok (.aload_n 0, 1) := by decide +kernel
theorem dX3_save_155 : decode cX3_save 155 = .ok (.getfield 117, 3) := by decide +kernel
theorem dX3_save_158 : decode cX3_save 158 = .ok (.iastore, 1) := by decide +kernel
theorem dX3_save_159 : decode cX3_save 159 = .ok (.aload_n 0, 1) := by decide +kernel
theorem dX3_save_160 : decode cX3_save 160 = .ok (.dup, 1) := by decide +kernel
theorem dX3_save_161 : decode cX3_save 161 = .ok (.getfield 83, 3) := by decide +kernel
theorem dX3_save_164 : decode cX3_save 164 = .ok (.iconst 1, 1) := by decide +kernel
theorem dX3_save_165 : decode cX3_save 165 = .ok (.iadd, 1) := by decide +kernel
theorem dX3_save_166 : decode cX3_save 166 = .ok (.putfield 83, 3) := by decide +kernel
theorem dX3_save_169 : decode cX3_save 169 = .ok (.aload_n 0, 1) := by decide +kernel
theorem dX3_save_170 : decode cX3_save 170 = .ok (.getfield 83, 3) := by decide +kernel
theorem dX3_save_173 : decode cX3_save 173 = .ok (.iconst 1, 1) := by decide +kernel
theorem dX3_save_174 : decode cX3_save 174 = .ok (.isub, 1) := by decide +kernel
theorem dX3_save_175 : decode cX3_save 175 = .ok (.ireturn, 1) := by decide +kernel
theorem dX3_back_0 : decode cX3_back 0 = .ok (.aload_n 0, 1) := by decide +kernel
theorem dX3_back_1 : decode cX3_back 1 = .ok (.iload_n 1, 1) := by decide +kernel
theorem dX3_back_2 : decode cX3_back 2 = .ok (.iconst 0, 1) := by decide +kernel
theorem dX3_back_3 : decode cX3_back 3 = .ok (.aload_n 0, 1) := by decide +kernel
theorem dX3_back_4 : decode cX3_back 4 = .ok (.getfield 83, 3) := by decide +kernel
theorem dX3_back_7 : decode cX3_back 7 = .ok (.iconst 1, 1) := by decide +kernel
theorem dX3_back_8 : decode cX3_back 8 = .ok (.isub, 1) := by decide +kernel
theorem dX3_back_9 : decode cX3_back 9 = .ok (.invokestatic 75, 3) := by decide +kernel
theorem dX3_back_12 : decode cX3_back 12 = .ok (.ifCond .ne 7, 3) := by decide +kernel
theorem dX3_back_15 : decode cX3_back 15 = .ok (.iconst 1, 1) := by decide +kernel
theorem dX3_back_16 : decode cX3_back 16 = .ok (.goto 4, 3) := by decide +kernel
theorem dX3_back_19 : decode cX3_back 19 = .ok (.iconst 0, 1) := by decide +kernel
theorem dX3_back_20 : decode cX3_back 20 = .ok (.iconst 0, 1) := by decide +kernel
theorem dX3_back_21 : decode cX3_back 21 = .ok (.iconst 0, 1) := by decide +kernel
theorem dX3_back_22 : decode cX3_back 22 = .ok (.invokevirtual 86, 3) := by decide +kernel
theorem dX3_back_25 : decode cX3_back 25 = .ok (.ifCond .eq 5, 3) := by decide +kernel
theorem dX3_back_28 : decode cX3_back 28 = .ok (.iconst 0, 1) := by decide +kernel
theorem dX3_back_29 : decode cX3_back 29 = .ok (.ireturn, 1) := by decide +kernel
theorem dX3_back_30 : decode cX3_back 30 = .ok (.iconst 0, 1) := by decide +kernel
theorem dX3_back_31 : decode cX3_back 31 = .ok (.istore_n 2, 1) := by decide +kernel
theorem dX3_back_32 : decode cX3_back 32 = .ok (.iload_n 2, 1) := by decide +kernel
theorem dX3_back_33 : decode cX3_back 33 = .ok (.bipush 32, 2) := by decide +kernel
theorem dX3_back_35 : decode cX3_back 35 = .ok (.if_icmp .ge 26, 3) := by decide +kernel
theorem dX3_back_38 : decode cX3_back 38 = .ok (.aload_n 0, 1) := by decide +kernel
theorem dX3_back_39 : decode cX3_back 39 = .ok (.getfield 38, 3) := by decide +kernel
theorem dX3_back_42 : decode cX3_back 42 = .ok (.iload_n 2, 1) := by decide +kernel
theorem dX3_back_43 : decode cX3_back 43 = .ok (.aload_n 0, 1) := by decide +kernel
theorem dX3_back_44 : decode cX3_back 44 = .ok (.getfield 48, 3) := by decide +kernel
theorem dX3_back_47 : decode cX3_back 47 = .ok (.bipush 32, 2) := by decide +kernel
theorem dX3_back_49 : decode cX3_back 49 = .ok (.iload_n 1, 1) := by decide +kernel
theorem dX3_back_50 : decode cX3_back 50 = .ok (.imul, 1) := by decide +kernel
theorem dX3_back_51 : decode cX3_back 51 = .ok (.iload_n 2, 1) := by decide +kernel
theorem dX3_back_52 : decode cX3_back 52 = .ok (.iadd, 1) := by decide +kernel
theorem dX3_back_53 : decode cX3_back 53 = .ok (.iaload, 1) := by decide +kernel
theorem dX3_back_54 : decode cX3_back 54 = .ok (.iastore, 1) := by decide +kernel
theorem dX3_back_55 : decode cX3_back 55 = .ok (.iinc 2 1, 3) := by decide +kernel
theorem dX3_back_58 : decode cX3_back 58 = .ok (.goto (-26), 3) := by decide +kernel
theorem dX3_back_61 : decode cX3_back 61 = .ok (.iconst 0, 1) := by decide +kernel
theorem dX3_back_62 : decode cX3_back 62 = .ok (.istore_n 2, 1) := by decide +kernel
theorem dX3_back_63 : decode cX3_back 63 = .ok (.iload_n 2, 1) := by decide +kernel
theorem dX3_back_64 : decode cX3_back 64 = .ok (.iconst 4, 1) := by decide +kernel
theorem dX3_back_65 : decode cX3_back 65 = .ok (.if_icmp .ge 25, 3) := by decide +kernel
theorem dX3_back_68 : decode cX3_back 68 = .ok (.aload_n 0, 1) := by decide +kernel
theorem dX3_back_69 : decode cX3_back 69 = .ok (.getfield 41, 3) := by decide +kernel
theorem dX3_back_72 : decode cX3_back 72 = .ok (.iload_n 2, 1) := by decide +kernel
theorem dX3_back_73 : decode cX3_back 73 = .ok (.aload_n 0, 1) := by decide +kernel
theorem dX3_back_74 : decode cX3_back 74 = .ok (.getfield 51, 3) := by decide +kernel
theorem dX3_back_77 : decode cX3_back 77 = .ok (.iconst 4, 1) := by decide +kernel
theorem dX3_back_78 : decode cX3_back 78 = .ok (.iload_n 1, 1) := by decide +kernel
theorem dX3_back_79 : decode cX3_back 79 = .ok (.imul, 1) := by decide +kernel
theorem dX3_back_80 : decode cX3_back 80 = .ok (.iload_n 2, 1) := by decide +kernel
theorem dX3_back_81 : decode cX3_back 81 = .ok (.iadd, 1) := by decide +kernel
theorem dX3_back_82 : decode cX3_back 82 = .ok (.laload, 1) := by decide +kernel
theorem dX3_back_83 : decode cX3_back 83 = .ok (.lastore, 1) := by decide +kernel
theorem dX3_back_84 : decode cX3_back 84 = .ok (.iinc 2 1, 3) := by decide +kernel
theorem dX3_back_87 : decode cX3_back 87 = .ok (.goto (-24), 3) := by decide +kernel
theorem dX3_back_90 : decode cX3_back 90 = .ok (.iconst 0, 1) := by decide +kernel
theorem dX3_back_91 : decode cX3_back 91 = .ok (.istore_n 2, 1) := by decide +kernel
theorem dX3_back_92 : decode cX3_back 92 = .ok (.iload_n 2, 1) := by decide +kernel
theorem dX3_back_93 : decode cX3_back 93 = .ok (.sipush 1920, 3) := by decide +kernel
theorem dX3_back_96 : decode cX3_back 96 = .ok (.if_icmp .ge 27, 3) := by decide +kernel
theorem dX3_back_99 : decode cX3_back 99 = .ok (.aload_n 0, 1) := by decide +kernel
theorem dX3_back_100 : decode cX3_back 100 = .ok (.getfield 45, 3) := by decide +kernel
theorem dX3_back_103 : decode cX3_back 103 = .ok (.iload_n 2, 1) := by decide +kernel
theorem dX3_back_104 : decode cX3_back 104 = .ok (.aload_n 0, 1) := by decide +kernel
theorem dX3_back_105 : decode cX3_back 105 = .ok (.getfield 54, 3) := by decide +kernel
theorem dX3_back_108 : decode cX3_back 108 = .ok (.sipush 1920, 3) := by decide +kernel
theorem dX3_back_111 : decode cX3_back 111 = .ok (.iload_n 1, 1) := by decide +kernel
theorem dX3_back_112 : decode cX3_back 112 = .ok (.imul, 1) := by decide +kernel
theorem dX3_back_113 : decode cX3_back 113 = .ok (.iload_n 2, 1) := by decide +kernel
theorem dX3_back_114 : decode cX3_back 114 = .ok (.iadd, 1) := by decide +kernel
theorem dX3_back_115 : decode cX3_back 115 = .ok (.iaload, 1) := by decide +kernel
theorem dX3_back_116 : decode cX3_back 116 = .ok (.iastore, 1) := by decide +kernel
theorem dX3_back_117 : decode cX3_back 117 = .ok (.iinc 2 1, 3) := by decide +kernel
theorem dX3_back_120 : decode cX3_back 120 = .ok (.goto (-28), 3) := by decide +kernel
theorem dX3_back_123 : decode cX3_back 123 = .ok (.aload_n 0, 1) := by decide +kernel
theorem dX3_back_124 : decode cX3_back 124 = .ok (.aload_n 0, 1) := by decide +kernel
theorem dX3_back_125 : decode cX3_back 125 = .ok (.getfield 57, 3) := by decide +kernel
theorem dX3_back_128 : decode cX3_back 128 = .ok (.iload_n 1, 1) := by decide +kernel
theorem dX3_back_129 : decode cX3_back 129 = .ok (.iaload, 1) := by decide +kernel
theorem dX3_back_130 : decode cX3_back 130 = .ok (.putfield 120, 3) := by decide +kernel
theorem dX3_back_133 : decode cX3_back 133 = .ok (.aload_n 0, 1) := by decide +kernel
theorem dX3_back_134 : decode cX3_back 134 = .ok (.aload_n 0, 1) := by decide +kernel
theorem dX3_back_135 : decode cX3_back 135 = .ok (.getfield 60, 3) := by decide +kernel
theorem dX3_back_138 : decode cX3_back 138 = .ok (.iload_n 1, 1) := by decide +kernel
theorem dX3_back_139 : decode cX3_back 139 = .ok (.iaload, 1) := by decide +kernel
theorem dX3_back_140 : decode cX3_back 140 = .ok (.putfield 117, 3) := by decide +kernel
theorem dX3_back_143 : decode cX3_back 143 = .ok (.aload_n 0, 1) := by decide +kernel
theorem dX3_back_144 : decode cX3_back 144 = .ok (.iconst 1, 1) := by decide +kernel
theorem dX3_back_145 : decode cX3_back 145 = .ok (.putfield 79, 3) := by decide +kernel
theorem dX3_back_148 : decode cX3_back 148 = .ok (.aload_n 0, 1) := by decide +kernel
theorem dX3_back_149 : decode cX3_back 149 = .ok (.getfield 120, 3) := by decide +kernel
theorem dX3_back_152 : decode cX3_back 152 = .ok (.ireturn, 1) := by decide +kernel
theorem dX3_count_0 : decode cX3_count 0 = .ok (.aload_n 0, 1) := by decide +kernel
theorem dX3_count_1 : decode cX3_count 1 = .ok (.iload_n 1, 1) := by decide +kernel
theorem dX3_count_2 : decode cX3_count 2 = .ok (.iconst 0, 1) := by decide +kernel
theorem dX3_count_3 : decode cX3_count 3 = .ok (.iconst 5, 1) := by decide +kernel
theorem dX3_count_4 : decode cX3_count 4 = .ok (.invokestatic 75, 3) := by decide +kernel
theorem dX3_count_7 : decode cX3_count 7 = .ok (.ifCond .ne 7, 3) := by decide +kernel
theorem dX3_count_10 : decode cX3_count 10 = .ok (.iconst 1, 1) := by decide +kernel
theorem dX3_count_11 : decode cX3_count 11 = .ok (.goto 4, 3) := by decide +kernel
theorem dX3_count_14 : decode cX3_count 14 = .ok (.iconst 0, 1) := by decide +kernel
theorem dX3_count_15 : decode cX3_count 15 = .ok (.iconst 0, 1) := by decide +kernel
theorem dX3_count_16 : decode cX3_count 16 = .ok (.iconst 0, 1) := by decide +kernel
theorem dX3_count_17 : decode cX3_count 17 = .ok (.invokevirtual 86, 3) := by decide +kernel
theorem dX3_count_20 : decode cX3_count 20 = .ok (.ifCond .eq 5, 3) := by decide +kernel
theorem dX3_count_23 : decode cX3_count 23 = .ok (.iconst 0, 1) := by decide +kernel
theorem dX3_count_24 : decode cX3_count 24 = .ok (.ireturn, 1) := by decide +kernel
theorem dX3_count_25 : decode cX3_count 25 = .ok (.iload_n 1, 1) := by decide +kernel
theorem dX3_count_26 : decode cX3_count 26 = .ok (.tableswitch 81 0 4 #[34, 39, 44, 49, 65], 34) := by decide +kernel
theorem dX3_count_60 : decode cX3_count 60 = .ok (.aload_n 0, 1) := by decide +kernel
theorem dX3_count_61 : decode cX3_count 61 = .ok (.getfield 72, 3) := by decide +kernel
theorem dX3_count_64 : decode cX3_count 64 = .ok (.ireturn, 1) := by decide +kernel
theorem dX3_count_65 : decode cX3_count 65 = .ok (.aload_n 0, 1) := by decide +kernel
theorem dX3_count_66 : decode cX3_count 66 = .ok (.getfield 105, 3) := by decide +kernel
theorem dX3_count_69 : decode cX3_count 69 = .ok (.ireturn, 1) := by decide +kernel
theorem dX3_count_70 : decode cX3_count 70 = .ok (.aload_n 0, 1) := by decide +kernel
theorem dX3_count_71 : decode cX3_count 71 = .ok (.getfield 66, 3) := by decide +kernel
theorem dX3_count_74 : decode cX3_count 74 = .ok (.ireturn, 1) := by decide +kernel
theorem dX3_count_75 : decode cX3_count 75 = .ok (.aload_n 0, 1) := by decide +kernel
theorem dX3_count_76 : decode cX3_count 76 = .ok (.getfield 79, 3) := by decide +kernel
theorem dX3_count_79 : decode cX3_count 79 = .ok (.ifCond .eq 10, 3) := by decide +kernel
theorem dX3_count_82 : decode cX3_count 82 = .ok (.aload_n 0, 1) := by decide +kernel
theorem dX3_count_83 : decode cX3_count 83 = .ok (.getfield 120, 3) := by decide +kernel
theorem dX3_count_86 : decode cX3_count 86 = .ok (.goto 4, 3) := by decide +kernel
theorem dX3_count_89 : decode cX3_count 89 = .ok (.iconst 0, 1) := by decide +kernel
theorem dX3_count_90 : decode cX3_count 90 = .ok (.ireturn, 1) := by decide +kernel
theorem dX3_count_91 : decode cX3_count 91 = .ok (.aload_n 0, 1) := by decide +kernel
theorem dX3_count_92 : decode cX3_count 92 = .ok (.getfield 79, 3) := by decide +kernel
theorem dX3_count_95 : decode cX3_count 95 = .ok (.ifCond .eq 10, 3) := by decide +kernel
theorem dX3_count_98 : decode cX3_count 98 = .ok (.aload_n 0, 1) := by decide +kernel
theorem dX3_count_99 : decode cX3_count 99 = .ok (.getfield 117, 3) := by decide +kernel
theorem dX3_count_102 : decode cX3_count 102 = .ok (.goto 4, 3) := by decide +kernel
theorem dX3_count_105 : decode cX3_count 105 = .ok (.iconst 0, 1) := by decide +kernel
theorem dX3_count_106 : decode cX3_count 106 = .ok (.ireturn, 1) := by decide +kernel
theorem dX3_count_107 : decode cX3_count 107 = .ok (.aload_n 0, 1) := by decide +kernel
theorem dX3_count_108 : decode cX3_count 108 = .ok (.getfield 83, 3) := by decide +kernel
theorem dX3_count_111 : decode cX3_count 111 = .ok (.ireturn, 1) := by decide +kernel
end
section
theorem dL_cell_0 : decode cL_cell 0 = .ok (.iload_n 1, 1) := by decide +kernel
theorem dL_cell_1 : decode cL_cell 1 = .ok (.aload_n 0, 1) := by decide +kernel
theorem dL_cell_2 : decode cL_cell 2 = .ok (.arraylength, 1) := by decide +kernel
theorem dL_cell_3 : decode cL_cell 3 = .ok (.if_icmp .ge 9, 3) := by decide +kernel
theorem dL_cell_6 : decode cL_cell 6 = .ok (.aload_n 0, 1) := by decide +kernel
theorem dL_cell_7 : decode cL_cell 7 = .ok (.iload_n 1, 1) := by decide +kernel
theorem dL_cell_8 : decode cL_cell 8 = .ok (.iaload, 1) := by decide +kernel
theorem dL_cell_9 : decode cL_cell 9 = .ok (.goto 4, 3) := by decide +kernel
theorem dL_cell_12 : decode cL_cell 12 = .ok (.iconst 0, 1) := by decide +kernel
theorem dL_cell_13 : decode cL_cell 13 = .ok (.ireturn, 1) := by decide +kernel
theorem dL_date_0 : decode cL_date 0 = .ok (.aload_n 3, 1) := by decide +kernel
theorem dL_date_1 : decode cL_date 1 = .ok (.iconst 0, 1) := by decide +kernel
theorem dL_date_2 : decode cL_date 2 = .ok (.aload_n 0, 1) := by decide +kernel
theorem dL_date_3 : decode cL_date 3 = .ok (.iload_n 1, 1) := by decide +kernel
theorem dL_date_4 : decode cL_date 4 = .ok (.iload_n 2, 1) := by decide +kernel
theorem dL_date_5 : decode cL_date 5 = .ok (.invokevirtual 7, 3) := by decide +kernel
theorem dL_date_8 : decode cL_date 8 = .ok (.i2l, 1) := by decide +kernel
theorem dL_date_9 : decode cL_date 9 = .ok (.lastore, 1) := by decide +kernel
theorem dL_date_10 : decode cL_date 10 = .ok (.goto 11, 3) := by decide +kernel
theorem dL_date_13 : decode cL_date 13 = .ok (.astore 4, 2) := by decide +kernel
theorem dL_date_15 : decode cL_date 15 = .ok (.iconst 1, 1) := by decide +kernel
theorem dL_date_16 : decode cL_date 16 = .ok (.ireturn, 1) := by decide +kernel
theorem dL_date_17 : decode cL_date 17 = .ok (.astore 4, 2) := by decide +kernel
theorem dL_date_19 : decode cL_date 19 = .ok (.iconst 2, 1) := by decide +kernel
theorem dL_date_20 : decode cL_date 20 = .ok (.ireturn, 1) := by decide +kernel
theorem dL_date_21 : decode cL_date 21 = .ok (.iconst 0, 1) := by decide +kernel
theorem dL_date_22 : decode cL_date 22 = .ok (.ireturn, 1) := by decide +kernel
theorem dL_weight_0 : decode cL_weight 0 = .ok (.aload 4, 2) := by decide +kernel
theorem dL_weight_2 : decode cL_weight 2 = .ok (.iconst 0, 1) := by decide +kernel
theorem dL_weight_3 : decode cL_weight 3 = .ok (.aload_n 0, 1) := by decide +kernel
theorem dL_weight_4 : decode cL_weight 4 = .ok (.iload_n 1, 1) := by decide +kernel
theorem dL_weight_5 : decode cL_weight 5 = .ok (.iload_n 2, 1) := by decide +kernel
theorem dL_weight_6 : decode cL_weight 6 = .ok (.iload_n 3, 1) := by decide +kernel
theorem dL_weight_7 : decode cL_weight 7 = .ok (.invokevirtual 17, 3) := by decide +kernel
theorem dL_weight_10 : decode cL_weight 10 = .ok (.i2l, 1) := by decide +kernel
theorem dL_weight_11 : decode cL_weight 11 = .ok (.lastore, 1) := by decide +kernel
theorem dL_weight_12 : decode cL_weight 12 = .ok (.goto 11, 3) := by decide +kernel
theorem dL_weight_15 : decode cL_weight 15 = .ok (.astore 5, 2) := by decide +kernel
theorem dL_weight_17 : decode cL_weight 17 = .ok (.iconst 1, 1) := by decide +kernel
theorem dL_weight_18 : decode cL_weight 18 = .ok (.ireturn, 1) := by decide +kernel
theorem dL_weight_19 : decode cL_weight 19 = .ok (.astore 5, 2) := by decide +kernel
theorem dL_weight_21 : decode cL_weight 21 = .ok (.iconst 2, 1) := by decide +kernel
theorem dL_weight_22 : decode cL_weight 22 = .ok (.ireturn, 1) := by decide +kernel
theorem dL_weight_23 : decode cL_weight 23 = .ok (.iconst 0, 1) := by decide +kernel
theorem dL_weight_24 : decode cL_weight 24 = .ok (.ireturn, 1) := by decide +kernel
theorem dL_before_0 : decode cL_before 0 = .ok (.aload 5, 2) := by decide +kernel
theorem dL_before_2 : decode cL_before 2 = .ok (.iconst 0, 1) := by decide +kernel
theorem dL_before_3 : decode cL_before 3 = .ok (.aload_n 0, 1) := by decide +kernel
theorem dL_before_4 : decode cL_before 4 = .ok (.iload_n 1, 1) := by decide +kernel
theorem dL_before_5 : decode cL_before 5 = .ok (.iload_n 2, 1) := by decide +kernel
theorem dL_before_6 : decode cL_before 6 = .ok (.iload_n 3, 1) := by decide +kernel
theorem dL_before_7 : decode cL_before 7 = .ok (.iload 4, 2) := by decide +kernel
theorem dL_before_9 : decode cL_before 9 = .ok (.invokevirtual 23, 3) := by decide +kernel
theorem dL_before_12 : decode cL_before 12 = .ok (.i2l, 1) := by decide +kernel
theorem dL_before_13 : decode cL_before 13 = .ok (.lastore, 1) := by decide +kernel
theorem dL_before_14 : decode cL_before 14 = .ok (.goto 15, 3) := by decide +kernel
theorem dL_before_17 : decode cL_before 17 = .ok (.astore 6, 2) := by decide +kernel
theorem dL_before_19 : decode cL_before 19 = .ok (.iconst 1, 1) := by decide +kernel
theorem dL_before_20 : decode cL_before 20 = .ok (.ireturn, 1) := by decide +kernel
theorem dL_before_21 : decode cL_before 21 = .ok (.astore 6, 2) := by decide +kernel
theorem dL_before_23 : decode cL_before 23 = .ok (.iconst 2, 1) := by decide +kernel
theorem dL_before_24 : decode cL_before 24 = .ok (.ireturn, 1) := by decide +kernel
theorem dL_before_25 : decode cL_before 25 = .ok (.astore 6, 2) := by decide +kernel
theorem dL_before_27 : decode cL_before 27 = .ok (.iconst 3, 1) := by decide +kernel
theorem dL_before_28 : decode cL_before 28 = .ok (.ireturn, 1) := by decide +kernel
theorem dL_before_29 : decode cL_before 29 = .ok (.iconst 0, 1) := by decide +kernel
theorem dL_before_30 : decode cL_before 30 = .ok (.ireturn, 1) := by decide +kernel
theorem dL_member_0 : decode cL_member 0 = .ok (.aload_n 3, 1) := by decide +kernel
theorem dL_member_1 : decode cL_member 1 = .ok (.iconst 0, 1) := by decide +kernel
theorem dL_member_2 : decode cL_member 2 = .ok (.aload_n 0, 1) := by decide +kernel
theorem dL_member_3 : decode cL_member 3 = .ok (.iload_n 1, 1) := by decide +kernel
theorem dL_member_4 : decode cL_member 4 = .ok (.iload_n 2, 1) := by decide +kernel
theorem dL_member_5 : decode cL_member 5 = .ok (.invokevirtual 27, 3) := by decide +kernel
theorem dL_member_8 : decode cL_member 8 = .ok (.i2l, 1) := by decide +kernel
theorem dL_member_9 : decode cL_member 9 = .ok (.lastore, 1) := by decide +kernel
theorem dL_member_10 : decode cL_member 10 = .ok (.goto 7, 3) := by decide +kernel
theorem dL_member_13 : decode cL_member 13 = .ok (.astore 4, 2) := by decide +kernel
theorem dL_member_15 : decode cL_member 15 = .ok (.iconst 1, 1) := by decide +kernel
theorem dL_member_16 : decode cL_member 16 = .ok (.ireturn, 1) := by decide +kernel
theorem dL_member_17 : decode cL_member 17 = .ok (.iconst 0, 1) := by decide +kernel
theorem dL_member_18 : decode cL_member 18 = .ok (.ireturn, 1) := by decide +kernel
theorem dL_burn_0 : decode cL_burn 0 = .ok (.aload_n 2, 1) := by decide +kernel
theorem dL_burn_1 : decode cL_burn 1 = .ok (.iconst 0, 1) := by decide +kernel
theorem dL_burn_2 : decode cL_burn 2 = .ok (.aload_n 0, 1) := by decide +kernel
theorem dL_burn_3 : decode cL_burn 3 = .ok (.iload_n 1, 1) := by decide +kernel
theorem dL_burn_4 : decode cL_burn 4 = .ok (.invokevirtual 30, 3) := by decide +kernel
theorem dL_burn_7 : decode cL_burn 7 = .ok (.i2l, 1) := by decide +kernel
theorem dL_burn_8 : decode cL_burn 8 = .ok (.lastore, 1) := by decide +kernel
theorem dL_burn_9 : decode cL_burn 9 = .ok (.goto 6, 3) := by decide +kernel
theorem dL_burn_12 : decode cL_burn 12 = .ok (.astore_n 3, 1) := by decide +kernel
theorem dL_burn_13 : decode cL_burn 13 = .ok (.iconst 1, 1) := by decide +kernel
theorem dL_burn_14 : decode cL_burn 14 = .ok (.ireturn, 1) := by decide +kernel
theorem dL_burn_15 : decode cL_burn 15 = .ok (.iconst 0, 1) := by decide +kernel
theorem dL_burn_16 : decode cL_burn 16 = .ok (.ireturn, 1) := by decide +kernel
theorem dL_thin_0 : decode cL_thin 0 = .ok (.aload_n 2, 1) := by decide +kernel
theorem dL_thin_1 : decode cL_thin 1 = .ok (.iconst 0, 1) := by decide +kernel
theorem dL_thin_2 : decode cL_thin 2 = .ok (.aload_n 0, 1) := by decide +kernel
theorem dL_thin_3 : decode cL_thin 3 = .ok (.iload_n 1, 1) := by decide +kernel
theorem dL_thin_4 : decode cL_thin 4 = .ok (.invokevirtual 34, 3) := by decide +kernel
theorem dL_thin_7 : decode cL_thin 7 = .ok (.i2l, 1) := by decide +kernel
theorem dL_thin_8 : decode cL_thin 8 = .ok (.lastore, 1) := by decide +kernel
theorem dL_thin_9 : decode cL_thin 9 = .ok (.goto 6, 3) := by decide +kernel
theorem dL_thin_12 : decode cL_thin 12 = .ok (.astore_n 3, 1) := by decide +kernel
theorem dL_thin_13 : decode cL_thin 13 = .ok (.iconst 1, 1) := by decide +kernel
theorem dL_thin_14 : decode cL_thin 14 = .ok (.ireturn, 1) := by decide +kernel
theorem dL_thin_15 : decode cL_thin 15 = .ok (.iconst 0, 1) := by decide +kernel
theorem dL_thin_16 : decode cL_thin 16 = .ok (.ireturn, 1) := by decide +kernel
theorem dL_run_0 : decode cL_run 0 = .ok (.aload_n 2, 1) := by decide +kernel
theorem dL_run_1 : decode cL_run 1 = .ok (.iconst 0, 1) := by decide +kernel
theorem dL_run_2 : decode cL_run 2 = .ok (.aload_n 0, 1) := by decide +kernel
theorem dL_run_3 : decode cL_run 3 = .ok (.iload_n 1, 1) := by decide +kernel
theorem dL_run_4 : decode cL_run 4 = .ok (.invokevirtual 37, 3) := by decide +kernel
theorem dL_run_7 : decode cL_run 7 = .ok (.i2l, 1) := by decide +kernel
theorem dL_run_8 : decode cL_run 8 = .ok (.lastore, 1) := by decide +kernel
theorem dL_run_9 : decode cL_run 9 = .ok (.goto 9, 3) := by decide +kernel
theorem dL_run_12 : decode cL_run 12 = .ok (.astore_n 3, 1) := by decide +kernel
theorem dL_run_13 : decode cL_run 13 = .ok (.iconst 1, 1) := by decide +kernel
theorem dL_run_14 : decode cL_run 14 = .ok (.ireturn, 1) := by decide +kernel
theorem dL_run_15 : decode cL_run 15 = .ok (.astore_n 3, 1) := by decide +kernel
theorem dL_run_16 : decode cL_run 16 = .ok (.iconst 2, 1) := by decide +kernel
theorem dL_run_17 : decode cL_run 17 = .ok (.ireturn, 1) := by decide +kernel
theorem dL_run_18 : decode cL_run 18 = .ok (.iconst 0, 1) := by decide +kernel
theorem dL_run_19 : decode cL_run 19 = .ok (.ireturn, 1) := by decide +kernel
theorem dL_at_0 : decode cL_at 0 = .ok (.aload 4, 2) := by decide +kernel
theorem dL_at_2 : decode cL_at 2 = .ok (.iconst 0, 1) := by decide +kernel
theorem dL_at_3 : decode cL_at 3 = .ok (.aload_n 0, 1) := by decide +kernel
theorem dL_at_4 : decode cL_at 4 = .ok (.iload_n 1, 1) := by decide +kernel
theorem dL_at_5 : decode cL_at 5 = .ok (.iload_n 2, 1) := by decide +kernel
theorem dL_at_6 : decode cL_at 6 = .ok (.iload_n 3, 1) := by decide +kernel
theorem dL_at_7 : decode cL_at 7 = .ok (.invokevirtual 40, 3) := by decide +kernel
theorem dL_at_10 : decode cL_at 10 = .ok (.i2l, 1) := by decide +kernel
theorem dL_at_11 : decode cL_at 11 = .ok (.lastore, 1) := by decide +kernel
theorem dL_at_12 : decode cL_at 12 = .ok (.goto 11, 3) := by decide +kernel
theorem dL_at_15 : decode cL_at 15 = .ok (.astore 5, 2) := by decide +kernel
theorem dL_at_17 : decode cL_at 17 = .ok (.iconst 1, 1) := by decide +kernel
theorem dL_at_18 : decode cL_at 18 = .ok (.ireturn, 1) := by decide +kernel
theorem dL_at_19 : decode cL_at 19 = .ok (.astore 5, 2) := by decide +kernel
theorem dL_at_21 : decode cL_at 21 = .ok (.iconst 2, 1) := by decide +kernel
theorem dL_at_22 : decode cL_at 22 = .ok (.ireturn, 1) := by decide +kernel
theorem dL_at_23 : decode cL_at 23 = .ok (.iconst 0, 1) := by decide +kernel
theorem dL_at_24 : decode cL_at 24 = .ok (.ireturn, 1) := by decide +kernel
theorem dL_counted_0 : decode cL_counted 0 = .ok (.aload_n 3, 1) := by decide +kernel
theorem dL_counted_1 : decode cL_counted 1 = .ok (.iconst 0, 1) := by decide +kernel
theorem dL_counted_2 : decode cL_counted 2 = .ok (.aload_n 0, 1) := by decide +kernel
theorem dL_counted_3 : decode cL_counted 3 = .ok (.iload_n 1, 1) := by decide +kernel
theorem dL_counted_4 : decode cL_counted 4 = .ok (.iload_n 2, 1) := by decide +kernel
theorem dL_counted_5 : decode cL_counted 5 = .ok (.invokevirtual 43, 3) := by decide +kernel
theorem dL_counted_8 : decode cL_counted 8 = .ok (.i2l, 1) := by decide +kernel
theorem dL_counted_9 : decode cL_counted 9 = .ok (.lastore, 1) := by decide +kernel
theorem dL_counted_10 : decode cL_counted 10 = .ok (.goto 11, 3) := by decide +kernel
theorem dL_counted_13 : decode cL_counted 13 = .ok (.astore 4, 2) := by decide +kernel
theorem dL_counted_15 : decode cL_counted 15 = .ok (.iconst 1, 1) := by decide +kernel
theorem dL_counted_16 : decode cL_counted 16 = .ok (.ireturn, 1) := by decide +kernel
theorem dL_counted_17 : decode cL_counted 17 = .ok (.astore 4, 2) := by decide +kernel
theorem dL_counted_19 : decode cL_counted 19 = .ok (.iconst 2, 1) := by decide +kernel
theorem dL_counted_20 : decode cL_counted 20 = .ok (.ireturn, 1) := by decide +kernel
theorem dL_counted_21 : decode cL_counted 21 = .ok (.iconst 0, 1) := by decide +kernel
theorem dL_counted_22 : decode cL_counted 22 = .ok (.ireturn, 1) := by decide +kernel
theorem dL_apart_0 : decode cL_apart 0 = .ok (.aload_n 2, 1) := by decide +kernel
theorem dL_apart_1 : decode cL_apart 1 = .ok (.iconst 0, 1) := by decide +kernel
theorem dL_apart_2 : decode cL_apart 2 = .ok (.aload_n 0, 1) := by decide +kernel
theorem dL_apart_3 : decode cL_apart 3 = .ok (.iload_n 1, 1) := by decide +kernel
theorem dL_apart_4 : decode cL_apart 4 = .ok (.invokevirtual 46, 3) := by decide +kernel
theorem dL_apart_7 : decode cL_apart 7 = .ok (.i2l, 1) := by decide +kernel
theorem dL_apart_8 : decode cL_apart 8 = .ok (.lastore, 1) := by decide +kernel
theorem dL_apart_9 : decode cL_apart 9 = .ok (.goto 9, 3) := by decide +kernel
theorem dL_apart_12 : decode cL_apart 12 = .ok (.astore_n 3, 1) := by decide +kernel
theorem dL_apart_13 : decode cL_apart 13 = .ok (.iconst 1, 1) := by decide +kernel
theorem dL_apart_14 : decode cL_apart 14 = .ok (.ireturn, 1) := by decide +kernel
theorem dL_apart_15 : decode cL_apart 15 = .ok (.astore_n 3, 1) := by decide +kernel
theorem dL_apart_16 : decode cL_apart 16 = .ok (.iconst 2, 1) := by decide +kernel
theorem dL_apart_17 : decode cL_apart 17 = .ok (.ireturn, 1) := by decide +kernel
theorem dL_apart_18 : decode cL_apart 18 = .ok (.iconst 0, 1) := by decide +kernel
theorem dL_apart_19 : decode cL_apart 19 = .ok (.ireturn, 1) := by decide +kernel
theorem dL_agreement_0 : decode cL_agreement 0 = .ok (.aload_n 2, 1) := by decide +kernel
theorem dL_agreement_1 : decode cL_agreement 1 = .ok (.iconst 0, 1) := by decide +kernel
theorem dL_agreement_2 : decode cL_agreement 2 = .ok (.aload_n 0, 1) := by decide +kernel
theorem dL_agreement_3 : decode cL_agreement 3 = .ok (.iload_n 1, 1) := by decide +kernel
theorem dL_agreement_4 : decode cL_agreement 4 = .ok (.invokevirtual 49, 3) := by decide +kernel
theorem dL_agreement_7 : decode cL_agreement 7 = .ok (.i2l, 1) := by decide +kernel
theorem dL_agreement_8 : decode cL_agreement 8 = .ok (.lastore, 1) := by decide +kernel
theorem dL_agreement_9 : decode cL_agreement 9 = .ok (.goto 9, 3) := by decide +kernel
theorem dL_agreement_12 : decode cL_agreement 12 = .ok (.astore_n 3, 1) := by decide +kernel
theorem dL_agreement_13 : decode cL_agreement 13 = .ok (.iconst 1, 1) := by decide +kernel
theorem dL_agreement_14 : decode cL_agreement 14 = .ok (.ireturn, 1) := by decide +kernel
theorem dL_agreement_15 : decode cL_agreement 15 = .ok (.astore_n 3, 1) := by decide +kernel
theorem dL_agreement_16 : decode cL_agreement 16 = .ok (.iconst 2, 1) := by decide +kernel
theorem dL_agreement_17 : decode cL_agreement 17 = .ok (.ireturn, 1) := by decide +kernel
theorem dL_agreement_18 : decode cL_agreement 18 = .ok (.iconst 0, 1) := by decide +kernel
theorem dL_agreement_19 : decode cL_agreement 19 = .ok (.ireturn, 1) := by decide +kernel
theorem dL_spans_0 : decode cL_spans 0 = .ok (.aload_n 3, 1) := by decide +kernel
theorem dL_spans_1 : decode cL_spans 1 = .ok (.iconst 0, 1) := by decide +kernel
theorem dL_spans_2 : decode cL_spans 2 = .ok (.aload_n 0, 1) := by decide +kernel
theorem dL_spans_3 : decode cL_spans 3 = .ok (.iload_n 1, 1) := by decide +kernel
theorem dL_spans_4 : decode cL_spans 4 = .ok (.iload_n 2, 1) := by decide +kernel
theorem dL_spans_5 : decode cL_spans 5 = .ok (.invokevirtual 52, 3) := by decide +kernel
theorem dL_spans_8 : decode cL_spans 8 = .ok (.i2l, 1) := by decide +kernel
theorem dL_spans_9 : decode cL_spans 9 = .ok (.lastore, 1) := by decide +kernel
theorem dL_spans_10 : decode cL_spans 10 = .ok (.goto 15, 3) := by decide +kernel
theorem dL_spans_13 : decode cL_spans 13 = .ok (.astore 4, 2) := by decide +kernel
theorem dL_spans_15 : decode cL_spans 15 = .ok (.iconst 1, 1) := by decide +kernel
theorem dL_spans_16 : decode cL_spans 16 = .ok (.ireturn, 1) := by decide +kernel
theorem dL_spans_17 : decode cL_spans 17 = .ok (.astore 4, 2) := by decide +kernel
theorem dL_spans_19 : decode cL_spans 19 = .ok (.iconst 2, 1) := by decide +kernel
theorem dL_spans_20 : decode cL_spans 20 = .ok (.ireturn, 1) := by decide +kernel
theorem dL_spans_21 : decode cL_spans 21 = .ok (.astore 4, 2) := by decide +kernel
theorem dL_spans_23 : decode cL_spans 23 = .ok (.iconst 3, 1) := by decide +kernel
theorem dL_spans_24 : decode cL_spans 24 = .ok (.ireturn, 1) := by decide +kernel
theorem dL_spans_25 : decode cL_spans 25 = .ok (.iconst 0, 1) := by decide +kernel
theorem dL_spans_26 : decode cL_spans 26 = .ok (.ireturn, 1) := by decide +kernel
theorem dL_save_0 : decode cL_save 0 = .ok (.aload_n 1, 1) := by decide +kernel
theorem dL_save_1 : decode cL_save 1 = .ok (.iconst 0, 1) := by decide +kernel
theorem dL_save_2 : decode cL_save 2 = .ok (.aload_n 0, 1) := by decide +kernel
theorem dL_save_3 : decode cL_save 3 = .ok (.invokevirtual 55, 3) := by decide +kernel
theorem dL_save_6 : decode cL_save 6 = .ok (.i2l, 1) := by decide +kernel
theorem dL_save_7 : decode cL_save 7 = .ok (.lastore, 1) := by decide +kernel
theorem dL_save_8 : decode cL_save 8 = .ok (.goto 6, 3) := by decide +kernel
theorem dL_save_11 : decode cL_save 11 = .ok (.astore_n 2, 1) := by decide +kernel
theorem dL_save_12 : decode cL_save 12 = .ok (.iconst 1, 1) := by decide +kernel
theorem dL_save_13 : decode cL_save 13 = .ok (.ireturn, 1) := by decide +kernel
theorem dL_save_14 : decode cL_save 14 = .ok (.iconst 0, 1) := by decide +kernel
theorem dL_save_15 : decode cL_save 15 = .ok (.ireturn, 1) := by decide +kernel
theorem dL_back_0 : decode cL_back 0 = .ok (.aload_n 2, 1) := by decide +kernel
theorem dL_back_1 : decode cL_back 1 = .ok (.iconst 0, 1) := by decide +kernel
theorem dL_back_2 : decode cL_back 2 = .ok (.aload_n 0, 1) := by decide +kernel
theorem dL_back_3 : decode cL_back 3 = .ok (.iload_n 1, 1) := by decide +kernel
theorem dL_back_4 : decode cL_back 4 = .ok (.invokevirtual 59, 3) := by decide +kernel
theorem dL_back_7 : decode cL_back 7 = .ok (.i2l, 1) := by decide +kernel
theorem dL_back_8 : decode cL_back 8 = .ok (.lastore, 1) := by decide +kernel
theorem dL_back_9 : decode cL_back 9 = .ok (.goto 6, 3) := by decide +kernel
theorem dL_back_12 : decode cL_back 12 = .ok (.astore_n 3, 1) := by decide +kernel
theorem dL_back_13 : decode cL_back 13 = .ok (.iconst 1, 1) := by decide +kernel
theorem dL_back_14 : decode cL_back 14 = .ok (.ireturn, 1) := by decide +kernel
theorem dL_back_15 : decode cL_back 15 = .ok (.iconst 0, 1) := by decide +kernel
theorem dL_back_16 : decode cL_back 16 = .ok (.ireturn, 1) := by decide +kernel
theorem dL_count_0 : decode cL_count 0 = .ok (.aload_n 2, 1) := by decide +kernel
theorem dL_count_1 : decode cL_count 1 = .ok (.iconst 0, 1) := by decide +kernel
theorem dL_count_2 : decode cL_count 2 = .ok (.aload_n 0, 1) := by decide +kernel
theorem dL_count_3 : decode cL_count 3 = .ok (.iload_n 1, 1) := by decide +kernel
theorem dL_count_4 : decode cL_count 4 = .ok (.invokevirtual 62, 3) := by decide +kernel
theorem dL_count_7 : decode cL_count 7 = .ok (.i2l, 1) := by decide +kernel
theorem dL_count_8 : decode cL_count 8 = .ok (.lastore, 1) := by decide +kernel
theorem dL_count_9 : decode cL_count 9 = .ok (.goto 6, 3) := by decide +kernel
theorem dL_count_12 : decode cL_count 12 = .ok (.astore_n 3, 1) := by decide +kernel
theorem dL_count_13 : decode cL_count 13 = .ok (.iconst 1, 1) := by decide +kernel
theorem dL_count_14 : decode cL_count 14 = .ok (.ireturn, 1) := by decide +kernel
theorem dL_count_15 : decode cL_count 15 = .ok (.iconst 0, 1) := by decide +kernel
theorem dL_count_16 : decode cL_count 16 = .ok (.ireturn, 1) := by decide +kernel
theorem dL_law_0 : decode cL_law 0 = .ok (.new 8, 3) := by decide +kernel
theorem dL_law_3 : decode cL_law 3 = .ok (.dup, 1) := by decide +kernel
theorem dL_law_4 : decode cL_law 4 = .ok (.aload_n 0, 1) := by decide +kernel
theorem dL_law_5 : decode cL_law 5 = .ok (.iconst 0, 1) := by decide +kernel
theorem dL_law_6 : decode cL_law 6 = .ok (.invokestatic 65, 3) := by decide +kernel
theorem dL_law_9 : decode cL_law 9 = .ok (.aload_n 0, 1) := by decide +kernel
theorem dL_law_10 : decode cL_law 10 = .ok (.iconst 1, 1) := by decide +kernel
theorem dL_law_11 : decode cL_law 11 = .ok (.invokestatic 65, 3) := by decide +kernel
theorem dL_law_14 : decode cL_law 14 = .ok (.invokespecial 71, 3) := by decide +kernel
theorem dL_law_17 : decode cL_law 17 = .ok (.astore_n 1, 1) := by decide +kernel
theorem dL_law_18 : decode cL_law 18 = .ok (.new 74, 3) := by decide +kernel
theorem dL_law_21 : decode cL_law 21 = .ok (.dup, 1) := by decide +kernel
theorem dL_law_22 : decode cL_law 22 = .ok (.aload_n 0, 1) := by decide +kernel
theorem dL_law_23 : decode cL_law 23 = .ok (.iconst 0, 1) := by decide +kernel
theorem dL_law_24 : decode cL_law 24 = .ok (.invokestatic 65, 3) := by decide +kernel
theorem dL_law_27 : decode cL_law 27 = .ok (.aload_n 0, 1) := by decide +kernel
theorem dL_law_28 : decode cL_law 28 = .ok (.iconst 1, 1) := by decide +kernel
theorem dL_law_29 : decode cL_law 29 = .ok (.invokestatic 65, 3) := by decide +kernel
theorem dL_law_32 : decode cL_law 32 = .ok (.invokespecial 76, 3) := by decide +kernel
theorem dL_law_35 : decode cL_law 35 = .ok (.astore_n 2, 1) := by decide +kernel
theorem dL_law_36 : decode cL_law 36 = .ok (.iconst 1, 1) := by decide +kernel
theorem dL_law_37 : decode cL_law 37 = .ok (.newarray .long, 2) := by decide +kernel
theorem dL_law_39 : decode cL_law 39 = .ok (.astore_n 3, 1) := by decide +kernel
theorem dL_law_40 : decode cL_law 40 = .ok (.iconst 2, 1) := by decide +kernel
theorem dL_law_41 : decode cL_law 41 = .ok (.istore 4, 2) := by decide +kernel
theorem dL_law_43 : decode cL_law 43 = .ok (.iload 4, 2) := by decide +kernel
theorem dL_law_45 : decode cL_law 45 = .ok (.aload_n 0, 1) := by decide +kernel
theorem dL_law_46 : decode cL_law 46 = .ok (.arraylength, 1) := by decide +kernel
theorem dL_law_47 : decode cL_law 47 = .ok (.iconst 5, 1) := by decide +kernel
theorem dL_law_48 : decode cL_law 48 = .ok (.isub, 1) := by decide +kernel
theorem dL_law_49 : decode cL_law 49 = .ok (.if_icmp .gt 1066, 3) := by decide +kernel
theorem dL_law_52 : decode cL_law 52 = .ok (.aload_n 0, 1) := by decide +kernel
theorem dL_law_53 : decode cL_law 53 = .ok (.iload 4, 2) := by decide +kernel
theorem dL_law_55 : decode cL_law 55 = .ok (.iaload, 1) := by decide +kernel
theorem dL_law_56 : decode cL_law 56 = .ok (.bipush 15, 2) := by decide +kernel
theorem dL_law_58 : decode cL_law 58 = .ok (.iand, 1) := by decide +kernel
theorem dL_law_59 : decode cL_law 59 = .ok (.tableswitch 1050 0 15 #[77, 145, 225, 317, 385, 441, 497, 510, 566, 646, 714, 770, 826, 894, 938, 994], 77) := by decide +kernel
theorem dL_law_136 : decode cL_law 136 = .ok (.aload_n 1, 1) := by decide +kernel
theorem dL_law_137 : decode cL_law 137 = .ok (.aload_n 0, 1) := by decide +kernel
theorem dL_law_138 : decode cL_law 138 = .ok (.iload 4, 2) := by decide +kernel
theorem dL_law_140 : decode cL_law 140 = .ok (.iconst 1, 1) := by decide +kernel
theorem dL_law_141 : decode cL_law 141 = .ok (.iadd, 1) := by decide +kernel
theorem dL_law_142 : decode cL_law 142 = .ok (.iaload, 1) := by decide +kernel
theorem dL_law_143 : decode cL_law 143 = .ok (.aload_n 0, 1) := by decide +kernel
theorem dL_law_144 : decode cL_law 144 = .ok (.iload 4, 2) := by decide +kernel
theorem dL_law_146 : decode cL_law 146 = .ok (.iconst 2, 1) := by decide +kernel
theorem dL_law_147 : decode cL_law 147 = .ok (.iadd, 1) := by decide +kernel
theorem dL_law_148 : decode cL_law 148 = .ok (.iaload, 1) := by decide +kernel
theorem dL_law_149 : decode cL_law 149 = .ok (.aload_n 3, 1) := by decide +kernel
theorem dL_law_150 : decode cL_law 150 = .ok (.invokestatic 77, 3) := by decide +kernel
theorem dL_law_153 : decode cL_law 153 = .ok (.istore 5, 2) := by decide +kernel
theorem dL_law_155 : decode cL_law 155 = .ok (.aload_n 2, 1) := by decide +kernel
theorem dL_law_156 : decode cL_law 156 = .ok (.aload_n 0, 1) := by decide +kernel
theorem dL_law_157 : decode cL_law 157 = .ok (.iload 4, 2) := by decide +kernel
theorem dL_law_159 : decode cL_law 159 = .ok (.iconst 1, 1) := by decide +kernel
theorem dL_law_160 : decode cL_law 160 = .ok (.iadd, 1) := by decide +kernel
theorem dL_law_161 : decode cL_law 161 = .ok (.iaload, 1) := by decide +kernel
theorem dL_law_162 : decode cL_law 162 = .ok (.aload_n 0, 1) := by decide +kernel
theorem dL_law_163 : decode cL_law 163 = .ok (.iload 4, 2) := by decide +kernel
theorem dL_law_165 : decode cL_law 165 = .ok (.iconst 2, 1) := by decide +kernel
theorem dL_law_166 : decode cL_law 166 = .ok (.iadd, 1) := by decide +kernel
theorem dL_law_167 : decode cL_law 167 = .ok (.iaload, 1) := by decide +kernel
theorem dL_law_168 : decode cL_law 168 = .ok (.invokevirtual 80, 3) := by decide +kernel
theorem dL_law_171 : decode cL_law 171 = .ok (.istore 6, 2) := by decide +kernel
theorem dL_law_173 : decode cL_law 173 = .ok (.aload_n 2, 1) := by decide +kernel
theorem dL_law_174 : decode cL_law 174 = .ok (.invokevirtual 81, 3) := by decide +kernel
theorem dL_law_177 : decode cL_law 177 = .ok (.iload 5, 2) := by decide +kernel
theorem dL_law_179 : decode cL_law 179 = .ok (.if_icmp .eq 5, 3) := by decide +kernel
theorem dL_law_182 : decode cL_law 182 = .ok (.iconst 0, 1) := by decide +kernel
theorem dL_law_183 : decode cL_law 183 = .ok (.ireturn, 1) := by decide +kernel
theorem dL_law_184 : decode cL_law 184 = .ok (.iload 5, 2) := by decide +kernel
theorem dL_law_186 : decode cL_law 186 = .ok (.ifCond .ne 15, 3) := by decide +kernel
theorem dL_law_189 : decode cL_law 189 = .ok (.aload_n 3, 1) := by decide +kernel
theorem dL_law_190 : decode cL_law 190 = .ok (.iconst 0, 1) := by decide +kernel
theorem dL_law_191 : decode cL_law 191 = .ok (.laload, 1) := by decide +kernel
theorem dL_law_192 : decode cL_law 192 = .ok (.iload 6, 2) := by decide +kernel
theorem dL_law_194 : decode cL_law 194 = .ok (.i2l, 1) := by decide +kernel
theorem dL_law_195 : decode cL_law 195 = .ok (.lcmp, 1) := by decide +kernel
theorem dL_law_196 : decode cL_law 196 = .ok (.ifCond .eq 5, 3) := by decide +kernel
theorem dL_law_199 : decode cL_law 199 = .ok (.iconst 0, 1) := by decide +kernel
theorem dL_law_200 : decode cL_law 200 = .ok (.ireturn, 1) := by decide +kernel
theorem dL_law_201 : decode cL_law 201 = .ok (.goto 908, 3) := by decide +kernel
theorem dL_law_204 : decode cL_law 204 = .ok (.aload_n 1, 1) := by decide +kernel
theorem dL_law_205 : decode cL_law 205 = .ok (.aload_n 0, 1) := by decide +kernel
theorem dL_law_206 : decode cL_law 206 = .ok (.iload 4, 2) := by decide +kernel
theorem dL_law_208 : decode cL_law 208 = .ok (.iconst 1, 1) := by decide +kernel
theorem dL_law_209 : decode cL_law 209 = .ok (.iadd, 1) := by decide +kernel
theorem dL_law_210 : decode cL_law 210 = .ok (.iaload, 1) := by decide +kernel
theorem dL_law_211 : decode cL_law 211 = .ok (.aload_n 0, 1) := by decide +kernel
theorem dL_law_212 : decode cL_law 212 = .ok (.iload 4, 2) := by decide +kernel
theorem dL_law_214 : decode cL_law 214 = .ok (.iconst 2, 1) := by decide +kernel
theorem dL_law_215 : decode cL_law 215 = .ok (.iadd, 1) := by decide +kernel
theorem dL_law_216 : decode cL_law 216 = .ok (.iaload, 1) := by decide +kernel
theorem dL_law_217 : decode cL_law 217 = .ok (.aload_n 0, 1) := by decide +kernel
theorem dL_law_218 : decode cL_law 218 = .ok (.iload 4, 2) := by decide +kernel
theorem dL_law_220 : decode cL_law 220 = .ok (.iconst 3, 1) := by decide +kernel
theorem dL_law_221 : decode cL_law 221 = .ok (.iadd, 1) := by decide +kernel
theorem dL_law_222 : decode cL_law 222 = .ok (.iaload, 1) := by decide +kernel
theorem dL_law_223 : decode cL_law 223 = .ok (.aload_n 3, 1) := by decide +kernel
theorem dL_law_224 : decode cL_law 224 = .ok (.invokestatic 84, 3) := by decide +kernel
theorem dL_law_227 : decode cL_law 227 = .ok (.istore 5, 2) := by decide +kernel
theorem dL_law_229 : decode cL_law 229 = .ok (.aload_n 2, 1) := by decide +kernel
theorem dL_law_230 : decode cL_law 230 = .ok (.aload_n 0, 1) := by decide +kernel
theorem dL_law_231 : decode cL_law 231 = .ok (.iload 4, 2) := by decide +kernel
theorem dL_law_233 : decode cL_law 233 = .ok (.iconst 1, 1) := by decide +kernel
theorem dL_law_234 : decode cL_law 234 = .ok (.iadd, 1) := by decide +kernel
theorem dL_law_235 : decode cL_law 235 = .ok (.iaload, 1) := by decide +kernel
theorem dL_law_236 : decode cL_law 236 = .ok (.aload_n 0, 1) := by decide +kernel
theorem dL_law_237 : decode cL_law 237 = .ok (.iload 4, 2) := by decide +kernel
theorem dL_law_239 : decode cL_law 239 = .ok (.iconst 2, 1) := by decide +kernel
theorem dL_law_240 : decode cL_law 240 = .ok (.iadd, 1) := by decide +kernel
theorem dL_law_241 : decode cL_law 241 = .ok (.iaload, 1) := by decide +kernel
theorem dL_law_242 : decode cL_law 242 = .ok (.aload_n 0, 1) := by decide +kernel
theorem dL_law_243 : decode cL_law 243 = .ok (.iload 4, 2) := by decide +kernel
theorem dL_law_245 : decode cL_law 245 = .ok (.iconst 3, 1) := by decide +kernel
theorem dL_law_246 : decode cL_law 246 = .ok (.iadd, 1) := by decide +kernel
theorem dL_law_247 : decode cL_law 247 = .ok (.iaload, 1) := by decide +kernel
theorem dL_law_248 : decode cL_law 248 = .ok (.invokevirtual 87, 3) := by decide +kernel
theorem dL_law_251 : decode cL_law 251 = .ok (.istore 6, 2) := by decide +kernel
theorem dL_law_253 : decode cL_law 253 = .ok (.aload_n 2, 1) := by decide +kernel
theorem dL_law_254 : decode cL_law 254 = .ok (.invokevirtual 81, 3) := by decide +kernel
theorem dL_law_257 : decode cL_law 257 = .ok (.iload 5, 2) := by decide +kernel
theorem dL_law_259 : decode cL_law 259 = .ok (.if_icmp .eq 5, 3) := by decide +kernel
theorem dL_law_262 : decode cL_law 262 = .ok (.iconst 0, 1) := by decide +kernel
theorem dL_law_263 : decode cL_law 263 = .ok (.ireturn, 1) := by decide +kernel
theorem dL_law_264 : decode cL_law 264 = .ok (.iload 5, 2) := by decide +kernel
theorem dL_law_266 : decode cL_law 266 = .ok (.ifCond .ne 15, 3) := by decide +kernel
theorem dL_law_269 : decode cL_law 269 = .ok (.aload_n 3, 1) := by decide +kernel
theorem dL_law_270 : decode cL_law 270 = .ok (.iconst 0, 1) := by decide +kernel
theorem dL_law_271 : decode cL_law 271 = .ok (.laload, 1) := by decide +kernel
theorem dL_law_272 : decode cL_law 272 = .ok (.iload 6, 2) := by decide +kernel
theorem dL_law_274 : decode cL_law 274 = .ok (.i2l, 1) := by decide +kernel
theorem dL_law_275 : decode cL_law 275 = .ok (.lcmp, 1) := by decide +kernel
theorem dL_law_276 : decode cL_law 276 = .ok (.ifCond .eq 5, 3) := by decide +kernel
theorem dL_law_279 : decode cL_law 279 = .ok (.iconst 0, 1) := by decide +kernel
theorem dL_law_280 : decode cL_law 280 = .ok (.ireturn, 1) := by decide +kernel
theorem dL_law_281 : decode cL_law 281 = .ok (.goto 828, 3) := by decide +kernel
theorem dL_law_284 : decode cL_law 284 = .ok (.aload_n 1, 1) := by decide +kernel
theorem dL_law_285 : decode cL_law 285 = .ok (.aload_n 0, 1) := by decide +kernel
theorem dL_law_286 : decode cL_law 286 = .ok (.iload 4, 2) := by decide +kernel
theorem dL_law_288 : decode cL_law 288 = .ok (.iconst 1, 1) := by decide +kernel
theorem dL_law_289 : decode cL_law 289 = .ok (.iadd, 1) := by decide +kernel
theorem dL_law_290 : decode cL_law 290 = .ok (.iaload, 1) := by decide +kernel
theorem dL_law_291 : decode cL_law 291 = .ok (.aload_n 0, 1) := by decide +kernel
theorem dL_law_292 : decode cL_law 292 = .ok (.iload 4, 2) := by decide +kernel
theorem dL_law_294 : decode cL_law 294 = .ok (.iconst 2, 1) := by decide +kernel
theorem dL_law_295 : decode cL_law 295 = .ok (.iadd, 1) := by decide +kernel
theorem dL_law_296 : decode cL_law 296 = .ok (.iaload, 1) := by decide +kernel
theorem dL_law_297 : decode cL_law 297 = .ok (.aload_n 0, 1) := by decide +kernel
theorem dL_law_298 : decode cL_law 298 = .ok (.iload 4, 2) := by decide +kernel
theorem dL_law_300 : decode cL_law 300 = .ok (.iconst 3, 1) := by decide +kernel
theorem dL_law_301 : decode cL_law 301 = .ok (.iadd, 1) := by decide +kernel
theorem dL_law_302 : decode cL_law 302 = .ok (.iaload, 1) := by decide +kernel
theorem dL_law_303 : decode cL_law 303 = .ok (.aload_n 0, 1) := by decide +kernel
theorem dL_law_304 : decode cL_law 304 = .ok (.iload 4, 2) := by decide +kernel
theorem dL_law_306 : decode cL_law 306 = .ok (.iconst 4, 1) := by decide +kernel
theorem dL_law_307 : decode cL_law 307 = .ok (.iadd, 1) := by decide +kernel
theorem dL_law_308 : decode cL_law 308 = .ok (.iaload, 1) := by decide +kernel
theorem dL_law_309 : decode cL_law 309 = .ok (.aload_n 3, 1) := by decide +kernel
theorem dL_law_310 : decode cL_law 310 = .ok (.invokestatic 88, 3) := by decide +kernel
theorem dL_law_313 : decode cL_law 313 = .ok (.istore 5, 2) := by decide +kernel
theorem dL_law_315 : decode cL_law 315 = .ok (.aload_n 2, 1) := by decide +kernel
theorem dL_law_316 : decode cL_law 316 = .ok (.aload_n 0, 1) := by decide +kernel
theorem dL_law_317 : decode cL_law 317 = .ok (.iload 4, 2) := by decide +kernel
theorem dL_law_319 : decode cL_law 319 = .ok (.iconst 1, 1) := by decide +kernel
theorem dL_law_320 : decode cL_law 320 = .ok (.iadd, 1) := by decide +kernel
theorem dL_law_321 : decode cL_law 321 = .ok (.iaload, 1) := by decide +kernel
theorem dL_law_322 : decode cL_law 322 = .ok (.aload_n 0, 1) := by decide +kernel
theorem dL_law_323 : decode cL_law 323 = .ok (.iload 4, 2) := by decide +kernel
theorem dL_law_325 : decode cL_law 325 = .ok (.iconst 2, 1) := by decide +kernel
theorem dL_law_326 : decode cL_law 326 = .ok (.iadd, 1) := by decide +kernel
theorem dL_law_327 : decode cL_law 327 = .ok (.iaload, 1) := by decide +kernel
theorem dL_law_328 : decode cL_law 328 = .ok (.aload_n 0, 1) := by decide +kernel
theorem dL_law_329 : decode cL_law 329 = .ok (.iload 4, 2) := by decide +kernel
theorem dL_law_331 : decode cL_law 331 = .ok (.iconst 3, 1) := by decide +kernel
theorem dL_law_332 : decode cL_law 332 = .ok (.iadd, 1) := by decide +kernel
theorem dL_law_333 : decode cL_law 333 = .ok (.iaload, 1) := by decide +kernel
theorem dL_law_334 : decode cL_law 334 = .ok (.aload_n 0, 1) := by decide +kernel
theorem dL_law_335 : decode cL_law 335 = .ok (.iload 4, 2) := by decide +kernel
theorem dL_law_337 : decode cL_law 337 = .ok (.iconst 4, 1) := by decide +kernel
theorem dL_law_338 : decode cL_law 338 = .ok (.iadd, 1) := by decide +kernel
theorem dL_law_339 : decode cL_law 339 = .ok (.iaload, 1) := by decide +kernel
theorem dL_law_340 : decode cL_law 340 = .ok (.invokevirtual 91, 3) := by decide +kernel
theorem dL_law_343 : decode cL_law 343 = .ok (.istore 6, 2) := by decide +kernel
theorem dL_law_345 : decode cL_law 345 = .ok (.aload_n 2, 1) := by decide +kernel
theorem dL_law_346 : decode cL_law 346 = .ok (.invokevirtual 81, 3) := by decide +kernel
theorem dL_law_349 : decode cL_law 349 = .ok (.iload 5, 2) := by decide +kernel
theorem dL_law_351 : decode cL_law 351 = .ok (.if_icmp .eq 5, 3) := by decide +kernel
theorem dL_law_354 : decode cL_law 354 = .ok (.iconst 0, 1) := by decide +kernel
theorem dL_law_355 : decode cL_law 355 = .ok (.ireturn, 1) := by decide +kernel
theorem dL_law_356 : decode cL_law 356 = .ok (.iload 5, 2) := by decide +kernel
theorem dL_law_358 : decode cL_law 358 = .ok (.ifCond .ne 15, 3) := by decide +kernel
theorem dL_law_361 : decode cL_law 361 = .ok (.aload_n 3, 1) := by decide +kernel
theorem dL_law_362 : decode cL_law 362 = .ok (.iconst 0, 1) := by decide +kernel
theorem dL_law_363 : decode cL_law 363 = .ok (.laload, 1) := by decide +kernel
theorem dL_law_364 : decode cL_law 364 = .ok (.iload 6, 2) := by decide +kernel
theorem dL_law_366 : decode cL_law 366 = .ok (.i2l, 1) := by decide +kernel
theorem dL_law_367 : decode cL_law 367 = .ok (.lcmp, 1) := by decide +kernel
theorem dL_law_368 : decode cL_law 368 = .ok (.ifCond .eq 5, 3) := by decide +kernel
theorem dL_law_371 : decode cL_law 371 = .ok (.iconst 0, 1) := by decide +kernel
theorem dL_law_372 : decode cL_law 372 = .ok (.ireturn, 1) := by decide +kernel
theorem dL_law_373 : decode cL_law 373 = .ok (.goto 736, 3) := by decide +kernel
theorem dL_law_376 : decode cL_law 376 = .ok (.aload_n 1, 1) := by decide +kernel
theorem dL_law_377 : decode cL_law 377 = .ok (.aload_n 0, 1) := by decide +kernel
theorem dL_law_378 : decode cL_law 378 = .ok (.iload 4, 2) := by decide +kernel
theorem dL_law_380 : decode cL_law 380 = .ok (.iconst 1, 1) := by decide +kernel
theorem dL_law_381 : decode cL_law 381 = .ok (.iadd, 1) := by decide +kernel
theorem dL_law_382 : decode cL_law 382 = .ok (.iaload, 1) := by decide +kernel
theorem dL_law_383 : decode cL_law 383 = .ok (.aload_n 0, 1) := by decide +kernel
theorem dL_law_384 : decode cL_law 384 = .ok (.iload 4, 2) := by decide +kernel
theorem dL_law_386 : decode cL_law 386 = .ok (.iconst 2, 1) := by decide +kernel
theorem dL_law_387 : decode cL_law 387 = .ok (.iadd, 1) := by decide +kernel
theorem dL_law_388 : decode cL_law 388 = .ok (.iaload, 1) := by decide +kernel
theorem dL_law_389 : decode cL_law 389 = .ok (.aload_n 3, 1) := by decide +kernel
theorem dL_law_390 : decode cL_law 390 = .ok (.invokestatic 92, 3) := by decide +kernel
theorem dL_law_393 : decode cL_law 393 = .ok (.istore 5, 2) := by decide +kernel
theorem dL_law_395 : decode cL_law 395 = .ok (.aload_n 2, 1) := by decide +kernel
theorem dL_law_396 : decode cL_law 396 = .ok (.aload_n 0, 1) := by decide +kernel
theorem dL_law_397 : decode cL_law 397 = .ok (.iload 4, 2) := by decide +kernel
theorem dL_law_399 : decode cL_law 399 = .ok (.iconst 1, 1) := by decide +kernel
theorem dL_law_400 : decode cL_law 400 = .ok (.iadd, 1) := by decide +kernel
theorem dL_law_401 : decode cL_law 401 = .ok (.iaload, 1) := by decide +kernel
theorem dL_law_402 : decode cL_law 402 = .ok (.aload_n 0, 1) := by decide +kernel
theorem dL_law_403 : decode cL_law 403 = .ok (.iload 4, 2) := by decide +kernel
theorem dL_law_405 : decode cL_law 405 = .ok (.iconst 2, 1) := by decide +kernel
theorem dL_law_406 : decode cL_law 406 = .ok (.iadd, 1) := by decide +kernel
theorem dL_law_407 : decode cL_law 407 = .ok (.iaload, 1) := by decide +kernel
theorem dL_law_408 : decode cL_law 408 = .ok (.invokevirtual 94, 3) := by decide +kernel
theorem dL_law_411 : decode cL_law 411 = .ok (.istore 6, 2) := by decide +kernel
theorem dL_law_413 : decode cL_law 413 = .ok (.aload_n 2, 1) := by decide +kernel
theorem dL_law_414 : decode cL_law 414 = .ok (.invokevirtual 81, 3) := by decide +kernel
theorem dL_law_417 : decode cL_law 417 = .ok (.iload 5, 2) := by decide +kernel
theorem dL_law_419 : decode cL_law 419 = .ok (.if_icmp .eq 5, 3) := by decide +kernel
theorem dL_law_422 : decode cL_law 422 = .ok (.iconst 0, 1) := by decide +kernel
theorem dL_law_423 : decode cL_law 423 = .ok (.ireturn, 1) := by decide +kernel
theorem dL_law_424 : decode cL_law 424 = .ok (.iload 5, 2) := by decide +kernel
theorem dL_law_426 : decode cL_law 426 = .ok (.ifCond .ne 15, 3) := by decide +kernel
theorem dL_law_429 : decode cL_law 429 = .ok (.aload_n 3, 1) := by decide +kernel
theorem dL_law_430 : decode cL_law 430 = .ok (.iconst 0, 1) := by decide +kernel
theorem dL_law_431 : decode cL_law 431 = .ok (.laload, 1) := by decide +kernel
theorem dL_law_432 : decode cL_law 432 = .ok (.iload 6, 2) := by decide +kernel
theorem dL_law_434 : decode cL_law 434 = .ok (.i2l, 1) := by decide +kernel
theorem dL_law_435 : decode cL_law 435 = .ok (.lcmp, 1) := by decide +kernel
theorem dL_law_436 : decode cL_law 436 = .ok (.ifCond .eq 5, 3) := by decide +kernel
theorem dL_law_439 : decode cL_law 439 = .ok (.iconst 0, 1) := by decide +kernel
theorem dL_law_440 : decode cL_law 440 = .ok (.ireturn, 1) := by decide +kernel
theorem dL_law_441 : decode cL_law 441 = .ok (.goto 668, 3) := by decide +kernel
theorem dL_law_444 : decode cL_law 444 = .ok (.aload_n 1, 1) := by decide +kernel
theorem dL_law_445 : decode cL_law 445 = .ok (.aload_n 0, 1) := by decide +kernel
theorem dL_law_446 : decode cL_law 446 = .ok (.iload 4, 2) := by decide +kernel
theorem dL_law_448 : decode cL_law 448 = .ok (.iconst 1, 1) := by decide +kernel
theorem dL_law_449 : decode cL_law 449 = .ok (.iadd, 1) := by decide +kernel
theorem dL_law_450 : decode cL_law 450 = .ok (.iaload, 1) := by decide +kernel
theorem dL_law_451 : decode cL_law 451 = .ok (.aload_n 3, 1) := by decide +kernel
theorem dL_law_452 : decode cL_law 452 = .ok (.invokestatic 95, 3) := by decide +kernel
theorem dL_law_455 : decode cL_law 455 = .ok (.istore 5, 2) := by decide +kernel
theorem dL_law_457 : decode cL_law 457 = .ok (.aload_n 2, 1) := by decide +kernel
theorem dL_law_458 : decode cL_law 458 = .ok (.aload_n 0, 1) := by decide +kernel
theorem dL_law_459 : decode cL_law 459 = .ok (.iload 4, 2) := by decide +kernel
theorem dL_law_461 : decode cL_law 461 = .ok (.iconst 1, 1) := by decide +kernel
theorem dL_law_462 : decode cL_law 462 = .ok (.iadd, 1) := by decide +kernel
theorem dL_law_463 : decode cL_law 463 = .ok (.iaload, 1) := by decide +kernel
theorem dL_law_464 : decode cL_law 464 = .ok (.invokevirtual 98, 3) := by decide +kernel
theorem dL_law_467 : decode cL_law 467 = .ok (.istore 6, 2) := by decide +kernel
theorem dL_law_469 : decode cL_law 469 = .ok (.aload_n 2, 1) := by decide +kernel
theorem dL_law_470 : decode cL_law 470 = .ok (.invokevirtual 81, 3) := by decide +kernel
theorem dL_law_473 : decode cL_law 473 = .ok (.iload 5, 2) := by decide +kernel
theorem dL_law_475 : decode cL_law 475 = .ok (.if_icmp .eq 5, 3) := by decide +kernel
theorem dL_law_478 : decode cL_law 478 = .ok (.iconst 0, 1) := by decide +kernel
theorem dL_law_479 : decode cL_law 479 = .ok (.ireturn, 1) := by decide +kernel
theorem dL_law_480 : decode cL_law 480 = .ok (.iload 5, 2) := by decide +kernel
theorem dL_law_482 : decode cL_law 482 = .ok (.ifCond .ne 15, 3) := by decide +kernel
theorem dL_law_485 : decode cL_law 485 = .ok (.aload_n 3, 1) := by decide +kernel
theorem dL_law_486 : decode cL_law 486 = .ok (.iconst 0, 1) := by decide +kernel
theorem dL_law_487 : decode cL_law 487 = .ok (.laload, 1) := by decide +kernel
theorem dL_law_488 : decode cL_law 488 = .ok (.iload 6, 2) := by decide +kernel
theorem dL_law_490 : decode cL_law 490 = .ok (.i2l, 1) := by decide +kernel
theorem dL_law_491 : decode cL_law 491 = .ok (.lcmp, 1) := by decide +kernel
theorem dL_law_492 : decode cL_law 492 = .ok (.ifCond .eq 5, 3) := by decide +kernel
theorem dL_law_495 : decode cL_law 495 = .ok (.iconst 0, 1) := by decide +kernel
theorem dL_law_496 : decode cL_law 496 = .ok (.ireturn, 1) := by decide +kernel
theorem dL_law_497 : decode cL_law 497 = .ok (.goto 612, 3) := by decide +kernel
theorem dL_law_500 : decode cL_law 500 = .ok (.aload_n 1, 1) := by decide +kernel
theorem dL_law_501 : decode cL_law 501 = .ok (.aload_n 0, 1) := by decide +kernel
theorem dL_law_502 : decode cL_law 502 = .ok (.iload 4, 2) := by decide +kernel
theorem dL_law_504 : decode cL_law 504 = .ok (.iconst 1, 1) := by decide +kernel
theorem dL_law_505 : decode cL_law 505 = .ok (.iadd, 1) := by decide +kernel
theorem dL_law_506 : decode cL_law 506 = .ok (.iaload, 1) := by decide +kernel
theorem dL_law_507 : decode cL_law 507 = .ok (.aload_n 3, 1) := by decide +kernel
theorem dL_law_508 : decode cL_law 508 = .ok (.invokestatic 99, 3) := by decide +kernel
theorem dL_law_511 : decode cL_law 511 = .ok (.istore 5, 2) := by decide +kernel
theorem dL_law_513 : decode cL_law 513 = .ok (.aload_n 2, 1) := by decide +kernel
theorem dL_law_514 : decode cL_law 514 = .ok (.aload_n 0, 1) := by decide +kernel
theorem dL_law_515 : decode cL_law 515 = .ok (.iload 4, 2) := by decide +kernel
theorem dL_law_517 : decode cL_law 517 = .ok (.iconst 1, 1) := by decide +kernel
theorem dL_law_518 : decode cL_law 518 = .ok (.iadd, 1) := by decide +kernel
theorem dL_law_519 : decode cL_law 519 = .ok (.iaload, 1) := by decide +kernel
theorem dL_law_520 : decode cL_law 520 = .ok (.invokevirtual 101, 3) := by decide +kernel
theorem dL_law_523 : decode cL_law 523 = .ok (.istore 6, 2) := by decide +kernel
theorem dL_law_525 : decode cL_law 525 = .ok (.aload_n 2, 1) := by decide +kernel
theorem dL_law_526 : decode cL_law 526 = .ok (.invokevirtual 81, 3) := by decide +kernel
theorem dL_law_529 : decode cL_law 529 = .ok (.iload 5, 2) := by decide +kernel
theorem dL_law_531 : decode cL_law 531 = .ok (.if_icmp .eq 5, 3) := by decide +kernel
theorem dL_law_534 : decode cL_law 534 = .ok (.iconst 0, 1) := by decide +kernel
theorem dL_law_535 : decode cL_law 535 = .ok (.ireturn, 1) := by decide +kernel
theorem dL_law_536 : decode cL_law 536 = .ok (.iload 5, 2) := by decide +kernel
theorem dL_law_538 : decode cL_law 538 = .ok (.ifCond .ne 15, 3) := by decide +kernel
theorem dL_law_541 : decode cL_law 541 = .ok (.aload_n 3, 1) := by decide +kernel
theorem dL_law_542 : decode cL_law 542 = .ok (.iconst 0, 1) := by decide +kernel
theorem dL_law_543 : decode cL_law 543 = .ok (.laload, 1) := by decide +kernel
theorem dL_law_544 : decode cL_law 544 = .ok (.iload 6, 2) := by decide +kernel
theorem dL_law_546 : decode cL_law 546 = .ok (.i2l, 1) := by decide +kernel
theorem dL_law_547 : decode cL_law 547 = .ok (.lcmp, 1) := by decide +kernel
theorem dL_law_548 : decode cL_law 548 = .ok (.ifCond .eq 5, 3) := by decide +kernel
theorem dL_law_551 : decode cL_law 551 = .ok (.iconst 0, 1) := by decide +kernel
theorem dL_law_552 : decode cL_law 552 = .ok (.ireturn, 1) := by decide +kernel
theorem dL_law_553 : decode cL_law 553 = .ok (.goto 556, 3) := by decide +kernel
theorem dL_law_556 : decode cL_law 556 = .ok (.aload_n 1, 1) := by decide +kernel
theorem dL_law_557 : decode cL_law 557 = .ok (.invokevirtual 102, 3) := by decide +kernel
theorem dL_law_560 : decode cL_law 560 = .ok (.aload_n 2, 1) := by decide +kernel
theorem dL_law_561 : decode cL_law 561 = .ok (.invokevirtual 105, 3) := by decide +kernel
theorem dL_law_564 : decode cL_law 564 = .ok (.if_icmp .eq 545, 3) := by decide +kernel
theorem dL_law_567 : decode cL_law 567 = .ok (.iconst 0, 1) := by decide +kernel
theorem dL_law_568 : decode cL_law 568 = .ok (.ireturn, 1) := by decide +kernel
theorem dL_law_569 : decode cL_law 569 = .ok (.aload_n 1, 1) := by decide +kernel
theorem dL_law_570 : decode cL_law 570 = .ok (.aload_n 0, 1) := by decide +kernel
theorem dL_law_571 : decode cL_law 571 = .ok (.iload 4, 2) := by decide +kernel
theorem dL_law_573 : decode cL_law 573 = .ok (.iconst 1, 1) := by decide +kernel
theorem dL_law_574 : decode cL_law 574 = .ok (.iadd, 1) := by decide +kernel
theorem dL_law_575 : decode cL_law 575 = .ok (.iaload, 1) := by decide +kernel
theorem dL_law_576 : decode cL_law 576 = .ok (.aload_n 3, 1) := by decide +kernel
theorem dL_law_577 : decode cL_law 577 = .ok (.invokestatic 106, 3) := by decide +kernel
theorem dL_law_580 : decode cL_law 580 = .ok (.istore 5, 2) := by decide +kernel
theorem dL_law_582 : decode cL_law 582 = .ok (.aload_n 2, 1) := by decide +kernel
theorem dL_law_583 : decode cL_law 583 = .ok (.aload_n 0, 1) := by decide +kernel
theorem dL_law_584 : decode cL_law 584 = .ok (.iload 4, 2) := by decide +kernel
theorem dL_law_586 : decode cL_law 586 = .ok (.iconst 1, 1) := by decide +kernel
theorem dL_law_587 : decode cL_law 587 = .ok (.iadd, 1) := by decide +kernel
theorem dL_law_588 : decode cL_law 588 = .ok (.iaload, 1) := by decide +kernel
theorem dL_law_589 : decode cL_law 589 = .ok (.invokevirtual 108, 3) := by decide +kernel
theorem dL_law_592 : decode cL_law 592 = .ok (.istore 6, 2) := by decide +kernel
theorem dL_law_594 : decode cL_law 594 = .ok (.aload_n 2, 1) := by decide +kernel
theorem dL_law_595 : decode cL_law 595 = .ok (.invokevirtual 81, 3) := by decide +kernel
theorem dL_law_598 : decode cL_law 598 = .ok (.iload 5, 2) := by decide +kernel
theorem dL_law_600 : decode cL_law 600 = .ok (.if_icmp .eq 5, 3) := by decide +kernel
theorem dL_law_603 : decode cL_law 603 = .ok (.iconst 0, 1) := by decide +kernel
theorem dL_law_604 : decode cL_law 604 = .ok (.ireturn, 1) := by decide +kernel
theorem dL_law_605 : decode cL_law 605 = .ok (.iload 5, 2) := by decide +kernel
theorem dL_law_607 : decode cL_law 607 = .ok (.ifCond .ne 15, 3) := by decide +kernel
theorem dL_law_610 : decode cL_law 610 = .ok (.aload_n 3, 1) := by decide +kernel
theorem dL_law_611 : decode cL_law 611 = .ok (.iconst 0, 1) := by decide +kernel
theorem dL_law_612 : decode cL_law 612 = .ok (.laload, 1) := by decide +kernel
theorem dL_law_613 : decode cL_law 613 = .ok (.iload 6, 2) := by decide +kernel
theorem dL_law_615 : decode cL_law 615 = .ok (.i2l, 1) := by decide +kernel
theorem dL_law_616 : decode cL_law 616 = .ok (.lcmp, 1) := by decide +kernel
theorem dL_law_617 : decode cL_law 617 = .ok (.ifCond .eq 5, 3) := by decide +kernel
theorem dL_law_620 : decode cL_law 620 = .ok (.iconst 0, 1) := by decide +kernel
theorem dL_law_621 : decode cL_law 621 = .ok (.ireturn, 1) := by decide +kernel
theorem dL_law_622 : decode cL_law 622 = .ok (.goto 487, 3) := by decide +kernel
theorem dL_law_625 : decode cL_law 625 = .ok (.aload_n 1, 1) := by decide +kernel
theorem dL_law_626 : decode cL_law 626 = .ok (.aload_n 0, 1) := by decide +kernel
theorem dL_law_627 : decode cL_law 627 = .ok (.iload 4, 2) := by decide +kernel
theorem dL_law_629 : decode cL_law 629 = .ok (.iconst 1, 1) := by decide +kernel
theorem dL_law_630 : decode cL_law 630 = .ok (.iadd, 1) := by decide +kernel
theorem dL_law_631 : decode cL_law 631 = .ok (.iaload, 1) := by decide +kernel
theorem dL_law_632 : decode cL_law 632 = .ok (.aload_n 0, 1) := by decide +kernel
theorem dL_law_633 : decode cL_law 633 = .ok (.iload 4, 2) := by decide +kernel
theorem dL_law_635 : decode cL_law 635 = .ok (.iconst 2, 1) := by decide +kernel
theorem dL_law_636 : decode cL_law 636 = .ok (.iadd, 1) := by decide +kernel
theorem dL_law_637 : decode cL_law 637 = .ok (.iaload, 1) := by decide +kernel
theorem dL_law_638 : decode cL_law 638 = .ok (.aload_n 0, 1) := by decide +kernel
theorem dL_law_639 : decode cL_law 639 = .ok (.iload 4, 2) := by decide +kernel
theorem dL_law_641 : decode cL_law 641 = .ok (.iconst 3, 1) := by decide +kernel
theorem dL_law_642 : decode cL_law 642 = .ok (.iadd, 1) := by decide +kernel
theorem dL_law_643 : decode cL_law 643 = .ok (.iaload, 1) := by decide +kernel
theorem dL_law_644 : decode cL_law 644 = .ok (.aload_n 3, 1) := by decide +kernel
theorem dL_law_645 : decode cL_law 645 = .ok (.invokestatic 109, 3) := by decide +kernel
theorem dL_law_648 : decode cL_law 648 = .ok (.istore 5, 2) := by decide +kernel
theorem dL_law_650 : decode cL_law 650 = .ok (.aload_n 2, 1) := by decide +kernel
theorem dL_law_651 : decode cL_law 651 = .ok (.aload_n 0, 1) := by decide +kernel
theorem dL_law_652 : decode cL_law 652 = .ok (.iload 4, 2) := by decide +kernel
theorem dL_law_654 : decode cL_law 654 = .ok (.iconst 1, 1) := by decide +kernel
theorem dL_law_655 : decode cL_law 655 = .ok (.iadd, 1) := by decide +kernel
theorem dL_law_656 : decode cL_law 656 = .ok (.iaload, 1) := by decide +kernel
theorem dL_law_657 : decode cL_law 657 = .ok (.aload_n 0, 1) := by decide +kernel
theorem dL_law_658 : decode cL_law 658 = .ok (.iload 4, 2) := by decide +kernel
theorem dL_law_660 : decode cL_law 660 = .ok (.iconst 2, 1) := by decide +kernel
theorem dL_law_661 : decode cL_law 661 = .ok (.iadd, 1) := by decide +kernel
theorem dL_law_662 : decode cL_law 662 = .ok (.iaload, 1) := by decide +kernel
theorem dL_law_663 : decode cL_law 663 = .ok (.aload_n 0, 1) := by decide +kernel
theorem dL_law_664 : decode cL_law 664 = .ok (.iload 4, 2) := by decide +kernel
theorem dL_law_666 : decode cL_law 666 = .ok (.iconst 3, 1) := by decide +kernel
theorem dL_law_667 : decode cL_law 667 = .ok (.iadd, 1) := by decide +kernel
theorem dL_law_668 : decode cL_law 668 = .ok (.iaload, 1) := by decide +kernel
theorem dL_law_669 : decode cL_law 669 = .ok (.invokevirtual 111, 3) := by decide +kernel
theorem dL_law_672 : decode cL_law 672 = .ok (.istore 6, 2) := by decide +kernel
theorem dL_law_674 : decode cL_law 674 = .ok (.aload_n 2, 1) := by decide +kernel
theorem dL_law_675 : decode cL_law 675 = .ok (.invokevirtual 81, 3) := by decide +kernel
theorem dL_law_678 : decode cL_law 678 = .ok (.iload 5, 2) := by decide +kernel
theorem dL_law_680 : decode cL_law 680 = .ok (.if_icmp .eq 5, 3) := by decide +kernel
theorem dL_law_683 : decode cL_law 683 = .ok (.iconst 0, 1) := by decide +kernel
theorem dL_law_684 : decode cL_law 684 = .ok (.ireturn, 1) := by decide +kernel
theorem dL_law_685 : decode cL_law 685 = .ok (.iload 5, 2) := by decide +kernel
theorem dL_law_687 : decode cL_law 687 = .ok (.ifCond .ne 15, 3) := by decide +kernel
theorem dL_law_690 : decode cL_law 690 = .ok (.aload_n 3, 1) := by decide +kernel
theorem dL_law_691 : decode cL_law 691 = .ok (.iconst 0, 1) := by decide +kernel
theorem dL_law_692 : decode cL_law 692 = .ok (.laload, 1) := by decide +kernel
theorem dL_law_693 : decode cL_law 693 = .ok (.iload 6, 2) := by decide +kernel
theorem dL_law_695 : decode cL_law 695 = .ok (.i2l, 1) := by decide +kernel
theorem dL_law_696 : decode cL_law 696 = .ok (.lcmp, 1) := by decide +kernel
theorem dL_law_697 : decode cL_law 697 = .ok (.ifCond .eq 5, 3) := by decide +kernel
theorem dL_law_700 : decode cL_law 700 = .ok (.iconst 0, 1) := by decide +kernel
theorem dL_law_701 : decode cL_law 701 = .ok (.ireturn, 1) := by decide +kernel
theorem dL_law_702 : decode cL_law 702 = .ok (.goto 407, 3) := by decide +kernel
theorem dL_law_705 : decode cL_law 705 = .ok (.aload_n 1, 1) := by decide +kernel
theorem dL_law_706 : decode cL_law 706 = .ok (.aload_n 0, 1) := by decide +kernel
theorem dL_law_707 : decode cL_law 707 = .ok (.iload 4, 2) := by decide +kernel
theorem dL_law_709 : decode cL_law 709 = .ok (.iconst 1, 1) := by decide +kernel
theorem dL_law_710 : decode cL_law 710 = .ok (.iadd, 1) := by decide +kernel
theorem dL_law_711 : decode cL_law 711 = .ok (.iaload, 1) := by decide +kernel
theorem dL_law_712 : decode cL_law 712 = .ok (.aload_n 0, 1) := by decide +kernel
theorem dL_law_713 : decode cL_law 713 = .ok (.iload 4, 2) := by decide +kernel
theorem dL_law_715 : decode cL_law 715 = .ok (.iconst 2, 1) := by decide +kernel
theorem dL_law_716 : decode cL_law 716 = .ok (.iadd, 1) := by decide +kernel
theorem dL_law_717 : decode cL_law 717 = .ok (.iaload, 1) := by decide +kernel
theorem dL_law_718 : decode cL_law 718 = .ok (.aload_n 3, 1) := by decide +kernel
theorem dL_law_719 : decode cL_law 719 = .ok (.invokestatic 112, 3) := by decide +kernel
theorem dL_law_722 : decode cL_law 722 = .ok (.istore 5, 2) := by decide +kernel
theorem dL_law_724 : decode cL_law 724 = .ok (.aload_n 2, 1) := by decide +kernel
theorem dL_law_725 : decode cL_law 725 = .ok (.aload_n 0, 1) := by decide +kernel
theorem dL_law_726 : decode cL_law 726 = .ok (.iload 4, 2) := by decide +kernel
theorem dL_law_728 : decode cL_law 728 = .ok (.iconst 1, 1) := by decide +kernel
theorem dL_law_729 : decode cL_law 729 = .ok (.iadd, 1) := by decide +kernel
theorem dL_law_730 : decode cL_law 730 = .ok (.iaload, 1) := by decide +kernel
theorem dL_law_731 : decode cL_law 731 = .ok (.aload_n 0, 1) := by decide +kernel
theorem dL_law_732 : decode cL_law 732 = .ok (.iload 4, 2) := by decide +kernel
theorem dL_law_734 : decode cL_law 734 = .ok (.iconst 2, 1) := by decide +kernel
theorem dL_law_735 : decode cL_law 735 = .ok (.iadd, 1) := by decide +kernel
theorem dL_law_736 : decode cL_law 736 = .ok (.iaload, 1) := by decide +kernel
theorem dL_law_737 : decode cL_law 737 = .ok (.invokevirtual 114, 3) := by decide +kernel
theorem dL_law_740 : decode cL_law 740 = .ok (.istore 6, 2) := by decide +kernel
theorem dL_law_742 : decode cL_law 742 = .ok (.aload_n 2, 1) := by decide +kernel
theorem dL_law_743 : decode cL_law 743 = .ok (.invokevirtual 81, 3) := by decide +kernel
theorem dL_law_746 : decode cL_law 746 = .ok (.iload 5, 2) := by decide +kernel
theorem dL_law_748 : decode cL_law 748 = .ok (.if_icmp .eq 5, 3) := by decide +kernel
theorem dL_law_751 : decode cL_law 751 = .ok (.iconst 0, 1) := by decide +kernel
theorem dL_law_752 : decode cL_law 752 = .ok (.ireturn, 1) := by decide +kernel
theorem dL_law_753 : decode cL_law 753 = .ok (.iload 5, 2) := by decide +kernel
theorem dL_law_755 : decode cL_law 755 = .ok (.ifCond .ne 15, 3) := by decide +kernel
theorem dL_law_758 : decode cL_law 758 = .ok (.aload_n 3, 1) := by decide +kernel
theorem dL_law_759 : decode cL_law 759 = .ok (.iconst 0, 1) := by decide +kernel
theorem dL_law_760 : decode cL_law 760 = .ok (.laload, 1) := by decide +kernel
theorem dL_law_761 : decode cL_law 761 = .ok (.iload 6, 2) := by decide +kernel
theorem dL_law_763 : decode cL_law 763 = .ok (.i2l, 1) := by decide +kernel
theorem dL_law_764 : decode cL_law 764 = .ok (.lcmp, 1) := by decide +kernel
theorem dL_law_765 : decode cL_law 765 = .ok (.ifCond .eq 5, 3) := by decide +kernel
theorem dL_law_768 : decode cL_law 768 = .ok (.iconst 0, 1) := by decide +kernel
theorem dL_law_769 : decode cL_law 769 = .ok (.ireturn, 1) := by decide +kernel
theorem dL_law_770 : decode cL_law 770 = .ok (.goto 339, 3) := by decide +kernel
theorem dL_law_773 : decode cL_law 773 = .ok (.aload_n 1, 1) := by decide +kernel
theorem dL_law_774 : decode cL_law 774 = .ok (.aload_n 0, 1) := by decide +kernel
theorem dL_law_775 : decode cL_law 775 = .ok (.iload 4, 2) := by decide +kernel
theorem dL_law_777 : decode cL_law 777 = .ok (.iconst 1, 1) := by decide +kernel
theorem dL_law_778 : decode cL_law 778 = .ok (.iadd, 1) := by decide +kernel
theorem dL_law_779 : decode cL_law 779 = .ok (.iaload, 1) := by decide +kernel
theorem dL_law_780 : decode cL_law 780 = .ok (.aload_n 3, 1) := by decide +kernel
theorem dL_law_781 : decode cL_law 781 = .ok (.invokestatic 115, 3) := by decide +kernel
theorem dL_law_784 : decode cL_law 784 = .ok (.istore 5, 2) := by decide +kernel
theorem dL_law_786 : decode cL_law 786 = .ok (.aload_n 2, 1) := by decide +kernel
theorem dL_law_787 : decode cL_law 787 = .ok (.aload_n 0, 1) := by decide +kernel
theorem dL_law_788 : decode cL_law 788 = .ok (.iload 4, 2) := by decide +kernel
theorem dL_law_790 : decode cL_law 790 = .ok (.iconst 1, 1) := by decide +kernel
theorem dL_law_791 : decode cL_law 791 = .ok (.iadd, 1) := by decide +kernel
theorem dL_law_792 : decode cL_law 792 = .ok (.iaload, 1) := by decide +kernel
theorem dL_law_793 : decode cL_law 793 = .ok (.invokevirtual 117, 3) := by decide +kernel
theorem dL_law_796 : decode cL_law 796 = .ok (.istore 6, 2) := by decide +kernel
theorem dL_law_798 : decode cL_law 798 = .ok (.aload_n 2, 1) := by decide +kernel
theorem dL_law_799 : decode cL_law 799 = .ok (.invokevirtual 81, 3) := by decide +kernel
theorem dL_law_802 : decode cL_law 802 = .ok (.iload 5, 2) := by decide +kernel
theorem dL_law_804 : decode cL_law 804 = .ok (.if_icmp .eq 5, 3) := by decide +kernel
theorem dL_law_807 : decode cL_law 807 = .ok (.iconst 0, 1) := by decide +kernel
theorem dL_law_808 : decode cL_law 808 = .ok (.ireturn, 1) := by decide +kernel
theorem dL_law_809 : decode cL_law 809 = .ok (.iload 5, 2) := by decide +kernel
theorem dL_law_811 : decode cL_law 811 = .ok (.ifCond .ne 15, 3) := by decide +kernel
theorem dL_law_814 : decode cL_law 814 = .ok (.aload_n 3, 1) := by decide +kernel
theorem dL_law_815 : decode cL_law 815 = .ok (.iconst 0, 1) := by decide +kernel
theorem dL_law_816 : decode cL_law 816 = .ok (.laload, 1) := by decide +kernel
theorem dL_law_817 : decode cL_law 817 = .ok (.iload 6, 2) := by decide +kernel
theorem dL_law_819 : decode cL_law 819 = .ok (.i2l, 1) := by decide +kernel
theorem dL_law_820 : decode cL_law 820 = .ok (.lcmp, 1) := by decide +kernel
theorem dL_law_821 : decode cL_law 821 = .ok (.ifCond .eq 5, 3) := by decide +kernel
theorem dL_law_824 : decode cL_law 824 = .ok (.iconst 0, 1) := by decide +kernel
theorem dL_law_825 : decode cL_law 825 = .ok (.ireturn, 1) := by decide +kernel
theorem dL_law_826 : decode cL_law 826 = .ok (.goto 283, 3) := by decide +kernel
theorem dL_law_829 : decode cL_law 829 = .ok (.aload_n 1, 1) := by decide +kernel
theorem dL_law_830 : decode cL_law 830 = .ok (.aload_n 0, 1) := by decide +kernel
theorem dL_law_831 : decode cL_law 831 = .ok (.iload 4, 2) := by decide +kernel
theorem dL_law_833 : decode cL_law 833 = .ok (.iconst 1, 1) := by decide +kernel
theorem dL_law_834 : decode cL_law 834 = .ok (.iadd, 1) := by decide +kernel
theorem dL_law_835 : decode cL_law 835 = .ok (.iaload, 1) := by decide +kernel
theorem dL_law_836 : decode cL_law 836 = .ok (.aload_n 3, 1) := by decide +kernel
theorem dL_law_837 : decode cL_law 837 = .ok (.invokestatic 118, 3) := by decide +kernel
theorem dL_law_840 : decode cL_law 840 = .ok (.istore 5, 2) := by decide +kernel
theorem dL_law_842 : decode cL_law 842 = .ok (.aload_n 2, 1) := by decide +kernel
theorem dL_law_843 : decode cL_law 843 = .ok (.aload_n 0, 1) := by decide +kernel
theorem dL_law_844 : decode cL_law 844 = .ok (.iload 4, 2) := by decide +kernel
theorem dL_law_846 : decode cL_law 846 = .ok (.iconst 1, 1) := by decide +kernel
theorem dL_law_847 : decode cL_law 847 = .ok (.iadd, 1) := by decide +kernel
theorem dL_law_848 : decode cL_law 848 = .ok (.iaload, 1) := by decide +kernel
theorem dL_law_849 : decode cL_law 849 = .ok (.invokevirtual 120, 3) := by decide +kernel
theorem dL_law_852 : decode cL_law 852 = .ok (.istore 6, 2) := by decide +kernel
theorem dL_law_854 : decode cL_law 854 = .ok (.aload_n 2, 1) := by decide +kernel
theorem dL_law_855 : decode cL_law 855 = .ok (.invokevirtual 81, 3) := by decide +kernel
theorem dL_law_858 : decode cL_law 858 = .ok (.iload 5, 2) := by decide +kernel
theorem dL_law_860 : decode cL_law 860 = .ok (.if_icmp .eq 5, 3) := by decide +kernel
theorem dL_law_863 : decode cL_law 863 = .ok (.iconst 0, 1) := by decide +kernel
theorem dL_law_864 : decode cL_law 864 = .ok (.ireturn, 1) := by decide +kernel
theorem dL_law_865 : decode cL_law 865 = .ok (.iload 5, 2) := by decide +kernel
theorem dL_law_867 : decode cL_law 867 = .ok (.ifCond .ne 15, 3) := by decide +kernel
theorem dL_law_870 : decode cL_law 870 = .ok (.aload_n 3, 1) := by decide +kernel
theorem dL_law_871 : decode cL_law 871 = .ok (.iconst 0, 1) := by decide +kernel
theorem dL_law_872 : decode cL_law 872 = .ok (.laload, 1) := by decide +kernel
theorem dL_law_873 : decode cL_law 873 = .ok (.iload 6, 2) := by decide +kernel
theorem dL_law_875 : decode cL_law 875 = .ok (.i2l, 1) := by decide +kernel
theorem dL_law_876 : decode cL_law 876 = .ok (.lcmp, 1) := by decide +kernel
theorem dL_law_877 : decode cL_law 877 = .ok (.ifCond .eq 5, 3) := by decide +kernel
theorem dL_law_880 : decode cL_law 880 = .ok (.iconst 0, 1) := by decide +kernel
theorem dL_law_881 : decode cL_law 881 = .ok (.ireturn, 1) := by decide +kernel
theorem dL_law_882 : decode cL_law 882 = .ok (.goto 227, 3) := by decide +kernel
theorem dL_law_885 : decode cL_law 885 = .ok (.aload_n 1, 1) := by decide +kernel
theorem dL_law_886 : decode cL_law 886 = .ok (.aload_n 0, 1) := by decide +kernel
theorem dL_law_887 : decode cL_law 887 = .ok (.iload 4, 2) := by decide +kernel
theorem dL_law_889 : decode cL_law 889 = .ok (.iconst 1, 1) := by decide +kernel
theorem dL_law_890 : decode cL_law 890 = .ok (.iadd, 1) := by decide +kernel
theorem dL_law_891 : decode cL_law 891 = .ok (.iaload, 1) := by decide +kernel
theorem dL_law_892 : decode cL_law 892 = .ok (.aload_n 0, 1) := by decide +kernel
theorem dL_law_893 : decode cL_law 893 = .ok (.iload 4, 2) := by decide +kernel
theorem dL_law_895 : decode cL_law 895 = .ok (.iconst 2, 1) := by decide +kernel
theorem dL_law_896 : decode cL_law 896 = .ok (.iadd, 1) := by decide +kernel
theorem dL_law_897 : decode cL_law 897 = .ok (.iaload, 1) := by decide +kernel
theorem dL_law_898 : decode cL_law 898 = .ok (.aload_n 3, 1) := by decide +kernel
theorem dL_law_899 : decode cL_law 899 = .ok (.invokestatic 121, 3) := by decide +kernel
theorem dL_law_902 : decode cL_law 902 = .ok (.istore 5, 2) := by decide +kernel
theorem dL_law_904 : decode cL_law 904 = .ok (.aload_n 2, 1) := by decide +kernel
theorem dL_law_905 : decode cL_law 905 = .ok (.aload_n 0, 1) := by decide +kernel
theorem dL_law_906 : decode cL_law 906 = .ok (.iload 4, 2) := by decide +kernel
theorem dL_law_908 : decode cL_law 908 = .ok (.iconst 1, 1) := by decide +kernel
theorem dL_law_909 : decode cL_law 909 = .ok (.iadd, 1) := by decide +kernel
theorem dL_law_910 : decode cL_law 910 = .ok (.iaload, 1) := by decide +kernel
theorem dL_law_911 : decode cL_law 911 = .ok (.aload_n 0, 1) := by decide +kernel
theorem dL_law_912 : decode cL_law 912 = .ok (.iload 4, 2) := by decide +kernel
theorem dL_law_914 : decode cL_law 914 = .ok (.iconst 2, 1) := by decide +kernel
theorem dL_law_915 : decode cL_law 915 = .ok (.iadd, 1) := by decide +kernel
theorem dL_law_916 : decode cL_law 916 = .ok (.iaload, 1) := by decide +kernel
theorem dL_law_917 : decode cL_law 917 = .ok (.invokevirtual 123, 3) := by decide +kernel
theorem dL_law_920 : decode cL_law 920 = .ok (.istore 6, 2) := by decide +kernel
theorem dL_law_922 : decode cL_law 922 = .ok (.aload_n 2, 1) := by decide +kernel
theorem dL_law_923 : decode cL_law 923 = .ok (.invokevirtual 81, 3) := by decide +kernel
theorem dL_law_926 : decode cL_law 926 = .ok (.iload 5, 2) := by decide +kernel
theorem dL_law_928 : decode cL_law 928 = .ok (.if_icmp .eq 5, 3) := by decide +kernel
theorem dL_law_931 : decode cL_law 931 = .ok (.iconst 0, 1) := by decide +kernel
theorem dL_law_932 : decode cL_law 932 = .ok (.ireturn, 1) := by decide +kernel
theorem dL_law_933 : decode cL_law 933 = .ok (.iload 5, 2) := by decide +kernel
theorem dL_law_935 : decode cL_law 935 = .ok (.ifCond .ne 15, 3) := by decide +kernel
theorem dL_law_938 : decode cL_law 938 = .ok (.aload_n 3, 1) := by decide +kernel
theorem dL_law_939 : decode cL_law 939 = .ok (.iconst 0, 1) := by decide +kernel
theorem dL_law_940 : decode cL_law 940 = .ok (.laload, 1) := by decide +kernel
theorem dL_law_941 : decode cL_law 941 = .ok (.iload 6, 2) := by decide +kernel
theorem dL_law_943 : decode cL_law 943 = .ok (.i2l, 1) := by decide +kernel
theorem dL_law_944 : decode cL_law 944 = .ok (.lcmp, 1) := by decide +kernel
theorem dL_law_945 : decode cL_law 945 = .ok (.ifCond .eq 5, 3) := by decide +kernel
theorem dL_law_948 : decode cL_law 948 = .ok (.iconst 0, 1) := by decide +kernel
theorem dL_law_949 : decode cL_law 949 = .ok (.ireturn, 1) := by decide +kernel
theorem dL_law_950 : decode cL_law 950 = .ok (.goto 159, 3) := by decide +kernel
theorem dL_law_953 : decode cL_law 953 = .ok (.aload_n 1, 1) := by decide +kernel
theorem dL_law_954 : decode cL_law 954 = .ok (.aload_n 3, 1) := by decide +kernel
theorem dL_law_955 : decode cL_law 955 = .ok (.invokestatic 124, 3) := by decide +kernel
theorem dL_law_958 : decode cL_law 958 = .ok (.istore 5, 2) := by decide +kernel
theorem dL_law_960 : decode cL_law 960 = .ok (.aload_n 2, 1) := by decide +kernel
theorem dL_law_961 : decode cL_law 961 = .ok (.invokevirtual 127, 3) := by decide +kernel
theorem dL_law_964 : decode cL_law 964 = .ok (.istore 6, 2) := by decide +kernel
theorem dL_law_966 : decode cL_law 966 = .ok (.aload_n 2, 1) := by decide +kernel
theorem dL_law_967 : decode cL_law 967 = .ok (.invokevirtual 81, 3) := by decide +kernel
theorem dL_law_970 : decode cL_law 970 = .ok (.iload 5, 2) := by decide +kernel
theorem dL_law_972 : decode cL_law 972 = .ok (.if_icmp .eq 5, 3) := by decide +kernel
theorem dL_law_975 : decode cL_law 975 = .ok (.iconst 0, 1) := by decide +kernel
theorem dL_law_976 : decode cL_law 976 = .ok (.ireturn, 1) := by decide +kernel
theorem dL_law_977 : decode cL_law 977 = .ok (.iload 5, 2) := by decide +kernel
theorem dL_law_979 : decode cL_law 979 = .ok (.ifCond .ne 15, 3) := by decide +kernel
theorem dL_law_982 : decode cL_law 982 = .ok (.aload_n 3, 1) := by decide +kernel
theorem dL_law_983 : decode cL_law 983 = .ok (.iconst 0, 1) := by decide +kernel
theorem dL_law_984 : decode cL_law 984 = .ok (.laload, 1) := by decide +kernel
theorem dL_law_985 : decode cL_law 985 = .ok (.iload 6, 2) := by decide +kernel
theorem dL_law_987 : decode cL_law 987 = .ok (.i2l, 1) := by decide +kernel
theorem dL_law_988 : decode cL_law 988 = .ok (.lcmp, 1) := by decide +kernel
theorem dL_law_989 : decode cL_law 989 = .ok (.ifCond .eq 5, 3) := by decide +kernel
theorem dL_law_992 : decode cL_law 992 = .ok (.iconst 0, 1) := by decide +kernel
theorem dL_law_993 : decode cL_law 993 = .ok (.ireturn, 1) := by decide +kernel
theorem dL_law_994 : decode cL_law 994 = .ok (.goto 115, 3) := by decide +kernel
theorem dL_law_997 : decode cL_law 997 = .ok (.aload_n 1, 1) := by decide +kernel
theorem dL_law_998 : decode cL_law 998 = .ok (.aload_n 0, 1) := by decide +kernel
theorem dL_law_999 : decode cL_law 999 = .ok (.iload 4, 2) := by decide +kernel
theorem dL_law_1001 : decode cL_law 1001 = .ok (.iconst 1, 1) := by decide +kernel
theorem dL_law_1002 : decode cL_law 1002 = .ok (.iadd, 1) := by decide +kernel
theorem dL_law_1003 : decode cL_law 1003 = .ok (.iaload, 1) := by decide +kernel
theorem dL_law_1004 : decode cL_law 1004 = .ok (.aload_n 3, 1) := by decide +kernel
theorem dL_law_1005 : decode cL_law 1005 = .ok (.invokestatic 128, 3) := by decide +kernel
theorem dL_law_1008 : decode cL_law 1008 = .ok (.istore 5, 2) := by decide +kernel
theorem dL_law_1010 : decode cL_law 1010 = .ok (.aload_n 2, 1) := by decide +kernel
theorem dL_law_1011 : decode cL_law 1011 = .ok (.aload_n 0, 1) := by decide +kernel
theorem dL_law_1012 : decode cL_law 1012 = .ok (.iload 4, 2) := by decide +kernel
theorem dL_law_1014 : decode cL_law 1014 = .ok (.iconst 1, 1) := by decide +kernel
theorem dL_law_1015 : decode cL_law 1015 = .ok (.iadd, 1) := by decide +kernel
theorem dL_law_1016 : decode cL_law 1016 = .ok (.iaload, 1) := by decide +kernel
theorem dL_law_1017 : decode cL_law 1017 = .ok (.invokevirtual 130, 3) := by decide +kernel
theorem dL_law_1020 : decode cL_law 1020 = .ok (.istore 6, 2) := by decide +kernel
theorem dL_law_1022 : decode cL_law 1022 = .ok (.aload_n 2, 1) := by decide +kernel
theorem dL_law_1023 : decode cL_law 1023 = .ok (.invokevirtual 81, 3) := by decide +kernel
theorem dL_law_1026 : decode cL_law 1026 = .ok (.iload 5, 2) := by decide +kernel
theorem dL_law_1028 : decode cL_law 1028 = .ok (.if_icmp .eq 5, 3) := by decide +kernel
theorem dL_law_1031 : decode cL_law 1031 = .ok (.iconst 0, 1) := by decide +kernel
theorem dL_law_1032 : decode cL_law 1032 = .ok (.ireturn, 1) := by decide +kernel
theorem dL_law_1033 : decode cL_law 1033 = .ok (.iload 5, 2) := by decide +kernel
theorem dL_law_1035 : decode cL_law 1035 = .ok (.ifCond .ne 15, 3) := by decide +kernel
theorem dL_law_1038 : decode cL_law 1038 = .ok (.aload_n 3, 1) := by decide +kernel
theorem dL_law_1039 : decode cL_law 1039 = .ok (.iconst 0, 1) := by decide +kernel
theorem dL_law_1040 : decode cL_law 1040 = .ok (.laload, 1) := by decide +kernel
theorem dL_law_1041 : decode cL_law 1041 = .ok (.iload 6, 2) := by decide +kernel
theorem dL_law_1043 : decode cL_law 1043 = .ok (.i2l, 1) := by decide +kernel
theorem dL_law_1044 : decode cL_law 1044 = .ok (.lcmp, 1) := by decide +kernel
theorem dL_law_1045 : decode cL_law 1045 = .ok (.ifCond .eq 5, 3) := by decide +kernel
theorem dL_law_1048 : decode cL_law 1048 = .ok (.iconst 0, 1) := by decide +kernel
theorem dL_law_1049 : decode cL_law 1049 = .ok (.ireturn, 1) := by decide +kernel
theorem dL_law_1050 : decode cL_law 1050 = .ok (.goto 59, 3) := by decide +kernel
theorem dL_law_1053 : decode cL_law 1053 = .ok (.aload_n 1, 1) := by decide +kernel
theorem dL_law_1054 : decode cL_law 1054 = .ok (.aload_n 0, 1) := by decide +kernel
theorem dL_law_1055 : decode cL_law 1055 = .ok (.iload 4, 2) := by decide +kernel
theorem dL_law_1057 : decode cL_law 1057 = .ok (.iconst 1, 1) := by decide +kernel
theorem dL_law_1058 : decode cL_law 1058 = .ok (.iadd, 1) := by decide +kernel
theorem dL_law_1059 : decode cL_law 1059 = .ok (.iaload, 1) := by decide +kernel
theorem dL_law_1060 : decode cL_law 1060 = .ok (.aload_n 3, 1) := by decide +kernel
theorem dL_law_1061 : decode cL_law 1061 = .ok (.invokestatic 131, 3) := by decide +kernel
theorem dL_law_1064 : decode cL_law 1064 = .ok (.istore 5, 2) := by decide +kernel
theorem dL_law_1066 : decode cL_law 1066 = .ok (.aload_n 2, 1) := by decide +kernel
theorem dL_law_1067 : decode cL_law 1067 = .ok (.aload_n 0, 1) := by decide +kernel
theorem dL_law_1068 : decode cL_law 1068 = .ok (.iload 4, 2) := by decide +kernel
theorem dL_law_1070 : decode cL_law 1070 = .ok (.iconst 1, 1) := by decide +kernel
theorem dL_law_1071 : decode cL_law 1071 = .ok (.iadd, 1) := by decide +kernel
theorem dL_law_1072 : decode cL_law 1072 = .ok (.iaload, 1) := by decide +kernel
theorem dL_law_1073 : decode cL_law 1073 = .ok (.invokevirtual 133, 3) := by decide +kernel
theorem dL_law_1076 : decode cL_law 1076 = .ok (.istore 6, 2) := by decide +kernel
theorem dL_law_1078 : decode cL_law 1078 = .ok (.aload_n 2, 1) := by decide +kernel
theorem dL_law_1079 : decode cL_law 1079 = .ok (.invokevirtual 81, 3) := by decide +kernel
theorem dL_law_1082 : decode cL_law 1082 = .ok (.iload 5, 2) := by decide +kernel
theorem dL_law_1084 : decode cL_law 1084 = .ok (.if_icmp .eq 5, 3) := by decide +kernel
theorem dL_law_1087 : decode cL_law 1087 = .ok (.iconst 0, 1) := by decide +kernel
theorem dL_law_1088 : decode cL_law 1088 = .ok (.ireturn, 1) := by decide +kernel
theorem dL_law_1089 : decode cL_law 1089 = .ok (.iload 5, 2) := by decide +kernel
theorem dL_law_1091 : decode cL_law 1091 = .ok (.ifCond .ne 15, 3) := by decide +kernel
theorem dL_law_1094 : decode cL_law 1094 = .ok (.aload_n 3, 1) := by decide +kernel
theorem dL_law_1095 : decode cL_law 1095 = .ok (.iconst 0, 1) := by decide +kernel
theorem dL_law_1096 : decode cL_law 1096 = .ok (.laload, 1) := by decide +kernel
theorem dL_law_1097 : decode cL_law 1097 = .ok (.iload 6, 2) := by decide +kernel
theorem dL_law_1099 : decode cL_law 1099 = .ok (.i2l, 1) := by decide +kernel
theorem dL_law_1100 : decode cL_law 1100 = .ok (.lcmp, 1) := by decide +kernel
theorem dL_law_1101 : decode cL_law 1101 = .ok (.ifCond .eq 5, 3) := by decide +kernel
theorem dL_law_1104 : decode cL_law 1104 = .ok (.iconst 0, 1) := by decide +kernel
theorem dL_law_1105 : decode cL_law 1105 = .ok (.ireturn, 1) := by decide +kernel
theorem dL_law_1106 : decode cL_law 1106 = .ok (.goto 3, 3) := by decide +kernel
theorem dL_law_1109 : decode cL_law 1109 = .ok (.iinc 4 5, 3) := by decide +kernel
theorem dL_law_1112 : decode cL_law 1112 = .ok (.goto (-1069), 3) := by decide +kernel
theorem dL_law_1115 : decode cL_law 1115 = .ok (.iconst 1, 1) := by decide +kernel
theorem dL_law_1116 : decode cL_law 1116 = .ok (.ireturn, 1) := by decide +kernel
end
section
/-! THE WORLD BY CODES: code k's cell lies at ad k and holds C k; all cells lie from base on. -/
def tR (D : va_G) (cl : List vw_C) (base : Nat) (ad : Nat → Nat) (C : Nat → Option va_E) (H : Heap) : Prop :=
  ∃ ws : va_W, va_P D cl ws H ∧ va_D (fun q => base ≤ q) ws ∧ (∀ k e, C k = some e → (ad k, e) ∈ ws) ∧ (∀ i j ei ej, C i = some ei → C j = some ej → ad i = ad j → i = j)
theorem tR.less {D : va_G} {cl : List vw_C} {base : Nat} {ad : Nat → Nat} {C C' : Nat → Option va_E} {H : Heap} (h : tR D cl base ad C H) (hC : ∀ k e, C' k = some e → C k = some e) : tR D cl base ad C' H := by
  obtain ⟨ws, hP, hD, hM, hI⟩ := h
  exact ⟨ws, hP, hD, fun k e hk => hM k e (hC k e hk), fun i j ei ej hi hj => hI i j ei ej (hC i ei hi) (hC j ej hj)⟩
theorem tR.ge {D : va_G} {cl : List vw_C} {base : Nat} {ad : Nat → Nat} {C : Nat → Option va_E} {H : Heap} (h : tR D cl base ad C H) {k : Nat} {e : va_E} (hk : C k = some e) : base ≤ ad k := by
  obtain ⟨ws, hP, hD, hM, hI⟩ := h
  obtain ⟨i, hi⟩ := List.getElem?_of_mem (hM _ _ hk)
  exact hD.2 i _ hi
/-- what lies from base on and was there stays where nothing of it is changed -/
theorem tR.kept {D : va_G} {cl : List vw_C} {base : Nat} {ad : Nat → Nat} {C : Nat → Option va_E} {H H1 : Heap} (h : tR D cl base ad C H) (hq : ∀ q : Nat, q < H.size → H1[q]? = H[q]?) : tR D cl base ad C H1 := by
  obtain ⟨ws, hP, hD, hM, hI⟩ := h
  exact ⟨ws, hP.kept (fun k q hk => hq _ ((hP k q hk).lt)), hD, hM, hI⟩
theorem tR.set {D : va_G} {cl : List vw_C} {base : Nat} {ad : Nat → Nat} {C : Nat → Option va_E} {H1 : Heap} {ws : va_W} {i k0 : Nat} {e0 e : va_E} (hP : va_P D cl (ws.set i (ad k0, e)) H1) (hD : va_D (fun q => base ≤ q) (ws.set i (ad k0, e)))
    (hM : ∀ k e, C k = some e → (ad k, e) ∈ ws) (hI : ∀ i j ei ej, C i = some ei → C j = some ej → ad i = ad j → i = j) (h0 : C k0 = some e0) (hi : ws[i]? = some (ad k0, e0)) : tR D cl base ad (va_up C k0 (some e)) H1 := by
  have hl : i < ws.length := (List.getElem?_eq_some_iff.mp hi).1
  refine ⟨_, hP, hD, fun k e' hk => ?_, fun a b ea eb ha hb hab => ?_⟩
  · by_cases h : k = k0
    · subst h
      rw [va_up_self] at hk
      cases hk
      exact List.mem_of_getElem? (i := i) (by rw [List.getElem?_set_self hl])
    · rw [va_up_ne _ _ h] at hk
      obtain ⟨j, hj⟩ := List.getElem?_of_mem (hM k e' hk)
      have hne : i ≠ j := by
        intro q
        subst q
        rw [hi] at hj
        have h9 : ad k0 = ad k := congrArg Prod.fst (Option.some.inj hj)
        exact h (hI k k0 _ _ hk h0 h9.symm)
      exact List.mem_of_getElem? (i := j) (by rw [List.getElem?_set_ne hne]; exact hj)
  · have h1 : ∃ x, C a = some x := by
      by_cases h : a = k0
      · exact ⟨e0, by rw [h]; exact h0⟩
      · rw [va_up_ne _ _ h] at ha
        exact ⟨_, ha⟩
    have h2 : ∃ x, C b = some x := by
      by_cases h : b = k0
      · exact ⟨e0, by rw [h]; exact h0⟩
      · rw [va_up_ne _ _ h] at hb
        exact ⟨_, hb⟩
    obtain ⟨x, hx⟩ := h1
    obtain ⟨y, hy⟩ := h2
    exact hI a b _ _ hx hy hab
/-- a new cell gets a code that was free -/
theorem tR.push {D : va_G} {cl : List vw_C} {base : Nat} {ad : Nat → Nat} {C : Nat → Option va_E} {H1 : Heap} {ws : va_W} {q : Nat} (k0 : Nat) {e : va_E} (hP : va_P D cl (ws ++ [(q, e)]) H1) (hD : va_D (fun q => base ≤ q) (ws ++ [(q, e)]))
    (hM : ∀ k e, C k = some e → (ad k, e) ∈ ws) (hI : ∀ i j ei ej, C i = some ei → C j = some ej → ad i = ad j → i = j) (h0 : C k0 = none) : tR D cl base (va_up ad k0 q) (va_up C k0 (some e)) H1 := by
  have hq : ∀ k x, C k = some x → ad k ≠ q := by
    intro k x hk hkq
    obtain ⟨j, hj⟩ := List.getElem?_of_mem (hM k x hk)
    have hl : j < ws.length := (List.getElem?_eq_some_iff.mp hj).1
    have h1 : (ws ++ [(q, e)])[j]? = some (ad k, x) := by rw [List.getElem?_append_left hl]; exact hj
    have h2 : (ws ++ [(q, e)])[ws.length]? = some (q, e) := by rw [List.getElem?_append_right (Nat.le_refl _), Nat.sub_self]; rfl
    have := hD.1 _ _ _ _ h1 h2 hkq
    omega
  have hne : ∀ k x, C k = some x → k ≠ k0 := fun k x hk h => by rw [h, h0] at hk; cases hk
  refine ⟨_, hP, hD, fun k e' hk => ?_, fun a b ea eb ha hb hab => ?_⟩
  · by_cases h : k = k0
    · subst h
      rw [va_up_self] at hk
      cases hk
      rw [va_up_self]
      exact List.mem_append_right _ (List.mem_singleton.mpr rfl)
    · rw [va_up_ne _ _ h] at hk
      rw [va_up_ne _ _ h]
      exact List.mem_append_left _ (hM k e' hk)
  · by_cases h1 : a = k0 <;> by_cases h2 : b = k0
    · rw [h1, h2]
    · rw [va_up_ne _ _ h2] at hb hab
      rw [h1, va_up_self] at hab
      exact absurd hab.symm (hq b _ hb)
    · rw [va_up_ne _ _ h1] at ha hab
      rw [h2, va_up_self] at hab
      exact absurd hab (hq a _ ha)
    · rw [va_up_ne _ _ h1] at ha hab
      rw [va_up_ne _ _ h2] at hb hab
      exact hI a b _ _ ha hb hab
section TB
variable {p : Program} {l : Launch} {e : Env} {R : Room} {s : State} {m : MethodId} {args : Array Value} {below : List Frame} {meth : Method} {c : Code} {H : Heap} {locs : List Loc} {cells slots : Nat} {Q : State → Prop}
variable {cc : ByteArray} {pc : Nat} {ls : Array Slot} {rest : List Value} {D : va_G} {cl : List vw_C} {base : Nat} {ad : Nat → Nat} {C : Nat → Option va_E} {tys : List (ClassId × FieldType)} {H0 : Heap}
theorem tb_get (hexec : p.tables.exec = Jvm.exec) (hb : c.code = cc) {own ref Cn : String} {T : u_T} {N ci index : Nat} {Ts : List Cond} (hts : ∀ w ∈ Ts, w.before args s = true) (hin : ∀ w ∈ u_ws Cn T N, w ∈ Ts) (hown : s.vm.findClass own = some m.cls) (hK : va_K D cl tys s) (hR : tR D cl base ad C H) (k0 : Nat) {fs : List Value} (he : C k0 = some (.inr (ci, fs))) (hc : cl[ci]? = some (Cn, T, N)) (k : Nat) (hk : k < N) (hlink : (Cond.fieldLink own index ref (T k).2.1 (T k).2.2.1).before args s = true) (hsame : ∀ x, s.fieldFound? (T k).1 (T k).2.1 (T k).2.2.1 = some x → s.fieldFound? ref (T k).2.1 (T k).2.2.1 = some x) {v : Value} (hv : fs[k]? = some v) (hdg : decode cc pc = .ok (.getfield index, 3))
    (kk : W p l e R s m args below meth c H locs cells slots Q (F0 m (pc + 3) ls (v :: rest))) : W p l e R s m args below meth c H locs cells slots Q (F0 m pc ls (.ref (ad k0) :: rest)) := by
  obtain ⟨ws, hP, hD, hM, hI⟩ := hR
  obtain ⟨i, hi⟩ := List.getElem?_of_mem (hM _ _ he)
  exact va_get hexec hb hts hin hown hK hP i hi hc k hk hlink hsame hv hdg kk
theorem tb_getN (hexec : p.tables.exec = Jvm.exec) (hb : c.code = cc) {own ref Cn host : String} {T : u_T} {N ci index : Nat} {Ts : List Cond} (hts : ∀ w ∈ Ts, w.before args s = true) (hin : ∀ w ∈ u_ws Cn T N, w ∈ Ts) (hown : s.vm.findClass own = some m.cls) (hK : va_K D cl tys s) (hR : tR D cl base ad C H) (k0 : Nat) {fs : List Value} (he : C k0 = some (.inr (ci, fs))) (hc : cl[ci]? = some (Cn, T, N)) (k : Nat) (hk : k < N) (hlink : (Cond.fieldLinkNest own index ref (T k).2.1 (T k).2.2.1 host).before args s = true) (hsame : ∀ x, s.fieldFound? (T k).1 (T k).2.1 (T k).2.2.1 = some x → s.fieldFound? ref (T k).2.1 (T k).2.2.1 = some x) {v : Value} (hv : fs[k]? = some v) (hdg : decode cc pc = .ok (.getfield index, 3))
    (kk : W p l e R s m args below meth c H locs cells slots Q (F0 m (pc + 3) ls (v :: rest))) : W p l e R s m args below meth c H locs cells slots Q (F0 m pc ls (.ref (ad k0) :: rest)) := by
  obtain ⟨ws, hP, hD, hM, hI⟩ := hR
  obtain ⟨i, hi⟩ := List.getElem?_of_mem (hM _ _ he)
  exact va_getN hexec hb hts hin hown hK hP i hi hc k hk hlink hsame hv hdg kk
theorem tb_put (hexec : p.tables.exec = Jvm.exec) (hb : c.code = cc) {own ref Cn : String} {T : u_T} {N ci index : Nat} {Ts : List Cond} (hts : ∀ w ∈ Ts, w.before args s = true) (hin : ∀ w ∈ u_ws Cn T N, w ∈ Ts) (ty0 : Nat → FieldType) (hty : ∀ k, k < N → parseFieldDescriptor (T k).2.2.1 = some (ty0 k)) (hnm : ∀ a, a < N → ∀ b, b < N → a ≠ b → (T a).2.1 ≠ (T b).2.1) (hown : s.vm.findClass own = some m.cls) (hK : va_K D cl tys s) (hR : tR D cl base ad C H) (hS0 : va_S (fun q => base ≤ q) H0 H locs) (k0 : Nat) {fs : List Value} (he : C k0 = some (.inr (ci, fs))) (hc : cl[ci]? = some (Cn, T, N)) (k : Nat) (hk : k < N) (hlink : (Cond.fieldLink own index ref (T k).2.1 (T k).2.2.1).before args s = true) (hsame : ∀ x, s.fieldFound? (T k).1 (T k).2.1 (T k).2.2.1 = some x → s.fieldFound? ref (T k).2.1 (T k).2.2.1 = some x) (hfin : (T k).2.2.2 = false) {ty : FieldType} {v : Value} (hd : parseFieldDescriptor (T k).2.2.1 = some ty) (hn : narrow ty v = v) (hfit : fits ty v = true) (hl : k < fs.length)
    (hdg : decode cc pc = .ok (.putfield index, 3)) (kk : ∀ (H1 : Heap) (locs1 : List Loc), tR D cl base ad (va_up C k0 (some (.inr (ci, fs.set k v)))) H1 → va_S (fun q => base ≤ q) H0 H1 locs1 → W p l e R s m args below meth c H1 locs1 cells slots Q (F0 m (pc + 3) ls rest)) : W p l e R s m args below meth c H locs cells slots Q (F0 m pc ls (v :: .ref (ad k0) :: rest)) := by
  obtain ⟨ws, hP, hD, hM, hI⟩ := hR
  obtain ⟨i, hi⟩ := List.getElem?_of_mem (hM _ _ he)
  exact va_put hexec hb hts hin ty0 hty hnm hown hK hP hD hS0 i hi hc k hk hlink hsame hfin hd hn hfit hl hdg (fun H1 locs1 hP1 hD1 hS1 => kk H1 locs1 (tR.set hP1 hD1 hM hI he hi) hS1)
theorem tb_putN (hexec : p.tables.exec = Jvm.exec) (hb : c.code = cc) {own ref Cn host : String} {T : u_T} {N ci index : Nat} {Ts : List Cond} (hts : ∀ w ∈ Ts, w.before args s = true) (hin : ∀ w ∈ u_ws Cn T N, w ∈ Ts) (ty0 : Nat → FieldType) (hty : ∀ k, k < N → parseFieldDescriptor (T k).2.2.1 = some (ty0 k)) (hnm : ∀ a, a < N → ∀ b, b < N → a ≠ b → (T a).2.1 ≠ (T b).2.1) (hown : s.vm.findClass own = some m.cls) (hK : va_K D cl tys s) (hR : tR D cl base ad C H) (hS0 : va_S (fun q => base ≤ q) H0 H locs) (k0 : Nat) {fs : List Value} (he : C k0 = some (.inr (ci, fs))) (hc : cl[ci]? = some (Cn, T, N)) (k : Nat) (hk : k < N) (hlink : (Cond.fieldLinkNest own index ref (T k).2.1 (T k).2.2.1 host).before args s = true) (hsame : ∀ x, s.fieldFound? (T k).1 (T k).2.1 (T k).2.2.1 = some x → s.fieldFound? ref (T k).2.1 (T k).2.2.1 = some x) (hfin : (T k).2.2.2 = false) {ty : FieldType} {v : Value} (hd : parseFieldDescriptor (T k).2.2.1 = some ty) (hn : narrow ty v = v) (hfit : fits ty v = true) (hl : k < fs.length)
    (hdg : decode cc pc = .ok (.putfield index, 3)) (kk : ∀ (H1 : Heap) (locs1 : List Loc), tR D cl base ad (va_up C k0 (some (.inr (ci, fs.set k v)))) H1 → va_S (fun q => base ≤ q) H0 H1 locs1 → W p l e R s m args below meth c H1 locs1 cells slots Q (F0 m (pc + 3) ls rest)) : W p l e R s m args below meth c H locs cells slots Q (F0 m pc ls (v :: .ref (ad k0) :: rest)) := by
  obtain ⟨ws, hP, hD, hM, hI⟩ := hR
  obtain ⟨i, hi⟩ := List.getElem?_of_mem (hM _ _ he)
  exact va_putN hexec hb hts hin ty0 hty hnm hown hK hP hD hS0 i hi hc k hk hlink hsame hfin hd hn hfit hl hdg (fun H1 locs1 hP1 hD1 hS1 => kk H1 locs1 (tR.set hP1 hD1 hM hI he hi) hS1)
theorem tb_putF (hexec : p.tables.exec = Jvm.exec) (hb : c.code = cc) {own ref Cn : String} {T : u_T} {N ci index : Nat} {Ts : List Cond} (hts : ∀ w ∈ Ts, w.before args s = true) (hin : ∀ w ∈ u_ws Cn T N, w ∈ Ts) (ty0 : Nat → FieldType) (hty : ∀ k, k < N → parseFieldDescriptor (T k).2.2.1 = some (ty0 k)) (hnm : ∀ a, a < N → ∀ b, b < N → a ≠ b → (T a).2.1 ≠ (T b).2.1) (hown : s.vm.findClass own = some m.cls) (hK : va_K D cl tys s) (hR : tR D cl base ad C H) (hS0 : va_S (fun q => base ≤ q) H0 H locs) (k0 : Nat) {fs : List Value} (he : C k0 = some (.inr (ci, fs))) (hc : cl[ci]? = some (Cn, T, N)) (k : Nat) (hk : k < N) (hlink : (Cond.fieldLink own index ref (T k).2.1 (T k).2.2.1).before args s = true) (hsame : ∀ x, s.fieldFound? (T k).1 (T k).2.1 (T k).2.2.1 = some x → s.fieldFound? ref (T k).2.1 (T k).2.2.1 = some x) (hfin : (T k).2.2.2 = true) (hin2 : meth.name = "<init>") (hdecl : (T k).1 = own) {ty : FieldType} {v : Value} (hd : parseFieldDescriptor (T k).2.2.1 = some ty) (hn : narrow ty v = v) (hfit : fits ty v = true) (hl : k < fs.length)
    (hdg : decode cc pc = .ok (.putfield index, 3)) (kk : ∀ (H1 : Heap) (locs1 : List Loc), tR D cl base ad (va_up C k0 (some (.inr (ci, fs.set k v)))) H1 → va_S (fun q => base ≤ q) H0 H1 locs1 → W p l e R s m args below meth c H1 locs1 cells slots Q (F0 m (pc + 3) ls rest)) : W p l e R s m args below meth c H locs cells slots Q (F0 m pc ls (v :: .ref (ad k0) :: rest)) := by
  obtain ⟨ws, hP, hD, hM, hI⟩ := hR
  obtain ⟨i, hi⟩ := List.getElem?_of_mem (hM _ _ he)
  exact va_putF hexec hb hts hin ty0 hty hnm hown hK hP hD hS0 i hi hc k hk hlink hsame hfin hin2 hdecl hd hn hfit hl hdg (fun H1 locs1 hP1 hD1 hS1 => kk H1 locs1 (tR.set hP1 hD1 hM hI he hi) hS1)
/-- an int array's place j -/
theorem tb_iald (hexec : p.tables.exec = Jvm.exec) (hb : c.code = cc) (hK : va_K D cl tys s) (hR : tR D cl base ad C H) (k0 t0 : Nat) {cA : ClassId} {n : Nat} {f : Nat → Int32} (ha : C k0 = some (.inl (cA, n, .inl f))) (ht : tys[t0]? = some (cA, .int)) {i : Int32} (j : Nat) (hi : i = nI j) (hj : j < n) (hn : n < 2 ^ 31) (hdg : decode cc pc = .ok (.iaload, 1))
    (kk : W p l e R s m args below meth c H locs cells slots Q (F0 m (pc + 1) ls (.int (f j) :: rest))) : W p l e R s m args below meth c H locs cells slots Q (F0 m pc ls (.int i :: .ref (ad k0) :: rest)) := by
  obtain ⟨ws, hP, hD, hM, hI⟩ := hR
  obtain ⟨x, hx⟩ := List.getElem?_of_mem (hM _ _ ha)
  subst hi
  refine va_iald hexec hb hK hP x t0 hx ht (vp_in_nI hj hn) hdg ?_
  rw [nI_clamp (by omega)]
  exact kk
theorem tb_lald (hexec : p.tables.exec = Jvm.exec) (hb : c.code = cc) (hK : va_K D cl tys s) (hR : tR D cl base ad C H) (k0 t0 : Nat) {cA : ClassId} {n : Nat} {f : Nat → Int64} (ha : C k0 = some (.inl (cA, n, .inr (.inl f)))) (ht : tys[t0]? = some (cA, .long)) {i : Int32} (j : Nat) (hi : i = nI j) (hj : j < n) (hn : n < 2 ^ 31) (hdg : decode cc pc = .ok (.laload, 1))
    (kk : W p l e R s m args below meth c H locs cells slots Q (F0 m (pc + 1) ls (.long (f j) :: rest))) : W p l e R s m args below meth c H locs cells slots Q (F0 m pc ls (.int i :: .ref (ad k0) :: rest)) := by
  obtain ⟨ws, hP, hD, hM, hI⟩ := hR
  obtain ⟨x, hx⟩ := List.getElem?_of_mem (hM _ _ ha)
  subst hi
  refine va_lald hexec hb hK hP x t0 hx ht (vp_in_nI hj hn) hdg ?_
  rw [nI_clamp (by omega)]
  exact kk
theorem tb_iast (hexec : p.tables.exec = Jvm.exec) (hb : c.code = cc) (hK : va_K D cl tys s) (hR : tR D cl base ad C H) (hS : va_S (fun q => base ≤ q) H0 H locs) (k0 t0 : Nat) {cA : ClassId} {n : Nat} {f : Nat → Int32} (ha : C k0 = some (.inl (cA, n, .inl f))) (ht : tys[t0]? = some (cA, .int)) {i x : Int32} (j : Nat) (hi : i = nI j) (hj : j < n) (hn : n < 2 ^ 31) (hdg : decode cc pc = .ok (.iastore, 1))
    (kk : ∀ (H1 : Heap) (locs1 : List Loc), tR D cl base ad (va_up C k0 (some (.inl (cA, n, .inl (upd f j x))))) H1 → va_S (fun q => base ≤ q) H0 H1 locs1 → W p l e R s m args below meth c H1 locs1 cells slots Q (F0 m (pc + 1) ls rest)) : W p l e R s m args below meth c H locs cells slots Q (F0 m pc ls (.int x :: .int i :: .ref (ad k0) :: rest)) := by
  obtain ⟨ws, hP, hD, hM, hI⟩ := hR
  obtain ⟨y, hy⟩ := List.getElem?_of_mem (hM _ _ ha)
  subst hi
  have hcl : (nI j).toNatClampNeg = j := nI_clamp (by omega)
  refine va_iast hexec hb hK hP hD hS y t0 hy ht (vp_in_nI hj hn) hdg (fun H1 locs1 hP1 hD1 hS1 => ?_)
  rw [hcl] at hP1 hD1
  exact kk H1 locs1 (tR.set hP1 hD1 hM hI ha hy) hS1
theorem tb_last (hexec : p.tables.exec = Jvm.exec) (hb : c.code = cc) (hK : va_K D cl tys s) (hR : tR D cl base ad C H) (hS : va_S (fun q => base ≤ q) H0 H locs) (k0 t0 : Nat) {cA : ClassId} {n : Nat} {f : Nat → Int64} (ha : C k0 = some (.inl (cA, n, .inr (.inl f)))) (ht : tys[t0]? = some (cA, .long)) {i : Int32} {x : Int64} (j : Nat) (hi : i = nI j) (hj : j < n) (hn : n < 2 ^ 31) (hdg : decode cc pc = .ok (.lastore, 1))
    (kk : ∀ (H1 : Heap) (locs1 : List Loc), tR D cl base ad (va_up C k0 (some (.inl (cA, n, .inr (.inl (vp_updL f j x)))))) H1 → va_S (fun q => base ≤ q) H0 H1 locs1 → W p l e R s m args below meth c H1 locs1 cells slots Q (F0 m (pc + 1) ls rest)) : W p l e R s m args below meth c H locs cells slots Q (F0 m pc ls (.long x :: .int i :: .ref (ad k0) :: rest)) := by
  obtain ⟨ws, hP, hD, hM, hI⟩ := hR
  obtain ⟨y, hy⟩ := List.getElem?_of_mem (hM _ _ ha)
  subst hi
  have hcl : (nI j).toNatClampNeg = j := nI_clamp (by omega)
  refine va_last hexec hb hK hP hD hS y t0 hy ht (vp_in_nI hj hn) hdg (fun H1 locs1 hP1 hD1 hS1 => ?_)
  rw [hcl] at hP1 hD1
  exact kk H1 locs1 (tR.set hP1 hD1 hM hI ha hy) hS1
theorem tb_alen (hexec : p.tables.exec = Jvm.exec) (hb : c.code = cc) (hK : va_K D cl tys s) (hR : tR D cl base ad C H) (k0 t0 : Nat) {cA : ClassId} {x : vp_A} (ha : C k0 = some (.inl (cA, x))) {ty : FieldType} (ht : tys[t0]? = some (cA, ty)) {v : Int32} (hv : Int32.ofNat x.1 = v) (hdg : decode cc pc = .ok (.arraylength, 1))
    (kk : W p l e R s m args below meth c H locs cells slots Q (F0 m (pc + 1) ls (.int v :: rest))) : W p l e R s m args below meth c H locs cells slots Q (F0 m pc ls (.ref (ad k0) :: rest)) := by
  obtain ⟨ws, hP, hD, hM, hI⟩ := hR
  obtain ⟨y, hy⟩ := List.getElem?_of_mem (hM _ _ ha)
  exact va_alen hexec hb hK hP y t0 hy ht hv hdg kk
/-- a row of an array of arrays -/
theorem tb_aald (hexec : p.tables.exec = Jvm.exec) (hb : c.code = cc) (hK : va_K D cl tys s) (hR : tR D cl base ad C H) (k0 t0 : Nat) {cA : ClassId} {t : FieldType} {n : Nat} {f : Nat → Option Nat} (ha : C k0 = some (.inl (cA, n, .inr (.inr (.inr (.inr f)))))) (ht : tys[t0]? = some (cA, .array t)) {i : Int32} (j : Nat) (hi : i = nI j) (hj : j < n) (hn : n < 2 ^ 31) {y : Nat} (hf : f j = some y) (hdg : decode cc pc = .ok (.aaload, 1))
    (kk : W p l e R s m args below meth c H locs cells slots Q (F0 m (pc + 1) ls (.ref y :: rest))) : W p l e R s m args below meth c H locs cells slots Q (F0 m pc ls (.int i :: .ref (ad k0) :: rest)) := by
  obtain ⟨ws, hP, hD, hM, hI⟩ := hR
  obtain ⟨x, hx⟩ := List.getElem?_of_mem (hM _ _ ha)
  subst hi
  have hin : vp_in (nI j) n := vp_in_nI hj hn
  have hcl : (nI j).toNatClampNeg = j := nI_clamp (by omega)
  exact W.aald (v := .ref y) (ty := .array t) hexec hb (hP x _ hx) ((hK.2 t0 _ ht).1 n (fun q => va_rf (f q))) rfl (fun q => by cases q) (by show ¬ (nI j < 0 ∨ (arrV _ _ _).slots.size ≤ _); rw [arrV_size]; exact hin) (by show (arrV _ _ _).slots[_]? = _; rw [hcl, arrV_read _ _ hj, hf]; rfl) rfl rfl hdg kk
/-- an object of an array of objects -/
theorem tb_oald (hexec : p.tables.exec = Jvm.exec) (hb : c.code = cc) (hK : va_K D cl tys s) (hR : tR D cl base ad C H) (k0 t0 : Nat) {cA : ClassId} {Cn : String} {n : Nat} {f : Nat → Option Nat} (ha : C k0 = some (.inl (cA, n, .inr (.inr (.inr (.inr f)))))) (ht : tys[t0]? = some (cA, .object Cn)) {i : Int32} (j : Nat) (hi : i = nI j) (hj : j < n) (hn : n < 2 ^ 31) {y : Nat} (hf : f j = some y) (hdg : decode cc pc = .ok (.aaload, 1))
    (kk : W p l e R s m args below meth c H locs cells slots Q (F0 m (pc + 1) ls (.ref y :: rest))) : W p l e R s m args below meth c H locs cells slots Q (F0 m pc ls (.int i :: .ref (ad k0) :: rest)) := by
  obtain ⟨ws, hP, hD, hM, hI⟩ := hR
  obtain ⟨x, hx⟩ := List.getElem?_of_mem (hM _ _ ha)
  subst hi
  refine va_aldq hexec hb hK hP x t0 hx ht (vp_in_nI hj hn) hdg ?_
  rw [nI_clamp (by omega), hf]
  exact kk
end TB
/-! THE STATE: whole numbers I (by code and place), long ones L; P says how a code's cell looks with its own numbers -/
abbrev tI : Type := Nat → Nat → Int32
abbrev tL : Type := Nat → Nat → Int64
abbrev tP : Type := Nat → (Nat → Int32) → (Nat → Int64) → Option va_E
def tC (P : tP) (I : tI) (L : tL) : Nat → Option va_E := fun k => P k (I k) (L k)
theorem tC_upI (P : tP) (I : tI) (L : tL) (k : Nat) (r : Nat → Int32) : va_up (tC P I L) k (P k r (L k)) = tC P (va_up I k r) L := by
  funext j
  by_cases h : j = k
  · subst h; rw [va_up_self]; simp [tC, va_up_self]
  · rw [va_up_ne _ _ h]; simp [tC, va_up_ne _ _ h]
theorem tC_upL (P : tP) (I : tI) (L : tL) (k : Nat) (r : Nat → Int64) : va_up (tC P I L) k (P k (I k) r) = tC P I (va_up L k r) := by
  funext j
  by_cases h : j = k
  · subst h; rw [va_up_self]; simp [tC, va_up_self]
  · rw [va_up_ne _ _ h]; simp [tC, va_up_ne _ _ h]
section TP
variable {p : Program} {l : Launch} {e : Env} {R : Room} {s : State} {m : MethodId} {args : Array Value} {below : List Frame} {meth : Method} {c : Code} {H : Heap} {locs : List Loc} {cells slots : Nat} {Q : State → Prop}
variable {cc : ByteArray} {pc : Nat} {ls : Array Slot} {rest : List Value} {D : va_G} {cl : List vw_C} {base : Nat} {ad : Nat → Nat} {P : tP} {I : tI} {L : tL} {tys : List (ClassId × FieldType)} {H0 : Heap}
theorem tp_iald (hexec : p.tables.exec = Jvm.exec) (hb : c.code = cc) (hK : va_K D cl tys s) (hR : tR D cl base ad (tC P I L) H) (k0 t0 : Nat) {cA : ClassId} {n : Nat} (hk : ∀ r q, P k0 r q = some (.inl (cA, n, .inl r))) (ht : tys[t0]? = some (cA, .int)) {i : Int32} (j : Nat) (hi : i = nI j) (hj : j < n) (hn : n < 2 ^ 31) (hdg : decode cc pc = .ok (.iaload, 1))
    (kk : W p l e R s m args below meth c H locs cells slots Q (F0 m (pc + 1) ls (.int (I k0 j) :: rest))) : W p l e R s m args below meth c H locs cells slots Q (F0 m pc ls (.int i :: .ref (ad k0) :: rest)) :=
  tb_iald hexec hb hK hR k0 t0 (hk _ _) ht j hi hj hn hdg kk
theorem tp_lald (hexec : p.tables.exec = Jvm.exec) (hb : c.code = cc) (hK : va_K D cl tys s) (hR : tR D cl base ad (tC P I L) H) (k0 t0 : Nat) {cA : ClassId} {n : Nat} (hk : ∀ r q, P k0 r q = some (.inl (cA, n, .inr (.inl q)))) (ht : tys[t0]? = some (cA, .long)) {i : Int32} (j : Nat) (hi : i = nI j) (hj : j < n) (hn : n < 2 ^ 31) (hdg : decode cc pc = .ok (.laload, 1))
    (kk : W p l e R s m args below meth c H locs cells slots Q (F0 m (pc + 1) ls (.long (L k0 j) :: rest))) : W p l e R s m args below meth c H locs cells slots Q (F0 m pc ls (.int i :: .ref (ad k0) :: rest)) :=
  tb_lald hexec hb hK hR k0 t0 (hk _ _) ht j hi hj hn hdg kk
theorem tp_iast (hexec : p.tables.exec = Jvm.exec) (hb : c.code = cc) (hK : va_K D cl tys s) (hR : tR D cl base ad (tC P I L) H) (hS : va_S (fun q => base ≤ q) H0 H locs) (k0 t0 : Nat) {cA : ClassId} {n : Nat} (hk : ∀ r q, P k0 r q = some (.inl (cA, n, .inl r))) (ht : tys[t0]? = some (cA, .int)) {i x : Int32} (j : Nat) (hi : i = nI j) (hj : j < n) (hn : n < 2 ^ 31) (hdg : decode cc pc = .ok (.iastore, 1))
    (kk : ∀ (H1 : Heap) (locs1 : List Loc), tR D cl base ad (tC P (va_up I k0 (upd (I k0) j x)) L) H1 → va_S (fun q => base ≤ q) H0 H1 locs1 → W p l e R s m args below meth c H1 locs1 cells slots Q (F0 m (pc + 1) ls rest)) : W p l e R s m args below meth c H locs cells slots Q (F0 m pc ls (.int x :: .int i :: .ref (ad k0) :: rest)) := by
  refine tb_iast hexec hb hK hR hS k0 t0 (hk _ _) ht j hi hj hn hdg (fun H1 locs1 hR1 hS1 => kk H1 locs1 ?_ hS1)
  rw [← hk _ (L k0), tC_upI] at hR1
  exact hR1
theorem tp_last (hexec : p.tables.exec = Jvm.exec) (hb : c.code = cc) (hK : va_K D cl tys s) (hR : tR D cl base ad (tC P I L) H) (hS : va_S (fun q => base ≤ q) H0 H locs) (k0 t0 : Nat) {cA : ClassId} {n : Nat} (hk : ∀ r q, P k0 r q = some (.inl (cA, n, .inr (.inl q)))) (ht : tys[t0]? = some (cA, .long)) {i : Int32} {x : Int64} (j : Nat) (hi : i = nI j) (hj : j < n) (hn : n < 2 ^ 31) (hdg : decode cc pc = .ok (.lastore, 1))
    (kk : ∀ (H1 : Heap) (locs1 : List Loc), tR D cl base ad (tC P I (va_up L k0 (vp_updL (L k0) j x))) H1 → va_S (fun q => base ≤ q) H0 H1 locs1 → W p l e R s m args below meth c H1 locs1 cells slots Q (F0 m (pc + 1) ls rest)) : W p l e R s m args below meth c H locs cells slots Q (F0 m pc ls (.long x :: .int i :: .ref (ad k0) :: rest)) := by
  refine tb_last hexec hb hK hR hS k0 t0 (hk _ _) ht j hi hj hn hdg (fun H1 locs1 hR1 hS1 => kk H1 locs1 ?_ hS1)
  rw [← hk (I k0) _, tC_upL] at hR1
  exact hR1
/-- System.arraycopy between two int arrays of different codes -/
theorem tp_copyi (hexec : p.tables.exec = Jvm.exec) (hb : c.code = cc) (hml : c.maxLocals = ls.size) {own : String} {index : Nat} (hown : s.vm.findClass own = some m.cls) (hlink : (Cond.methodLink own index arraycopyName).before args s = true) (hnat : (Cond.native arraycopyName).before args s = true) (hstat : (Cond.static arraycopyName).before args s = true) (hini : (Cond.initialized "java/lang/System").before args s = true)
    (hK : va_K D cl tys s) (hR : tR D cl base ad (tC P I L) H) (hS : va_S (fun q => base ≤ q) H0 H locs) (k0 k1 t0 : Nat) {cA : ClassId} {n0 n1 : Nat} (hk0 : ∀ r q, P k0 r q = some (.inl (cA, n0, .inl r))) (hk1 : ∀ r q, P k1 r q = some (.inl (cA, n1, .inl r))) (ht : tys[t0]? = some (cA, .int))
    {sp dp n : Int32} (a b z : Nat) (ha : sp = nI a) (hb1 : dp = nI b) (hz : n = nI z) (h4 : a + z ≤ n0) (h5 : b + z ≤ n1) (hn0 : n0 < 2 ^ 31) (hn1 : n1 < 2 ^ 31)
    (hframes : 1 ≤ R.frames) (hlocals : (rest.map fun v => v.category).sum + (nativeFrameWords "java/lang/System" "arraycopy" 5 + 11) ≤ R.locals) (hdg : decode cc pc = .ok (.invokestatic index, 3))
    (kk : ∀ (H1 : Heap) (locs1 : List Loc), tR D cl base ad (tC P (va_up I k1 (va_cpy (I k0) (I k1) a b z)) L) H1 → va_S (fun q => base ≤ q) H0 H1 locs1 → W p l e R s m args below meth c H1 locs1 cells slots Q (F0 m (pc + 3) ls rest)) : W p l e R s m args below meth c H locs cells slots Q (F0 m pc ls (.int n :: .int dp :: .ref (ad k1) :: .int sp :: .ref (ad k0) :: rest)) := by
  obtain ⟨ws, hP, hD, hM, hI⟩ := hR
  obtain ⟨x, hx⟩ := List.getElem?_of_mem (hM k0 _ (hk0 (I k0) (L k0)))
  obtain ⟨y, hy⟩ := List.getElem?_of_mem (hM k1 _ (hk1 (I k1) (L k1)))
  subst ha; subst hb1; subst hz
  have e1 : (nI a).toNatClampNeg = a := nI_clamp (by omega)
  have e2 : (nI b).toNatClampNeg = b := nI_clamp (by omega)
  have e3 : (nI z).toNatClampNeg = z := nI_clamp (by omega)
  refine va_copyi hexec hb hml hown hlink hnat hstat hini hK hP hD hS x y t0 t0 hx hy ht ht rfl (nI_pos (by omega)) (nI_pos (by omega)) (nI_pos (by omega)) (by rw [e1, e3]; exact h4) (by rw [e2, e3]; exact h5) (fun _ _ => rfl) hframes hlocals hdg (fun H1 locs1 hP1 hD1 hS1 => ?_)
  rw [e1, e2, e3] at hP1 hD1
  have hR1 := tR.set hP1 hD1 hM hI (hk1 (I k1) (L k1)) hy
  rw [← hk1 _ (L k1), tC_upI] at hR1
  exact kk H1 locs1 hR1 hS1
end TP
end
section
/-! LEAST YEARS, on whole numbers: rounds over the orders reach the least years within eight rounds where there are any -/
def ly_rz (y : Nat → Int) (b : Nat) (v : Int) : Nat → Int := fun d => if d = b then (if y b < v then v else y b) else y d
theorem ly_rz_ge (y : Nat → Int) (b : Nat) (v : Int) (d : Nat) : y d ≤ ly_rz y b v d := by
  unfold ly_rz
  by_cases h : d = b
  · subst h
    rw [if_pos rfl]
    split <;> omega
  · rw [if_neg h]
    exact Int.le_refl _
theorem ly_rz_at (y : Nat → Int) (b : Nat) (v : Int) : v ≤ ly_rz y b v b := by
  unfold ly_rz
  rw [if_pos rfl]
  split <;> omega
theorem ly_rz_le {y z : Nat → Int} {b n : Nat} {v : Int} (h : ∀ d, d < n → y d ≤ z d) (hb : b < n) (hv : v ≤ z b) : ∀ d, d < n → ly_rz y b v d ≤ z d := by
  intro d hd
  unfold ly_rz
  by_cases e : d = b
  · subst e
    rw [if_pos rfl]
    have := h d hd
    split <;> omega
  · rw [if_neg e]
    exact h d hd
/-- one order: the later date is raised by the earlier one, then the earlier one by the later -/
def ly_o (a b : Nat → Nat) (le mo : Nat → Int) (j : Nat) (y : Nat → Int) : Nat → Int :=
  ly_rz (ly_rz y (b j) (y (a j) + le j)) (a j) ((ly_rz y (b j) (y (a j) + le j)) (b j) - mo j)
/-- the orders below j, from the first -/
def ly_r (a b : Nat → Nat) (le mo : Nat → Int) : Nat → (Nat → Int) → (Nat → Int)
  | 0, y => y
  | j + 1, y => ly_o a b le mo j (ly_r a b le mo j y)
/-- so many rounds over o orders -/
def ly_k (a b : Nat → Nat) (le mo : Nat → Int) (o : Nat) : Nat → (Nat → Int) → (Nat → Int)
  | 0, y => y
  | k + 1, y => ly_r a b le mo o (ly_k a b le mo o k y)
/-- all orders below o hold -/
def ly_H (o : Nat) (a b : Nat → Nat) (le mo : Nat → Int) (z : Nat → Int) : Prop := ∀ j, j < o → z (a j) + le j ≤ z (b j) ∧ z (b j) - mo j ≤ z (a j)
def ly_S (n o : Nat) (a b : Nat → Nat) (le mo f la : Nat → Int) (z : Nat → Int) : Prop := (∀ d, d < n → f d ≤ z d ∧ z d ≤ la d) ∧ ly_H o a b le mo z
def ly_M (n o : Nat) (a b : Nat → Nat) (le mo f la : Nat → Int) (z : Nat → Int) : Prop := ly_S n o a b le mo f la z ∧ ∀ w, ly_S n o a b le mo f la w → ∀ d, d < n → z d ≤ w d
section LY
variable {n o : Nat} {a b : Nat → Nat} {le mo f la : Nat → Int}
theorem ly_o_ge (j : Nat) (y : Nat → Int) (d : Nat) : y d ≤ ly_o a b le mo j y d := Int.le_trans (ly_rz_ge y (b j) _ d) (ly_rz_ge _ (a j) _ d)
theorem ly_o_b (j : Nat) (y : Nat → Int) : y (a j) + le j ≤ ly_o a b le mo j y (b j) := Int.le_trans (ly_rz_at y (b j) (y (a j) + le j)) (ly_rz_ge _ (a j) _ (b j))
theorem ly_o_a (j : Nat) (y : Nat → Int) : y (b j) - mo j ≤ ly_o a b le mo j y (a j) := by
  have h1 := ly_rz_ge y (b j) (y (a j) + le j) (b j)
  have h2 := ly_rz_at (ly_rz y (b j) (y (a j) + le j)) (a j) ((ly_rz y (b j) (y (a j) + le j)) (b j) - mo j)
  unfold ly_o
  omega
theorem ly_o_le {z y : Nat → Int} {j : Nat} (hz : z (a j) + le j ≤ z (b j) ∧ z (b j) - mo j ≤ z (a j)) (ha : a j < n) (hb : b j < n) (h : ∀ d, d < n → y d ≤ z d) : ∀ d, d < n → ly_o a b le mo j y d ≤ z d := by
  have h1 := ly_rz_le (v := y (a j) + le j) h hb (by have := h _ ha; omega)
  refine ly_rz_le h1 ha ?_
  have := h1 _ hb
  omega
theorem ly_r_ge (J : Nat) (y : Nat → Int) (d : Nat) : y d ≤ ly_r a b le mo J y d := by
  induction J with
  | zero => exact Int.le_refl _
  | succ J ih => exact Int.le_trans ih (ly_o_ge J _ d)
theorem ly_r_up {J K : Nat} (h : J ≤ K) (y : Nat → Int) (d : Nat) : ly_r a b le mo J y d ≤ ly_r a b le mo K y d := by
  induction K with
  | zero => rw [show J = 0 by omega]; exact Int.le_refl _
  | succ K ih =>
    by_cases e : J = K + 1
    · rw [e]; exact Int.le_refl _
    · exact Int.le_trans (ih (by omega)) (ly_o_ge K _ d)
theorem ly_r_b {J j : Nat} (h : j < J) (y : Nat → Int) : y (a j) + le j ≤ ly_r a b le mo J y (b j) := by
  have h1 := ly_r_ge (a := a) (b := b) (le := le) (mo := mo) j y (a j)
  have h2 : ly_r a b le mo j y (a j) + le j ≤ ly_r a b le mo (j + 1) y (b j) := ly_o_b j _
  have h3 := ly_r_up (a := a) (b := b) (le := le) (mo := mo) (show j + 1 ≤ J by omega) y (b j)
  omega
theorem ly_r_a {J j : Nat} (h : j < J) (y : Nat → Int) : y (b j) - mo j ≤ ly_r a b le mo J y (a j) := by
  have h1 := ly_r_ge (a := a) (b := b) (le := le) (mo := mo) j y (b j)
  have h2 : ly_r a b le mo j y (b j) - mo j ≤ ly_r a b le mo (j + 1) y (a j) := ly_o_a j _
  have h3 := ly_r_up (a := a) (b := b) (le := le) (mo := mo) (show j + 1 ≤ J by omega) y (a j)
  omega
theorem ly_r_le {z y : Nat → Int} (hz : ly_H o a b le mo z) (hab : ∀ j, j < o → a j < n ∧ b j < n) (h : ∀ d, d < n → y d ≤ z d) {J : Nat} (hJ : J ≤ o) : ∀ d, d < n → ly_r a b le mo J y d ≤ z d := by
  induction J with
  | zero => exact h
  | succ J ih => exact ly_o_le (hz J (by omega)) (hab J (by omega)).1 (hab J (by omega)).2 (ih (by omega))
/-- a round that makes no further date final: then all are -/
theorem ly_step {z y : Nat → Int} (hm : ly_M n o a b le mo f la z) (hab : ∀ j, j < o → a j < n ∧ b j < n) (hf : ∀ d, d < n → f d ≤ y d) (hy : ∀ d, d < n → y d ≤ z d) (hfin : ∀ d, d < n → ly_r a b le mo o y d = z d → y d = z d) : ∀ d, d < n → y d = z d := by
  obtain ⟨⟨hz1, hz2⟩, hl⟩ := hm
  have hle := ly_r_le (n := n) hz2 hab hy (Nat.le_refl o)
  have hw : ly_S n o a b le mo f la (fun d => if y d < z d then z d - 1 else z d) := by
    refine ⟨fun d hd => ?_, fun j hj => ?_⟩
    · have h1 := hz1 d hd
      have h2 := hf d hd
      show f d ≤ (if y d < z d then z d - 1 else z d) ∧ (if y d < z d then z d - 1 else z d) ≤ la d
      split <;> omega
    · obtain ⟨ha, hb⟩ := hab j hj
      have h1 := hz2 j hj
      have h2 := ly_r_b (a := a) (b := b) (le := le) (mo := mo) hj y
      have h3 := ly_r_a (a := a) (b := b) (le := le) (mo := mo) hj y
      have h4 := hle _ ha
      have h5 := hle _ hb
      have h6 := hy _ ha
      have h7 := hy _ hb
      have h8 := hfin _ ha
      have h9 := hfin _ hb
      show (if y (a j) < z (a j) then z (a j) - 1 else z (a j)) + le j ≤ (if y (b j) < z (b j) then z (b j) - 1 else z (b j)) ∧ (if y (b j) < z (b j) then z (b j) - 1 else z (b j)) - mo j ≤ (if y (a j) < z (a j) then z (a j) - 1 else z (a j))
      constructor
      · by_cases e1 : y (a j) < z (a j) <;> by_cases e2 : y (b j) < z (b j) <;> simp only [e1, e2, if_true, if_false] <;> omega
      · by_cases e1 : y (a j) < z (a j) <;> by_cases e2 : y (b j) < z (b j) <;> simp only [e1, e2, if_true, if_false] <;> omega
  intro d hd
  have h1 := hl _ hw d hd
  have h2 := hy d hd
  by_cases e : y d < z d
  · have h3 : z d ≤ (if y d < z d then z d - 1 else z d) := h1
    rw [if_pos e] at h3
    omega
  · omega
/-- how many dates below n are final -/
def ly_c (y z : Nat → Int) : Nat → Nat
  | 0 => 0
  | n + 1 => ly_c y z n + if y n = z n then 1 else 0
theorem ly_c_le (y z : Nat → Int) (n : Nat) : ly_c y z n ≤ n := by
  induction n with
  | zero => exact Nat.le_refl _
  | succ n ih => show ly_c y z n + (if y n = z n then 1 else 0) ≤ n + 1; split <;> omega
theorem ly_c_all {y z : Nat → Int} {n : Nat} (h : ly_c y z n = n) : ∀ d, d < n → y d = z d := by
  induction n with
  | zero => intro d hd; omega
  | succ n ih =>
    have h1 := ly_c_le y z n
    have h2 : ly_c y z n + (if y n = z n then 1 else 0) = n + 1 := h
    by_cases e : y n = z n
    · rw [if_pos e] at h2
      intro d hd
      by_cases e2 : d = n
      · rw [e2]; exact e
      · exact ih (by omega) d (by omega)
    · rw [if_neg e] at h2
      omega
theorem ly_c_of {y z : Nat → Int} {n : Nat} (h : ∀ d, d < n → y d = z d) : ly_c y z n = n := by
  induction n with
  | zero => rfl
  | succ n ih =>
    show ly_c y z n + (if y n = z n then 1 else 0) = n + 1
    rw [if_pos (h n (by omega)), ih (fun d hd => h d (by omega))]
theorem ly_c_mono {y y' z : Nat → Int} {n : Nat} (h : ∀ d, d < n → y d = z d → y' d = z d) : ly_c y z n ≤ ly_c y' z n := by
  induction n with
  | zero => exact Nat.le_refl _
  | succ n ih =>
    have h1 := ih (fun d hd => h d (by omega))
    show ly_c y z n + (if y n = z n then 1 else 0) ≤ ly_c y' z n + (if y' n = z n then 1 else 0)
    by_cases e : y n = z n
    · rw [if_pos e, if_pos (h n (by omega) e)]; omega
    · rw [if_neg e]; split <;> omega
theorem ly_c_lt {y y' z : Nat → Int} {n : Nat} (h : ∀ d, d < n → y d = z d → y' d = z d) (hx : ∃ d, d < n ∧ y' d = z d ∧ ¬ y d = z d) : ly_c y z n < ly_c y' z n := by
  induction n with
  | zero => obtain ⟨d, hd, -⟩ := hx; omega
  | succ n ih =>
    obtain ⟨d, hd, h1, h2⟩ := hx
    show ly_c y z n + (if y n = z n then 1 else 0) < ly_c y' z n + (if y' n = z n then 1 else 0)
    by_cases e : d = n
    · subst e
      rw [if_neg h2, if_pos h1]
      have := ly_c_mono (n := d) (fun q hq => h q (by omega))
      omega
    · have h3 := ih (fun q hq => h q (by omega)) ⟨d, by omega, h1, h2⟩
      by_cases e2 : y n = z n
      · rw [if_pos e2, if_pos (h n (by omega) e2)]; omega
      · rw [if_neg e2]; split <;> omega
theorem ly_k_ge (k : Nat) (y : Nat → Int) (d : Nat) : y d ≤ ly_k a b le mo o k y d := by
  induction k with
  | zero => exact Int.le_refl _
  | succ k ih => exact Int.le_trans ih (ly_r_ge o _ d)
theorem ly_k_le {z y : Nat → Int} (hz : ly_H o a b le mo z) (hab : ∀ j, j < o → a j < n ∧ b j < n) (h : ∀ d, d < n → y d ≤ z d) (k : Nat) : ∀ d, d < n → ly_k a b le mo o k y d ≤ z d := by
  induction k with
  | zero => exact h
  | succ k ih => exact ly_r_le hz hab ih (Nat.le_refl o)
theorem ly_k_c {z y : Nat → Int} (hm : ly_M n o a b le mo f la z) (hab : ∀ j, j < o → a j < n ∧ b j < n) (hf : ∀ d, d < n → f d ≤ y d) (hy : ∀ d, d < n → y d ≤ z d) (k : Nat) : ly_c (ly_k a b le mo o k y) z n = n ∨ k ≤ ly_c (ly_k a b le mo o k y) z n := by
  induction k with
  | zero => exact Or.inr (Nat.zero_le _)
  | succ k ih =>
    have hz := hm.1.2
    have h1 := ly_k_le hz hab hy k
    have h2 := ly_k_le hz hab hy (k + 1)
    have h3 : ∀ d, d < n → f d ≤ ly_k a b le mo o k y d := fun d hd => Int.le_trans (hf d hd) (ly_k_ge k y d)
    have h4 : ∀ d, d < n → ly_k a b le mo o k y d = z d → ly_k a b le mo o (k + 1) y d = z d := fun d hd e => by
      have h5 : ly_k a b le mo o k y d ≤ ly_k a b le mo o (k + 1) y d := ly_r_ge o _ d
      have h6 := h2 d hd
      omega
    by_cases e : ∀ d, d < n → ly_k a b le mo o k y d = z d
    · exact Or.inl (ly_c_of (fun d hd => h4 d hd (e d hd)))
    · have h5 : ∃ d, d < n ∧ ly_k a b le mo o (k + 1) y d = z d ∧ ¬ ly_k a b le mo o k y d = z d := by
        refine Classical.byContradiction fun hno => e (ly_step hm hab h3 h1 (fun d hd hq => ?_))
        exact Classical.byContradiction fun hne => hno ⟨d, hd, hq, hne⟩
      have h6 := ly_c_lt h4 h5
      rcases ih with ih | ih
      · exact absurd (ly_c_all ih) e
      · exact Or.inr (by omega)
/-- eight rounds are enough for eight dates -/
theorem ly_k8 {z y : Nat → Int} (hm : ly_M n o a b le mo f la z) (hab : ∀ j, j < o → a j < n ∧ b j < n) (hf : ∀ d, d < n → f d ≤ y d) (hy : ∀ d, d < n → y d ≤ z d) (hn : n ≤ 8) {k : Nat} (hk : 8 ≤ k) : ∀ d, d < n → ly_k a b le mo o k y d = z d := by
  have h := ly_c_le (ly_k a b le mo o k y) z n
  rcases ly_k_c hm hab hf hy k with e | e
  · exact ly_c_all e
  · exact ly_c_all (by omega)
/-- a round without a rise: all orders hold -/
theorem ly_fix {y : Nat → Int} (hab : ∀ j, j < o → a j < n ∧ b j < n) (h : ∀ d, d < n → ly_r a b le mo o y d = y d) : ly_H o a b le mo y := by
  intro j hj
  obtain ⟨ha, hb⟩ := hab j hj
  have h1 := ly_r_b (a := a) (b := b) (le := le) (mo := mo) hj y
  have h2 := ly_r_a (a := a) (b := b) (le := le) (mo := mo) hj y
  rw [h _ hb] at h1
  rw [h _ ha] at h2
  exact ⟨h1, h2⟩
/-- the sum of what lies above f -/
def ly_s (f w : Nat → Int) : Nat → Int
  | 0 => 0
  | n + 1 => ly_s f w n + (w n - f n)
theorem ly_s_lt {f w v : Nat → Int} {n : Nat} (h : ∀ d, d < n → v d ≤ w d) (hx : ∃ d, d < n ∧ v d < w d) : ly_s f v n < ly_s f w n := by
  have hle : ∀ n, (∀ d, d < n → v d ≤ w d) → ly_s f v n ≤ ly_s f w n := by
    intro n
    induction n with
    | zero => intro _; exact Int.le_refl _
    | succ n ih =>
      intro h
      have h1 := ih (fun d hd => h d (by omega))
      have h2 := h n (by omega)
      show ly_s f v n + (v n - f n) ≤ ly_s f w n + (w n - f n)
      omega
  induction n with
  | zero => obtain ⟨d, hd, -⟩ := hx; omega
  | succ n ih =>
    obtain ⟨d, hd, hlt⟩ := hx
    have h2 := h n (by omega)
    show ly_s f v n + (v n - f n) < ly_s f w n + (w n - f n)
    by_cases e : d = n
    · subst e
      have := hle d (fun q hq => h q (by omega))
      omega
    · have := ih (fun q hq => h q (by omega)) ⟨d, by omega, hlt⟩
      omega
theorem ly_s_nn {f w : Nat → Int} {n : Nat} (h : ∀ d, d < n → f d ≤ w d) : 0 ≤ ly_s f w n := by
  induction n with
  | zero => exact Int.le_refl _
  | succ n ih =>
    have h1 := ih (fun d hd => h d (by omega))
    have h2 := h n (by omega)
    show 0 ≤ ly_s f w n + (w n - f n)
    omega
theorem ly_min {w v : Nat → Int} (hw : ly_S n o a b le mo f la w) (hv : ly_S n o a b le mo f la v) : ly_S n o a b le mo f la (fun d => if v d < w d then v d else w d) := by
  refine ⟨fun d hd => ?_, fun j hj => ?_⟩
  · have h1 := hw.1 d hd
    have h2 := hv.1 d hd
    show f d ≤ (if v d < w d then v d else w d) ∧ (if v d < w d then v d else w d) ≤ la d
    split <;> omega
  · have h1 := hw.2 j hj
    have h2 := hv.2 j hj
    show (if v (a j) < w (a j) then v (a j) else w (a j)) + le j ≤ (if v (b j) < w (b j) then v (b j) else w (b j)) ∧ (if v (b j) < w (b j) then v (b j) else w (b j)) - mo j ≤ (if v (a j) < w (a j) then v (a j) else w (a j))
    by_cases e1 : v (a j) < w (a j) <;> by_cases e2 : v (b j) < w (b j) <;> simp only [e1, e2, if_true, if_false] <;> constructor <;> omega
/-- where there are such years, there are least ones -/
theorem ly_ex : ∀ (N : Nat) (w : Nat → Int), ly_s f w n < N → ly_S n o a b le mo f la w → ∃ z, ly_M n o a b le mo f la z := by
  intro N
  induction N with
  | zero =>
    intro w h1 h2
    have := ly_s_nn (fun d hd => (h2.1 d hd).1)
    omega
  | succ N ih =>
    intro w h1 h2
    by_cases e : ∀ v, ly_S n o a b le mo f la v → ∀ d, d < n → w d ≤ v d
    · exact ⟨w, h2, e⟩
    · have hx : ∃ v, ly_S n o a b le mo f la v ∧ ∃ d, d < n ∧ v d < w d := by
        refine Classical.byContradiction fun hno => e (fun v hv d hd => ?_)
        refine Classical.byContradiction fun hlt => hno ⟨v, hv, d, hd, by omega⟩
      obtain ⟨v, hv, d, hd, hlt⟩ := hx
      refine ih (fun d => if v d < w d then v d else w d) ?_ (ly_min h2 hv)
      have h3 : ly_s f (fun d => if v d < w d then v d else w d) n < ly_s f w n := ly_s_lt (fun q _ => by show (if v q < w q then v q else w q) ≤ w q; split <;> omega) ⟨d, hd, by show (if v d < w d then v d else w d) < w d; rw [if_pos hlt]; exact hlt⟩
      omega
end LY
end
section
/-! HOW THE CELLS LOOK. Codes: 0 SeedChains, 1 Site, 2 first, 3 last, 4 phase, 5 weights (outer), 6 earlier, 7 later, 8 least, 9 most, 10.. rows of weights, 18 saved; a course at b (20 now, 40, 60, 80, 100 saved): b itself, b+1 years (outer), b+2 states, b+3 rows (outer), b+4+i years of chain i, b+8+i rows of chain i; 200 the reference, 201.. its arrays; 220 the law's out. -/
def wO (f : Nat → Option Nat) : (Nat → Int32) ⊕ (Nat → Int64) ⊕ (Nat → UInt32) ⊕ (Nat → UInt64) ⊕ (Nat → Option Nat) := .inr (.inr (.inr (.inr f)))
def wC (n : Nat) (ad : Nat → Nat) (cs : Nat → ClassId) (k : Nat) (r : Nat → Int32) (q : Nat → Int64) : Nat → Option va_E
  | 0 => some (.inr (0, [.ref (ad (k + 1)), .ref (ad (k + 2)), .ref (ad (k + 3)), .int (r 3), .int (r 4)]))
  | 1 => some (.inl (cs 2, n, .inr (.inr (.inr (.inr (fun i => if i < n then some (ad (k + 3 + i)) else none))))))
  | 2 => some (.inl (cs 1, n, .inr (.inl q)))
  | 3 => some (.inl (cs 2, n, .inr (.inr (.inr (.inr (fun i => if i < n then some (ad (k + 5 + i)) else none))))))
  | 4 => if 0 < n then some (.inl (cs 0, 8, .inl r)) else none
  | 5 => if 1 < n then some (.inl (cs 0, 8, .inl r)) else none
  | 6 => if 2 < n then some (.inl (cs 0, 8, .inl r)) else none
  | 7 => if 3 < n then some (.inl (cs 0, 8, .inl r)) else none
  | 8 => if 0 < n then some (.inl (cs 0, 480, .inl r)) else none
  | 9 => if 1 < n then some (.inl (cs 0, 480, .inl r)) else none
  | 10 => if 2 < n then some (.inl (cs 0, 480, .inl r)) else none
  | 11 => if 3 < n then some (.inl (cs 0, 480, .inl r)) else none
  | _ => none
def wM (ad : Nat → Nat) (cs : Nat → ClassId) (r : Nat → Int32) (q : Nat → Int64) : Nat → Option va_E
  | 0 => some (.inr (3, [.int (r 0), .int (r 1), .int (r 2), .int (r 3), .ref (ad 201), .ref (ad 202), .ref (ad 203), .ref (ad 204), .int (r 8), .ref (ad 205), .ref (ad 206), .ref (ad 207), .ref (ad 208), .int (r 13), .int (r 14), .int (r 15), .int (r 16), .int (r 17), .ref (ad 209), .ref (ad 210), .ref (ad 211), .int (r 21), .ref (ad 212), .ref (ad 213), .ref (ad 214), .ref (ad 215), .ref (ad 216)]))
  | 1 => some (.inl (cs 0, 8, .inl r))
  | 2 => some (.inl (cs 0, 8, .inl r))
  | 3 => some (.inl (cs 0, 512, .inl r))
  | 4 => some (.inl (cs 0, 8, .inl r))
  | 5 => some (.inl (cs 0, 24, .inl r))
  | 6 => some (.inl (cs 0, 24, .inl r))
  | 7 => some (.inl (cs 0, 24, .inl r))
  | 8 => some (.inl (cs 0, 24, .inl r))
  | 9 => some (.inl (cs 0, 32, .inl r))
  | 10 => some (.inl (cs 1, 4, .inr (.inl q)))
  | 11 => some (.inl (cs 0, 1920, .inl r))
  | 12 => some (.inl (cs 0, 128, .inl r))
  | 13 => some (.inl (cs 1, 16, .inr (.inl q)))
  | 14 => some (.inl (cs 0, 7680, .inl r))
  | 15 => some (.inl (cs 0, 4, .inl r))
  | 16 => some (.inl (cs 0, 4, .inl r))
  | 20 => some (.inl (cs 1, 1, .inr (.inl q)))
  | _ => none
def wP (n : Nat) (ad : Nat → Nat) (cs : Nat → ClassId) : tP := fun k r q =>
  if k = 0 then some (.inr (2, [.int (r 0), .int (r 1), .ref (ad 1), .ref (ad 20), .ref (ad 18), .int (r 5), .int (r 6), .int (r 7), .int (r 8)]))
  else if k = 1 then some (.inr (1, [.ref (ad 2), .ref (ad 3), .ref (ad 4), .ref (ad 5), .ref (ad 6), .ref (ad 7), .ref (ad 8), .ref (ad 9), .int (r 8), .int (r 9)]))
  else if k < 5 then some (.inl (cs 0, 8, .inl r))
  else if k = 5 then some (.inl (cs 2, 8, .inr (.inr (.inr (.inr (fun i => if i < 8 then some (ad (10 + i)) else none))))))
  else if k < 10 then some (.inl (cs 0, 24, .inl r))
  else if k < 18 then some (.inl (cs 0, 64, .inl r))
  else if k = 18 then some (.inl (cs 3, 4, .inr (.inr (.inr (.inr (fun i => if i < 4 then some (ad (40 + 20 * i)) else none))))))
  else if k < 20 then none
  else if k < 120 then wC n ad cs k r q ((k - 20) % 20)
  else if k < 200 then none
  else wM ad cs r q (k - 200)
theorem wP_w {n : Nat} {ad : Nat → Nat} {cs : Nat → ClassId} {d : Nat} (h : d < 8) (r : Nat → Int32) (q : Nat → Int64) : wP n ad cs (10 + d) r q = some (.inl (cs 0, 64, .inl r)) := by
  unfold wP
  rw [if_neg (by omega), if_neg (by omega), if_neg (by omega), if_neg (by omega), if_neg (by omega), if_pos (by omega)]
/-- b is a course -/
def isB (b : Nat) : Prop := b = 20 ∨ b = 40 ∨ b = 60 ∨ b = 80 ∨ b = 100
section WB
variable {n : Nat} {ad : Nat → Nat} {cs : Nat → ClassId} {b : Nat}
theorem wP_b0 (hB : isB b) (r : Nat → Int32) (q : Nat → Int64) : wP n ad cs b r q = some (.inr (0, [.ref (ad (b + 1)), .ref (ad (b + 2)), .ref (ad (b + 3)), .int (r 3), .int (r 4)])) := by
  rcases hB with h | h | h | h | h <;> subst h <;> rfl
theorem wP_b1 (hB : isB b) (r : Nat → Int32) (q : Nat → Int64) : wP n ad cs (b + 1) r q = some (.inl (cs 2, n, .inr (.inr (.inr (.inr (fun i => if i < n then some (ad (b + 4 + i)) else none)))))) := by
  rcases hB with h | h | h | h | h <;> subst h <;> rfl
theorem wP_b2 (hB : isB b) (r : Nat → Int32) (q : Nat → Int64) : wP n ad cs (b + 2) r q = some (.inl (cs 1, n, .inr (.inl q))) := by
  rcases hB with h | h | h | h | h <;> subst h <;> rfl
theorem wP_b3 (hB : isB b) (r : Nat → Int32) (q : Nat → Int64) : wP n ad cs (b + 3) r q = some (.inl (cs 2, n, .inr (.inr (.inr (.inr (fun i => if i < n then some (ad (b + 8 + i)) else none)))))) := by
  rcases hB with h | h | h | h | h <;> subst h <;> rfl
theorem wP_b4 (hB : isB b) (hn : n ≤ 4) {i : Nat} (hi : i < n) (r : Nat → Int32) (q : Nat → Int64) : wP n ad cs (b + 4 + i) r q = some (.inl (cs 0, 8, .inl r)) := by
  have h4 : i = 0 ∨ i = 1 ∨ i = 2 ∨ i = 3 := by omega
  rcases h4 with e | e | e | e <;> subst e <;> rcases hB with h | h | h | h | h <;> subst h <;> exact if_pos hi
theorem wP_b8 (hB : isB b) (hn : n ≤ 4) {i : Nat} (hi : i < n) (r : Nat → Int32) (q : Nat → Int64) : wP n ad cs (b + 8 + i) r q = some (.inl (cs 0, 480, .inl r)) := by
  have h4 : i = 0 ∨ i = 1 ∨ i = 2 ∨ i = 3 := by omega
  rcases h4 with e | e | e | e <;> subst e <;> rcases hB with h | h | h | h | h <;> subst h <;> exact if_pos hi
end WB
/-! WHAT HOLDS OF A STATE beside its cells -/
def tyL (cs : Nat → ClassId) : List (ClassId × FieldType) := [(cs 0, .int), (cs 1, .long), (cs 2, .array .int), (cs 3, .object "SeedChains$Course")]
def nF : List (Nat × String × String × String) := [(186, "SeedChains$Site", "first", "[I"), (189, "SeedChains$Site", "last", "[I"), (109, "SeedChains$Site", "phase", "[I"), (68, "SeedChains$Site", "dates", "I"), (97, "SeedChains$Site", "orders", "I"), (129, "SeedChains$Course", "years", "[[I"), (123, "SeedChains$Course", "states", "[J"), (117, "SeedChains$Course", "kept", "I"), (120, "SeedChains$Course", "steps", "I")]
def nM : List (Nat × MethodName) := [(27, yX1_init), (34, yX0_init), (133, yX1_findLeastYears), (79, yX1_addDate), (88, yX1_changeWeight), (102, yX1_addOrder), (212, yX1_drawnYear), (205, yX0_keepYears), (157, yX0_keptYear), (163, yX1_weightOf), (166, yX1_greatestWeight), (176, yX0_take)]
def nT : List (Nat × String) := [(195, "years"), (63, "first and last year"), (73, "there are eight dates"), (184, "date"), (192, "year"), (86, "weight"), (95, "order"), (100, "there are 24 orders"), (194, "phase"), (113, "burn-in"), (115, "thin"), (137, "steps"), (196, "nothing is started"), (145, "more than 60 rows"), (152, "chain"), (155, "row"), (174, "there are four saved states"), (180, "saved state"), (182, "count")]
def eI : String := "java/lang/IllegalArgumentException"
def eS : String := "java/lang/IllegalStateException"
def eN : String := "java/util/NoSuchElementException"
def xW : List Cond := [.declares ⟨"java/lang/RuntimeException", "<init>", "(Ljava/lang/String;)V"⟩, .declares ⟨"java/lang/Exception", "<init>", "(Ljava/lang/String;)V"⟩, .declares ⟨"java/lang/Throwable", "<init>", "(Ljava/lang/String;)V"⟩, .castable "java/lang/IllegalArgumentException" "java/lang/IllegalArgumentException", .castable "java/lang/IllegalStateException" "java/lang/IllegalStateException", .castable "java/util/NoSuchElementException" "java/util/NoSuchElementException"]
theorem xW_mv {u U : State} (hvm : u.vm.Alike U.vm) (h : ∀ w ∈ xW, va_Nw w u) : ∀ w ∈ xW, va_Nw w U := by
  have tr : ∀ {c : Cond}, c.onTables = true → c.before #[] (u.setVm U.vm) = true → c.before #[] U = true := by
    intro c hc h
    have e := Cond.onTables_vm (A := #[]) (A' := #[]) (U := u) (U' := U) U.vm c hc
    have hU : U.setVm U.vm = U := rfl
    rw [hU] at e
    rw [← e]
    exact h
  have d : ∀ x : MethodName, va_Nw (.declares x) u → va_Nw (.declares x) U := fun x h1 => tr rfl (by rw [Cond.declares_setVm hvm]; exact h1)
  have k : ∀ a b : String, va_Nw (.castable a b) u → va_Nw (.castable a b) U := fun a b h1 => tr rfl (by rw [Cond.castable_setVm hvm]; exact h1)
  unfold xW at h ⊢
  simp only [List.forall_mem_cons] at h ⊢
  obtain ⟨h1, h2, h3, h4, h5, h6, h7⟩ := h
  exact ⟨d _ h1, d _ h2, d _ h3, k _ _ h4, k _ _ h5, k _ _ h6, fun _ hx => nomatch hx⟩
def xN : List (String × String) := [(eI, eS), (eI, eN), (eS, eI), (eS, eN), (eN, eI), (eN, eS)]
def eV (D : va_G) (cs : Nat → ClassId) (base : Nat) (sa : Nat → Nat) (U : State) : Prop :=
  va_K D vwCl (tyL cs) U ∧ (∀ q ∈ nF, va_Nw (.fieldLinkNest "SeedChains" q.1 q.2.1 q.2.2.1 q.2.2.2 "SeedChains") U) ∧ (∀ q ∈ nM, va_Nw (.methodLinkNest "SeedChains" q.1 q.2 "SeedChains") U) ∧ (∀ q ∈ nT, vk_R "SeedChains" q.1 q.2 (sa q.1) U) ∧
  vx_Zq Bundle.tN "UNASSIGNED_STACK" Bundle.steD (fun q => base ≤ q) U U.heap ∧ vx_Zq Bundle.tN "SUPPRESSED_SENTINEL" Bundle.listD (fun q => base ≤ q) U U.heap ∧ va_AOA .int U ∧ va_AO "SeedChains$Course" U ∧ (∀ w ∈ xW, va_Nw w U) ∧ ∀ q ∈ xN, va_Nc q.1 q.2 U
section EV
variable {D : va_G} {cs : Nat → ClassId} {base : Nat} {sa : Nat → Nat} {s U : State}
theorem eV.K (h : eV D cs base sa s) : va_K D vwCl (tyL cs) s := h.1
theorem eV.mv (h : eV D cs base sa s) (hW : s.WarmedH U.vm) (hq : ∀ q : Nat, q < s.heap.size → ¬ base ≤ q → U.heap[q]? = s.heap[q]?) : eV D cs base sa U := by
  obtain ⟨h1, h2, h3, h4, h5, h6, h7, h8, h9, h10⟩ := h
  exact ⟨va_K.moved hW.alike h1, fun q hm => va_Nw.warmF hW (h2 q hm), fun q hm => va_Nw.warmM hW (h3 q hm), fun q hm => vk_R.warm hW (h4 q hm), vx_Zq.moved hW.alike (h5.kept hq), vx_Zq.moved hW.alike (h6.kept hq), over_moved hW.alike h7, va_AO.moved hW.alike h8, xW_mv hW.alike h9, fun q hm => va_Nc.moved hW.alike (h10 q hm)⟩
/-- the same tables and heap, other frames -/
theorem eV.fr (h : eV D cs base sa s) (hv : U.vm = s.vm) (hh : U.heap = s.heap) : eV D cs base sa U :=
  h.mv (by rw [hv]; exact State.WarmedH.refl s) (fun q _ _ => by rw [hh])
end EV
/-- what a method of the class or of the reference starts from -/
def kB (D : va_G) (cs : Nat → ClassId) (base : Nat) (sa : Nat → Nat) (n : Nat) (ad : Nat → Nat) (I : tI) (L : tL) (U : State) : Prop := eV D cs base sa U ∧ tR D vwCl base ad (tC (wP n ad cs) I L) U.heap
/-- .. and what it leaves -/
def kA (D : va_G) (cs : Nat → ClassId) (base : Nat) (n : Nat) (ad : Nat → Nat) (u : tI × tL) (t : State) : Prop := tR D vwCl base ad (tC (wP n ad cs) u.1 u.2) t.heap
section KP
variable {D : va_G} {cs : Nat → ClassId} {base : Nat} {sa : Nat → Nat} {n : Nat} {ad : Nat → Nat} {I : tI} {L : tL} {s : State} {H : Heap} {locs : List Loc}
theorem kB_blind (av : List Value) : FrameBlind (va_Pc av (kB D cs base sa n ad I L)) := fun _ _ _ _ q => ⟨q.1, eV.fr q.2.1 rfl rfl, q.2.2⟩
theorem kB_pre (hE : eV D cs base sa s) (hR : tR D vwCl base ad (tC (wP n ad cs) I L) H) (hS : va_S (fun q => base ≤ q) s.heap H locs) (As : List Value) : PreS s H (va_Pc As (kB D cs base sa n ad I L)) As :=
  ⟨kB_blind As, fun U hU hW => ⟨rfl, hE.mv hW (fun q h1 h2 => by rw [hU]; exact hS.2.1 q h1 h2), by rw [hU]; exact hR⟩⟩
theorem kB_preV (hE : eV D cs base sa s) (hR : tR D vwCl base ad (tC (wP n ad cs) I L) H) (hS : va_S (fun q => base ≤ q) s.heap H locs) (k : Nat) {ci : Nat} {fs : List Value} {q : vw_C} (he : tC (wP n ad cs) I L k = some (.inr (ci, fs))) (hc : vwCl[ci]? = some q) (As : List Value) : PreV s H q.1 (ad k) (va_Pc (.ref (ad k) :: As) (kB D cs base sa n ad I L)) As := by
  refine ⟨kB_blind _, ?_, fun U hU hW => ⟨rfl, hE.mv hW (fun q h1 h2 => by rw [hU]; exact hS.2.1 q h1 h2), by rw [hU]; exact hR⟩⟩
  obtain ⟨ws, hP, hD, hM, hI⟩ := hR
  obtain ⟨i, hi⟩ := List.getElem?_of_mem (hM _ _ he)
  exact va_recv hE.1 hP hc hi
end KP
section KC
variable {p : Program} {l : Launch} {e : Env} {R : Room} {s : State} {m : MethodId} {args : Array Value} {below : List Frame} {meth : Method} {c : Code} {H : Heap} {locs : List Loc} {cells slots : Nat} {Q : State → Prop}
variable {pc : Nat} {ls : Array Slot} {rest st0 : List Value} {D : va_G} {cs : Nat → ClassId} {base : Nat} {n : Nat} {ad : Nat → Nat} {H0 : Heap} {mc ms : Nat} {a : Array Value}
/-- behind a call that answers an int -/
theorem kc_i {post : Int32 → tI × tL → Prop} (hr : va_Run p l e R s m args below meth c H locs cells slots mc ms (F0 m pc ls st0) rest (va_Qi post (kA D cs base n ad) (fun q => base ≤ q) a) (fun q => base ≤ q)) (hS : va_S (fun q => base ≤ q) H0 H locs)
    (kk : ∀ (r : Int32) (u : tI × tL) (H1 : Heap) (locs1 : List Loc), post r u → tR D vwCl base ad (tC (wP n ad cs) u.1 u.2) H1 → va_S (fun q => base ≤ q) H0 H1 locs1 → W p l e R s m args below meth c H1 locs1 (cells + mc) (slots + ms) Q (F0 m (pc + 3) ls (.int r :: rest))) : W p l e R s m args below meth c H locs cells slots Q (F0 m pc ls st0) :=
  va_calli hr hS (fun _ _ h => h) (fun _ h => h) (fun r u t H1 locs1 ht _ hw hB _ _ hS1 => kk r u H1 locs1 hw (by rw [← ht]; exact hB) hS1)
theorem kc_v {post : tI × tL → Prop} (hr : va_Run p l e R s m args below meth c H locs cells slots mc ms (F0 m pc ls st0) rest (va_Qv post (kA D cs base n ad) (fun q => base ≤ q) a) (fun q => base ≤ q)) (hS : va_S (fun q => base ≤ q) H0 H locs)
    (kk : ∀ (u : tI × tL) (H1 : Heap) (locs1 : List Loc), post u → tR D vwCl base ad (tC (wP n ad cs) u.1 u.2) H1 → va_S (fun q => base ≤ q) H0 H1 locs1 → W p l e R s m args below meth c H1 locs1 (cells + mc) (slots + ms) Q (F0 m (pc + 3) ls rest)) : W p l e R s m args below meth c H locs cells slots Q (F0 m pc ls st0) :=
  va_callv hr hS (fun _ _ h => h) (fun _ h => h) (fun u t H1 locs1 ht _ hw hB _ _ hS1 => kk u H1 locs1 hw (by rw [← ht]; exact hB) hS1)
/-- the words of a call by name, by the one list -/
theorem kw_V {X : Cond} {own C : String} {idx : Nat} {y : MethodName} {bytes : ByteArray} {maxL : Nat} {ret : Option FieldType} (h1 : Cond.methodLink own idx y ∈ wAll) (h2 : Cond.instanceMethod y ∈ wAll) (h3 : Cond.selects C y y ∈ wAll) (h4 : Cond.initialized C ∈ wAll) (h5 : Cond.code y bytes maxL ret ∈ wAll) : GoodIn (X :: wAll) (wsV own idx C y (.code y bytes maxL ret :: wAll)) :=
  gAll (gCons h1 (gCons h2 (gCons h3 (gCons h4 (gCons h5 gSelf)))))
theorem kw_S {X : Cond} {own : String} {idx : Nat} {y : MethodName} {bytes : ByteArray} {maxL : Nat} {ret : Option FieldType} (h1 : Cond.methodLink own idx y ∈ wAll) (h2 : Cond.static y ∈ wAll) (h4 : Cond.initialized y.cls ∈ wAll) (h5 : Cond.code y bytes maxL ret ∈ wAll) : GoodIn (X :: wAll) (va_wsS own idx y (.code y bytes maxL ret :: wAll)) :=
  gAll (gCons h1 (gCons h2 (gCons h4 (gCons h5 gSelf))))
theorem kw_N {X : Cond} {y : MethodName} {bytes : ByteArray} {maxL : Nat} {ret : Option FieldType} (h5 : Cond.code y bytes maxL ret ∈ wAll) : GoodIn (X :: wAll) (.code y bytes maxL ret :: wAll) := gAll (gCons h5 gSelf)
end KC
end
section
section TQ
variable {p : Program} {l : Launch} {e : Env} {R : Room} {s : State} {m : MethodId} {args : Array Value} {below : List Frame} {meth : Method} {c : Code} {H : Heap} {locs : List Loc} {cells slots : Nat} {Q : State → Prop}
variable {cc : ByteArray} {pc : Nat} {ls : Array Slot} {rest : List Value} {D : va_G} {cl : List vw_C} {base : Nat} {ad : Nat → Nat} {P : tP} {I : tI} {L : tL} {tys : List (ClassId × FieldType)} {H0 : Heap}
theorem tp_put (hexec : p.tables.exec = Jvm.exec) (hb : c.code = cc) {own ref Cn : String} {T : u_T} {N ci index : Nat} {Ts : List Cond} (hts : ∀ w ∈ Ts, w.before args s = true) (hin : ∀ w ∈ u_ws Cn T N, w ∈ Ts) (ty0 : Nat → FieldType) (hty : ∀ k, k < N → parseFieldDescriptor (T k).2.2.1 = some (ty0 k)) (hnm : ∀ a, a < N → ∀ b, b < N → a ≠ b → (T a).2.1 ≠ (T b).2.1) (hown : s.vm.findClass own = some m.cls) (hK : va_K D cl tys s) (hR : tR D cl base ad (tC P I L) H) (hS0 : va_S (fun q => base ≤ q) H0 H locs) (k0 : Nat) (fs : (Nat → Int32) → List Value) (hk : ∀ r q, P k0 r q = some (.inr (ci, fs r))) (hc : cl[ci]? = some (Cn, T, N)) (k : Nat) (hk1 : k < N) (hlink : (Cond.fieldLink own index ref (T k).2.1 (T k).2.2.1).before args s = true) (hsame : ∀ x, s.fieldFound? (T k).1 (T k).2.1 (T k).2.2.1 = some x → s.fieldFound? ref (T k).2.1 (T k).2.2.1 = some x) (hfin : (T k).2.2.2 = false) {ty : FieldType} {x : Int32} (hd : parseFieldDescriptor (T k).2.2.1 = some ty) (hn : narrow ty (.int x) = .int x) (hfit : fits ty (.int x) = true) (hl : k < (fs (I k0)).length) (hset : ∀ r, (fs r).set k (.int x) = fs (upd r k x))
    (hdg : decode cc pc = .ok (.putfield index, 3)) (kk : ∀ (H1 : Heap) (locs1 : List Loc), tR D cl base ad (tC P (va_up I k0 (upd (I k0) k x)) L) H1 → va_S (fun q => base ≤ q) H0 H1 locs1 → W p l e R s m args below meth c H1 locs1 cells slots Q (F0 m (pc + 3) ls rest)) : W p l e R s m args below meth c H locs cells slots Q (F0 m pc ls (.int x :: .ref (ad k0) :: rest)) := by
  refine tb_put hexec hb hts hin ty0 hty hnm hown hK hR hS0 k0 (hk _ _) hc k hk1 hlink hsame hfin hd hn hfit hl hdg (fun H1 locs1 hR1 hS1 => kk H1 locs1 ?_ hS1)
  rw [hset, ← hk _ (L k0), tC_upI] at hR1
  exact hR1
theorem tp_putN (hexec : p.tables.exec = Jvm.exec) (hb : c.code = cc) {own ref Cn host : String} {T : u_T} {N ci index : Nat} {Ts : List Cond} (hts : ∀ w ∈ Ts, w.before args s = true) (hin : ∀ w ∈ u_ws Cn T N, w ∈ Ts) (ty0 : Nat → FieldType) (hty : ∀ k, k < N → parseFieldDescriptor (T k).2.2.1 = some (ty0 k)) (hnm : ∀ a, a < N → ∀ b, b < N → a ≠ b → (T a).2.1 ≠ (T b).2.1) (hown : s.vm.findClass own = some m.cls) (hK : va_K D cl tys s) (hR : tR D cl base ad (tC P I L) H) (hS0 : va_S (fun q => base ≤ q) H0 H locs) (k0 : Nat) (fs : (Nat → Int32) → List Value) (hk : ∀ r q, P k0 r q = some (.inr (ci, fs r))) (hc : cl[ci]? = some (Cn, T, N)) (k : Nat) (hk1 : k < N) (hlink : (Cond.fieldLinkNest own index ref (T k).2.1 (T k).2.2.1 host).before args s = true) (hsame : ∀ x, s.fieldFound? (T k).1 (T k).2.1 (T k).2.2.1 = some x → s.fieldFound? ref (T k).2.1 (T k).2.2.1 = some x) (hfin : (T k).2.2.2 = false) {ty : FieldType} {x : Int32} (hd : parseFieldDescriptor (T k).2.2.1 = some ty) (hn : narrow ty (.int x) = .int x) (hfit : fits ty (.int x) = true) (hl : k < (fs (I k0)).length) (hset : ∀ r, (fs r).set k (.int x) = fs (upd r k x))
    (hdg : decode cc pc = .ok (.putfield index, 3)) (kk : ∀ (H1 : Heap) (locs1 : List Loc), tR D cl base ad (tC P (va_up I k0 (upd (I k0) k x)) L) H1 → va_S (fun q => base ≤ q) H0 H1 locs1 → W p l e R s m args below meth c H1 locs1 cells slots Q (F0 m (pc + 3) ls rest)) : W p l e R s m args below meth c H locs cells slots Q (F0 m pc ls (.int x :: .ref (ad k0) :: rest)) := by
  refine tb_putN hexec hb hts hin ty0 hty hnm hown hK hR hS0 k0 (hk _ _) hc k hk1 hlink hsame hfin hd hn hfit hl hdg (fun H1 locs1 hR1 hS1 => kk H1 locs1 ?_ hS1)
  rw [hset, ← hk _ (L k0), tC_upI] at hR1
  exact hR1
end TQ
theorem isB_sv {i : Nat} (h : i < 4) : isB (40 + 20 * i) := by unfold isB; omega
/-! THE SITE, as numbers: nd dates, no orders; first f and last la year, phase ph, weights w (of the year f d + i), orders ea, lt, le, mo -/
def cSi (I : tI) (nd no : Nat) (f la : Nat → Nat) (ph : Nat → Int32) (w : Nat → Nat → Nat) (ea lt le mo : Nat → Nat) : Prop :=
  I 1 8 = nI nd ∧ I 1 9 = nI no ∧ (∀ d, d < nd → I 2 d = nI (f d) ∧ I 3 d = nI (la d) ∧ I 4 d = ph d ∧ ∀ i, i < 64 → I (10 + d) i = nI (w d i)) ∧ ∀ j, j < no → I 6 j = nI (ea j) ∧ I 7 j = nI (lt j) ∧ I 8 j = nI (le j) ∧ I 9 j = nI (mo j)
def wfS (nd no : Nat) (f la : Nat → Nat) (w : Nat → Nat → Nat) (ea lt le mo : Nat → Nat) : Prop :=
  nd ≤ 8 ∧ no ≤ 24 ∧ (∀ d, d < nd → f d ≤ la d ∧ la d ≤ 255 ∧ la d ≤ f d + 63 ∧ ∀ i, i < 64 → 1 ≤ w d i ∧ w d i ≤ 1000) ∧ ∀ j, j < no → ea j < nd ∧ lt j < nd ∧ ea j ≠ lt j ∧ le j ≤ mo j ∧ mo j ≤ 255
/-- the least year by the orders below j, the others' years being y -/
def sLo (f ea lt le mo : Nat → Nat) (d : Nat) (y : Nat → Nat) : Nat → Nat
  | 0 => f d
  | j + 1 => if lt j = d then (if sLo f ea lt le mo d y j < y (ea j) + le j then y (ea j) + le j else sLo f ea lt le mo d y j) else if ea j = d then (if sLo f ea lt le mo d y j + mo j < y (lt j) then y (lt j) - mo j else sLo f ea lt le mo d y j) else sLo f ea lt le mo d y j
def sHi (la ea lt le mo : Nat → Nat) (d : Nat) (y : Nat → Nat) : Nat → Nat
  | 0 => la d
  | j + 1 => if lt j = d then (if y (ea j) + mo j < sHi la ea lt le mo d y j then y (ea j) + mo j else sHi la ea lt le mo d y j) else if ea j = d then (if y (lt j) - le j < sHi la ea lt le mo d y j then y (lt j) - le j else sHi la ea lt le mo d y j) else sHi la ea lt le mo d y j
theorem nI_tri {a : Nat} (h : a < 2 ^ 30) : (nI a).toInt = (a : Int) := nI_toInt (by omega)
theorem mx_add {a b c : Nat} (ha : a < 2 ^ 29) (hb : b < 2 ^ 29) (hc : c < 2 ^ 29) : (if nI a < nI b + nI c then nI b + nI c else nI a) = nI (if a < b + c then b + c else a) := by
  rw [nI_add]
  by_cases h : a < b + c
  · rw [if_pos h, if_pos (nI_lt h (by omega))]
  · rw [if_neg h, if_neg (nI_nlt (by omega) (by omega))]
theorem mn_add {a b c : Nat} (ha : a < 2 ^ 29) (hb : b < 2 ^ 29) (hc : c < 2 ^ 29) : (if nI b + nI c < nI a then nI b + nI c else nI a) = nI (if b + c < a then b + c else a) := by
  rw [nI_add]
  by_cases h : b + c < a
  · rw [if_pos h, if_pos (nI_lt h (by omega))]
  · rw [if_neg h, if_neg (nI_nlt (by omega) (by omega))]
theorem mx_sub {a b c : Nat} (ha : a < 2 ^ 29) (hb : b < 2 ^ 29) (hc : c < 2 ^ 29) : (if nI a < nI b - nI c then nI b - nI c else nI a) = nI (if a + c < b then b - c else a) := by
  by_cases h : a + c < b
  · rw [if_pos h, pk_sub (by omega), if_pos (nI_lt (by omega) (by omega))]
  · rw [if_neg h, if_neg]
    rw [Int32.lt_iff_toInt_lt, pk_sub_toInt (by omega) (by omega), nI_tri (by omega)]
    omega
theorem mn_sub {a b c : Nat} (ha : a < 2 ^ 29) (hb : b < 2 ^ 29) (hc : c ≤ b) : (if nI b - nI c < nI a then nI b - nI c else nI a) = nI (if b - c < a then b - c else a) := by
  rw [pk_sub hc]
  by_cases h : b - c < a
  · rw [if_pos h, if_pos (nI_lt h (by omega))]
  · rw [if_neg h, if_neg (nI_nlt (by omega) (by omega))]
end
section
theorem sLo_le {nd no : Nat} {f la : Nat → Nat} {w : Nat → Nat → Nat} {ea lt le mo : Nat → Nat} {d : Nat} {y : Nat → Nat} (hwf : wfS nd no f la w ea lt le mo) (hyb : ∀ i, i < nd → y i ≤ 255) (hd : d < nd) {j : Nat} (hj : j ≤ no) : sLo f ea lt le mo d y j ≤ 510 := by
  induction j with
  | zero => have := hwf.2.2.1 d hd; show f d ≤ 510; omega
  | succ j ih =>
    have h1 := ih (by omega)
    obtain ⟨h2, h3, h4, h5, h6⟩ := hwf.2.2.2 j (by omega)
    have h7 := hyb _ h2
    have h8 := hyb _ h3
    simp only [sLo]
    split
    · split <;> omega
    · split
      · split <;> omega
      · exact h1
theorem sHi_le {nd no : Nat} {f la : Nat → Nat} {w : Nat → Nat → Nat} {ea lt le mo : Nat → Nat} {d : Nat} {y : Nat → Nat} (hwf : wfS nd no f la w ea lt le mo) (hyb : ∀ i, i < nd → y i ≤ 255) (hd : d < nd) {j : Nat} (hj : j ≤ no) : sHi la ea lt le mo d y j ≤ 510 := by
  induction j with
  | zero => have := hwf.2.2.1 d hd; show la d ≤ 510; omega
  | succ j ih =>
    have h1 := ih (by omega)
    simp only [sHi]
    split
    · split <;> omega
    · split
      · split <;> omega
      · exact h1
end
section
section C1
variable {l : Launch} {D : va_G} {cs : Nat → ClassId} {base : Nat} {sa : Nat → Nat} {n : Nat} {ad : Nat → Nat}
set_option maxHeartbeats 4000000 in
set_option maxRecDepth 100000 in
/-- Site.weightOf(d, y): the weight at y less the first year -/
theorem mX1_weightOf (I : tI) (L : tL) (d j : Nat) (y : Int32) (hd : d < 8) (hy : y - I 2 d = nI j) (hj : j < 64) : Met l yX1_weightOf wX1_weightOf ({ frames := 0, cells := 0, slots := 0, locals := 0 }) (va_Pc [.ref (ad 1), .int (nI d), .int y] (kB D cs base sa n ad I L)) (va_Qi (fun (r : Int32) (u : tI × tL) => r = I (10 + d) j ∧ u = (I, L)) (kA D cs base n ad) (fun q => base ≤ q)) 0 0 (fun q => base ≤ q) := by
  refine Met.ofW (cc := cX1_weightOf) (maxL := 3) (ret := (some .int)) (by decide) rfl ?_
  intro p e s m args below meth c s₁ B hml hv
  obtain ⟨rfl, hE, hR⟩ := hv
  have hx := B.exec
  have hb := B.bytes
  have hr := B.returns
  have hts := atoms_spec (ws := wX1_weightOf) B.pre
  have hown : s.vm.findClass RX1 = some m.cls := findClass_of_methodNamed B.named
  have hlocks := B.notSynchronized
  have hK := hE.K
  have hS : va_S (fun q => base ≤ q) s.heap s.heap [] := va_S.rf
  have hR : tR D vwCl base ad (tC (wP n ad cs) I L) s.heap := hR
  have hl := lv_entry ([.ref (ad 1), .int (nI d), .int y]) (n := 3) (Nat.le_of_ble_eq_true rfl)
  rw [lg_entry_eq]
  generalize (lg_sl ([.ref (ad 1), .int (nI d), .int y]) ++ List.replicate (3 - (lg_sl ([.ref (ad 1), .int (nI d), .int y])).length) Slot.unset).toArray = ls at hl ⊢
  have hl : lv_has ls 3 [(0, .ref (ad 1)), (1, .int (nI d)), (2, .int y)] := hl
  refine lv_aload_n hx hb dX1_weightOf_0 rfl (lv_at hl 0 rfl) ?_
  refine tb_get hx hb hts (fun w h => List.mem_cons_of_mem _ (inX1 w h)) hown hK hR 1 rfl rfl 3 (by decide) (hts _ (List.mem_cons_of_mem _ k41)) (fun _ h => h) rfl dX1_weightOf_1 ?_
  refine lv_iload_n hx hb dX1_weightOf_4 rfl (lv_at hl 1 rfl) ?_
  refine tb_aald hx hb hK hR 5 2 rfl rfl d rfl (by omega) (by decide) (if_pos (by omega)) dX1_weightOf_5 ?_
  refine lv_iload_n hx hb dX1_weightOf_6 rfl (lv_at hl 2 rfl) ?_
  refine lv_aload_n hx hb dX1_weightOf_7 rfl (lv_at hl 0 rfl) ?_
  refine tb_get hx hb hts (fun w h => List.mem_cons_of_mem _ (inX1 w h)) hown hK hR 1 rfl rfl 0 (by decide) (hts _ (List.mem_cons_of_mem _ k35)) (fun _ h => h) rfl dX1_weightOf_8 ?_
  refine lv_iload_n hx hb dX1_weightOf_11 rfl (lv_at hl 1 rfl) ?_
  refine tp_iald hx hb hK hR 2 0 (fun _ _ => rfl) rfl d rfl (by omega) (by decide) dX1_weightOf_12 ?_
  refine lv_isub hx hb dX1_weightOf_13 ?_
  rw [hy]
  refine tp_iald hx hb hK hR (10 + d) 0 (fun _ _ => wP_w (by omega) _ _) rfl j rfl (by omega) (by decide) dX1_weightOf_14 ?_
  exact W.iret (v := I (10 + d) j) hx hb hr (fun t ht hW => ⟨⟨_, (I, L), rfl, ⟨rfl, rfl⟩, by show tR _ _ _ _ _ t.heap; rw [ht]; exact hR⟩, hS.F ht⟩) hS.2.2 dX1_weightOf_15
set_option maxHeartbeats 4000000 in
set_option maxRecDepth 100000 in
theorem lpX1_lowYear {p : Program} {e : Env} {R : Room} {s : State} {m : MethodId} {args : Array Value} {below : List Frame} {meth : Method} {c : Code} {cells slots : Nat} {Q : State → Prop} (S0 : CallFix p m c cX1_lowYear 5 s args wX1_lowYear RX1) (hE : eV D cs base sa s) (hRf : 1 ≤ R.frames) (hRl : 30 ≤ R.locals) (hRc : cells ≤ R.cells) (hRs : slots ≤ R.slots) (I : tI) (L : tL) {nd no : Nat} {f la : Nat → Nat} {ph : Nat → Int32} {w : Nat → Nat → Nat} {ea lt le mo : Nat → Nat} (ky d : Nat) (y : Nat → Nat) (hSi : cSi I nd no f la ph w ea lt le mo) (hwf : wfS nd no f la w ea lt le mo) (hd : d < nd) (hky : ∀ r q, wP n ad cs ky r q = some (.inl (cs 0, 8, .inl r))) (hy : ∀ i, i < nd → I ky i = nI (y i)) (hyb : ∀ i, i < nd → y i ≤ 255)
    (kx : ∀ (H : Heap) (locs : List Loc) (ls : Array Slot), tR D vwCl base ad (tC (wP n ad cs) I L) H → va_S (fun q => base ≤ q) s.heap H locs → lv_has ls 5 [(4, .int (nI no)), (3, .int (nI (sLo f ea lt le mo d y no))), (0, .ref (ad 1)), (1, .int (nI d)), (2, .ref (ad ky))] → W p l e R s m args below meth c H locs cells slots Q (F0 m 94 ls [])) :
    ∀ (k j : Nat) (H : Heap) (locs : List Loc) (ls : Array Slot), j ≤ no → no + 1 ≤ j + k → tR D vwCl base ad (tC (wP n ad cs) I L) H → va_S (fun q => base ≤ q) s.heap H locs → lv_has ls 5 [(4, .int (nI j)), (3, .int (nI (sLo f ea lt le mo d y j))), (0, .ref (ad 1)), (1, .int (nI d)), (2, .ref (ad ky))] → W p l e R s m args below meth c H locs cells slots Q (F0 m 10 ls []) := by
  obtain ⟨hx, hb, hml, hown, hts⟩ := S0
  have hK := hE.K
  obtain ⟨h_nd, h_no, h_d, h_o⟩ := id hwf
  intro k
  induction k with
  | zero => intro j  H locs ls h1 h2; exact absurd h2 (by omega)
  | succ k ih =>
    intro j  H locs ls hj hk  hR hS hl
    refine lv_iload hx hb dX1_lowYear_10 (lv_at hl 0 rfl) ?_
    refine lv_aload_n hx hb dX1_lowYear_12 rfl (lv_at hl 2 rfl) ?_
    refine tb_get hx hb hts (fun w h => List.mem_cons_of_mem _ (inX1 w h)) hown hK hR 1 rfl rfl 9 (by decide) (hts _ (List.mem_cons_of_mem _ k48)) (fun _ h => h) rfl dX1_lowYear_13 ?_
    rw [show I 1 9 = nI no from hSi.2.1]
    refine lv_icmp_ge (tgt := 94) hx hb dX1_lowYear_16 (by decide) (fun c1 => ?_) (fun c1 => ?_)
    · have hjN : j = no := by have e9 := (nI_leI (by omega) (by omega)).mp c1; omega
      subst hjN
      exact kx  H locs ls  hR hS (lv_sub hl [0, 1, 2, 3, 4] rfl)
    · have hjN : j < no := by
        rcases Nat.lt_or_ge j no with q | q
        · exact q
        · exact absurd (nI_le (by omega) (by omega)) c1
      obtain ⟨h_ea, h_lt, h_ne, h_lm, h_mo⟩ := hwf.2.2.2 j hjN
      have h_y1 := hyb _ h_ea
      have h_y2 := hyb _ h_lt
      have h_S : sLo f ea lt le mo d y j ≤ 510 := sLo_le hwf hyb hd (by omega)
      refine lv_aload_n hx hb dX1_lowYear_19 rfl (lv_at hl 2 rfl) ?_
      refine tb_get hx hb hts (fun w h => List.mem_cons_of_mem _ (inX1 w h)) hown hK hR 1 rfl rfl 5 (by decide) (hts _ (List.mem_cons_of_mem _ k43)) (fun _ h => h) rfl dX1_lowYear_20 ?_
      refine lv_iload hx hb dX1_lowYear_23 (lv_at hl 0 rfl) ?_
      refine tp_iald hx hb hK hR 7 0 (fun _ _ => rfl) rfl j rfl (by omega) (by decide) dX1_lowYear_25 ?_
      rw [show I 7 j = nI (lt j) from (hSi.2.2.2 j (by omega)).2.1]
      refine lv_iload_n hx hb dX1_lowYear_26 rfl (lv_at hl 3 rfl) ?_
      refine lv_icmp_ne (tgt := 55) hx hb dX1_lowYear_27 (by decide) (fun c2 => ?_) (fun c2 => ?_)
      · have hq : ¬ lt j = d := fun z => c2 (by rw [z])
        refine lv_aload_n hx hb dX1_lowYear_55 rfl (lv_at hl 2 rfl) ?_
        refine tb_get hx hb hts (fun w h => List.mem_cons_of_mem _ (inX1 w h)) hown hK hR 1 rfl rfl 4 (by decide) (hts _ (List.mem_cons_of_mem _ k42)) (fun _ h => h) rfl dX1_lowYear_56 ?_
        refine lv_iload hx hb dX1_lowYear_59 (lv_at hl 0 rfl) ?_
        refine tp_iald hx hb hK hR 6 0 (fun _ _ => rfl) rfl j rfl (by omega) (by decide) dX1_lowYear_61 ?_
        rw [show I 6 j = nI (ea j) from (hSi.2.2.2 j (by omega)).1]
        refine lv_iload_n hx hb dX1_lowYear_62 rfl (lv_at hl 3 rfl) ?_
        refine lv_icmp_ne (tgt := 88) hx hb dX1_lowYear_63 (by decide) (fun c3 => ?_) (fun c3 => ?_)
        · have hq2 : ¬ ea j = d := fun z => c3 (by rw [z])
          rw [show sLo f ea lt le mo d y j = sLo f ea lt le mo d y (j + 1) from by simp only [sLo]; rw [if_neg hq, if_neg hq2]] at hl
          refine lv_iinc (v := nI (j + 1)) (lv' := [(4, .int (nI (j + 1))), (3, .int (nI (sLo f ea lt le mo d y (j + 1)))), (0, .ref (ad 1)), (1, .int (nI d)), (2, .ref (ad ky))]) hx hb dX1_lowYear_88 hl (k := 0) rfl (nI_1 _) (by decide) rfl (fun ls hl => ?_)
          refine lv_goto (tgt := 10) hx hb dX1_lowYear_91 (by decide) ?_
          exact ih (j + 1)  H locs ls (by omega) (by omega)  hR hS (lv_sub hl [0, 1, 2, 3, 4] rfl)
        · have hq2 : ea j = d := (nI_eq (by omega) (by omega)).mp c3
          refine lv_iload_n hx hb dX1_lowYear_66 rfl (lv_at hl 1 rfl) ?_
          refine lv_aload_n hx hb dX1_lowYear_67 rfl (lv_at hl 4 rfl) ?_
          refine lv_aload_n hx hb dX1_lowYear_68 rfl (lv_at hl 2 rfl) ?_
          refine tb_get hx hb hts (fun w h => List.mem_cons_of_mem _ (inX1 w h)) hown hK hR 1 rfl rfl 5 (by decide) (hts _ (List.mem_cons_of_mem _ k43)) (fun _ h => h) rfl dX1_lowYear_69 ?_
          refine lv_iload hx hb dX1_lowYear_72 (lv_at hl 0 rfl) ?_
          refine tp_iald hx hb hK hR 7 0 (fun _ _ => rfl) rfl j rfl (by omega) (by decide) dX1_lowYear_74 ?_
          rw [show I 7 j = nI (lt j) from (hSi.2.2.2 j (by omega)).2.1]
          refine tp_iald hx hb hK hR ky 0 hky rfl (lt j) rfl (by omega) (by decide) dX1_lowYear_75 ?_
          rw [show I ky (lt j) = nI (y (lt j)) from hy (lt j) (by omega)]
          refine lv_aload_n hx hb dX1_lowYear_76 rfl (lv_at hl 2 rfl) ?_
          refine tb_get hx hb hts (fun w h => List.mem_cons_of_mem _ (inX1 w h)) hown hK hR 1 rfl rfl 7 (by decide) (hts _ (List.mem_cons_of_mem _ k45)) (fun _ h => h) rfl dX1_lowYear_77 ?_
          refine lv_iload hx hb dX1_lowYear_80 (lv_at hl 0 rfl) ?_
          refine tp_iald hx hb hK hR 9 0 (fun _ _ => rfl) rfl j rfl (by omega) (by decide) dX1_lowYear_82 ?_
          rw [show I 9 j = nI (mo j) from (hSi.2.2.2 j (by omega)).2.2.2]
          refine lv_isub hx hb dX1_lowYear_83 ?_
          refine va_mmax hx hb (hml.trans hl.1.symm) hown (hts _ (List.mem_cons_of_mem _ k376)) (hts _ (List.mem_cons_of_mem _ k25)) (hts _ (List.mem_cons_of_mem _ k2)) (hts _ (List.mem_cons_of_mem _ k26)) (Nat.le_trans (Nat.le_of_ble_eq_true rfl) hRf) (Nat.le_trans (Nat.le_of_ble_eq_true rfl) hRl) hRc hRs dX1_lowYear_84 ?_
          rw [show (if nI (sLo f ea lt le mo d y j) < (nI (y (lt j))) - (nI (mo j)) then (nI (y (lt j))) - (nI (mo j)) else nI (sLo f ea lt le mo d y j)) = nI (sLo f ea lt le mo d y (j + 1)) from by rw [mx_sub (by omega) (by omega) (by omega)]; simp only [sLo]; rw [if_neg hq, if_pos hq2]]
          refine lv_istore_n (lv' := [(3, .int (nI (sLo f ea lt le mo d y (j + 1)))), (4, .int (nI j)), (0, .ref (ad 1)), (1, .int (nI d)), (2, .ref (ad ky))]) hx hb dX1_lowYear_87 rfl hl (by decide) rfl (fun ls hl => ?_)
          refine lv_iinc (v := nI (j + 1)) (lv' := [(4, .int (nI (j + 1))), (3, .int (nI (sLo f ea lt le mo d y (j + 1)))), (0, .ref (ad 1)), (1, .int (nI d)), (2, .ref (ad ky))]) hx hb dX1_lowYear_88 hl (k := 1) rfl (nI_1 _) (by decide) rfl (fun ls hl => ?_)
          refine lv_goto (tgt := 10) hx hb dX1_lowYear_91 (by decide) ?_
          exact ih (j + 1)  H locs ls (by omega) (by omega)  hR hS (lv_sub hl [0, 1, 2, 3, 4] rfl)
      · have hq : lt j = d := (nI_eq (by omega) (by omega)).mp c2
        refine lv_iload_n hx hb dX1_lowYear_30 rfl (lv_at hl 1 rfl) ?_
        refine lv_aload_n hx hb dX1_lowYear_31 rfl (lv_at hl 4 rfl) ?_
        refine lv_aload_n hx hb dX1_lowYear_32 rfl (lv_at hl 2 rfl) ?_
        refine tb_get hx hb hts (fun w h => List.mem_cons_of_mem _ (inX1 w h)) hown hK hR 1 rfl rfl 4 (by decide) (hts _ (List.mem_cons_of_mem _ k42)) (fun _ h => h) rfl dX1_lowYear_33 ?_
        refine lv_iload hx hb dX1_lowYear_36 (lv_at hl 0 rfl) ?_
        refine tp_iald hx hb hK hR 6 0 (fun _ _ => rfl) rfl j rfl (by omega) (by decide) dX1_lowYear_38 ?_
        rw [show I 6 j = nI (ea j) from (hSi.2.2.2 j (by omega)).1]
        refine tp_iald hx hb hK hR ky 0 hky rfl (ea j) rfl (by omega) (by decide) dX1_lowYear_39 ?_
        rw [show I ky (ea j) = nI (y (ea j)) from hy (ea j) (by omega)]
        refine lv_aload_n hx hb dX1_lowYear_40 rfl (lv_at hl 2 rfl) ?_
        refine tb_get hx hb hts (fun w h => List.mem_cons_of_mem _ (inX1 w h)) hown hK hR 1 rfl rfl 6 (by decide) (hts _ (List.mem_cons_of_mem _ k44)) (fun _ h => h) rfl dX1_lowYear_41 ?_
        refine lv_iload hx hb dX1_lowYear_44 (lv_at hl 0 rfl) ?_
        refine tp_iald hx hb hK hR 8 0 (fun _ _ => rfl) rfl j rfl (by omega) (by decide) dX1_lowYear_46 ?_
        rw [show I 8 j = nI (le j) from (hSi.2.2.2 j (by omega)).2.2.1]
        refine lv_iadd hx hb dX1_lowYear_47 ?_
        refine va_mmax hx hb (hml.trans hl.1.symm) hown (hts _ (List.mem_cons_of_mem _ k376)) (hts _ (List.mem_cons_of_mem _ k25)) (hts _ (List.mem_cons_of_mem _ k2)) (hts _ (List.mem_cons_of_mem _ k26)) (Nat.le_trans (Nat.le_of_ble_eq_true rfl) hRf) (Nat.le_trans (Nat.le_of_ble_eq_true rfl) hRl) hRc hRs dX1_lowYear_48 ?_
        rw [show (if nI (sLo f ea lt le mo d y j) < (nI (y (ea j))) + (nI (le j)) then (nI (y (ea j))) + (nI (le j)) else nI (sLo f ea lt le mo d y j)) = nI (sLo f ea lt le mo d y (j + 1)) from by rw [mx_add (by omega) (by omega) (by omega)]; simp only [sLo]; rw [if_pos hq]]
        refine lv_istore_n (lv' := [(3, .int (nI (sLo f ea lt le mo d y (j + 1)))), (4, .int (nI j)), (0, .ref (ad 1)), (1, .int (nI d)), (2, .ref (ad ky))]) hx hb dX1_lowYear_51 rfl hl (by decide) rfl (fun ls hl => ?_)
        refine lv_goto (tgt := 88) hx hb dX1_lowYear_52 (by decide) ?_
        refine lv_iinc (v := nI (j + 1)) (lv' := [(4, .int (nI (j + 1))), (3, .int (nI (sLo f ea lt le mo d y (j + 1)))), (0, .ref (ad 1)), (1, .int (nI d)), (2, .ref (ad ky))]) hx hb dX1_lowYear_88 hl (k := 1) rfl (nI_1 _) (by decide) rfl (fun ls hl => ?_)
        refine lv_goto (tgt := 10) hx hb dX1_lowYear_91 (by decide) ?_
        exact ih (j + 1)  H locs ls (by omega) (by omega)  hR hS (lv_sub hl [0, 1, 2, 3, 4] rfl)
set_option maxHeartbeats 4000000 in
set_option maxRecDepth 100000 in
theorem mX1_lowYear (I : tI) (L : tL) {nd no : Nat} {f la : Nat → Nat} {ph : Nat → Int32} {w : Nat → Nat → Nat} {ea lt le mo : Nat → Nat} (ky d : Nat) (y : Nat → Nat) (hSi : cSi I nd no f la ph w ea lt le mo) (hwf : wfS nd no f la w ea lt le mo) (hd : d < nd) (hky : ∀ r q, wP n ad cs ky r q = some (.inl (cs 0, 8, .inl r))) (hy : ∀ i, i < nd → I ky i = nI (y i)) (hyb : ∀ i, i < nd → y i ≤ 255) : Met l yX1_lowYear wX1_lowYear ({ frames := 1, cells := 0, slots := 0, locals := 30 }) (va_Pc [.ref (ad 1), .int (nI d), .ref (ad ky)] (kB D cs base sa n ad I L)) (va_Qi (fun (r : Int32) (u : tI × tL) => r = nI (sLo f ea lt le mo d y no) ∧ u = (I, L)) (kA D cs base n ad) (fun q => base ≤ q)) 0 0 (fun q => base ≤ q) := by
  refine Met.ofW (cc := cX1_lowYear) (maxL := 5) (ret := (some .int)) (by decide) rfl ?_
  intro p e s m args below meth c s₁ B hml hv
  obtain ⟨rfl, hE, hR⟩ := hv
  have hx := B.exec
  have hb := B.bytes
  have hr := B.returns
  have hts := atoms_spec (ws := wX1_lowYear) B.pre
  have hown : s.vm.findClass RX1 = some m.cls := findClass_of_methodNamed B.named
  have hlocks := B.notSynchronized
  have hK := hE.K
  have hS : va_S (fun q => base ≤ q) s.heap s.heap [] := va_S.rf
  have hR : tR D vwCl base ad (tC (wP n ad cs) I L) s.heap := hR
  have hl := lv_entry ([.ref (ad 1), .int (nI d), .ref (ad ky)]) (n := 5) (Nat.le_of_ble_eq_true rfl)
  rw [lg_entry_eq]
  generalize (lg_sl ([.ref (ad 1), .int (nI d), .ref (ad ky)]) ++ List.replicate (5 - (lg_sl ([.ref (ad 1), .int (nI d), .ref (ad ky)])).length) Slot.unset).toArray = ls at hl ⊢
  have hl : lv_has ls 5 [(0, .ref (ad 1)), (1, .int (nI d)), (2, .ref (ad ky))] := hl
  obtain ⟨h_nd, h_no, h_d, h_o⟩ := id hwf
  refine lv_aload_n hx hb dX1_lowYear_0 rfl (lv_at hl 0 rfl) ?_
  refine tb_get hx hb hts (fun w h => List.mem_cons_of_mem _ (inX1 w h)) hown hK hR 1 rfl rfl 0 (by decide) (hts _ (List.mem_cons_of_mem _ k35)) (fun _ h => h) rfl dX1_lowYear_1 ?_
  refine lv_iload_n hx hb dX1_lowYear_4 rfl (lv_at hl 1 rfl) ?_
  refine tp_iald hx hb hK hR 2 0 (fun _ _ => rfl) rfl d rfl (by omega) (by decide) dX1_lowYear_5 ?_
  rw [show I 2 d = nI (f d) from (hSi.2.2.1 d (by omega)).1]
  refine lv_istore_n (lv' := [(3, .int (nI (f d))), (0, .ref (ad 1)), (1, .int (nI d)), (2, .ref (ad ky))]) hx hb dX1_lowYear_6 rfl hl (by decide) rfl (fun ls hl => ?_)
  refine lv_iconst (v := 0) hx hb dX1_lowYear_7 (by decide) ?_
  rw [show (0 : Int32) = nI 0 from nI_0.symm]
  refine lv_istore (lv' := [(4, .int (nI 0)), (3, .int (nI (f d))), (0, .ref (ad 1)), (1, .int (nI d)), (2, .ref (ad ky))]) hx hb dX1_lowYear_8 hl (by decide) rfl (fun ls hl => ?_)
  refine lpX1_lowYear ⟨hx, hb, hml, hown, hts⟩ hE (Nat.le_of_ble_eq_true rfl) (Nat.le_of_ble_eq_true rfl) (Nat.zero_le _) (Nat.zero_le _) I L ky d y hSi hwf hd hky hy hyb (fun H locs ls hR hS hl => ?_) (no + 1) 0 _ _ ls (Nat.zero_le _) (by omega) hR hS (lv_sub hl [0, 1, 2, 3, 4] rfl)
  refine lv_iload_n hx hb dX1_lowYear_94 rfl (lv_at hl 1 rfl) ?_
  exact W.iret (v := nI (sLo f ea lt le mo d y no)) hx hb hr (fun t ht hW => ⟨⟨_, (I, L), rfl, ⟨rfl, rfl⟩, by show tR _ _ _ _ _ t.heap; rw [ht]; exact hR⟩, hS.F ht⟩) hS.2.2 dX1_lowYear_95
set_option maxHeartbeats 4000000 in
set_option maxRecDepth 100000 in
theorem lpX1_highYear {p : Program} {e : Env} {R : Room} {s : State} {m : MethodId} {args : Array Value} {below : List Frame} {meth : Method} {c : Code} {cells slots : Nat} {Q : State → Prop} (S0 : CallFix p m c cX1_highYear 5 s args wX1_highYear RX1) (hE : eV D cs base sa s) (hRf : 1 ≤ R.frames) (hRl : 30 ≤ R.locals) (hRc : cells ≤ R.cells) (hRs : slots ≤ R.slots) (I : tI) (L : tL) {nd no : Nat} {f la : Nat → Nat} {ph : Nat → Int32} {w : Nat → Nat → Nat} {ea lt le mo : Nat → Nat} (ky d : Nat) (y : Nat → Nat) (hSi : cSi I nd no f la ph w ea lt le mo) (hwf : wfS nd no f la w ea lt le mo) (hd : d < nd) (hky : ∀ r q, wP n ad cs ky r q = some (.inl (cs 0, 8, .inl r))) (hy : ∀ i, i < nd → I ky i = nI (y i)) (hyb : ∀ i, i < nd → y i ≤ 255) (hO : ∀ j, j < no → y (ea j) + le j ≤ y (lt j))
    (kx : ∀ (H : Heap) (locs : List Loc) (ls : Array Slot), tR D vwCl base ad (tC (wP n ad cs) I L) H → va_S (fun q => base ≤ q) s.heap H locs → lv_has ls 5 [(4, .int (nI no)), (3, .int (nI (sHi la ea lt le mo d y no))), (0, .ref (ad 1)), (1, .int (nI d)), (2, .ref (ad ky))] → W p l e R s m args below meth c H locs cells slots Q (F0 m 94 ls [])) :
    ∀ (k j : Nat) (H : Heap) (locs : List Loc) (ls : Array Slot), j ≤ no → no + 1 ≤ j + k → tR D vwCl base ad (tC (wP n ad cs) I L) H → va_S (fun q => base ≤ q) s.heap H locs → lv_has ls 5 [(4, .int (nI j)), (3, .int (nI (sHi la ea lt le mo d y j))), (0, .ref (ad 1)), (1, .int (nI d)), (2, .ref (ad ky))] → W p l e R s m args below meth c H locs cells slots Q (F0 m 10 ls []) := by
  obtain ⟨hx, hb, hml, hown, hts⟩ := S0
  have hK := hE.K
  obtain ⟨h_nd, h_no, h_d, h_o⟩ := id hwf
  intro k
  induction k with
  | zero => intro j  H locs ls h1 h2; exact absurd h2 (by omega)
  | succ k ih =>
    intro j  H locs ls hj hk  hR hS hl
    refine lv_iload hx hb dX1_highYear_10 (lv_at hl 0 rfl) ?_
    refine lv_aload_n hx hb dX1_highYear_12 rfl (lv_at hl 2 rfl) ?_
    refine tb_get hx hb hts (fun w h => List.mem_cons_of_mem _ (inX1 w h)) hown hK hR 1 rfl rfl 9 (by decide) (hts _ (List.mem_cons_of_mem _ k48)) (fun _ h => h) rfl dX1_highYear_13 ?_
    rw [show I 1 9 = nI no from hSi.2.1]
    refine lv_icmp_ge (tgt := 94) hx hb dX1_highYear_16 (by decide) (fun c1 => ?_) (fun c1 => ?_)
    · have hjN : j = no := by have e9 := (nI_leI (by omega) (by omega)).mp c1; omega
      subst hjN
      exact kx  H locs ls  hR hS (lv_sub hl [0, 1, 2, 3, 4] rfl)
    · have hjN : j < no := by
        rcases Nat.lt_or_ge j no with q | q
        · exact q
        · exact absurd (nI_le (by omega) (by omega)) c1
      obtain ⟨h_ea, h_lt, h_ne, h_lm, h_mo⟩ := hwf.2.2.2 j hjN
      have h_y1 := hyb _ h_ea
      have h_y2 := hyb _ h_lt
      have h_S : sHi la ea lt le mo d y j ≤ 510 := sHi_le hwf hyb hd (by omega)
      have h_O := hO j hjN
      refine lv_aload_n hx hb dX1_highYear_19 rfl (lv_at hl 2 rfl) ?_
      refine tb_get hx hb hts (fun w h => List.mem_cons_of_mem _ (inX1 w h)) hown hK hR 1 rfl rfl 5 (by decide) (hts _ (List.mem_cons_of_mem _ k43)) (fun _ h => h) rfl dX1_highYear_20 ?_
      refine lv_iload hx hb dX1_highYear_23 (lv_at hl 0 rfl) ?_
      refine tp_iald hx hb hK hR 7 0 (fun _ _ => rfl) rfl j rfl (by omega) (by decide) dX1_highYear_25 ?_
      rw [show I 7 j = nI (lt j) from (hSi.2.2.2 j (by omega)).2.1]
      refine lv_iload_n hx hb dX1_highYear_26 rfl (lv_at hl 3 rfl) ?_
      refine lv_icmp_ne (tgt := 55) hx hb dX1_highYear_27 (by decide) (fun c2 => ?_) (fun c2 => ?_)
      · have hq : ¬ lt j = d := fun z => c2 (by rw [z])
        refine lv_aload_n hx hb dX1_highYear_55 rfl (lv_at hl 2 rfl) ?_
        refine tb_get hx hb hts (fun w h => List.mem_cons_of_mem _ (inX1 w h)) hown hK hR 1 rfl rfl 4 (by decide) (hts _ (List.mem_cons_of_mem _ k42)) (fun _ h => h) rfl dX1_highYear_56 ?_
        refine lv_iload hx hb dX1_highYear_59 (lv_at hl 0 rfl) ?_
        refine tp_iald hx hb hK hR 6 0 (fun _ _ => rfl) rfl j rfl (by omega) (by decide) dX1_highYear_61 ?_
        rw [show I 6 j = nI (ea j) from (hSi.2.2.2 j (by omega)).1]
        refine lv_iload_n hx hb dX1_highYear_62 rfl (lv_at hl 3 rfl) ?_
        refine lv_icmp_ne (tgt := 88) hx hb dX1_highYear_63 (by decide) (fun c3 => ?_) (fun c3 => ?_)
        · have hq2 : ¬ ea j = d := fun z => c3 (by rw [z])
          rw [show sHi la ea lt le mo d y j = sHi la ea lt le mo d y (j + 1) from by simp only [sHi]; rw [if_neg hq, if_neg hq2]] at hl
          refine lv_iinc (v := nI (j + 1)) (lv' := [(4, .int (nI (j + 1))), (3, .int (nI (sHi la ea lt le mo d y (j + 1)))), (0, .ref (ad 1)), (1, .int (nI d)), (2, .ref (ad ky))]) hx hb dX1_highYear_88 hl (k := 0) rfl (nI_1 _) (by decide) rfl (fun ls hl => ?_)
          refine lv_goto (tgt := 10) hx hb dX1_highYear_91 (by decide) ?_
          exact ih (j + 1)  H locs ls (by omega) (by omega)  hR hS (lv_sub hl [0, 1, 2, 3, 4] rfl)
        · have hq2 : ea j = d := (nI_eq (by omega) (by omega)).mp c3
          refine lv_iload_n hx hb dX1_highYear_66 rfl (lv_at hl 1 rfl) ?_
          refine lv_aload_n hx hb dX1_highYear_67 rfl (lv_at hl 4 rfl) ?_
          refine lv_aload_n hx hb dX1_highYear_68 rfl (lv_at hl 2 rfl) ?_
          refine tb_get hx hb hts (fun w h => List.mem_cons_of_mem _ (inX1 w h)) hown hK hR 1 rfl rfl 5 (by decide) (hts _ (List.mem_cons_of_mem _ k43)) (fun _ h => h) rfl dX1_highYear_69 ?_
          refine lv_iload hx hb dX1_highYear_72 (lv_at hl 0 rfl) ?_
          refine tp_iald hx hb hK hR 7 0 (fun _ _ => rfl) rfl j rfl (by omega) (by decide) dX1_highYear_74 ?_
          rw [show I 7 j = nI (lt j) from (hSi.2.2.2 j (by omega)).2.1]
          refine tp_iald hx hb hK hR ky 0 hky rfl (lt j) rfl (by omega) (by decide) dX1_highYear_75 ?_
          rw [show I ky (lt j) = nI (y (lt j)) from hy (lt j) (by omega)]
          refine lv_aload_n hx hb dX1_highYear_76 rfl (lv_at hl 2 rfl) ?_
          refine tb_get hx hb hts (fun w h => List.mem_cons_of_mem _ (inX1 w h)) hown hK hR 1 rfl rfl 6 (by decide) (hts _ (List.mem_cons_of_mem _ k44)) (fun _ h => h) rfl dX1_highYear_77 ?_
          refine lv_iload hx hb dX1_highYear_80 (lv_at hl 0 rfl) ?_
          refine tp_iald hx hb hK hR 8 0 (fun _ _ => rfl) rfl j rfl (by omega) (by decide) dX1_highYear_82 ?_
          rw [show I 8 j = nI (le j) from (hSi.2.2.2 j (by omega)).2.2.1]
          refine lv_isub hx hb dX1_highYear_83 ?_
          refine va_mmin hx hb (hml.trans hl.1.symm) hown (hts _ (List.mem_cons_of_mem _ k381)) (hts _ (List.mem_cons_of_mem _ k22)) (hts _ (List.mem_cons_of_mem _ k2)) (hts _ (List.mem_cons_of_mem _ k23)) (Nat.le_trans (Nat.le_of_ble_eq_true rfl) hRf) (Nat.le_trans (Nat.le_of_ble_eq_true rfl) hRl) hRc hRs dX1_highYear_84 ?_
          rw [show (if (nI (y (lt j))) - (nI (le j)) < nI (sHi la ea lt le mo d y j) then (nI (y (lt j))) - (nI (le j)) else nI (sHi la ea lt le mo d y j)) = nI (sHi la ea lt le mo d y (j + 1)) from by rw [mn_sub (by omega) (by omega) (by omega)]; simp only [sHi]; rw [if_neg hq, if_pos hq2]]
          refine lv_istore_n (lv' := [(3, .int (nI (sHi la ea lt le mo d y (j + 1)))), (4, .int (nI j)), (0, .ref (ad 1)), (1, .int (nI d)), (2, .ref (ad ky))]) hx hb dX1_highYear_87 rfl hl (by decide) rfl (fun ls hl => ?_)
          refine lv_iinc (v := nI (j + 1)) (lv' := [(4, .int (nI (j + 1))), (3, .int (nI (sHi la ea lt le mo d y (j + 1)))), (0, .ref (ad 1)), (1, .int (nI d)), (2, .ref (ad ky))]) hx hb dX1_highYear_88 hl (k := 1) rfl (nI_1 _) (by decide) rfl (fun ls hl => ?_)
          refine lv_goto (tgt := 10) hx hb dX1_highYear_91 (by decide) ?_
          exact ih (j + 1)  H locs ls (by omega) (by omega)  hR hS (lv_sub hl [0, 1, 2, 3, 4] rfl)
      · have hq : lt j = d := (nI_eq (by omega) (by omega)).mp c2
        refine lv_iload_n hx hb dX1_highYear_30 rfl (lv_at hl 1 rfl) ?_
        refine lv_aload_n hx hb dX1_highYear_31 rfl (lv_at hl 4 rfl) ?_
        refine lv_aload_n hx hb dX1_highYear_32 rfl (lv_at hl 2 rfl) ?_
        refine tb_get hx hb hts (fun w h => List.mem_cons_of_mem _ (inX1 w h)) hown hK hR 1 rfl rfl 4 (by decide) (hts _ (List.mem_cons_of_mem _ k42)) (fun _ h => h) rfl dX1_highYear_33 ?_
        refine lv_iload hx hb dX1_highYear_36 (lv_at hl 0 rfl) ?_
        refine tp_iald hx hb hK hR 6 0 (fun _ _ => rfl) rfl j rfl (by omega) (by decide) dX1_highYear_38 ?_
        rw [show I 6 j = nI (ea j) from (hSi.2.2.2 j (by omega)).1]
        refine tp_iald hx hb hK hR ky 0 hky rfl (ea j) rfl (by omega) (by decide) dX1_highYear_39 ?_
        rw [show I ky (ea j) = nI (y (ea j)) from hy (ea j) (by omega)]
        refine lv_aload_n hx hb dX1_highYear_40 rfl (lv_at hl 2 rfl) ?_
        refine tb_get hx hb hts (fun w h => List.mem_cons_of_mem _ (inX1 w h)) hown hK hR 1 rfl rfl 7 (by decide) (hts _ (List.mem_cons_of_mem _ k45)) (fun _ h => h) rfl dX1_highYear_41 ?_
        refine lv_iload hx hb dX1_highYear_44 (lv_at hl 0 rfl) ?_
        refine tp_iald hx hb hK hR 9 0 (fun _ _ => rfl) rfl j rfl (by omega) (by decide) dX1_highYear_46 ?_
        rw [show I 9 j = nI (mo j) from (hSi.2.2.2 j (by omega)).2.2.2]
        refine lv_iadd hx hb dX1_highYear_47 ?_
        refine va_mmin hx hb (hml.trans hl.1.symm) hown (hts _ (List.mem_cons_of_mem _ k381)) (hts _ (List.mem_cons_of_mem _ k22)) (hts _ (List.mem_cons_of_mem _ k2)) (hts _ (List.mem_cons_of_mem _ k23)) (Nat.le_trans (Nat.le_of_ble_eq_true rfl) hRf) (Nat.le_trans (Nat.le_of_ble_eq_true rfl) hRl) hRc hRs dX1_highYear_48 ?_
        rw [show (if (nI (y (ea j))) + (nI (mo j)) < nI (sHi la ea lt le mo d y j) then (nI (y (ea j))) + (nI (mo j)) else nI (sHi la ea lt le mo d y j)) = nI (sHi la ea lt le mo d y (j + 1)) from by rw [mn_add (by omega) (by omega) (by omega)]; simp only [sHi]; rw [if_pos hq]]
        refine lv_istore_n (lv' := [(3, .int (nI (sHi la ea lt le mo d y (j + 1)))), (4, .int (nI j)), (0, .ref (ad 1)), (1, .int (nI d)), (2, .ref (ad ky))]) hx hb dX1_highYear_51 rfl hl (by decide) rfl (fun ls hl => ?_)
        refine lv_goto (tgt := 88) hx hb dX1_highYear_52 (by decide) ?_
        refine lv_iinc (v := nI (j + 1)) (lv' := [(4, .int (nI (j + 1))), (3, .int (nI (sHi la ea lt le mo d y (j + 1)))), (0, .ref (ad 1)), (1, .int (nI d)), (2, .ref (ad ky))]) hx hb dX1_highYear_88 hl (k := 1) rfl (nI_1 _) (by decide) rfl (fun ls hl => ?_)
        refine lv_goto (tgt := 10) hx hb dX1_highYear_91 (by decide) ?_
        exact ih (j + 1)  H locs ls (by omega) (by omega)  hR hS (lv_sub hl [0, 1, 2, 3, 4] rfl)
set_option maxHeartbeats 4000000 in
set_option maxRecDepth 100000 in
theorem mX1_highYear (I : tI) (L : tL) {nd no : Nat} {f la : Nat → Nat} {ph : Nat → Int32} {w : Nat → Nat → Nat} {ea lt le mo : Nat → Nat} (ky d : Nat) (y : Nat → Nat) (hSi : cSi I nd no f la ph w ea lt le mo) (hwf : wfS nd no f la w ea lt le mo) (hd : d < nd) (hky : ∀ r q, wP n ad cs ky r q = some (.inl (cs 0, 8, .inl r))) (hy : ∀ i, i < nd → I ky i = nI (y i)) (hyb : ∀ i, i < nd → y i ≤ 255) (hO : ∀ j, j < no → y (ea j) + le j ≤ y (lt j)) : Met l yX1_highYear wX1_highYear ({ frames := 1, cells := 0, slots := 0, locals := 30 }) (va_Pc [.ref (ad 1), .int (nI d), .ref (ad ky)] (kB D cs base sa n ad I L)) (va_Qi (fun (r : Int32) (u : tI × tL) => r = nI (sHi la ea lt le mo d y no) ∧ u = (I, L)) (kA D cs base n ad) (fun q => base ≤ q)) 0 0 (fun q => base ≤ q) := by
  refine Met.ofW (cc := cX1_highYear) (maxL := 5) (ret := (some .int)) (by decide) rfl ?_
  intro p e s m args below meth c s₁ B hml hv
  obtain ⟨rfl, hE, hR⟩ := hv
  have hx := B.exec
  have hb := B.bytes
  have hr := B.returns
  have hts := atoms_spec (ws := wX1_highYear) B.pre
  have hown : s.vm.findClass RX1 = some m.cls := findClass_of_methodNamed B.named
  have hlocks := B.notSynchronized
  have hK := hE.K
  have hS : va_S (fun q => base ≤ q) s.heap s.heap [] := va_S.rf
  have hR : tR D vwCl base ad (tC (wP n ad cs) I L) s.heap := hR
  have hl := lv_entry ([.ref (ad 1), .int (nI d), .ref (ad ky)]) (n := 5) (Nat.le_of_ble_eq_true rfl)
  rw [lg_entry_eq]
  generalize (lg_sl ([.ref (ad 1), .int (nI d), .ref (ad ky)]) ++ List.replicate (5 - (lg_sl ([.ref (ad 1), .int (nI d), .ref (ad ky)])).length) Slot.unset).toArray = ls at hl ⊢
  have hl : lv_has ls 5 [(0, .ref (ad 1)), (1, .int (nI d)), (2, .ref (ad ky))] := hl
  obtain ⟨h_nd, h_no, h_d, h_o⟩ := id hwf
  refine lv_aload_n hx hb dX1_highYear_0 rfl (lv_at hl 0 rfl) ?_
  refine tb_get hx hb hts (fun w h => List.mem_cons_of_mem _ (inX1 w h)) hown hK hR 1 rfl rfl 1 (by decide) (hts _ (List.mem_cons_of_mem _ k37)) (fun _ h => h) rfl dX1_highYear_1 ?_
  refine lv_iload_n hx hb dX1_highYear_4 rfl (lv_at hl 1 rfl) ?_
  refine tp_iald hx hb hK hR 3 0 (fun _ _ => rfl) rfl d rfl (by omega) (by decide) dX1_highYear_5 ?_
  rw [show I 3 d = nI (la d) from (hSi.2.2.1 d (by omega)).2.1]
  refine lv_istore_n (lv' := [(3, .int (nI (la d))), (0, .ref (ad 1)), (1, .int (nI d)), (2, .ref (ad ky))]) hx hb dX1_highYear_6 rfl hl (by decide) rfl (fun ls hl => ?_)
  refine lv_iconst (v := 0) hx hb dX1_highYear_7 (by decide) ?_
  rw [show (0 : Int32) = nI 0 from nI_0.symm]
  refine lv_istore (lv' := [(4, .int (nI 0)), (3, .int (nI (la d))), (0, .ref (ad 1)), (1, .int (nI d)), (2, .ref (ad ky))]) hx hb dX1_highYear_8 hl (by decide) rfl (fun ls hl => ?_)
  refine lpX1_highYear ⟨hx, hb, hml, hown, hts⟩ hE (Nat.le_of_ble_eq_true rfl) (Nat.le_of_ble_eq_true rfl) (Nat.zero_le _) (Nat.zero_le _) I L ky d y hSi hwf hd hky hy hyb hO (fun H locs ls hR hS hl => ?_) (no + 1) 0 _ _ ls (Nat.zero_le _) (by omega) hR hS (lv_sub hl [0, 1, 2, 3, 4] rfl)
  refine lv_iload_n hx hb dX1_highYear_94 rfl (lv_at hl 1 rfl) ?_
  exact W.iret (v := nI (sHi la ea lt le mo d y no)) hx hb hr (fun t ht hW => ⟨⟨_, (I, L), rfl, ⟨rfl, rfl⟩, by show tR _ _ _ _ _ t.heap; rw [ht]; exact hR⟩, hS.F ht⟩) hS.2.2 dX1_highYear_95
end C1
end
section
/-! SUMS AND PICKS, on whole numbers -/
def sSum (g : Nat → Nat) (lo : Nat) : Nat → Nat
  | 0 => 0
  | m + 1 => sSum g lo m + g (lo + m)
theorem sSum_succ {g : Nat → Nat} {lo j : Nat} (h : lo ≤ j) : sSum g lo (j + 1 - lo) = sSum g lo (j - lo) + g j := by
  rw [show j + 1 - lo = (j - lo) + 1 by omega]
  show sSum g lo (j - lo) + g (lo + (j - lo)) = _
  rw [show lo + (j - lo) = j by omega]
theorem sSum_le {g : Nat → Nat} {lo m B : Nat} (h : ∀ i, i < m → g (lo + i) ≤ B) : sSum g lo m ≤ m * B := by
  induction m with
  | zero => exact Nat.zero_le _
  | succ m ih =>
    have h1 := ih (fun i hi => h i (by omega))
    have h2 := h m (by omega)
    show sSum g lo m + g (lo + m) ≤ (m + 1) * B
    rw [Nat.succ_mul]
    omega
theorem sSum_pos {g : Nat → Nat} {lo m : Nat} (hm : 0 < m) (h : ∀ i, i < m → 1 ≤ g (lo + i)) : 0 < sSum g lo m := by
  cases m with
  | zero => omega
  | succ m =>
    have h2 := h m (by omega)
    show 0 < sSum g lo m + g (lo + m)
    omega
/-- the first year from i on, m years at most behind it, at which the weights are more than r together -/
def sPick (g : Nat → Nat) : Nat → Nat → Nat → Nat
  | 0, i, _ => i
  | m + 1, i, r => if r < g i then i else sPick g m (i + 1) (r - g i)
theorem sPick_le (g : Nat → Nat) (m i r : Nat) : i ≤ sPick g m i r ∧ sPick g m i r ≤ i + m := by
  induction m generalizing i r with
  | zero => exact ⟨Nat.le_refl _, Nat.le_refl _⟩
  | succ m ih =>
    simp only [sPick]
    split
    · omega
    · have := ih (i + 1) (r - g i)
      omega
section SL
variable {nd no : Nat} {f la : Nat → Nat} {w : Nat → Nat → Nat} {ea lt le mo : Nat → Nat} {d : Nat} {y : Nat → Nat}
theorem sLo_ge (j : Nat) : f d ≤ sLo f ea lt le mo d y j := by
  induction j with
  | zero => exact Nat.le_refl _
  | succ j ih =>
    simp only [sLo]
    split
    · split <;> omega
    · split
      · split <;> omega
      · exact ih
theorem sHi_la (j : Nat) : sHi la ea lt le mo d y j ≤ la d := by
  induction j with
  | zero => exact Nat.le_refl _
  | succ j ih =>
    simp only [sHi]
    split
    · split <;> omega
    · split
      · split <;> omega
      · exact ih
/-- what all orders of d ask of a year v, by the orders below j -/
def sOk (f la ea lt le mo : Nat → Nat) (d : Nat) (y : Nat → Nat) (v j : Nat) : Prop := f d ≤ v ∧ v ≤ la d ∧ ∀ k, k < j → (lt k = d → y (ea k) + le k ≤ v ∧ v ≤ y (ea k) + mo k) ∧ (ea k = d → v + le k ≤ y (lt k) ∧ y (lt k) ≤ v + mo k)
theorem sOk_iff (hle : ∀ k, k < no → ea k ≠ lt k ∧ y (ea k) + le k ≤ y (lt k)) {v : Nat} {j : Nat} (hj : j ≤ no) : sOk f la ea lt le mo d y v j ↔ sLo f ea lt le mo d y j ≤ v ∧ v ≤ sHi la ea lt le mo d y j := by
  induction j with
  | zero =>
    show (f d ≤ v ∧ v ≤ la d ∧ _) ↔ f d ≤ v ∧ v ≤ la d
    exact ⟨fun h => ⟨h.1, h.2.1⟩, fun h => ⟨h.1, h.2, fun k hk => absurd hk (Nat.not_lt_zero _)⟩⟩
  | succ j ih =>
    have hx := ih (by omega)
    obtain ⟨hne, hyl⟩ := hle j (by omega)
    have key : sOk f la ea lt le mo d y v (j + 1) ↔ sOk f la ea lt le mo d y v j ∧ ((lt j = d → y (ea j) + le j ≤ v ∧ v ≤ y (ea j) + mo j) ∧ (ea j = d → v + le j ≤ y (lt j) ∧ y (lt j) ≤ v + mo j)) := by
      constructor
      · intro h
        exact ⟨⟨h.1, h.2.1, fun k hk => h.2.2 k (by omega)⟩, h.2.2 j (by omega)⟩
      · intro h
        refine ⟨h.1.1, h.1.2.1, fun k hk => ?_⟩
        by_cases e : k = j
        · rw [e]; exact h.2
        · exact h.1.2.2 k (by omega)
    rw [key, hx]
    simp only [sLo, sHi]
    by_cases h1 : lt j = d
    · have h2 : ¬ ea j = d := fun q => hne (by omega)
      simp only [h1, h2, if_true, forall_const, false_imp_iff, and_true]
      split <;> split <;> omega
    · by_cases h2 : ea j = d
      · simp only [h1, h2, if_true, if_false, forall_const, false_imp_iff, true_and]
        rw [h2] at hyl
        split <;> split <;> omega
      · simp only [h1, h2, if_false, false_imp_iff, and_true]
end SL
theorem lN_lt0 {a b : Nat} (hb : b < 2 ^ 31) (ha : a < 2 ^ 31) : (0 ≤ lg_cmp (lN a - lN b) 0) ↔ b ≤ a := by
  rw [lg_cmp_ge]
  by_cases h : b ≤ a
  · rw [lN_sub h]
    exact ⟨fun _ => h, fun _ => by rw [Int64.le_iff_toInt_le, lN_toInt (by omega)]; show (0 : Int) ≤ _; omega⟩
  · refine ⟨fun q => ?_, fun q => absurd q h⟩
    exfalso
    rw [show lN a - lN b = -(lN (b - a)) from by rw [← lN_sub (by omega)]; simp, Int64.le_iff_toInt_le] at q
    have h1 : (-(lN (b - a))).toInt = -((b - a : Nat) : Int) := by
      rw [Int64.toInt_neg, lN_toInt (by omega)]
      rw [Int.bmod_eq_of_le (by omega) (by omega)]
    rw [h1] at q
    have h2 : (0 : Int64).toInt = 0 := rfl
    rw [h2] at q
    omega
end
section
theorem lN_gt0 {a : Nat} (h : 0 < a) (ha : a < 2 ^ 31) : 0 < lg_cmp (lN a) 0 := by
  unfold lg_cmp
  rw [if_pos]
  · decide
  · show (0 : Int64) < lN a
    rw [Int64.lt_iff_toInt_lt, lN_toInt ha]
    show (0 : Int) < _
    omega
theorem mx_n {a b : Nat} (ha : a < 2 ^ 29) (hb : b < 2 ^ 29) : (if nI a < nI b then nI b else nI a) = nI (if a < b then b else a) := by
  by_cases h : a < b
  · rw [if_pos h, if_pos (nI_lt h (by omega))]
  · rw [if_neg h, if_neg (nI_nlt (by omega) (by omega))]
theorem mn_n {a b : Nat} (ha : a < 2 ^ 29) (hb : b < 2 ^ 29) : (if nI b < nI a then nI b else nI a) = nI (if b < a then b else a) := by
  by_cases h : b < a
  · rw [if_pos h, if_pos (nI_lt h (by omega))]
  · rw [if_neg h, if_neg (nI_nlt (by omega) (by omega))]
theorem lN_ne0 {a : Nat} (h : 0 < a) (ha : a < 2 ^ 31) : ¬ lN a = 0 := fun z => by
  have h1 : lN a = lN 0 := z
  have := (lN_eq ha (by decide)).mp h1
  omega
end
section
section C2
variable {l : Launch} {D : va_G} {cs : Nat → ClassId} {base : Nat} {sa : Nat → Nat} {n : Nat} {ad : Nat → Nat}
set_option maxHeartbeats 4000000 in
set_option maxRecDepth 100000 in
theorem lp1X1_drawnYear {p : Program} {e : Env} {R : Room} {s : State} {m : MethodId} {args : Array Value} {below : List Frame} {meth : Method} {c : Code} {cells slots : Nat} {Q : State → Prop} (S0 : CallFix p m c cX1_drawnYear 12 s args wX1_drawnYear RX1) (hE : eV D cs base sa s) (hRf : 2 ≤ R.frames) (hRl : 54 ≤ R.locals) (hRc : cells ≤ R.cells) (hRs : slots ≤ R.slots) (I : tI) (L : tL) {nd no : Nat} {f la : Nat → Nat} {ph : Nat → Int32} {w : Nat → Nat → Nat} {ea lt le mo : Nat → Nat} (ky d : Nat) (y : Nat → Nat) (x : Nat) (hSi : cSi I nd no f la ph w ea lt le mo) (hwf : wfS nd no f la w ea lt le mo) (hd : d < nd) (hky : ∀ r q, wP n ad cs ky r q = some (.inl (cs 0, 8, .inl r))) (hy : ∀ i, i < nd → I ky i = nI (y i)) (hyb : ∀ i, i < nd → y i ≤ 255) (lo hi : Nat) (hlo : lo = sLo f ea lt le mo d y no) (hhi : hi = sHi la ea lt le mo d y no) (hlh : lo ≤ hi)
    (kx : ∀ (H : Heap) (locs : List Loc) (ls : Array Slot), lo ≤ hi + 1 → tR D vwCl base ad (tC (wP n ad cs) I L) H → va_S (fun q => base ≤ q) s.heap H locs → lv_has ls 12 [(9, .int (nI (hi + 1))), (7, .long (lN (sSum (fun q => w d (q - f d)) lo ((hi + 1) - lo)))), (6, .int (nI hi)), (5, .int (nI lo)), (0, .ref (ad 1)), (1, .int (nI d)), (2, .ref (ad ky)), (3, .long (lN x))] → W p l e R s m args below meth c H locs cells slots Q (F0 m 49 ls [])) :
    ∀ (k j : Nat) (H : Heap) (locs : List Loc) (ls : Array Slot), j ≤ hi + 1 → hi + 1 + 1 ≤ j + k → lo ≤ j → tR D vwCl base ad (tC (wP n ad cs) I L) H → va_S (fun q => base ≤ q) s.heap H locs → lv_has ls 12 [(9, .int (nI j)), (7, .long (lN (sSum (fun q => w d (q - f d)) lo (j - lo)))), (6, .int (nI hi)), (5, .int (nI lo)), (0, .ref (ad 1)), (1, .int (nI d)), (2, .ref (ad ky)), (3, .long (lN x))] → W p l e R s m args below meth c H locs cells slots Q (F0 m 23 ls []) := by
  obtain ⟨hx, hb, hml, hown, hts⟩ := S0
  have hK := hE.K
  obtain ⟨h_nd, h_no, h_d, h_o⟩ := id hwf
  have h_lo : f d ≤ lo := by rw [hlo]; exact sLo_ge no
  have h_hi : hi ≤ la d := by rw [hhi]; exact sHi_la no
  obtain ⟨h_f, h_la, h_63, h_w⟩ := h_d d hd
  intro k
  induction k with
  | zero => intro j  H locs ls h1 h2; exact absurd h2 (by omega)
  | succ k ih =>
    intro j  H locs ls hj hk hlj hR hS hl
    refine lv_iload hx hb dX1_drawnYear_23 (lv_at hl 0 rfl) ?_
    refine lv_iload hx hb dX1_drawnYear_25 (lv_at hl 2 rfl) ?_
    refine lv_icmp_gt (tgt := 49) hx hb dX1_drawnYear_27 (by decide) (fun c1 => ?_) (fun c1 => ?_)
    · have hjN : j = hi + 1 := by have e9 := (nI_ltI (by omega) (by omega)).mp c1; omega
      subst hjN
      exact kx  H locs ls hlj hR hS (lv_sub hl [0, 1, 2, 3, 4, 5, 6, 7] rfl)
    · have hjN : j < hi + 1 := by
        rcases Nat.lt_or_ge j (hi + 1) with q | q
        · exact q
        · exact absurd (nI_lt (by omega) (by omega)) c1
      refine lv_lload hx hb dX1_drawnYear_30 (lv_at hl 1 rfl) ?_
      refine lv_aload_n hx hb dX1_drawnYear_32 rfl (lv_at hl 4 rfl) ?_
      refine lv_iload_n hx hb dX1_drawnYear_33 rfl (lv_at hl 5 rfl) ?_
      refine lv_iload hx hb dX1_drawnYear_34 (lv_at hl 0 rfl) ?_
      refine kc_i (va_runV (As := [.int (nI d), .int (nI j)]) (rest := [.long (lN (sSum (fun q => w d (q - f d)) lo (j - lo)))]) ⟨hx, hb, hml, hown, hts⟩ (mX1_weightOf I L d (j - f d) (nI j) (by omega) (by rw [show I 2 d = nI (f d) from (hSi.2.2.1 d hd).1, pk_sub (by omega)]) (by omega)) (cwV 2 hts (kw_V k292 k294 ks9 k3 k295) rfl rfl rfl (by decide +kernel) ⟨Nat.le_trans (Nat.le_of_ble_eq_true rfl) hRf, Nat.le_trans (Nat.le_of_ble_eq_true rfl) hRl⟩) (kB_preV hE hR hS 1 rfl rfl [.int (nI d), .int (nI j)]) rfl rfl hl.1 rfl (lv_room (Nat.le_of_ble_eq_true rfl)) dX1_drawnYear_36 ⟨hRc, hRs⟩) hS (fun r u H locs hw hR hS => ?_)
      obtain ⟨rfl, rfl⟩ := hw
      have hR : tR D vwCl base ad (tC (wP n ad cs) I L) H := hR
      rw [show (I (10 + d) (j - f d)) = nI (w d (j - f d)) from (hSi.2.2.1 d hd).2.2.2 _ (by omega)]
      have h_wj := h_w (j - f d) (by omega)
      refine lv_i2l hx hb dX1_drawnYear_39 rfl ?_
      refine lv_ladd hx hb dX1_drawnYear_40 ?_
      rw [show ((lN (sSum (fun q => w d (q - f d)) lo (j - lo))) + ((nI (w d (j - f d))).toInt64)) = lN (sSum (fun q => w d (q - f d)) lo (j + 1 - lo)) from by rw [nI_l (by omega), lN_add, sSum_succ hlj]]
      refine lv_lstore (lv' := [(7, .long (lN (sSum (fun q => w d (q - f d)) lo (j + 1 - lo)))), (9, .int (nI j)), (6, .int (nI hi)), (5, .int (nI lo)), (0, .ref (ad 1)), (1, .int (nI d)), (2, .ref (ad ky)), (3, .long (lN x))]) hx hb dX1_drawnYear_41 hl (by decide) rfl (fun ls hl => ?_)
      refine lv_iinc (v := nI (j + 1)) (lv' := [(9, .int (nI (j + 1))), (7, .long (lN (sSum (fun q => w d (q - f d)) lo (j + 1 - lo)))), (6, .int (nI hi)), (5, .int (nI lo)), (0, .ref (ad 1)), (1, .int (nI d)), (2, .ref (ad ky)), (3, .long (lN x))]) hx hb dX1_drawnYear_43 hl (k := 1) rfl (nI_1 _) (by decide) rfl (fun ls hl => ?_)
      refine lv_goto (tgt := 23) hx hb dX1_drawnYear_46 (by decide) ?_
      exact ih (j + 1)  H locs ls (by omega) (by omega) (by omega) hR hS (lv_sub hl [0, 1, 2, 3, 4, 5, 6, 7] rfl)
set_option maxHeartbeats 4000000 in
set_option maxRecDepth 100000 in
theorem lp2X1_drawnYear {p : Program} {e : Env} {R : Room} {s : State} {m : MethodId} {args : Array Value} {below : List Frame} {meth : Method} {c : Code} {cells slots : Nat} {Q : State → Prop} (S0 : CallFix p m c cX1_drawnYear 12 s args wX1_drawnYear RX1) (hE : eV D cs base sa s) (hRf : 2 ≤ R.frames) (hRl : 54 ≤ R.locals) (hRc : cells ≤ R.cells) (hRs : slots ≤ R.slots) (I : tI) (L : tL) {nd no : Nat} {f la : Nat → Nat} {ph : Nat → Int32} {w : Nat → Nat → Nat} {ea lt le mo : Nat → Nat} (ky d : Nat) (y : Nat → Nat) (A : Nat) (hSi : cSi I nd no f la ph w ea lt le mo) (hwf : wfS nd no f la w ea lt le mo) (hd : d < nd) (hky : ∀ r q, wP n ad cs ky r q = some (.inl (cs 0, 8, .inl r))) (hy : ∀ i, i < nd → I ky i = nI (y i)) (hyb : ∀ i, i < nd → y i ≤ 255) (lo hi : Nat) (hlo : lo = sLo f ea lt le mo d y no) (hhi : hi = sHi la ea lt le mo d y no) (hlh : lo ≤ hi)
    (kr : ∀ (H : Heap) (locs : List Loc) (ls : Array Slot), tR D vwCl base ad (tC (wP n ad cs) I L) H → va_S (fun q => base ≤ q) s.heap H locs → W p l e R s m args below meth c H locs cells slots Q (F0 m 99 ls [.int (nI A)]))
    (kx : ∀ (r : Nat) (H : Heap) (locs : List Loc) (ls : Array Slot), lo ≤ hi → sPick (fun q => w d (q - f d)) (hi - hi) hi r = A → r < 2 ^ 31 → tR D vwCl base ad (tC (wP n ad cs) I L) H → va_S (fun q => base ≤ q) s.heap H locs → lv_has ls 12 [(11, .int (nI hi)), (9, .long (lN r)), (6, .int (nI hi)), (0, .ref (ad 1)), (1, .int (nI d))] → W p l e R s m args below meth c H locs cells slots Q (F0 m 106 ls [])) :
    ∀ (k j : Nat) (r : Nat) (H : Heap) (locs : List Loc) (ls : Array Slot), j ≤ hi → hi + 1 ≤ j + k → lo ≤ j → sPick (fun q => w d (q - f d)) (hi - j) j r = A → r < 2 ^ 31 → tR D vwCl base ad (tC (wP n ad cs) I L) H → va_S (fun q => base ≤ q) s.heap H locs → lv_has ls 12 [(11, .int (nI j)), (9, .long (lN r)), (6, .int (nI hi)), (0, .ref (ad 1)), (1, .int (nI d))] → W p l e R s m args below meth c H locs cells slots Q (F0 m 70 ls []) := by
  obtain ⟨hx, hb, hml, hown, hts⟩ := S0
  have hK := hE.K
  obtain ⟨h_nd, h_no, h_d, h_o⟩ := id hwf
  have h_lo : f d ≤ lo := by rw [hlo]; exact sLo_ge no
  have h_hi : hi ≤ la d := by rw [hhi]; exact sHi_la no
  obtain ⟨h_f, h_la, h_63, h_w⟩ := h_d d hd
  intro k
  induction k with
  | zero => intro j r H locs ls h1 h2; exact absurd h2 (by omega)
  | succ k ih =>
    intro j r H locs ls hj hk hlj hA hrb hR hS hl
    refine lv_iload hx hb dX1_drawnYear_70 (lv_at hl 0 rfl) ?_
    refine lv_iload hx hb dX1_drawnYear_72 (lv_at hl 2 rfl) ?_
    refine lv_icmp_ge (tgt := 106) hx hb dX1_drawnYear_74 (by decide) (fun c1 => ?_) (fun c1 => ?_)
    · have hjN : j = hi := by have e9 := (nI_leI (by omega) (by omega)).mp c1; omega
      subst hjN
      exact kx r H locs ls hlj hA hrb hR hS (lv_sub hl [0, 1, 2, 3, 4] rfl)
    · have hjN : j < hi := by
        rcases Nat.lt_or_ge j hi with q | q
        · exact q
        · exact absurd (nI_le (by omega) (by omega)) c1
      refine lv_lload hx hb dX1_drawnYear_77 (lv_at hl 1 rfl) ?_
      refine lv_aload_n hx hb dX1_drawnYear_79 rfl (lv_at hl 3 rfl) ?_
      refine lv_iload_n hx hb dX1_drawnYear_80 rfl (lv_at hl 4 rfl) ?_
      refine lv_iload hx hb dX1_drawnYear_81 (lv_at hl 0 rfl) ?_
      refine kc_i (va_runV (As := [.int (nI d), .int (nI j)]) (rest := [.long (lN r)]) ⟨hx, hb, hml, hown, hts⟩ (mX1_weightOf I L d (j - f d) (nI j) (by omega) (by rw [show I 2 d = nI (f d) from (hSi.2.2.1 d hd).1, pk_sub (by omega)]) (by omega)) (cwV 2 hts (kw_V k292 k294 ks9 k3 k295) rfl rfl rfl (by decide +kernel) ⟨Nat.le_trans (Nat.le_of_ble_eq_true rfl) hRf, Nat.le_trans (Nat.le_of_ble_eq_true rfl) hRl⟩) (kB_preV hE hR hS 1 rfl rfl [.int (nI d), .int (nI j)]) rfl rfl hl.1 rfl (lv_room (Nat.le_of_ble_eq_true rfl)) dX1_drawnYear_83 ⟨hRc, hRs⟩) hS (fun r u H locs hw hR hS => ?_)
      obtain ⟨rfl, rfl⟩ := hw
      have hR : tR D vwCl base ad (tC (wP n ad cs) I L) H := hR
      rw [show (I (10 + d) (j - f d)) = nI (w d (j - f d)) from (hSi.2.2.1 d hd).2.2.2 _ (by omega)]
      have h_wj := h_w (j - f d) (by omega)
      refine lv_i2l hx hb dX1_drawnYear_86 rfl ?_
      refine lv_lsub hx hb dX1_drawnYear_87 ?_
      rw [show ((lN r) - ((nI (w d (j - f d))).toInt64)) = lN r - lN (w d (j - f d)) from by rw [nI_l (by omega)]]
      refine lv_lstore (lv' := [(9, .long (lN r - lN (w d (j - f d)))), (11, .int (nI j)), (6, .int (nI hi)), (0, .ref (ad 1)), (1, .int (nI d))]) hx hb dX1_drawnYear_88 hl (by decide) rfl (fun ls hl => ?_)
      refine lv_lload hx hb dX1_drawnYear_90 (lv_at hl 0 rfl) ?_
      refine lv_lconst (v := 0) hx hb dX1_drawnYear_92 (by decide) ?_
      refine W.lcmp hx hb dX1_drawnYear_93 ?_
      refine lv_if_ge (tgt := 100) hx hb dX1_drawnYear_94 (by decide) (fun c2 => ?_) (fun c2 => ?_)
      · have hq : w d (j - f d) ≤ r := (lN_lt0 (by omega) hrb).mp c2
        rw [lN_sub hq] at hl
        have hA2 : sPick (fun q => w d (q - f d)) (hi - (j + 1)) (j + 1) (r - w d (j - f d)) = A := by rw [← hA, show hi - j = (hi - (j + 1)) + 1 by omega]; simp only [sPick]; rw [if_neg (by omega)]
        refine lv_iinc (v := nI (j + 1)) (lv' := [(11, .int (nI (j + 1))), (9, .long (lN (r - w d (j - f d)))), (6, .int (nI hi)), (0, .ref (ad 1)), (1, .int (nI d))]) hx hb dX1_drawnYear_100 hl (k := 1) rfl (nI_1 _) (by decide) rfl (fun ls hl => ?_)
        refine lv_goto (tgt := 70) hx hb dX1_drawnYear_103 (by decide) ?_
        exact ih (j + 1) (r - w d (j - f d)) H locs ls (by omega) (by omega) (by omega) hA2 (by omega) hR hS (lv_sub hl [0, 1, 2, 3, 4] rfl)
      · have hq : r < w d (j - f d) := Nat.lt_of_not_le (fun z => c2 ((lN_lt0 (by omega) hrb).mpr z))
        have hAj : A = j := by rw [← hA, show hi - j = (hi - j - 1) + 1 by omega]; simp only [sPick]; rw [if_pos hq]
        refine lv_iload hx hb dX1_drawnYear_97 (lv_at hl 1 rfl) ?_
        rw [← hAj]
        exact kr H locs ls hR hS
set_option maxHeartbeats 4000000 in
set_option maxRecDepth 100000 in
theorem mX1_drawnYear (I : tI) (L : tL) {nd no : Nat} {f la : Nat → Nat} {ph : Nat → Int32} {w : Nat → Nat → Nat} {ea lt le mo : Nat → Nat} (ky d : Nat) (y : Nat → Nat) (x : Nat) (hSi : cSi I nd no f la ph w ea lt le mo) (hwf : wfS nd no f la w ea lt le mo) (hd : d < nd) (hky : ∀ r q, wP n ad cs ky r q = some (.inl (cs 0, 8, .inl r))) (hy : ∀ i, i < nd → I ky i = nI (y i)) (hyb : ∀ i, i < nd → y i ≤ 255) (hO : ∀ j, j < no → y (ea j) + le j ≤ y (lt j)) (lo hi : Nat) (hlo : lo = sLo f ea lt le mo d y no) (hhi : hi = sHi la ea lt le mo d y no) (hlh : lo ≤ hi) (hx31 : x < 2 ^ 31) : Met l yX1_drawnYear wX1_drawnYear ({ frames := 2, cells := 0, slots := 0, locals := 54 }) (va_Pc [.ref (ad 1), .int (nI d), .ref (ad ky), .long (lN x)] (kB D cs base sa n ad I L)) (va_Qi (fun (r : Int32) (u : tI × tL) => r = nI (sPick (fun q => w d (q - f d)) (hi - lo) lo (x % sSum (fun q => w d (q - f d)) lo (hi + 1 - lo))) ∧ u = (I, L)) (kA D cs base n ad) (fun q => base ≤ q)) 0 0 (fun q => base ≤ q) := by
  refine Met.ofW (cc := cX1_drawnYear) (maxL := 12) (ret := (some .int)) (by decide) rfl ?_
  intro p e s m args below meth c s₁ B hml hv
  obtain ⟨rfl, hE, hR⟩ := hv
  have hx := B.exec
  have hb := B.bytes
  have hr := B.returns
  have hts := atoms_spec (ws := wX1_drawnYear) B.pre
  have hown : s.vm.findClass RX1 = some m.cls := findClass_of_methodNamed B.named
  have hlocks := B.notSynchronized
  have hK := hE.K
  have hS : va_S (fun q => base ≤ q) s.heap s.heap [] := va_S.rf
  have hR : tR D vwCl base ad (tC (wP n ad cs) I L) s.heap := hR
  have hl := lv_entry ([.ref (ad 1), .int (nI d), .ref (ad ky), .long (lN x)]) (n := 12) (Nat.le_of_ble_eq_true rfl)
  rw [lg_entry_eq]
  generalize (lg_sl ([.ref (ad 1), .int (nI d), .ref (ad ky), .long (lN x)]) ++ List.replicate (12 - (lg_sl ([.ref (ad 1), .int (nI d), .ref (ad ky), .long (lN x)])).length) Slot.unset).toArray = ls at hl ⊢
  have hl : lv_has ls 12 [(0, .ref (ad 1)), (1, .int (nI d)), (2, .ref (ad ky)), (3, .long (lN x))] := hl
  obtain ⟨h_nd, h_no, h_d, h_o⟩ := id hwf
  have h_lo : f d ≤ lo := by rw [hlo]; exact sLo_ge no
  have h_hi : hi ≤ la d := by rw [hhi]; exact sHi_la no
  obtain ⟨h_f, h_la, h_63, h_w⟩ := h_d d hd
  have h_S1 : sSum (fun q => w d (q - f d)) lo (hi + 1 - lo) ≤ (hi + 1 - lo) * 1000 := sSum_le (fun i hi9 => (h_w _ (by omega)).2)
  have h_S2 : (hi + 1 - lo) * 1000 ≤ 64000 := by omega
  have h_S0 : 0 < sSum (fun q => w d (q - f d)) lo (hi + 1 - lo) := sSum_pos (by omega) (fun i hi9 => (h_w _ (by omega)).1)
  refine lv_aload_n hx hb dX1_drawnYear_0 rfl (lv_at hl 0 rfl) ?_
  refine lv_iload_n hx hb dX1_drawnYear_1 rfl (lv_at hl 1 rfl) ?_
  refine lv_aload_n hx hb dX1_drawnYear_2 rfl (lv_at hl 2 rfl) ?_
  refine kc_i (va_runV (As := [.int (nI d), .ref (ad ky)]) (rest := []) ⟨hx, hb, hml, hown, hts⟩ (mX1_lowYear I L ky d y hSi hwf hd hky hy hyb) (cwV 2 hts (kw_V k372 k374 ks17 k3 k375) rfl rfl rfl (by decide +kernel) ⟨Nat.le_of_ble_eq_true rfl, Nat.le_of_ble_eq_true rfl⟩) (kB_preV hE hR hS 1 rfl rfl [.int (nI d), .ref (ad ky)]) rfl rfl hl.1 rfl (lv_room (Nat.le_of_ble_eq_true rfl)) dX1_drawnYear_3 ⟨Nat.le_of_ble_eq_true rfl, Nat.le_of_ble_eq_true rfl⟩) hS (fun r u H locs hw hR hS => ?_)
  obtain ⟨rfl, rfl⟩ := hw
  have hR : tR D vwCl base ad (tC (wP n ad cs) I L) H := hR
  rw [show (nI (sLo f ea lt le mo d y no)) = nI lo from by rw [hlo]]
  refine lv_istore (lv' := [(5, .int (nI lo)), (0, .ref (ad 1)), (1, .int (nI d)), (2, .ref (ad ky)), (3, .long (lN x))]) hx hb dX1_drawnYear_6 hl (by decide) rfl (fun ls hl => ?_)
  refine lv_aload_n hx hb dX1_drawnYear_8 rfl (lv_at hl 1 rfl) ?_
  refine lv_iload_n hx hb dX1_drawnYear_9 rfl (lv_at hl 2 rfl) ?_
  refine lv_aload_n hx hb dX1_drawnYear_10 rfl (lv_at hl 3 rfl) ?_
  refine kc_i (va_runV (As := [.int (nI d), .ref (ad ky)]) (rest := []) ⟨hx, hb, hml, hown, hts⟩ (mX1_highYear I L ky d y hSi hwf hd hky hy hyb hO) (cwV 2 hts (kw_V k377 k379 ks18 k3 k380) rfl rfl rfl (by decide +kernel) ⟨Nat.le_of_ble_eq_true rfl, Nat.le_of_ble_eq_true rfl⟩) (kB_preV hE hR hS 1 rfl rfl [.int (nI d), .ref (ad ky)]) rfl rfl hl.1 rfl (lv_room (Nat.le_of_ble_eq_true rfl)) dX1_drawnYear_11 ⟨Nat.le_of_ble_eq_true rfl, Nat.le_of_ble_eq_true rfl⟩) hS (fun r u H locs hw hR hS => ?_)
  obtain ⟨rfl, rfl⟩ := hw
  have hR : tR D vwCl base ad (tC (wP n ad cs) I L) H := hR
  rw [show (nI (sHi la ea lt le mo d y no)) = nI hi from by rw [hhi]]
  refine lv_istore (lv' := [(6, .int (nI hi)), (5, .int (nI lo)), (0, .ref (ad 1)), (1, .int (nI d)), (2, .ref (ad ky)), (3, .long (lN x))]) hx hb dX1_drawnYear_14 hl (by decide) rfl (fun ls hl => ?_)
  refine lv_lconst (v := 0) hx hb dX1_drawnYear_16 (by decide) ?_
  rw [show (0 : Int64) = lN (sSum (fun q => w d (q - f d)) lo (lo - lo)) from by rw [Nat.sub_self]; rfl]
  refine lv_lstore (lv' := [(7, .long (lN (sSum (fun q => w d (q - f d)) lo (lo - lo)))), (6, .int (nI hi)), (5, .int (nI lo)), (0, .ref (ad 1)), (1, .int (nI d)), (2, .ref (ad ky)), (3, .long (lN x))]) hx hb dX1_drawnYear_17 hl (by decide) rfl (fun ls hl => ?_)
  refine lv_iload hx hb dX1_drawnYear_19 (lv_at hl 2 rfl) ?_
  refine lv_istore (lv' := [(9, .int (nI lo)), (7, .long (lN (sSum (fun q => w d (q - f d)) lo (lo - lo)))), (6, .int (nI hi)), (5, .int (nI lo)), (0, .ref (ad 1)), (1, .int (nI d)), (2, .ref (ad ky)), (3, .long (lN x))]) hx hb dX1_drawnYear_21 hl (by decide) rfl (fun ls hl => ?_)
  refine lp1X1_drawnYear ⟨hx, hb, hml, hown, hts⟩ hE (Nat.le_of_ble_eq_true rfl) (Nat.le_of_ble_eq_true rfl) (Nat.le_of_ble_eq_true rfl) (Nat.le_of_ble_eq_true rfl) I L ky d y x hSi hwf hd hky hy hyb lo hi hlo hhi hlh (fun H locs ls _ hR hS hl => ?_) (hi + 2 - lo) lo _ _ ls (by omega) (by omega) (Nat.le_refl _) hR hS (lv_sub hl [0, 1, 2, 3, 4, 5, 6, 7] rfl)
  refine lv_lload hx hb dX1_drawnYear_49 (lv_at hl 1 rfl) ?_
  refine lv_lconst (v := 0) hx hb dX1_drawnYear_51 (by decide) ?_
  refine W.lcmp hx hb dX1_drawnYear_52 ?_
  refine lv_if_gt (tgt := 60) hx hb dX1_drawnYear_53 (by decide) (fun c1 => ?_) (fun c1 => ?_)
  · refine lv_lload_n hx hb dX1_drawnYear_60 rfl (lv_at hl 7 rfl) ?_
    refine lv_lload hx hb dX1_drawnYear_61 (lv_at hl 1 rfl) ?_
    refine lv_lrem hx hb dX1_drawnYear_63 (lN_ne0 h_S0 (by omega)) ?_
    rw [show lN x - lN x / lN (sSum (fun q => w d (q - f d)) lo (hi + 1 - lo)) * lN (sSum (fun q => w d (q - f d)) lo (hi + 1 - lo)) = lN (x % sSum (fun q => w d (q - f d)) lo (hi + 1 - lo)) from pk_lRem (by omega) h_S0 (by omega)]
    refine lv_lstore (lv' := [(9, .long (lN (x % sSum (fun q => w d (q - f d)) lo (hi + 1 - lo)))), (7, .long (lN (sSum (fun q => w d (q - f d)) lo ((hi + 1) - lo)))), (6, .int (nI hi)), (5, .int (nI lo)), (0, .ref (ad 1)), (1, .int (nI d)), (2, .ref (ad ky)), (3, .long (lN x))]) hx hb dX1_drawnYear_64 hl (by decide) rfl (fun ls hl => ?_)
    refine lv_iload hx hb dX1_drawnYear_66 (lv_at hl 3 rfl) ?_
    refine lv_istore (lv' := [(11, .int (nI lo)), (9, .long (lN (x % sSum (fun q => w d (q - f d)) lo (hi + 1 - lo)))), (7, .long (lN (sSum (fun q => w d (q - f d)) lo ((hi + 1) - lo)))), (6, .int (nI hi)), (5, .int (nI lo)), (0, .ref (ad 1)), (1, .int (nI d)), (2, .ref (ad ky)), (3, .long (lN x))]) hx hb dX1_drawnYear_68 hl (by decide) rfl (fun ls hl => ?_)
    refine lp2X1_drawnYear ⟨hx, hb, hml, hown, hts⟩ hE (Nat.le_of_ble_eq_true rfl) (Nat.le_of_ble_eq_true rfl) (Nat.le_of_ble_eq_true rfl) (Nat.le_of_ble_eq_true rfl) I L ky d y (sPick (fun q => w d (q - f d)) (hi - lo) lo (x % sSum (fun q => w d (q - f d)) lo (hi + 1 - lo))) hSi hwf hd hky hy hyb lo hi hlo hhi hlh (fun H locs ls hR hS => ?_) (fun r9 H locs ls _ hA9 _ hR hS hl => ?_) (hi + 1 - lo) lo _ _ _ ls hlh (by omega) (Nat.le_refl _) rfl (by have h9 := Nat.mod_lt x h_S0; omega) hR hS (lv_sub hl [0, 1, 3, 5, 6] rfl)
    · exact W.iret (v := nI (sPick (fun q => w d (q - f d)) (hi - lo) lo (x % sSum (fun q => w d (q - f d)) lo (hi + 1 - lo)))) hx hb hr (fun t ht hW => ⟨⟨_, (I, L), rfl, ⟨rfl, rfl⟩, by show tR _ _ _ _ _ t.heap; rw [ht]; exact hR⟩, hS.F ht⟩) hS.2.2 dX1_drawnYear_99
    · rw [Nat.sub_self] at hA9
      refine lv_iload hx hb dX1_drawnYear_106 (lv_at hl 2 rfl) ?_
      exact W.iret (v := nI hi) hx hb hr (fun t ht hW => ⟨⟨_, (I, L), rfl, ⟨by rw [← hA9]; rfl, rfl⟩, by show tR _ _ _ _ _ t.heap; rw [ht]; exact hR⟩, hS.F ht⟩) hS.2.2 dX1_drawnYear_108
  · exact absurd (lN_gt0 h_S0 (by omega)) c1
end C2
end
section
def sMx (g : Nat → Nat) (lo : Nat) : Nat → Nat
  | 0 => 0
  | m + 1 => if sMx g lo m < g (lo + m) then g (lo + m) else sMx g lo m
theorem sMx_succ {g : Nat → Nat} {lo j : Nat} (h : lo ≤ j) : sMx g lo (j + 1 - lo) = if sMx g lo (j - lo) < g j then g j else sMx g lo (j - lo) := by
  rw [show j + 1 - lo = (j - lo) + 1 by omega]
  show (if sMx g lo (j - lo) < g (lo + (j - lo)) then _ else _) = _
  rw [show lo + (j - lo) = j by omega]
theorem sMx_le {g : Nat → Nat} {lo m B : Nat} (h : ∀ i, i < m → g (lo + i) ≤ B) : sMx g lo m ≤ B := by
  induction m with
  | zero => exact Nat.zero_le _
  | succ m ih =>
    have h1 := ih (fun i hi => h i (by omega))
    have h2 := h m (by omega)
    simp only [sMx]
    split <;> omega
theorem sMx_pos {g : Nat → Nat} {lo m : Nat} (hm : 0 < m) (h : ∀ i, i < m → 1 ≤ g (lo + i)) : 0 < sMx g lo m := by
  cases m with
  | zero => omega
  | succ m =>
    have h2 := h m (by omega)
    simp only [sMx]
    split <;> omega
/-- ones at the first j places -/
def rOn (r : Nat → Int32) (j : Nat) : Nat → Int32 := fun i => if i < j then 1 else r i
theorem rOn_0 (r : Nat → Int32) : rOn r 0 = r := by funext i; simp [rOn]
theorem rOn_s (r : Nat → Int32) (j : Nat) : upd (rOn r j) j 1 = rOn r (j + 1) := by
  funext i
  unfold upd rOn
  by_cases h : i = j
  · rw [if_pos h, if_pos (by omega)]
  · rw [if_neg h]
    by_cases h2 : i < j
    · rw [if_pos h2, if_pos (by omega)]
    · rw [if_neg h2, if_neg (by omega)]
/-- the whole numbers behind a date more -/
def gAD (I : tI) (nd : Nat) (p0 p1 : Int32) : tI := va_up (va_up (va_up (va_up (va_up I 2 (upd (I 2) nd p0)) 3 (upd (I 3) nd p1)) 4 (upd (I 4) nd (-1))) (10 + nd) (rOn (I (10 + nd)) 64)) 1 (upd (I 1) 8 (nI (nd + 1)))
def gAO (I : tI) (no : Nat) (p0 p1 p2 p3 : Int32) : tI := va_up (va_up (va_up (va_up (va_up I 6 (upd (I 6) no p0)) 7 (upd (I 7) no p1)) 8 (upd (I 8) no p2)) 9 (upd (I 9) no p3)) 1 (upd (I 1) 9 (nI (no + 1)))
theorem va_up_id {α : Type} (f : Nat → α) (k : Nat) : va_up f k (f k) = f := by
  funext j
  by_cases h : j = k
  · rw [h, va_up_self]
  · rw [va_up_ne _ _ h]
end
section
section C3
variable {l : Launch} {D : va_G} {cs : Nat → ClassId} {base : Nat} {sa : Nat → Nat} {n : Nat} {ad : Nat → Nat}
set_option maxHeartbeats 4000000 in
set_option maxRecDepth 100000 in
theorem lpX1_greatestWeight {p : Program} {e : Env} {R : Room} {s : State} {m : MethodId} {args : Array Value} {below : List Frame} {meth : Method} {c : Code} {cells slots : Nat} {Q : State → Prop} (S0 : CallFix p m c cX1_greatestWeight 4 s args wX1_greatestWeight RX1) (hE : eV D cs base sa s) (hRf : 1 ≤ R.frames) (hRl : 30 ≤ R.locals) (hRc : cells ≤ R.cells) (hRs : slots ≤ R.slots) (I : tI) (L : tL) {nd no : Nat} {f la : Nat → Nat} {ph : Nat → Int32} {w : Nat → Nat → Nat} {ea lt le mo : Nat → Nat} (d : Nat) (hSi : cSi I nd no f la ph w ea lt le mo) (hwf : wfS nd no f la w ea lt le mo) (hd : d < nd)
    (kx : ∀ (H : Heap) (locs : List Loc) (ls : Array Slot), f d ≤ la d + 1 → tR D vwCl base ad (tC (wP n ad cs) I L) H → va_S (fun q => base ≤ q) s.heap H locs → lv_has ls 4 [(3, .int (nI (la d + 1))), (2, .int (nI (sMx (fun q => w d (q - f d)) (f d) ((la d + 1) - f d)))), (0, .ref (ad 1)), (1, .int (nI d))] → W p l e R s m args below meth c H locs cells slots Q (F0 m 36 ls [])) :
    ∀ (k j : Nat) (H : Heap) (locs : List Loc) (ls : Array Slot), j ≤ la d + 1 → la d + 1 + 1 ≤ j + k → f d ≤ j → tR D vwCl base ad (tC (wP n ad cs) I L) H → va_S (fun q => base ≤ q) s.heap H locs → lv_has ls 4 [(3, .int (nI j)), (2, .int (nI (sMx (fun q => w d (q - f d)) (f d) (j - f d)))), (0, .ref (ad 1)), (1, .int (nI d))] → W p l e R s m args below meth c H locs cells slots Q (F0 m 9 ls []) := by
  obtain ⟨hx, hb, hml, hown, hts⟩ := S0
  have hK := hE.K
  obtain ⟨h_nd, h_no, h_d, h_o⟩ := id hwf
  obtain ⟨h_f, h_la, h_63, h_w⟩ := h_d d hd
  intro k
  induction k with
  | zero => intro j  H locs ls h1 h2; exact absurd h2 (by omega)
  | succ k ih =>
    intro j  H locs ls hj hk hlj hR hS hl
    refine lv_iload_n hx hb dX1_greatestWeight_9 rfl (lv_at hl 0 rfl) ?_
    refine lv_aload_n hx hb dX1_greatestWeight_10 rfl (lv_at hl 2 rfl) ?_
    refine tb_get hx hb hts (fun w h => List.mem_cons_of_mem _ (inX1 w h)) hown hK hR 1 rfl rfl 1 (by decide) (hts _ (List.mem_cons_of_mem _ k37)) (fun _ h => h) rfl dX1_greatestWeight_11 ?_
    refine lv_iload_n hx hb dX1_greatestWeight_14 rfl (lv_at hl 3 rfl) ?_
    refine tp_iald hx hb hK hR 3 0 (fun _ _ => rfl) rfl d rfl (by omega) (by decide) dX1_greatestWeight_15 ?_
    rw [show I 3 d = nI (la d) from (hSi.2.2.1 d (by omega)).2.1]
    refine lv_icmp_gt (tgt := 36) hx hb dX1_greatestWeight_16 (by decide) (fun c1 => ?_) (fun c1 => ?_)
    · have hjN : j = la d + 1 := by have e9 := (nI_ltI (by omega) (by omega)).mp c1; omega
      subst hjN
      exact kx  H locs ls hlj hR hS (lv_sub hl [0, 1, 2, 3] rfl)
    · have hjN : j < la d + 1 := by
        rcases Nat.lt_or_ge j (la d + 1) with q | q
        · exact q
        · exact absurd (nI_lt (by omega) (by omega)) c1
      have h_M : sMx (fun q => w d (q - f d)) (f d) (j - f d) ≤ 1000 := sMx_le (fun i hi9 => (h_w _ (by omega)).2)
      refine lv_iload_n hx hb dX1_greatestWeight_19 rfl (lv_at hl 1 rfl) ?_
      refine lv_aload_n hx hb dX1_greatestWeight_20 rfl (lv_at hl 2 rfl) ?_
      refine lv_iload_n hx hb dX1_greatestWeight_21 rfl (lv_at hl 3 rfl) ?_
      refine lv_iload_n hx hb dX1_greatestWeight_22 rfl (lv_at hl 0 rfl) ?_
      refine kc_i (va_runV (As := [.int (nI d), .int (nI j)]) (rest := [.int (nI (sMx (fun q => w d (q - f d)) (f d) (j - f d)))]) ⟨hx, hb, hml, hown, hts⟩ (mX1_weightOf I L d (j - f d) (nI j) (by omega) (by rw [show I 2 d = nI (f d) from (hSi.2.2.1 d hd).1, pk_sub (by omega)]) (by omega)) (cwV 2 hts (kw_V k292 k294 ks9 k3 k295) rfl rfl rfl (by decide +kernel) ⟨Nat.le_trans (Nat.le_of_ble_eq_true rfl) hRf, Nat.le_trans (Nat.le_of_ble_eq_true rfl) hRl⟩) (kB_preV hE hR hS 1 rfl rfl [.int (nI d), .int (nI j)]) rfl rfl hl.1 rfl (lv_room (Nat.le_of_ble_eq_true rfl)) dX1_greatestWeight_23 ⟨hRc, hRs⟩) hS (fun r u H locs hw hR hS => ?_)
      obtain ⟨rfl, rfl⟩ := hw
      have hR : tR D vwCl base ad (tC (wP n ad cs) I L) H := hR
      rw [show (I (10 + d) (j - f d)) = nI (w d (j - f d)) from (hSi.2.2.1 d hd).2.2.2 _ (by omega)]
      have h_wj := h_w (j - f d) (by omega)
      refine va_mmax hx hb (hml.trans hl.1.symm) hown (hts _ (List.mem_cons_of_mem _ k376)) (hts _ (List.mem_cons_of_mem _ k25)) (hts _ (List.mem_cons_of_mem _ k2)) (hts _ (List.mem_cons_of_mem _ k26)) (Nat.le_trans (Nat.le_of_ble_eq_true rfl) hRf) (Nat.le_trans (Nat.le_of_ble_eq_true rfl) hRl) hRc hRs dX1_greatestWeight_26 ?_
      rw [show (if nI (sMx (fun q => w d (q - f d)) (f d) (j - f d)) < nI (w d (j - f d)) then nI (w d (j - f d)) else nI (sMx (fun q => w d (q - f d)) (f d) (j - f d))) = nI (sMx (fun q => w d (q - f d)) (f d) (j + 1 - f d)) from by rw [mx_n (by omega) (by omega), sMx_succ hlj]]
      refine lv_istore_n (lv' := [(2, .int (nI (sMx (fun q => w d (q - f d)) (f d) (j + 1 - f d)))), (3, .int (nI j)), (0, .ref (ad 1)), (1, .int (nI d))]) hx hb dX1_greatestWeight_29 rfl hl (by decide) rfl (fun ls hl => ?_)
      refine lv_iinc (v := nI (j + 1)) (lv' := [(3, .int (nI (j + 1))), (2, .int (nI (sMx (fun q => w d (q - f d)) (f d) (j + 1 - f d)))), (0, .ref (ad 1)), (1, .int (nI d))]) hx hb dX1_greatestWeight_30 hl (k := 1) rfl (nI_1 _) (by decide) rfl (fun ls hl => ?_)
      refine lv_goto (tgt := 9) hx hb dX1_greatestWeight_33 (by decide) ?_
      exact ih (j + 1)  H locs ls (by omega) (by omega) (by omega) hR hS (lv_sub hl [0, 1, 2, 3] rfl)
set_option maxHeartbeats 4000000 in
set_option maxRecDepth 100000 in
theorem mX1_greatestWeight (I : tI) (L : tL) {nd no : Nat} {f la : Nat → Nat} {ph : Nat → Int32} {w : Nat → Nat → Nat} {ea lt le mo : Nat → Nat} (d : Nat) (hSi : cSi I nd no f la ph w ea lt le mo) (hwf : wfS nd no f la w ea lt le mo) (hd : d < nd) : Met l yX1_greatestWeight wX1_greatestWeight ({ frames := 1, cells := 0, slots := 0, locals := 30 }) (va_Pc [.ref (ad 1), .int (nI d)] (kB D cs base sa n ad I L)) (va_Qi (fun (r : Int32) (u : tI × tL) => r = nI (sMx (fun q => w d (q - f d)) (f d) (la d + 1 - f d)) ∧ u = (I, L)) (kA D cs base n ad) (fun q => base ≤ q)) 0 0 (fun q => base ≤ q) := by
  refine Met.ofW (cc := cX1_greatestWeight) (maxL := 4) (ret := (some .int)) (by decide) rfl ?_
  intro p e s m args below meth c s₁ B hml hv
  obtain ⟨rfl, hE, hR⟩ := hv
  have hx := B.exec
  have hb := B.bytes
  have hr := B.returns
  have hts := atoms_spec (ws := wX1_greatestWeight) B.pre
  have hown : s.vm.findClass RX1 = some m.cls := findClass_of_methodNamed B.named
  have hlocks := B.notSynchronized
  have hK := hE.K
  have hS : va_S (fun q => base ≤ q) s.heap s.heap [] := va_S.rf
  have hR : tR D vwCl base ad (tC (wP n ad cs) I L) s.heap := hR
  have hl := lv_entry ([.ref (ad 1), .int (nI d)]) (n := 4) (Nat.le_of_ble_eq_true rfl)
  rw [lg_entry_eq]
  generalize (lg_sl ([.ref (ad 1), .int (nI d)]) ++ List.replicate (4 - (lg_sl ([.ref (ad 1), .int (nI d)])).length) Slot.unset).toArray = ls at hl ⊢
  have hl : lv_has ls 4 [(0, .ref (ad 1)), (1, .int (nI d))] := hl
  obtain ⟨h_nd, h_no, h_d, h_o⟩ := id hwf
  obtain ⟨h_f, h_la, h_63, h_w⟩ := h_d d hd
  refine lv_iconst (v := 0) hx hb dX1_greatestWeight_0 (by decide) ?_
  rw [show (0 : Int32) = nI (sMx (fun q => w d (q - f d)) (f d) (f d - f d)) from by rw [Nat.sub_self]; rfl]
  refine lv_istore_n (lv' := [(2, .int (nI (sMx (fun q => w d (q - f d)) (f d) (f d - f d)))), (0, .ref (ad 1)), (1, .int (nI d))]) hx hb dX1_greatestWeight_1 rfl hl (by decide) rfl (fun ls hl => ?_)
  refine lv_aload_n hx hb dX1_greatestWeight_2 rfl (lv_at hl 1 rfl) ?_
  refine tb_get hx hb hts (fun w h => List.mem_cons_of_mem _ (inX1 w h)) hown hK hR 1 rfl rfl 0 (by decide) (hts _ (List.mem_cons_of_mem _ k35)) (fun _ h => h) rfl dX1_greatestWeight_3 ?_
  refine lv_iload_n hx hb dX1_greatestWeight_6 rfl (lv_at hl 2 rfl) ?_
  refine tp_iald hx hb hK hR 2 0 (fun _ _ => rfl) rfl d rfl (by omega) (by decide) dX1_greatestWeight_7 ?_
  rw [show I 2 d = nI (f d) from (hSi.2.2.1 d (by omega)).1]
  refine lv_istore_n (lv' := [(3, .int (nI (f d))), (2, .int (nI (sMx (fun q => w d (q - f d)) (f d) (f d - f d)))), (0, .ref (ad 1)), (1, .int (nI d))]) hx hb dX1_greatestWeight_8 rfl hl (by decide) rfl (fun ls hl => ?_)
  refine lpX1_greatestWeight ⟨hx, hb, hml, hown, hts⟩ hE (Nat.le_of_ble_eq_true rfl) (Nat.le_of_ble_eq_true rfl) (Nat.le_of_ble_eq_true rfl) (Nat.le_of_ble_eq_true rfl) I L d hSi hwf hd (fun H locs ls _ hR hS hl => ?_) (la d + 2 - f d) (f d) _ _ ls (by omega) (by omega) (Nat.le_refl _) hR hS (lv_sub hl [0, 1, 2, 3] rfl)
  refine lv_iload_n hx hb dX1_greatestWeight_36 rfl (lv_at hl 1 rfl) ?_
  exact W.iret (v := nI (sMx (fun q => w d (q - f d)) (f d) ((la d + 1) - f d))) hx hb hr (fun t ht hW => ⟨⟨_, (I, L), rfl, ⟨rfl, rfl⟩, by show tR _ _ _ _ _ t.heap; rw [ht]; exact hR⟩, hS.F ht⟩) hS.2.2 dX1_greatestWeight_37
set_option maxHeartbeats 4000000 in
set_option maxRecDepth 100000 in
theorem mX1_changeWeight (I : tI) (L : tL) (d j : Nat) (y x : Int32) (hd : d < 8) (hy : y - I 2 d = nI j) (hj : j < 64) : Met l yX1_changeWeight wX1_changeWeight ({ frames := 1, cells := 0, slots := 0, locals := 30 }) (va_Pc [.ref (ad 1), .int (nI d), .int y, .int x] (kB D cs base sa n ad I L)) (va_Qi (fun (r : Int32) (u : tI × tL) => r = I (10 + d) j ∧ u = (va_up I (10 + d) (upd (I (10 + d)) j x), L)) (kA D cs base n ad) (fun q => base ≤ q)) 0 0 (fun q => base ≤ q) := by
  refine Met.ofW (cc := cX1_changeWeight) (maxL := 5) (ret := (some .int)) (by decide) rfl ?_
  intro p e s m args below meth c s₁ B hml hv
  obtain ⟨rfl, hE, hR⟩ := hv
  have hx := B.exec
  have hb := B.bytes
  have hr := B.returns
  have hts := atoms_spec (ws := wX1_changeWeight) B.pre
  have hown : s.vm.findClass RX1 = some m.cls := findClass_of_methodNamed B.named
  have hlocks := B.notSynchronized
  have hK := hE.K
  have hS : va_S (fun q => base ≤ q) s.heap s.heap [] := va_S.rf
  have hR : tR D vwCl base ad (tC (wP n ad cs) I L) s.heap := hR
  have hl := lv_entry ([.ref (ad 1), .int (nI d), .int y, .int x]) (n := 5) (Nat.le_of_ble_eq_true rfl)
  rw [lg_entry_eq]
  generalize (lg_sl ([.ref (ad 1), .int (nI d), .int y, .int x]) ++ List.replicate (5 - (lg_sl ([.ref (ad 1), .int (nI d), .int y, .int x])).length) Slot.unset).toArray = ls at hl ⊢
  have hl : lv_has ls 5 [(0, .ref (ad 1)), (1, .int (nI d)), (2, .int y), (3, .int x)] := hl
  refine lv_aload_n hx hb dX1_changeWeight_0 rfl (lv_at hl 0 rfl) ?_
  refine lv_iload_n hx hb dX1_changeWeight_1 rfl (lv_at hl 1 rfl) ?_
  refine lv_iload_n hx hb dX1_changeWeight_2 rfl (lv_at hl 2 rfl) ?_
  refine kc_i (va_runV (As := [.int (nI d), .int y]) (rest := []) ⟨hx, hb, hml, hown, hts⟩ (mX1_weightOf I L d j y hd hy hj) (cwV 2 hts (kw_V k292 k294 ks9 k3 k295) rfl rfl rfl (by decide +kernel) ⟨Nat.le_of_ble_eq_true rfl, Nat.le_of_ble_eq_true rfl⟩) (kB_preV hE hR hS 1 rfl rfl [.int (nI d), .int y]) rfl rfl hl.1 rfl (lv_room (Nat.le_of_ble_eq_true rfl)) dX1_changeWeight_3 ⟨Nat.le_of_ble_eq_true rfl, Nat.le_of_ble_eq_true rfl⟩) hS (fun r u H locs hw hR hS => ?_)
  obtain ⟨rfl, rfl⟩ := hw
  have hR : tR D vwCl base ad (tC (wP n ad cs) I L) H := hR
  refine lv_istore (lv' := [(4, .int (I (10 + d) j)), (0, .ref (ad 1)), (1, .int (nI d)), (2, .int y), (3, .int x)]) hx hb dX1_changeWeight_6 hl (by decide) rfl (fun ls hl => ?_)
  refine lv_aload_n hx hb dX1_changeWeight_8 rfl (lv_at hl 1 rfl) ?_
  refine tb_get hx hb hts (fun w h => List.mem_cons_of_mem _ (inX1 w h)) hown hK hR 1 rfl rfl 3 (by decide) (hts _ (List.mem_cons_of_mem _ k41)) (fun _ h => h) rfl dX1_changeWeight_9 ?_
  refine lv_iload_n hx hb dX1_changeWeight_12 rfl (lv_at hl 2 rfl) ?_
  refine tb_aald hx hb hK hR 5 2 rfl rfl d rfl (by omega) (by decide) (if_pos (by omega)) dX1_changeWeight_13 ?_
  refine lv_iload_n hx hb dX1_changeWeight_14 rfl (lv_at hl 3 rfl) ?_
  refine lv_aload_n hx hb dX1_changeWeight_15 rfl (lv_at hl 1 rfl) ?_
  refine tb_get hx hb hts (fun w h => List.mem_cons_of_mem _ (inX1 w h)) hown hK hR 1 rfl rfl 0 (by decide) (hts _ (List.mem_cons_of_mem _ k35)) (fun _ h => h) rfl dX1_changeWeight_16 ?_
  refine lv_iload_n hx hb dX1_changeWeight_19 rfl (lv_at hl 2 rfl) ?_
  refine tp_iald hx hb hK hR 2 0 (fun _ _ => rfl) rfl d rfl (by omega) (by decide) dX1_changeWeight_20 ?_
  refine lv_isub hx hb dX1_changeWeight_21 ?_
  rw [hy]
  refine lv_iload_n hx hb dX1_changeWeight_22 rfl (lv_at hl 4 rfl) ?_
  refine tp_iast hx hb hK hR hS (10 + d) 0 (fun _ _ => wP_w (by omega) _ _) rfl j rfl (by omega) (by decide) dX1_changeWeight_23 (fun H locs hR hS => ?_)
  refine lv_iload hx hb dX1_changeWeight_24 (lv_at hl 0 rfl) ?_
  exact W.iret (v := I (10 + d) j) hx hb hr (fun t ht hW => ⟨⟨_, (va_up I (10 + d) (upd (I (10 + d)) j x), L), rfl, ⟨rfl, rfl⟩, by show tR _ _ _ _ _ t.heap; rw [ht]; exact hR⟩, hS.F ht⟩) hS.2.2 dX1_changeWeight_26
set_option maxHeartbeats 4000000 in
set_option maxRecDepth 100000 in
theorem mX1_addOrder (I : tI) (L : tL) (no : Nat) (p0 p1 p2 p3 : Int32) (hno : I 1 9 = nI no) (h24 : no < 24) : Met l yX1_addOrder wX1_addOrder ({ frames := 0, cells := 0, slots := 0, locals := 0 }) (va_Pc [.ref (ad 1), .int p0, .int p1, .int p2, .int p3] (kB D cs base sa n ad I L)) (va_Qi (fun (r : Int32) (u : tI × tL) => r = nI no ∧ u = (gAO I no p0 p1 p2 p3, L)) (kA D cs base n ad) (fun q => base ≤ q)) 0 0 (fun q => base ≤ q) := by
  refine Met.ofW (cc := cX1_addOrder) (maxL := 6) (ret := (some .int)) (by decide) rfl ?_
  intro p e s m args below meth c s₁ B hml hv
  obtain ⟨rfl, hE, hR⟩ := hv
  have hx := B.exec
  have hb := B.bytes
  have hr := B.returns
  have hts := atoms_spec (ws := wX1_addOrder) B.pre
  have hown : s.vm.findClass RX1 = some m.cls := findClass_of_methodNamed B.named
  have hlocks := B.notSynchronized
  have hK := hE.K
  have hS : va_S (fun q => base ≤ q) s.heap s.heap [] := va_S.rf
  have hR : tR D vwCl base ad (tC (wP n ad cs) I L) s.heap := hR
  have hl := lv_entry ([.ref (ad 1), .int p0, .int p1, .int p2, .int p3]) (n := 6) (Nat.le_of_ble_eq_true rfl)
  rw [lg_entry_eq]
  generalize (lg_sl ([.ref (ad 1), .int p0, .int p1, .int p2, .int p3]) ++ List.replicate (6 - (lg_sl ([.ref (ad 1), .int p0, .int p1, .int p2, .int p3])).length) Slot.unset).toArray = ls at hl ⊢
  have hl : lv_has ls 6 [(0, .ref (ad 1)), (1, .int p0), (2, .int p1), (3, .int p2), (4, .int p3)] := hl
  refine lv_aload_n hx hb dX1_addOrder_0 rfl (lv_at hl 0 rfl) ?_
  refine tb_get hx hb hts (fun w h => List.mem_cons_of_mem _ (inX1 w h)) hown hK hR 1 rfl rfl 9 (by decide) (hts _ (List.mem_cons_of_mem _ k48)) (fun _ h => h) rfl dX1_addOrder_1 ?_
  rw [show I 1 9 = nI no from hno]
  refine lv_istore (lv' := [(5, .int (nI no)), (0, .ref (ad 1)), (1, .int p0), (2, .int p1), (3, .int p2), (4, .int p3)]) hx hb dX1_addOrder_4 hl (by decide) rfl (fun ls hl => ?_)
  refine lv_aload_n hx hb dX1_addOrder_6 rfl (lv_at hl 1 rfl) ?_
  refine tb_get hx hb hts (fun w h => List.mem_cons_of_mem _ (inX1 w h)) hown hK hR 1 rfl rfl 4 (by decide) (hts _ (List.mem_cons_of_mem _ k42)) (fun _ h => h) rfl dX1_addOrder_7 ?_
  refine lv_iload hx hb dX1_addOrder_10 (lv_at hl 0 rfl) ?_
  refine lv_iload_n hx hb dX1_addOrder_12 rfl (lv_at hl 2 rfl) ?_
  refine tp_iast hx hb hK hR hS 6 0 (fun _ _ => rfl) rfl no rfl (by omega) (by decide) dX1_addOrder_13 (fun H locs hR hS => ?_)
  refine lv_aload_n hx hb dX1_addOrder_14 rfl (lv_at hl 1 rfl) ?_
  refine tb_get hx hb hts (fun w h => List.mem_cons_of_mem _ (inX1 w h)) hown hK hR 1 rfl rfl 5 (by decide) (hts _ (List.mem_cons_of_mem _ k43)) (fun _ h => h) rfl dX1_addOrder_15 ?_
  refine lv_iload hx hb dX1_addOrder_18 (lv_at hl 0 rfl) ?_
  refine lv_iload_n hx hb dX1_addOrder_20 rfl (lv_at hl 3 rfl) ?_
  refine tp_iast hx hb hK hR hS 7 0 (fun _ _ => rfl) rfl no rfl (by omega) (by decide) dX1_addOrder_21 (fun H locs hR hS => ?_)
  refine lv_aload_n hx hb dX1_addOrder_22 rfl (lv_at hl 1 rfl) ?_
  refine tb_get hx hb hts (fun w h => List.mem_cons_of_mem _ (inX1 w h)) hown hK hR 1 rfl rfl 6 (by decide) (hts _ (List.mem_cons_of_mem _ k44)) (fun _ h => h) rfl dX1_addOrder_23 ?_
  refine lv_iload hx hb dX1_addOrder_26 (lv_at hl 0 rfl) ?_
  refine lv_iload_n hx hb dX1_addOrder_28 rfl (lv_at hl 4 rfl) ?_
  refine tp_iast hx hb hK hR hS 8 0 (fun _ _ => rfl) rfl no rfl (by omega) (by decide) dX1_addOrder_29 (fun H locs hR hS => ?_)
  refine lv_aload_n hx hb dX1_addOrder_30 rfl (lv_at hl 1 rfl) ?_
  refine tb_get hx hb hts (fun w h => List.mem_cons_of_mem _ (inX1 w h)) hown hK hR 1 rfl rfl 7 (by decide) (hts _ (List.mem_cons_of_mem _ k45)) (fun _ h => h) rfl dX1_addOrder_31 ?_
  refine lv_iload hx hb dX1_addOrder_34 (lv_at hl 0 rfl) ?_
  refine lv_iload hx hb dX1_addOrder_36 (lv_at hl 5 rfl) ?_
  refine tp_iast hx hb hK hR hS 9 0 (fun _ _ => rfl) rfl no rfl (by omega) (by decide) dX1_addOrder_38 (fun H locs hR hS => ?_)
  refine lv_aload_n hx hb dX1_addOrder_39 rfl (lv_at hl 1 rfl) ?_
  refine lv_dup hx hb dX1_addOrder_40 rfl ?_
  refine tb_get hx hb hts (fun w h => List.mem_cons_of_mem _ (inX1 w h)) hown hK hR 1 rfl rfl 9 (by decide) (hts _ (List.mem_cons_of_mem _ k48)) (fun _ h => h) rfl dX1_addOrder_41 ?_
  rw [show (va_up (va_up (va_up (va_up I 6 (upd (I 6) no p0)) 7 (upd ((va_up I 6 (upd (I 6) no p0)) 7) no p1)) 8 (upd ((va_up (va_up I 6 (upd (I 6) no p0)) 7 (upd ((va_up I 6 (upd (I 6) no p0)) 7) no p1)) 8) no p2)) 9 (upd ((va_up (va_up (va_up I 6 (upd (I 6) no p0)) 7 (upd ((va_up I 6 (upd (I 6) no p0)) 7) no p1)) 8 (upd ((va_up (va_up I 6 (upd (I 6) no p0)) 7 (upd ((va_up I 6 (upd (I 6) no p0)) 7) no p1)) 8) no p2)) 9) no p3)) 1 9 = nI no from hno]
  refine lv_iconst (v := 1) hx hb dX1_addOrder_44 (by decide) ?_
  refine lv_iadd hx hb dX1_addOrder_45 ?_
  rw [nI_1]
  refine tp_put hx hb hts (fun w h => List.mem_cons_of_mem _ (inX1 w h)) tyX1 tyX1_ok nmX1 hown hK hR hS 1 (fun r => [.ref (ad 2), .ref (ad 3), .ref (ad 4), .ref (ad 5), .ref (ad 6), .ref (ad 7), .ref (ad 8), .ref (ad 9), .int (r 8), .int (r 9)]) (fun _ _ => rfl) rfl 9 (by decide) (hts _ (List.mem_cons_of_mem _ k48)) (fun _ h => h) rfl (ty := .int) rfl rfl rfl (by simp) (fun _ => rfl) dX1_addOrder_46 (fun H locs hR hS => ?_)
  refine lv_iload hx hb dX1_addOrder_49 (lv_at hl 0 rfl) ?_
  exact W.iret (v := nI no) hx hb hr (fun t ht hW => ⟨⟨_, (gAO I no p0 p1 p2 p3, L), rfl, ⟨rfl, rfl⟩, by show tR _ _ _ _ _ t.heap; rw [ht]; exact hR⟩, hS.F ht⟩) hS.2.2 dX1_addOrder_51
set_option maxHeartbeats 4000000 in
set_option maxRecDepth 100000 in
theorem lpX1_addDate {p : Program} {e : Env} {R : Room} {s : State} {m : MethodId} {args : Array Value} {below : List Frame} {meth : Method} {c : Code} {cells slots : Nat} {Q : State → Prop} (S0 : CallFix p m c cX1_addDate 5 s args wX1_addDate RX1) (hE : eV D cs base sa s) (hRf : 0 ≤ R.frames) (hRl : 0 ≤ R.locals) (hRc : cells ≤ R.cells) (hRs : slots ≤ R.slots) (I : tI) (L : tL) (nd : Nat) (h8 : nd < 8)
    (kx : ∀ (H : Heap) (locs : List Loc) (ls : Array Slot), tR D vwCl base ad (tC (wP n ad cs) (va_up I (10 + nd) (rOn (I (10 + nd)) 64)) L) H → va_S (fun q => base ≤ q) s.heap H locs → lv_has ls 5 [(4, .int (nI 64)), (3, .int (nI nd)), (0, .ref (ad 1))] → W p l e R s m args below meth c H locs cells slots Q (F0 m 52 ls [])) :
    ∀ (k j : Nat) (H : Heap) (locs : List Loc) (ls : Array Slot), j ≤ 64 → 64 + 1 ≤ j + k → tR D vwCl base ad (tC (wP n ad cs) (va_up I (10 + nd) (rOn (I (10 + nd)) j)) L) H → va_S (fun q => base ≤ q) s.heap H locs → lv_has ls 5 [(4, .int (nI j)), (3, .int (nI nd)), (0, .ref (ad 1))] → W p l e R s m args below meth c H locs cells slots Q (F0 m 29 ls []) := by
  obtain ⟨hx, hb, hml, hown, hts⟩ := S0
  have hK := hE.K
  intro k
  induction k with
  | zero => intro j  H locs ls h1 h2; exact absurd h2 (by omega)
  | succ k ih =>
    intro j  H locs ls hj hk  hR hS hl
    refine lv_iload hx hb dX1_addDate_29 (lv_at hl 0 rfl) ?_
    refine lv_bipush (v := nI 63) hx hb dX1_addDate_31 (by decide) ?_
    refine lv_icmp_gt (tgt := 52) hx hb dX1_addDate_33 (by decide) (fun c1 => ?_) (fun c1 => ?_)
    · have hjN : j = 64 := by have e9 := (nI_ltI (by omega) (by omega)).mp c1; omega
      subst hjN
      exact kx  H locs ls  hR hS (lv_sub hl [0, 1, 2] rfl)
    · have hjN : j < 64 := by
        rcases Nat.lt_or_ge j 64 with q | q
        · exact q
        · exact absurd (nI_lt (by omega) (by omega)) c1
      refine lv_aload_n hx hb dX1_addDate_36 rfl (lv_at hl 2 rfl) ?_
      refine tb_get hx hb hts (fun w h => List.mem_cons_of_mem _ (inX1 w h)) hown hK hR 1 rfl rfl 3 (by decide) (hts _ (List.mem_cons_of_mem _ k41)) (fun _ h => h) rfl dX1_addDate_37 ?_
      refine lv_iload_n hx hb dX1_addDate_40 rfl (lv_at hl 1 rfl) ?_
      refine tb_aald hx hb hK hR 5 2 rfl rfl nd rfl (by omega) (by decide) (if_pos (by omega)) dX1_addDate_41 ?_
      refine lv_iload hx hb dX1_addDate_42 (lv_at hl 0 rfl) ?_
      refine lv_iconst (v := 1) hx hb dX1_addDate_44 (by decide) ?_
      refine tp_iast hx hb hK hR hS (10 + nd) 0 (fun _ _ => wP_w (by omega) _ _) rfl j rfl (by omega) (by decide) dX1_addDate_45 (fun H locs hR hS => ?_)
      rw [bx_uu, va_up_self, rOn_s] at hR
      refine lv_iinc (v := nI (j + 1)) (lv' := [(4, .int (nI (j + 1))), (3, .int (nI nd)), (0, .ref (ad 1))]) hx hb dX1_addDate_46 hl (k := 0) rfl (nI_1 _) (by decide) rfl (fun ls hl => ?_)
      refine lv_goto (tgt := 29) hx hb dX1_addDate_49 (by decide) ?_
      exact ih (j + 1)  H locs ls (by omega) (by omega)  hR hS (lv_sub hl [0, 1, 2] rfl)
set_option maxHeartbeats 4000000 in
set_option maxRecDepth 100000 in
theorem mX1_addDate (I : tI) (L : tL) (nd : Nat) (p0 p1 : Int32) (hnd : I 1 8 = nI nd) (h8 : nd < 8) : Met l yX1_addDate wX1_addDate ({ frames := 0, cells := 0, slots := 0, locals := 0 }) (va_Pc [.ref (ad 1), .int p0, .int p1] (kB D cs base sa n ad I L)) (va_Qi (fun (r : Int32) (u : tI × tL) => r = nI nd ∧ u = (gAD I nd p0 p1, L)) (kA D cs base n ad) (fun q => base ≤ q)) 0 0 (fun q => base ≤ q) := by
  refine Met.ofW (cc := cX1_addDate) (maxL := 5) (ret := (some .int)) (by decide) rfl ?_
  intro p e s m args below meth c s₁ B hml hv
  obtain ⟨rfl, hE, hR⟩ := hv
  have hx := B.exec
  have hb := B.bytes
  have hr := B.returns
  have hts := atoms_spec (ws := wX1_addDate) B.pre
  have hown : s.vm.findClass RX1 = some m.cls := findClass_of_methodNamed B.named
  have hlocks := B.notSynchronized
  have hK := hE.K
  have hS : va_S (fun q => base ≤ q) s.heap s.heap [] := va_S.rf
  have hR : tR D vwCl base ad (tC (wP n ad cs) I L) s.heap := hR
  have hl := lv_entry ([.ref (ad 1), .int p0, .int p1]) (n := 5) (Nat.le_of_ble_eq_true rfl)
  rw [lg_entry_eq]
  generalize (lg_sl ([.ref (ad 1), .int p0, .int p1]) ++ List.replicate (5 - (lg_sl ([.ref (ad 1), .int p0, .int p1])).length) Slot.unset).toArray = ls at hl ⊢
  have hl : lv_has ls 5 [(0, .ref (ad 1)), (1, .int p0), (2, .int p1)] := hl
  refine lv_aload_n hx hb dX1_addDate_0 rfl (lv_at hl 0 rfl) ?_
  refine tb_get hx hb hts (fun w h => List.mem_cons_of_mem _ (inX1 w h)) hown hK hR 1 rfl rfl 8 (by decide) (hts _ (List.mem_cons_of_mem _ k46)) (fun _ h => h) rfl dX1_addDate_1 ?_
  rw [show I 1 8 = nI nd from (by first | exact hnd | (rw [va_up_ne _ _ (show 1 ≠ 10 + nd by omega)]; exact hnd))]
  refine lv_istore_n (lv' := [(3, .int (nI nd)), (0, .ref (ad 1)), (1, .int p0), (2, .int p1)]) hx hb dX1_addDate_4 rfl hl (by decide) rfl (fun ls hl => ?_)
  refine lv_aload_n hx hb dX1_addDate_5 rfl (lv_at hl 1 rfl) ?_
  refine tb_get hx hb hts (fun w h => List.mem_cons_of_mem _ (inX1 w h)) hown hK hR 1 rfl rfl 0 (by decide) (hts _ (List.mem_cons_of_mem _ k35)) (fun _ h => h) rfl dX1_addDate_6 ?_
  refine lv_iload_n hx hb dX1_addDate_9 rfl (lv_at hl 0 rfl) ?_
  refine lv_iload_n hx hb dX1_addDate_10 rfl (lv_at hl 2 rfl) ?_
  refine tp_iast hx hb hK hR hS 2 0 (fun _ _ => rfl) rfl nd rfl (by omega) (by decide) dX1_addDate_11 (fun H locs hR hS => ?_)
  refine lv_aload_n hx hb dX1_addDate_12 rfl (lv_at hl 1 rfl) ?_
  refine tb_get hx hb hts (fun w h => List.mem_cons_of_mem _ (inX1 w h)) hown hK hR 1 rfl rfl 1 (by decide) (hts _ (List.mem_cons_of_mem _ k37)) (fun _ h => h) rfl dX1_addDate_13 ?_
  refine lv_iload_n hx hb dX1_addDate_16 rfl (lv_at hl 0 rfl) ?_
  refine lv_iload_n hx hb dX1_addDate_17 rfl (lv_at hl 3 rfl) ?_
  refine tp_iast hx hb hK hR hS 3 0 (fun _ _ => rfl) rfl nd rfl (by omega) (by decide) dX1_addDate_18 (fun H locs hR hS => ?_)
  refine lv_aload_n hx hb dX1_addDate_19 rfl (lv_at hl 1 rfl) ?_
  refine tb_get hx hb hts (fun w h => List.mem_cons_of_mem _ (inX1 w h)) hown hK hR 1 rfl rfl 2 (by decide) (hts _ (List.mem_cons_of_mem _ k39)) (fun _ h => h) rfl dX1_addDate_20 ?_
  refine lv_iload_n hx hb dX1_addDate_23 rfl (lv_at hl 0 rfl) ?_
  refine lv_iconst (v := -1) hx hb dX1_addDate_24 (by decide) ?_
  refine tp_iast hx hb hK hR hS 4 0 (fun _ _ => rfl) rfl nd rfl (by omega) (by decide) dX1_addDate_25 (fun H locs hR hS => ?_)
  refine lv_iconst (v := 0) hx hb dX1_addDate_26 (by decide) ?_
  rw [show (0 : Int32) = nI 0 from nI_0.symm]
  refine lv_istore (lv' := [(4, .int (nI 0)), (3, .int (nI nd)), (0, .ref (ad 1)), (1, .int p0), (2, .int p1)]) hx hb dX1_addDate_27 hl (by decide) rfl (fun ls hl => ?_)
  have hR : tR D vwCl base ad (tC (wP n ad cs) (va_up (va_up (va_up (va_up I 2 (upd (I 2) nd p0)) 3 (upd (I 3) nd p1)) 4 (upd (I 4) nd (-1))) (10 + nd) (rOn ((va_up (va_up (va_up I 2 (upd (I 2) nd p0)) 3 (upd (I 3) nd p1)) 4 (upd (I 4) nd (-1))) (10 + nd)) 0)) L) H := by rw [rOn_0, va_up_id]; exact hR
  refine lpX1_addDate ⟨hx, hb, hml, hown, hts⟩ hE (Nat.zero_le _) (Nat.zero_le _) (Nat.le_of_ble_eq_true rfl) (Nat.le_of_ble_eq_true rfl) (va_up (va_up (va_up I 2 (upd (I 2) nd p0)) 3 (upd (I 3) nd p1)) 4 (upd (I 4) nd (-1))) L nd h8 (fun H locs ls hR hS hl => ?_) 65 0 _ _ ls (by omega) (by omega) hR hS (lv_sub hl [0, 1, 2] rfl)
  refine lv_aload_n hx hb dX1_addDate_52 rfl (lv_at hl 2 rfl) ?_
  refine lv_dup hx hb dX1_addDate_53 rfl ?_
  refine tb_get hx hb hts (fun w h => List.mem_cons_of_mem _ (inX1 w h)) hown hK hR 1 rfl rfl 8 (by decide) (hts _ (List.mem_cons_of_mem _ k46)) (fun _ h => h) rfl dX1_addDate_54 ?_
  rw [show (va_up (va_up (va_up (va_up I 2 (upd (I 2) nd p0)) 3 (upd (I 3) nd p1)) 4 (upd (I 4) nd (-1))) (10 + nd) (rOn ((va_up (va_up (va_up I 2 (upd (I 2) nd p0)) 3 (upd (I 3) nd p1)) 4 (upd (I 4) nd (-1))) (10 + nd)) 64)) 1 8 = nI nd from (by first | exact hnd | (rw [va_up_ne _ _ (show 1 ≠ 10 + nd by omega)]; exact hnd))]
  refine lv_iconst (v := 1) hx hb dX1_addDate_57 (by decide) ?_
  refine lv_iadd hx hb dX1_addDate_58 ?_
  rw [nI_1]
  refine tp_put hx hb hts (fun w h => List.mem_cons_of_mem _ (inX1 w h)) tyX1 tyX1_ok nmX1 hown hK hR hS 1 (fun r => [.ref (ad 2), .ref (ad 3), .ref (ad 4), .ref (ad 5), .ref (ad 6), .ref (ad 7), .ref (ad 8), .ref (ad 9), .int (r 8), .int (r 9)]) (fun _ _ => rfl) rfl 8 (by decide) (hts _ (List.mem_cons_of_mem _ k46)) (fun _ h => h) rfl (ty := .int) rfl rfl rfl (by simp) (fun _ => rfl) dX1_addDate_59 (fun H locs hR hS => ?_)
  refine lv_iload_n hx hb dX1_addDate_62 rfl (lv_at hl 1 rfl) ?_
  have hR : tR D vwCl base ad (tC (wP n ad cs) (gAD I nd p0 p1) L) H := by
    have e1 : (va_up (va_up (va_up I 2 (upd (I 2) nd p0)) 3 (upd (I 3) nd p1)) 4 (upd (I 4) nd (-1))) (10 + nd) = I (10 + nd) := by rw [va_up_ne _ _ (show 10 + nd ≠ 4 by omega), va_up_ne _ _ (show 10 + nd ≠ 3 by omega), va_up_ne _ _ (show 10 + nd ≠ 2 by omega)]
    have e2 : (va_up (va_up (va_up (va_up I 2 (upd (I 2) nd p0)) 3 (upd (I 3) nd p1)) 4 (upd (I 4) nd (-1))) (10 + nd) (rOn ((va_up (va_up (va_up I 2 (upd (I 2) nd p0)) 3 (upd (I 3) nd p1)) 4 (upd (I 4) nd (-1))) (10 + nd)) 64)) 1 = I 1 := by rw [va_up_ne _ _ (show 1 ≠ 10 + nd by omega)]; rfl
    rw [e2, e1] at hR
    exact hR
  exact W.iret (v := nI nd) hx hb hr (fun t ht hW => ⟨⟨_, (gAD I nd p0 p1, L), rfl, ⟨rfl, rfl⟩, by show tR _ _ _ _ _ t.heap; rw [ht]; exact hR⟩, hS.F ht⟩) hS.2.2 dX1_addDate_63
end C3
end
section
/-! A ROUND OVER THE ORDERS, on natural numbers -/
def rB (ea lt le : Nat → Nat) (j : Nat) (y : Nat → Nat) : Nat → Nat := if y (lt j) < y (ea j) + le j then va_up y (lt j) (y (ea j) + le j) else y
def rA (ea lt mo : Nat → Nat) (j : Nat) (y : Nat → Nat) : Nat → Nat := if y (ea j) + mo j < y (lt j) then va_up y (ea j) (y (lt j) - mo j) else y
def rR (ea lt le mo : Nat → Nat) : Nat → (Nat → Nat) → (Nat → Nat)
  | 0, y => y
  | j + 1, y => rA ea lt mo j (rB ea lt le j (rR ea lt le mo j y))
def rK (ea lt le mo : Nat → Nat) (no : Nat) : Nat → (Nat → Nat) → (Nat → Nat)
  | 0, y => y
  | k + 1, y => rR ea lt le mo no (rK ea lt le mo no k y)
theorem rR_z (ea lt le mo : Nat → Nat) (J : Nat) (y : Nat → Nat) (d : Nat) : ((rR ea lt le mo J y d : Nat) : Int) = ly_r ea lt (fun j => (le j : Int)) (fun j => (mo j : Int)) J (fun i => (y i : Int)) d := by
  induction J generalizing d with
  | zero => rfl
  | succ j ih =>
    show ((rA ea lt mo j (rB ea lt le j (rR ea lt le mo j y)) d : Nat) : Int) = ly_o ea lt _ _ j (ly_r ea lt _ _ j _) d
    generalize rR ea lt le mo j y = z at ih ⊢
    rw [show ly_r ea lt (fun j => (le j : Int)) (fun j => (mo j : Int)) j (fun i => (y i : Int)) = fun i => (z i : Int) from (funext fun i => (ih i).symm)]
    have h1 : ∀ i, ((rB ea lt le j z i : Nat) : Int) = ly_rz (fun i => (z i : Int)) (lt j) ((z (ea j) : Int) + le j) i := by
      intro i
      unfold rB ly_rz
      dsimp only
      by_cases h : z (lt j) < z (ea j) + le j
      · rw [if_pos h]
        unfold va_up
        by_cases e : i = lt j
        · rw [if_pos e, if_pos e, if_pos (by omega)]; omega
        · rw [if_neg e, if_neg e]
      · rw [if_neg h]
        by_cases e : i = lt j
        · rw [if_pos e, if_neg (by omega), e]
        · rw [if_neg e]
    unfold ly_o
    rw [show ly_rz (fun i => (z i : Int)) (lt j) ((fun i => (z i : Int)) (ea j) + (fun j => (le j : Int)) j) = fun i => ((rB ea lt le j z i : Nat) : Int) from (funext fun i => (h1 i).symm)]
    generalize rB ea lt le j z = v
    unfold rA ly_rz
    dsimp only
    by_cases h : v (ea j) + mo j < v (lt j)
    · rw [if_pos h]
      unfold va_up
      by_cases e : d = ea j
      · rw [if_pos e, if_pos e, if_pos (by omega)]; omega
      · rw [if_neg e, if_neg e]
    · rw [if_neg h]
      by_cases e : d = ea j
      · rw [if_pos e, if_neg (by omega), e]
      · rw [if_neg e]
theorem rK_z (ea lt le mo : Nat → Nat) (no k : Nat) (y : Nat → Nat) (d : Nat) : ((rK ea lt le mo no k y d : Nat) : Int) = ly_k ea lt (fun j => (le j : Int)) (fun j => (mo j : Int)) no k (fun i => (y i : Int)) d := by
  induction k generalizing d with
  | zero => rfl
  | succ k ih =>
    show ((rR ea lt le mo no (rK ea lt le mo no k y) d : Nat) : Int) = ly_r ea lt _ _ no (ly_k ea lt _ _ no k _) d
    rw [rR_z, show ly_k ea lt (fun j => (le j : Int)) (fun j => (mo j : Int)) no k (fun i => (y i : Int)) = fun i => ((rK ea lt le mo no k y i : Nat) : Int) from (funext fun i => (ih i).symm)]
theorem rB_ge (ea lt le : Nat → Nat) (j : Nat) (y : Nat → Nat) (d : Nat) : y d ≤ rB ea lt le j y d := by
  unfold rB
  split
  · unfold va_up; split
    · subst_vars; omega
    · exact Nat.le_refl _
  · exact Nat.le_refl _
theorem rA_ge (ea lt mo : Nat → Nat) (j : Nat) (y : Nat → Nat) (d : Nat) : y d ≤ rA ea lt mo j y d := by
  unfold rA
  split
  · unfold va_up; split
    · subst_vars; omega
    · exact Nat.le_refl _
  · exact Nat.le_refl _
theorem rR_ge (ea lt le mo : Nat → Nat) (J : Nat) (y : Nat → Nat) (d : Nat) : y d ≤ rR ea lt le mo J y d := by
  induction J with
  | zero => exact Nat.le_refl _
  | succ J ih => exact Nat.le_trans ih (Nat.le_trans (rB_ge ea lt le J _ d) (rA_ge ea lt mo J _ d))
theorem rR_le {nd no : Nat} {f la : Nat → Nat} {w : Nat → Nat → Nat} {ea lt le mo : Nat → Nat} (hwf : wfS nd no f la w ea lt le mo) {y : Nat → Nat} {B : Nat} (hb : ∀ d, d < nd → y d ≤ B) {J : Nat} (hJ : J ≤ no) : ∀ d, d < nd → rR ea lt le mo J y d ≤ B + 255 * J := by
  induction J with
  | zero => exact hb
  | succ J ih =>
    intro d hd
    have h1 := ih (by omega)
    obtain ⟨h2, h3, h4, h5, h6⟩ := hwf.2.2.2 J (by omega)
    have hB : ∀ d, d < nd → rB ea lt le J (rR ea lt le mo J y) d ≤ B + 255 * (J + 1) := by
      intro d hd
      have := h1 d hd
      have := h1 _ h2
      unfold rB
      split
      · unfold va_up; split <;> omega
      · omega
    show rA ea lt mo J (rB ea lt le J (rR ea lt le mo J y)) d ≤ _
    have := hB d hd
    have := hB _ h3
    unfold rA
    split
    · unfold va_up; split <;> omega
    · omega
theorem sub_le {a b c : Nat} (ha : a < 2 ^ 29) (hb : b < 2 ^ 29) (hc : c < 2 ^ 29) : nI b - nI c ≤ nI a ↔ b ≤ a + c := by
  rw [Int32.le_iff_toInt_le, pk_sub_toInt (by omega) (by omega), nI_tri (by omega)]
  omega
theorem add_le {a b c : Nat} (ha : a < 2 ^ 29) (hb : b < 2 ^ 29) (hc : c < 2 ^ 29) : nI b + nI c ≤ nI a ↔ b + c ≤ a := by
  rw [nI_add]
  exact nI_leI (by omega) (by omega)
/-- what a round says of itself: z = 0: nothing has risen, z = 1: something has -/
def rZ (nd : Nat) (y0 y : Nat → Nat) (z : Int32) : Prop := (z = 0 ∧ ∀ d, d < nd → y d = y0 d) ∨ (z = 1 ∧ ∃ d, d < nd ∧ y0 d < y d)
/-- a row of years -/
def rw_Y (nd : Nat) (row : Nat → Int32) (y : Nat → Nat) : Prop := ∀ i, i < nd → row i = nI (y i)
theorem rw_Y.put {nd : Nat} {row : Nat → Int32} {y : Nat → Nat} (h : rw_Y nd row y) (b v : Nat) {x : Int32} (hx : x = nI v) : rw_Y nd (upd row b x) (va_up y b v) := by
  intro i hi
  unfold upd va_up
  split
  · exact hx
  · exact h i hi
end
section
section C4
variable {l : Launch} {D : va_G} {cs : Nat → ClassId} {base : Nat} {sa : Nat → Nat} {n : Nat} {ad : Nat → Nat}
set_option maxHeartbeats 4000000 in
set_option maxRecDepth 100000 in
theorem lpX1_noneIsPastLast {p : Program} {e : Env} {R : Room} {s : State} {m : MethodId} {args : Array Value} {below : List Frame} {meth : Method} {c : Code} {cells slots : Nat} {Q : State → Prop} (S0 : CallFix p m c cX1_noneIsPastLast 3 s args wX1_noneIsPastLast RX1) (hE : eV D cs base sa s) (hRf : 0 ≤ R.frames) (hRl : 0 ≤ R.locals) (hRc : cells ≤ R.cells) (hRs : slots ≤ R.slots) (I : tI) (L : tL) {nd no : Nat} {f la : Nat → Nat} {ph : Nat → Int32} {w : Nat → Nat → Nat} {ea lt le mo : Nat → Nat} (ky : Nat) (y : Nat → Nat) (hSi : cSi I nd no f la ph w ea lt le mo) (hwf : wfS nd no f la w ea lt le mo) (hky : ∀ r q, wP n ad cs ky r q = some (.inl (cs 0, 8, .inl r))) (hy : ∀ i, i < nd → I ky i = nI (y i)) (hyb : ∀ i, i < nd → y i < 2 ^ 29)
    (kr : ∀ (H : Heap) (locs : List Loc) (ls : Array Slot), (∃ i, i < nd ∧ la i < y i) → tR D vwCl base ad (tC (wP n ad cs) I L) H → va_S (fun q => base ≤ q) s.heap H locs → W p l e R s m args below meth c H locs cells slots Q (F0 m 22 ls []))
    (kx : ∀ (H : Heap) (locs : List Loc) (ls : Array Slot), (∀ i, i < nd → y i ≤ la i) → tR D vwCl base ad (tC (wP n ad cs) I L) H → va_S (fun q => base ≤ q) s.heap H locs → lv_has ls 3 [(2, .int (nI nd)), (0, .ref (ad 1)), (1, .ref (ad ky))] → W p l e R s m args below meth c H locs cells slots Q (F0 m 30 ls [])) :
    ∀ (k j : Nat) (H : Heap) (locs : List Loc) (ls : Array Slot), j ≤ nd → nd + 1 ≤ j + k → (∀ i, i < j → y i ≤ la i) → tR D vwCl base ad (tC (wP n ad cs) I L) H → va_S (fun q => base ≤ q) s.heap H locs → lv_has ls 3 [(2, .int (nI j)), (0, .ref (ad 1)), (1, .ref (ad ky))] → W p l e R s m args below meth c H locs cells slots Q (F0 m 2 ls []) := by
  obtain ⟨hx, hb, hml, hown, hts⟩ := S0
  have hK := hE.K
  obtain ⟨h_nd, h_no, h_d, h_o⟩ := id hwf
  intro k
  induction k with
  | zero => intro j  H locs ls h1 h2; exact absurd h2 (by omega)
  | succ k ih =>
    intro j  H locs ls hj hk hin hR hS hl
    refine lv_iload_n hx hb dX1_noneIsPastLast_2 rfl (lv_at hl 0 rfl) ?_
    refine lv_aload_n hx hb dX1_noneIsPastLast_3 rfl (lv_at hl 1 rfl) ?_
    refine tb_get hx hb hts (fun w h => List.mem_cons_of_mem _ (inX1 w h)) hown hK hR 1 rfl rfl 8 (by decide) (hts _ (List.mem_cons_of_mem _ k46)) (fun _ h => h) rfl dX1_noneIsPastLast_4 ?_
    rw [show I 1 8 = nI nd from hSi.1]
    refine lv_icmp_ge (tgt := 30) hx hb dX1_noneIsPastLast_7 (by decide) (fun c1 => ?_) (fun c1 => ?_)
    · have hjN : j = nd := by have e9 := (nI_leI (by omega) (by omega)).mp c1; omega
      subst hjN
      exact kx  H locs ls hin hR hS (lv_sub hl [0, 1, 2] rfl)
    · have hjN : j < nd := by
        rcases Nat.lt_or_ge j nd with q | q
        · exact q
        · exact absurd (nI_le (by omega) (by omega)) c1
      obtain ⟨h_f, h_la, h_63, h_w⟩ := h_d j hjN
      have h_yj := hyb j hjN
      refine lv_aload_n hx hb dX1_noneIsPastLast_10 rfl (lv_at hl 2 rfl) ?_
      refine lv_iload_n hx hb dX1_noneIsPastLast_11 rfl (lv_at hl 0 rfl) ?_
      refine tp_iald hx hb hK hR ky 0 hky rfl j rfl (by omega) (by decide) dX1_noneIsPastLast_12 ?_
      rw [show I ky j = nI (y j) from hy j (by omega)]
      refine lv_aload_n hx hb dX1_noneIsPastLast_13 rfl (lv_at hl 1 rfl) ?_
      refine tb_get hx hb hts (fun w h => List.mem_cons_of_mem _ (inX1 w h)) hown hK hR 1 rfl rfl 1 (by decide) (hts _ (List.mem_cons_of_mem _ k37)) (fun _ h => h) rfl dX1_noneIsPastLast_14 ?_
      refine lv_iload_n hx hb dX1_noneIsPastLast_17 rfl (lv_at hl 0 rfl) ?_
      refine tp_iald hx hb hK hR 3 0 (fun _ _ => rfl) rfl j rfl (by omega) (by decide) dX1_noneIsPastLast_18 ?_
      rw [show I 3 j = nI (la j) from (hSi.2.2.1 j (by omega)).2.1]
      refine lv_icmp_le (tgt := 24) hx hb dX1_noneIsPastLast_19 (by decide) (fun c2 => ?_) (fun c2 => ?_)
      · have hq : y j ≤ la j := (nI_leI (by omega) (by omega)).mp c2
        refine lv_iinc (v := nI (j + 1)) (lv' := [(2, .int (nI (j + 1))), (0, .ref (ad 1)), (1, .ref (ad ky))]) hx hb dX1_noneIsPastLast_24 hl (k := 0) rfl (nI_1 _) (by decide) rfl (fun ls hl => ?_)
        refine lv_goto (tgt := 2) hx hb dX1_noneIsPastLast_27 (by decide) ?_
        exact ih (j + 1)  H locs ls (by omega) (by omega) (fun i hi => (Nat.lt_or_ge i j).elim (fun q => hin i q) (fun q => (show j = i by omega) ▸ hq)) hR hS (lv_sub hl [0, 1, 2] rfl)
      · exact kr H locs ls ⟨j, hjN, Nat.lt_of_not_le (fun z => c2 (nI_le z (by omega)))⟩ hR hS
set_option maxHeartbeats 4000000 in
set_option maxRecDepth 100000 in
theorem mX1_noneIsPastLast (I : tI) (L : tL) {nd no : Nat} {f la : Nat → Nat} {ph : Nat → Int32} {w : Nat → Nat → Nat} {ea lt le mo : Nat → Nat} (ky : Nat) (y : Nat → Nat) (hSi : cSi I nd no f la ph w ea lt le mo) (hwf : wfS nd no f la w ea lt le mo) (hky : ∀ r q, wP n ad cs ky r q = some (.inl (cs 0, 8, .inl r))) (hy : ∀ i, i < nd → I ky i = nI (y i)) (hyb : ∀ i, i < nd → y i < 2 ^ 29) : Met l yX1_noneIsPastLast wX1_noneIsPastLast ({ frames := 0, cells := 0, slots := 0, locals := 0 }) (va_Pc [.ref (ad 1), .ref (ad ky)] (kB D cs base sa n ad I L)) (va_Qi (fun (r : Int32) (u : tI × tL) => ((r = 1 ∧ ∀ i, i < nd → y i ≤ la i) ∨ (r = 0 ∧ ∃ i, i < nd ∧ la i < y i)) ∧ u = (I, L)) (kA D cs base n ad) (fun q => base ≤ q)) 0 0 (fun q => base ≤ q) := by
  refine Met.ofW (cc := cX1_noneIsPastLast) (maxL := 3) (ret := (some .boolean)) (by decide) rfl ?_
  intro p e s m args below meth c s₁ Bd hml hv
  obtain ⟨rfl, hE, hR⟩ := hv
  have hx := Bd.exec
  have hb := Bd.bytes
  have hr := Bd.returns
  have hts := atoms_spec (ws := wX1_noneIsPastLast) Bd.pre
  have hown : s.vm.findClass RX1 = some m.cls := findClass_of_methodNamed Bd.named
  have hlocks := Bd.notSynchronized
  have hK := hE.K
  have hS : va_S (fun q => base ≤ q) s.heap s.heap [] := va_S.rf
  have hR : tR D vwCl base ad (tC (wP n ad cs) I L) s.heap := hR
  have hl := lv_entry ([.ref (ad 1), .ref (ad ky)]) (n := 3) (Nat.le_of_ble_eq_true rfl)
  rw [lg_entry_eq]
  generalize (lg_sl ([.ref (ad 1), .ref (ad ky)]) ++ List.replicate (3 - (lg_sl ([.ref (ad 1), .ref (ad ky)])).length) Slot.unset).toArray = ls at hl ⊢
  have hl : lv_has ls 3 [(0, .ref (ad 1)), (1, .ref (ad ky))] := hl
  obtain ⟨h_nd, h_no, h_d, h_o⟩ := id hwf
  refine lv_iconst (v := 0) hx hb dX1_noneIsPastLast_0 (by decide) ?_
  rw [show (0 : Int32) = nI 0 from nI_0.symm]
  refine lv_istore_n (lv' := [(2, .int (nI 0)), (0, .ref (ad 1)), (1, .ref (ad ky))]) hx hb dX1_noneIsPastLast_1 rfl hl (by decide) rfl (fun ls hl => ?_)
  refine lpX1_noneIsPastLast ⟨hx, hb, hml, hown, hts⟩ hE (Nat.zero_le _) (Nat.zero_le _) (Nat.le_of_ble_eq_true rfl) (Nat.le_of_ble_eq_true rfl) I L ky y hSi hwf hky hy hyb (fun H locs ls hbad hR hS => ?_) (fun H locs ls hgood hR hS hl => ?_) (nd + 1) 0 _ _ ls (Nat.zero_le _) (by omega) (fun i hi => absurd hi (Nat.not_lt_zero _)) hR hS (lv_sub hl [0, 1, 2] rfl)
  · refine lv_iconst (v := 0) hx hb dX1_noneIsPastLast_22 (by decide) ?_
    exact W.zret (v := 0) hx hb hr rfl (fun t ht hW => ⟨⟨_, (I, L), rfl, ⟨Or.inr ⟨rfl, hbad⟩, rfl⟩, by show tR _ _ _ _ _ t.heap; rw [ht]; exact hR⟩, hS.F ht⟩) hS.2.2 dX1_noneIsPastLast_23
  · refine lv_iconst (v := 1) hx hb dX1_noneIsPastLast_30 (by decide) ?_
    exact W.zret (v := 1) hx hb hr rfl (fun t ht hW => ⟨⟨_, (I, L), rfl, ⟨Or.inl ⟨rfl, hgood⟩, rfl⟩, by show tR _ _ _ _ _ t.heap; rw [ht]; exact hR⟩, hS.F ht⟩) hS.2.2 dX1_noneIsPastLast_31
set_option maxHeartbeats 4000000 in
set_option maxRecDepth 100000 in
theorem lpX1_raiseByOrders {p : Program} {e : Env} {R : Room} {s : State} {m : MethodId} {args : Array Value} {below : List Frame} {meth : Method} {c : Code} {cells slots : Nat} {Q : State → Prop} (S0 : CallFix p m c cX1_raiseByOrders 6 s args wX1_raiseByOrders RX1) (hE : eV D cs base sa s) (hRf : 0 ≤ R.frames) (hRl : 0 ≤ R.locals) (hRc : cells ≤ R.cells) (hRs : slots ≤ R.slots) (I : tI) (L : tL) {nd no : Nat} {f la : Nat → Nat} {ph : Nat → Int32} {w : Nat → Nat → Nat} {ea lt le mo : Nat → Nat} (ky B : Nat) (y0 : Nat → Nat) (hSi : cSi I nd no f la ph w ea lt le mo) (hwf : wfS nd no f la w ea lt le mo) (hk18 : 18 ≤ ky) (hky : ∀ r q, wP n ad cs ky r q = some (.inl (cs 0, 8, .inl r))) (hB : ∀ d, d < nd → y0 d ≤ B) (hB2 : B + 10000 < 2 ^ 28)
    (kx : ∀ (y : Nat → Nat) (row : Nat → Int32) (z : Int32) (H : Heap) (locs : List Loc) (ls : Array Slot), rw_Y nd row y → y = rR ea lt le mo no y0 → rZ nd y0 y z → tR D vwCl base ad (tC (wP n ad cs) (va_up I ky row) L) H → va_S (fun q => base ≤ q) s.heap H locs → lv_has ls 6 [(3, .int (nI no)), (2, .int z), (0, .ref (ad 1)), (1, .ref (ad ky))] → W p l e R s m args below meth c H locs cells slots Q (F0 m 104 ls [])) :
    ∀ (k j : Nat) (y : Nat → Nat) (row : Nat → Int32) (z : Int32) (H : Heap) (locs : List Loc) (ls : Array Slot), j ≤ no → no + 1 ≤ j + k → rw_Y nd row y → y = rR ea lt le mo j y0 → rZ nd y0 y z → tR D vwCl base ad (tC (wP n ad cs) (va_up I ky row) L) H → va_S (fun q => base ≤ q) s.heap H locs → lv_has ls 6 [(3, .int (nI j)), (2, .int z), (0, .ref (ad 1)), (1, .ref (ad ky))] → W p l e R s m args below meth c H locs cells slots Q (F0 m 4 ls []) := by
  obtain ⟨hx, hb, hml, hown, hts⟩ := S0
  have hK := hE.K
  obtain ⟨h_nd, h_no, h_d, h_o⟩ := id hwf
  intro k
  induction k with
  | zero => intro j y row z H locs ls h1 h2; exact absurd h2 (by omega)
  | succ k ih =>
    intro j y row z H locs ls hj hk hrow hyR hZ hR hS hl
    refine lv_iload_n hx hb dX1_raiseByOrders_4 rfl (lv_at hl 0 rfl) ?_
    refine lv_aload_n hx hb dX1_raiseByOrders_5 rfl (lv_at hl 2 rfl) ?_
    refine tb_get hx hb hts (fun w h => List.mem_cons_of_mem _ (inX1 w h)) hown hK hR 1 rfl rfl 9 (by decide) (hts _ (List.mem_cons_of_mem _ k48)) (fun _ h => h) rfl dX1_raiseByOrders_6 ?_
    rw [show (va_up I ky row) 1 9 = nI no from (by rw [va_up_ne _ _ (by omega)]; exact hSi.2.1)]
    refine lv_icmp_ge (tgt := 104) hx hb dX1_raiseByOrders_9 (by decide) (fun c1 => ?_) (fun c1 => ?_)
    · have hjN : j = no := by have e9 := (nI_leI (by omega) (by omega)).mp c1; omega
      subst hjN
      exact kx y row z H locs ls hrow hyR hZ hR hS (lv_sub hl [0, 1, 2, 3] rfl)
    · have hjN : j < no := by
        rcases Nat.lt_or_ge j no with q | q
        · exact q
        · exact absurd (nI_le (by omega) (by omega)) c1
      obtain ⟨h_ea, h_lt, h_ne, h_lm, h_mo⟩ := hwf.2.2.2 j hjN
      have h_y1 : y (ea j) ≤ B + 255 * j := by rw [hyR]; exact rR_le hwf hB (by omega) _ h_ea
      have h_y2 : y (lt j) ≤ B + 255 * j := by rw [hyR]; exact rR_le hwf hB (by omega) _ h_lt
      refine lv_aload_n hx hb dX1_raiseByOrders_12 rfl (lv_at hl 2 rfl) ?_
      refine tb_get hx hb hts (fun w h => List.mem_cons_of_mem _ (inX1 w h)) hown hK hR 1 rfl rfl 4 (by decide) (hts _ (List.mem_cons_of_mem _ k42)) (fun _ h => h) rfl dX1_raiseByOrders_13 ?_
      refine lv_iload_n hx hb dX1_raiseByOrders_16 rfl (lv_at hl 0 rfl) ?_
      refine tp_iald hx hb hK hR 6 0 (fun _ _ => rfl) rfl j rfl (by omega) (by decide) dX1_raiseByOrders_17 ?_
      rw [show (va_up I ky row) 6 j = nI (ea j) from (by rw [va_up_ne _ _ (by omega)]; exact (hSi.2.2.2 j (by omega)).1)]
      refine lv_istore (lv' := [(4, .int (nI (ea j))), (3, .int (nI j)), (2, .int z), (0, .ref (ad 1)), (1, .ref (ad ky))]) hx hb dX1_raiseByOrders_18 hl (by decide) rfl (fun ls hl => ?_)
      refine lv_aload_n hx hb dX1_raiseByOrders_20 rfl (lv_at hl 3 rfl) ?_
      refine tb_get hx hb hts (fun w h => List.mem_cons_of_mem _ (inX1 w h)) hown hK hR 1 rfl rfl 5 (by decide) (hts _ (List.mem_cons_of_mem _ k43)) (fun _ h => h) rfl dX1_raiseByOrders_21 ?_
      refine lv_iload_n hx hb dX1_raiseByOrders_24 rfl (lv_at hl 1 rfl) ?_
      refine tp_iald hx hb hK hR 7 0 (fun _ _ => rfl) rfl j rfl (by omega) (by decide) dX1_raiseByOrders_25 ?_
      rw [show (va_up I ky row) 7 j = nI (lt j) from (by rw [va_up_ne _ _ (by omega)]; exact (hSi.2.2.2 j (by omega)).2.1)]
      refine lv_istore (lv' := [(5, .int (nI (lt j))), (4, .int (nI (ea j))), (3, .int (nI j)), (2, .int z), (0, .ref (ad 1)), (1, .ref (ad ky))]) hx hb dX1_raiseByOrders_26 hl (by decide) rfl (fun ls hl => ?_)
      refine lv_aload_n hx hb dX1_raiseByOrders_28 rfl (lv_at hl 5 rfl) ?_
      refine lv_iload hx hb dX1_raiseByOrders_29 (lv_at hl 0 rfl) ?_
      refine tp_iald hx hb hK hR ky 0 hky rfl (lt j) rfl (by omega) (by decide) dX1_raiseByOrders_31 ?_
      rw [show (va_up I ky row) ky (lt j) = nI (y (lt j)) from (by rw [va_up_self]; exact hrow _ (by omega))]
      refine lv_aload_n hx hb dX1_raiseByOrders_32 rfl (lv_at hl 5 rfl) ?_
      refine lv_iload hx hb dX1_raiseByOrders_33 (lv_at hl 1 rfl) ?_
      refine tp_iald hx hb hK hR ky 0 hky rfl (ea j) rfl (by omega) (by decide) dX1_raiseByOrders_35 ?_
      rw [show (va_up I ky row) ky (ea j) = nI (y (ea j)) from (by rw [va_up_self]; exact hrow _ (by omega))]
      refine lv_aload_n hx hb dX1_raiseByOrders_36 rfl (lv_at hl 4 rfl) ?_
      refine tb_get hx hb hts (fun w h => List.mem_cons_of_mem _ (inX1 w h)) hown hK hR 1 rfl rfl 6 (by decide) (hts _ (List.mem_cons_of_mem _ k44)) (fun _ h => h) rfl dX1_raiseByOrders_37 ?_
      refine lv_iload_n hx hb dX1_raiseByOrders_40 rfl (lv_at hl 2 rfl) ?_
      refine tp_iald hx hb hK hR 8 0 (fun _ _ => rfl) rfl j rfl (by omega) (by decide) dX1_raiseByOrders_41 ?_
      rw [show (va_up I ky row) 8 j = nI (le j) from (by rw [va_up_ne _ _ (by omega)]; exact (hSi.2.2.2 j (by omega)).2.2.1)]
      refine lv_iadd hx hb dX1_raiseByOrders_42 ?_
      refine lv_icmp_ge (tgt := 63) hx hb dX1_raiseByOrders_43 (by decide) (fun c2 => ?_) (fun c2 => ?_)
      · have hq1 : ¬ y (lt j) < y (ea j) + le j := Nat.not_lt.mpr ((add_le (by omega) (by omega) (by omega)).mp c2)
        have e1 : rB ea lt le j y = y := by unfold rB; rw [if_neg hq1]
        have hrow1 : rw_Y nd row (rB ea lt le j y) := by rw [e1]; exact hrow
        have h_b1 : rB ea lt le j y (lt j) ≤ B + 255 * (j + 1) := by
          unfold rB; split
          · rw [va_up_self]; omega
          · omega
        have h_b2 : rB ea lt le j y (ea j) ≤ B + 255 * (j + 1) := by
          unfold rB; split
          · rw [va_up_ne _ _ h_ne]; omega
          · omega
        refine lv_aload_n hx hb dX1_raiseByOrders_63 rfl (lv_at hl 5 rfl) ?_
        refine lv_iload hx hb dX1_raiseByOrders_64 (lv_at hl 1 rfl) ?_
        refine tp_iald hx hb hK hR ky 0 hky rfl (ea j) rfl (by omega) (by decide) dX1_raiseByOrders_66 ?_
        rw [show (va_up I ky row) ky (ea j) = nI (rB ea lt le j y (ea j)) from (by rw [va_up_self]; exact hrow1 _ (by omega))]
        refine lv_aload_n hx hb dX1_raiseByOrders_67 rfl (lv_at hl 5 rfl) ?_
        refine lv_iload hx hb dX1_raiseByOrders_68 (lv_at hl 0 rfl) ?_
        refine tp_iald hx hb hK hR ky 0 hky rfl (lt j) rfl (by omega) (by decide) dX1_raiseByOrders_70 ?_
        rw [show (va_up I ky row) ky (lt j) = nI (rB ea lt le j y (lt j)) from (by rw [va_up_self]; exact hrow1 _ (by omega))]
        refine lv_aload_n hx hb dX1_raiseByOrders_71 rfl (lv_at hl 4 rfl) ?_
        refine tb_get hx hb hts (fun w h => List.mem_cons_of_mem _ (inX1 w h)) hown hK hR 1 rfl rfl 7 (by decide) (hts _ (List.mem_cons_of_mem _ k45)) (fun _ h => h) rfl dX1_raiseByOrders_72 ?_
        refine lv_iload_n hx hb dX1_raiseByOrders_75 rfl (lv_at hl 2 rfl) ?_
        refine tp_iald hx hb hK hR 9 0 (fun _ _ => rfl) rfl j rfl (by omega) (by decide) dX1_raiseByOrders_76 ?_
        rw [show (va_up I ky row) 9 j = nI (mo j) from (by rw [va_up_ne _ _ (by omega)]; exact (hSi.2.2.2 j (by omega)).2.2.2)]
        refine lv_isub hx hb dX1_raiseByOrders_77 ?_
        refine lv_icmp_ge (tgt := 98) hx hb dX1_raiseByOrders_78 (by decide) (fun c3 => ?_) (fun c3 => ?_)
        · have hq2 : ¬ rB ea lt le j y (ea j) + mo j < rB ea lt le j y (lt j) := Nat.not_lt.mpr ((sub_le (by omega) (by omega) (by omega)).mp c3)
          have e2 : rA ea lt mo j (rB ea lt le j y) = rB ea lt le j y := by unfold rA; rw [if_neg hq2]
          have hrow2 : rw_Y nd row (rA ea lt mo j (rB ea lt le j y)) := by rw [e2]; exact hrow1
          have g1 := rB_ge ea lt le j y
          have g2 := rA_ge ea lt mo j (rB ea lt le j y)
          have g0 := rR_ge ea lt le mo j y0
          have hyS : rA ea lt mo j (rB ea lt le j y) = rR ea lt le mo (j + 1) y0 := by rw [hyR]; rfl
          have hZ2 : rZ nd y0 (rA ea lt mo j (rB ea lt le j y)) z := by rw [e2, e1]; exact hZ
          refine lv_iinc (v := nI (j + 1)) (lv' := [(3, .int (nI (j + 1))), (5, .int (nI (lt j))), (4, .int (nI (ea j))), (2, .int z), (0, .ref (ad 1)), (1, .ref (ad ky))]) hx hb dX1_raiseByOrders_98 hl (k := 2) rfl (nI_1 _) (by decide) rfl (fun ls hl => ?_)
          refine lv_goto (tgt := 4) hx hb dX1_raiseByOrders_101 (by decide) ?_
          exact ih (j + 1) (rA ea lt mo j (rB ea lt le j y)) row z H locs ls (by omega) (by omega) hrow2 hyS hZ2 hR hS (lv_sub hl [0, 3, 4, 5] rfl)
        · have hq2 : rB ea lt le j y (ea j) + mo j < rB ea lt le j y (lt j) := Nat.lt_of_not_le (fun q => c3 ((sub_le (by omega) (by omega) (by omega)).mpr q))
          have e2 : rA ea lt mo j (rB ea lt le j y) = va_up (rB ea lt le j y) (ea j) (rB ea lt le j y (lt j) - mo j) := by unfold rA; rw [if_pos hq2]
          refine lv_aload_n hx hb dX1_raiseByOrders_81 rfl (lv_at hl 5 rfl) ?_
          refine lv_iload hx hb dX1_raiseByOrders_82 (lv_at hl 1 rfl) ?_
          refine lv_aload_n hx hb dX1_raiseByOrders_84 rfl (lv_at hl 5 rfl) ?_
          refine lv_iload hx hb dX1_raiseByOrders_85 (lv_at hl 0 rfl) ?_
          refine tp_iald hx hb hK hR ky 0 hky rfl (lt j) rfl (by omega) (by decide) dX1_raiseByOrders_87 ?_
          rw [show (va_up I ky row) ky (lt j) = nI (rB ea lt le j y (lt j)) from (by rw [va_up_self]; exact hrow1 _ (by omega))]
          refine lv_aload_n hx hb dX1_raiseByOrders_88 rfl (lv_at hl 4 rfl) ?_
          refine tb_get hx hb hts (fun w h => List.mem_cons_of_mem _ (inX1 w h)) hown hK hR 1 rfl rfl 7 (by decide) (hts _ (List.mem_cons_of_mem _ k45)) (fun _ h => h) rfl dX1_raiseByOrders_89 ?_
          refine lv_iload_n hx hb dX1_raiseByOrders_92 rfl (lv_at hl 2 rfl) ?_
          refine tp_iald hx hb hK hR 9 0 (fun _ _ => rfl) rfl j rfl (by omega) (by decide) dX1_raiseByOrders_93 ?_
          rw [show (va_up I ky row) 9 j = nI (mo j) from (by rw [va_up_ne _ _ (by omega)]; exact (hSi.2.2.2 j (by omega)).2.2.2)]
          refine lv_isub hx hb dX1_raiseByOrders_94 ?_
          refine tp_iast hx hb hK hR hS ky 0 hky rfl (ea j) rfl (by omega) (by decide) dX1_raiseByOrders_95 (fun H locs hR hS => ?_)
          rw [bx_uu, va_up_self] at hR
          have hrow2 : rw_Y nd (upd row (ea j) (nI (rB ea lt le j y (lt j)) - nI (mo j))) (rA ea lt mo j (rB ea lt le j y)) := by rw [e2]; exact hrow1.put _ _ (pk_sub (by omega))
          generalize upd row (ea j) (nI (rB ea lt le j y (lt j)) - nI (mo j)) = row2 at hR hrow2
          refine lv_iconst (v := 1) hx hb dX1_raiseByOrders_96 (by decide) ?_
          refine lv_istore_n (lv' := [(2, .int 1), (5, .int (nI (lt j))), (4, .int (nI (ea j))), (3, .int (nI j)), (0, .ref (ad 1)), (1, .ref (ad ky))]) hx hb dX1_raiseByOrders_97 rfl hl (by decide) rfl (fun ls hl => ?_)
          have g1 := rB_ge ea lt le j y
          have g2 := rA_ge ea lt mo j (rB ea lt le j y)
          have g0 := rR_ge ea lt le mo j y0
          have hyS : rA ea lt mo j (rB ea lt le j y) = rR ea lt le mo (j + 1) y0 := by rw [hyR]; rfl
          rw [← hyR] at g0
          have q3 : rA ea lt mo j (rB ea lt le j y) (ea j) = rB ea lt le j y (lt j) - mo j := by rw [e2, va_up_self]
          have hZ2 : rZ nd y0 (rA ea lt mo j (rB ea lt le j y)) 1 := Or.inr ⟨rfl, ea j, h_ea, by have q1 := g0 (ea j); have q2 := g1 (ea j); omega⟩
          refine lv_iinc (v := nI (j + 1)) (lv' := [(3, .int (nI (j + 1))), (2, .int 1), (5, .int (nI (lt j))), (4, .int (nI (ea j))), (0, .ref (ad 1)), (1, .ref (ad ky))]) hx hb dX1_raiseByOrders_98 hl (k := 3) rfl (nI_1 _) (by decide) rfl (fun ls hl => ?_)
          refine lv_goto (tgt := 4) hx hb dX1_raiseByOrders_101 (by decide) ?_
          exact ih (j + 1) (rA ea lt mo j (rB ea lt le j y)) row2 1 H locs ls (by omega) (by omega) hrow2 hyS hZ2 hR hS (lv_sub hl [0, 1, 4, 5] rfl)
      · have hq1 : y (lt j) < y (ea j) + le j := Nat.lt_of_not_le (fun q => c2 ((add_le (by omega) (by omega) (by omega)).mpr q))
        have e1 : rB ea lt le j y = va_up y (lt j) (y (ea j) + le j) := by unfold rB; rw [if_pos hq1]
        refine lv_aload_n hx hb dX1_raiseByOrders_46 rfl (lv_at hl 5 rfl) ?_
        refine lv_iload hx hb dX1_raiseByOrders_47 (lv_at hl 0 rfl) ?_
        refine lv_aload_n hx hb dX1_raiseByOrders_49 rfl (lv_at hl 5 rfl) ?_
        refine lv_iload hx hb dX1_raiseByOrders_50 (lv_at hl 1 rfl) ?_
        refine tp_iald hx hb hK hR ky 0 hky rfl (ea j) rfl (by omega) (by decide) dX1_raiseByOrders_52 ?_
        rw [show (va_up I ky row) ky (ea j) = nI (y (ea j)) from (by rw [va_up_self]; exact hrow _ (by omega))]
        refine lv_aload_n hx hb dX1_raiseByOrders_53 rfl (lv_at hl 4 rfl) ?_
        refine tb_get hx hb hts (fun w h => List.mem_cons_of_mem _ (inX1 w h)) hown hK hR 1 rfl rfl 6 (by decide) (hts _ (List.mem_cons_of_mem _ k44)) (fun _ h => h) rfl dX1_raiseByOrders_54 ?_
        refine lv_iload_n hx hb dX1_raiseByOrders_57 rfl (lv_at hl 2 rfl) ?_
        refine tp_iald hx hb hK hR 8 0 (fun _ _ => rfl) rfl j rfl (by omega) (by decide) dX1_raiseByOrders_58 ?_
        rw [show (va_up I ky row) 8 j = nI (le j) from (by rw [va_up_ne _ _ (by omega)]; exact (hSi.2.2.2 j (by omega)).2.2.1)]
        refine lv_iadd hx hb dX1_raiseByOrders_59 ?_
        refine tp_iast hx hb hK hR hS ky 0 hky rfl (lt j) rfl (by omega) (by decide) dX1_raiseByOrders_60 (fun H locs hR hS => ?_)
        rw [bx_uu, va_up_self] at hR
        have hrow1 : rw_Y nd (upd row (lt j) (nI (y (ea j)) + nI (le j))) (rB ea lt le j y) := by rw [e1]; exact hrow.put _ _ (nI_add _ _)
        generalize upd row (lt j) (nI (y (ea j)) + nI (le j)) = row1 at hR hrow1
        have h_b1 : rB ea lt le j y (lt j) ≤ B + 255 * (j + 1) := by
          unfold rB; split
          · rw [va_up_self]; omega
          · omega
        have h_b2 : rB ea lt le j y (ea j) ≤ B + 255 * (j + 1) := by
          unfold rB; split
          · rw [va_up_ne _ _ h_ne]; omega
          · omega
        refine lv_iconst (v := 1) hx hb dX1_raiseByOrders_61 (by decide) ?_
        refine lv_istore_n (lv' := [(2, .int 1), (5, .int (nI (lt j))), (4, .int (nI (ea j))), (3, .int (nI j)), (0, .ref (ad 1)), (1, .ref (ad ky))]) hx hb dX1_raiseByOrders_62 rfl hl (by decide) rfl (fun ls hl => ?_)
        refine lv_aload_n hx hb dX1_raiseByOrders_63 rfl (lv_at hl 5 rfl) ?_
        refine lv_iload hx hb dX1_raiseByOrders_64 (lv_at hl 2 rfl) ?_
        refine tp_iald hx hb hK hR ky 0 hky rfl (ea j) rfl (by omega) (by decide) dX1_raiseByOrders_66 ?_
        rw [show (va_up I ky row1) ky (ea j) = nI (rB ea lt le j y (ea j)) from (by rw [va_up_self]; exact hrow1 _ (by omega))]
        refine lv_aload_n hx hb dX1_raiseByOrders_67 rfl (lv_at hl 5 rfl) ?_
        refine lv_iload hx hb dX1_raiseByOrders_68 (lv_at hl 1 rfl) ?_
        refine tp_iald hx hb hK hR ky 0 hky rfl (lt j) rfl (by omega) (by decide) dX1_raiseByOrders_70 ?_
        rw [show (va_up I ky row1) ky (lt j) = nI (rB ea lt le j y (lt j)) from (by rw [va_up_self]; exact hrow1 _ (by omega))]
        refine lv_aload_n hx hb dX1_raiseByOrders_71 rfl (lv_at hl 4 rfl) ?_
        refine tb_get hx hb hts (fun w h => List.mem_cons_of_mem _ (inX1 w h)) hown hK hR 1 rfl rfl 7 (by decide) (hts _ (List.mem_cons_of_mem _ k45)) (fun _ h => h) rfl dX1_raiseByOrders_72 ?_
        refine lv_iload_n hx hb dX1_raiseByOrders_75 rfl (lv_at hl 3 rfl) ?_
        refine tp_iald hx hb hK hR 9 0 (fun _ _ => rfl) rfl j rfl (by omega) (by decide) dX1_raiseByOrders_76 ?_
        rw [show (va_up I ky row1) 9 j = nI (mo j) from (by rw [va_up_ne _ _ (by omega)]; exact (hSi.2.2.2 j (by omega)).2.2.2)]
        refine lv_isub hx hb dX1_raiseByOrders_77 ?_
        refine lv_icmp_ge (tgt := 98) hx hb dX1_raiseByOrders_78 (by decide) (fun c4 => ?_) (fun c4 => ?_)
        · have hq2 : ¬ rB ea lt le j y (ea j) + mo j < rB ea lt le j y (lt j) := Nat.not_lt.mpr ((sub_le (by omega) (by omega) (by omega)).mp c4)
          have e2 : rA ea lt mo j (rB ea lt le j y) = rB ea lt le j y := by unfold rA; rw [if_neg hq2]
          have hrow2 : rw_Y nd row1 (rA ea lt mo j (rB ea lt le j y)) := by rw [e2]; exact hrow1
          have g1 := rB_ge ea lt le j y
          have g2 := rA_ge ea lt mo j (rB ea lt le j y)
          have g0 := rR_ge ea lt le mo j y0
          have hyS : rA ea lt mo j (rB ea lt le j y) = rR ea lt le mo (j + 1) y0 := by rw [hyR]; rfl
          rw [← hyR] at g0
          have q3 : rB ea lt le j y (lt j) = y (ea j) + le j := by rw [e1, va_up_self]
          have hZ2 : rZ nd y0 (rA ea lt mo j (rB ea lt le j y)) 1 := Or.inr ⟨rfl, lt j, h_lt, by have q1 := g0 (lt j); have q2 := g2 (lt j); omega⟩
          refine lv_iinc (v := nI (j + 1)) (lv' := [(3, .int (nI (j + 1))), (2, .int 1), (5, .int (nI (lt j))), (4, .int (nI (ea j))), (0, .ref (ad 1)), (1, .ref (ad ky))]) hx hb dX1_raiseByOrders_98 hl (k := 3) rfl (nI_1 _) (by decide) rfl (fun ls hl => ?_)
          refine lv_goto (tgt := 4) hx hb dX1_raiseByOrders_101 (by decide) ?_
          exact ih (j + 1) (rA ea lt mo j (rB ea lt le j y)) row1 1 H locs ls (by omega) (by omega) hrow2 hyS hZ2 hR hS (lv_sub hl [0, 1, 4, 5] rfl)
        · have hq2 : rB ea lt le j y (ea j) + mo j < rB ea lt le j y (lt j) := Nat.lt_of_not_le (fun q => c4 ((sub_le (by omega) (by omega) (by omega)).mpr q))
          have e2 : rA ea lt mo j (rB ea lt le j y) = va_up (rB ea lt le j y) (ea j) (rB ea lt le j y (lt j) - mo j) := by unfold rA; rw [if_pos hq2]
          refine lv_aload_n hx hb dX1_raiseByOrders_81 rfl (lv_at hl 5 rfl) ?_
          refine lv_iload hx hb dX1_raiseByOrders_82 (lv_at hl 2 rfl) ?_
          refine lv_aload_n hx hb dX1_raiseByOrders_84 rfl (lv_at hl 5 rfl) ?_
          refine lv_iload hx hb dX1_raiseByOrders_85 (lv_at hl 1 rfl) ?_
          refine tp_iald hx hb hK hR ky 0 hky rfl (lt j) rfl (by omega) (by decide) dX1_raiseByOrders_87 ?_
          rw [show (va_up I ky row1) ky (lt j) = nI (rB ea lt le j y (lt j)) from (by rw [va_up_self]; exact hrow1 _ (by omega))]
          refine lv_aload_n hx hb dX1_raiseByOrders_88 rfl (lv_at hl 4 rfl) ?_
          refine tb_get hx hb hts (fun w h => List.mem_cons_of_mem _ (inX1 w h)) hown hK hR 1 rfl rfl 7 (by decide) (hts _ (List.mem_cons_of_mem _ k45)) (fun _ h => h) rfl dX1_raiseByOrders_89 ?_
          refine lv_iload_n hx hb dX1_raiseByOrders_92 rfl (lv_at hl 3 rfl) ?_
          refine tp_iald hx hb hK hR 9 0 (fun _ _ => rfl) rfl j rfl (by omega) (by decide) dX1_raiseByOrders_93 ?_
          rw [show (va_up I ky row1) 9 j = nI (mo j) from (by rw [va_up_ne _ _ (by omega)]; exact (hSi.2.2.2 j (by omega)).2.2.2)]
          refine lv_isub hx hb dX1_raiseByOrders_94 ?_
          refine tp_iast hx hb hK hR hS ky 0 hky rfl (ea j) rfl (by omega) (by decide) dX1_raiseByOrders_95 (fun H locs hR hS => ?_)
          rw [bx_uu, va_up_self] at hR
          have hrow2 : rw_Y nd (upd row1 (ea j) (nI (rB ea lt le j y (lt j)) - nI (mo j))) (rA ea lt mo j (rB ea lt le j y)) := by rw [e2]; exact hrow1.put _ _ (pk_sub (by omega))
          generalize upd row1 (ea j) (nI (rB ea lt le j y (lt j)) - nI (mo j)) = row2 at hR hrow2
          refine lv_iconst (v := 1) hx hb dX1_raiseByOrders_96 (by decide) ?_
          refine lv_istore_n (lv' := [(2, .int 1), (5, .int (nI (lt j))), (4, .int (nI (ea j))), (3, .int (nI j)), (0, .ref (ad 1)), (1, .ref (ad ky))]) hx hb dX1_raiseByOrders_97 rfl hl (by decide) rfl (fun ls hl => ?_)
          have g1 := rB_ge ea lt le j y
          have g2 := rA_ge ea lt mo j (rB ea lt le j y)
          have g0 := rR_ge ea lt le mo j y0
          have hyS : rA ea lt mo j (rB ea lt le j y) = rR ea lt le mo (j + 1) y0 := by rw [hyR]; rfl
          rw [← hyR] at g0
          have q3 : rB ea lt le j y (lt j) = y (ea j) + le j := by rw [e1, va_up_self]
          have hZ2 : rZ nd y0 (rA ea lt mo j (rB ea lt le j y)) 1 := Or.inr ⟨rfl, lt j, h_lt, by have q1 := g0 (lt j); have q2 := g2 (lt j); omega⟩
          refine lv_iinc (v := nI (j + 1)) (lv' := [(3, .int (nI (j + 1))), (2, .int 1), (5, .int (nI (lt j))), (4, .int (nI (ea j))), (0, .ref (ad 1)), (1, .ref (ad ky))]) hx hb dX1_raiseByOrders_98 hl (k := 3) rfl (nI_1 _) (by decide) rfl (fun ls hl => ?_)
          refine lv_goto (tgt := 4) hx hb dX1_raiseByOrders_101 (by decide) ?_
          exact ih (j + 1) (rA ea lt mo j (rB ea lt le j y)) row2 1 H locs ls (by omega) (by omega) hrow2 hyS hZ2 hR hS (lv_sub hl [0, 1, 4, 5] rfl)
set_option maxHeartbeats 4000000 in
set_option maxRecDepth 100000 in
theorem mX1_raiseByOrders (I : tI) (L : tL) {nd no : Nat} {f la : Nat → Nat} {ph : Nat → Int32} {w : Nat → Nat → Nat} {ea lt le mo : Nat → Nat} (ky B : Nat) (y0 : Nat → Nat) (row0 : Nat → Int32) (hSi : cSi I nd no f la ph w ea lt le mo) (hwf : wfS nd no f la w ea lt le mo) (hk18 : 18 ≤ ky) (hky : ∀ r q, wP n ad cs ky r q = some (.inl (cs 0, 8, .inl r))) (hB : ∀ d, d < nd → y0 d ≤ B) (hB2 : B + 10000 < 2 ^ 28) (hrow0 : rw_Y nd row0 y0) : Met l yX1_raiseByOrders wX1_raiseByOrders ({ frames := 0, cells := 0, slots := 0, locals := 0 }) (va_Pc [.ref (ad 1), .ref (ad ky)] (kB D cs base sa n ad (va_up I ky row0) L)) (va_Qi (fun (r : Int32) (u : tI × tL) => ∃ row : Nat → Int32, u = (va_up I ky row, L) ∧ rw_Y nd row (rR ea lt le mo no y0) ∧ rZ nd y0 (rR ea lt le mo no y0) r) (kA D cs base n ad) (fun q => base ≤ q)) 0 0 (fun q => base ≤ q) := by
  refine Met.ofW (cc := cX1_raiseByOrders) (maxL := 6) (ret := (some .boolean)) (by decide) rfl ?_
  intro p e s m args below meth c s₁ Bd hml hv
  obtain ⟨rfl, hE, hR⟩ := hv
  have hx := Bd.exec
  have hb := Bd.bytes
  have hr := Bd.returns
  have hts := atoms_spec (ws := wX1_raiseByOrders) Bd.pre
  have hown : s.vm.findClass RX1 = some m.cls := findClass_of_methodNamed Bd.named
  have hlocks := Bd.notSynchronized
  have hK := hE.K
  have hS : va_S (fun q => base ≤ q) s.heap s.heap [] := va_S.rf
  have hR : tR D vwCl base ad (tC (wP n ad cs) (va_up I ky row0) L) s.heap := hR
  have hl := lv_entry ([.ref (ad 1), .ref (ad ky)]) (n := 6) (Nat.le_of_ble_eq_true rfl)
  rw [lg_entry_eq]
  generalize (lg_sl ([.ref (ad 1), .ref (ad ky)]) ++ List.replicate (6 - (lg_sl ([.ref (ad 1), .ref (ad ky)])).length) Slot.unset).toArray = ls at hl ⊢
  have hl : lv_has ls 6 [(0, .ref (ad 1)), (1, .ref (ad ky))] := hl
  refine lv_iconst (v := 0) hx hb dX1_raiseByOrders_0 (by decide) ?_
  refine lv_istore_n (lv' := [(2, .int 0), (0, .ref (ad 1)), (1, .ref (ad ky))]) hx hb dX1_raiseByOrders_1 rfl hl (by decide) rfl (fun ls hl => ?_)
  refine lv_iconst (v := 0) hx hb dX1_raiseByOrders_2 (by decide) ?_
  rw [show (0 : Int32) = nI 0 from nI_0.symm]
  refine lv_istore_n (lv' := [(3, .int (nI 0)), (2, .int 0), (0, .ref (ad 1)), (1, .ref (ad ky))]) hx hb dX1_raiseByOrders_3 rfl hl (by decide) rfl (fun ls hl => ?_)
  refine lpX1_raiseByOrders ⟨hx, hb, hml, hown, hts⟩ hE (Nat.zero_le _) (Nat.zero_le _) (Nat.le_of_ble_eq_true rfl) (Nat.le_of_ble_eq_true rfl) I L ky B y0 hSi hwf hk18 hky hB hB2 (fun y row z H locs ls hrow hyR hZ hR hS hl => ?_) (no + 1) 0 y0 row0 0 _ _ ls (Nat.zero_le _) (by omega) hrow0 rfl (Or.inl ⟨rfl, fun _ _ => rfl⟩) hR hS (lv_sub hl [0, 1, 2, 3] rfl)
  subst hyR
  refine lv_iload_n hx hb dX1_raiseByOrders_104 rfl (lv_at hl 1 rfl) ?_
  exact W.zret (v := z) hx hb hr (by rcases hZ with ⟨q, -⟩ | ⟨q, -⟩ <;> subst q <;> rfl) (fun t ht hW => ⟨⟨_, (va_up I ky row, L), rfl, ⟨row, rfl, hrow, hZ⟩, by show tR _ _ _ _ _ t.heap; rw [ht]; exact hR⟩, hS.F ht⟩) hS.2.2 dX1_raiseByOrders_105
end C4
end
section
section LZ
variable {nd no : Nat} {f la : Nat → Nat} {w : Nat → Nat → Nat} {ea lt le mo : Nat → Nat}
/-- z are such years: between first and last, all orders holding -/
def yS (nd no : Nat) (f la ea lt le mo : Nat → Nat) (z : Nat → Int) : Prop := ly_S nd no ea lt (fun j => (le j : Int)) (fun j => (mo j : Int)) (fun d => (f d : Int)) (fun d => (la d : Int)) z
/-- z are the least such years -/
def yM (nd no : Nat) (f la ea lt le mo : Nat → Nat) (z : Nat → Nat) : Prop := ly_M nd no ea lt (fun j => (le j : Int)) (fun j => (mo j : Int)) (fun d => (f d : Int)) (fun d => (la d : Int)) (fun d => (z d : Int))
theorem yS_ab (hwf : wfS nd no f la w ea lt le mo) : ∀ j, j < no → ea j < nd ∧ lt j < nd := fun j hj => ⟨(hwf.2.2.2 j hj).1, (hwf.2.2.2 j hj).2.1⟩
theorem rK_ge (k : Nat) (y : Nat → Nat) (d : Nat) : y d ≤ rK ea lt le mo no k y d := by
  induction k with
  | zero => exact Nat.le_refl _
  | succ k ih => exact Nat.le_trans ih (rR_ge ea lt le mo no _ d)
theorem rK_le (hwf : wfS nd no f la w ea lt le mo) (k : Nat) : ∀ d, d < nd → rK ea lt le mo no k f d ≤ 255 + 6120 * k := by
  induction k with
  | zero => intro d hd; have := hwf.2.2.1 d hd; show f d ≤ _; omega
  | succ k ih =>
    intro d hd
    have h := rR_le hwf ih (Nat.le_refl no) d hd
    have := hwf.2.1
    show rR ea lt le mo no (rK ea lt le mo no k f) d ≤ _
    omega
theorem rK_below (hwf : wfS nd no f la w ea lt le mo) {z : Nat → Int} (hz : yS nd no f la ea lt le mo z) (k : Nat) : ∀ d, d < nd → ((rK ea lt le mo no k f d : Nat) : Int) ≤ z d := by
  intro d hd
  rw [rK_z]
  exact ly_k_le hz.2 (yS_ab hwf) (fun d hd => (hz.1 d hd).1) k d hd
theorem ls_no (hwf : wfS nd no f la w ea lt le mo) (h : ∃ d, d < nd ∧ rK ea lt le mo no 8 f d < rK ea lt le mo no 9 f d) : ¬ ∃ z, yS nd no f la ea lt le mo z := by
  intro hz
  obtain ⟨v, hv⟩ := hz
  obtain ⟨z, hm⟩ := ly_ex (Int.toNat (ly_s (fun d => (f d : Int)) v nd) + 1) v (by have := ly_s_nn (fun d hd => (hv.1 d hd).1); omega) hv
  obtain ⟨d, hd, hlt⟩ := h
  have h8 := ly_k8 (y := fun d => (f d : Int)) hm (yS_ab hwf) (fun _ _ => Int.le_refl _) (fun d hd => (hm.1.1 d hd).1) hwf.1 (Nat.le_refl 8) d hd
  have h9 := ly_k8 (y := fun d => (f d : Int)) hm (yS_ab hwf) (fun _ _ => Int.le_refl _) (fun d hd => (hm.1.1 d hd).1) hwf.1 (show 8 ≤ 9 by omega) d hd
  rw [← rK_z] at h8 h9
  omega
theorem ls_past (hwf : wfS nd no f la w ea lt le mo) {i : Nat} (h : ∃ d, d < nd ∧ la d < rK ea lt le mo no i f d) : ¬ ∃ z, yS nd no f la ea lt le mo z := by
  intro hz
  obtain ⟨z, hz⟩ := hz
  obtain ⟨d, hd, hlt⟩ := h
  have h1 := rK_below hwf hz i d hd
  have h2 := (hz.1 d hd).2
  dsimp only at h2
  omega
theorem ls_yes (hwf : wfS nd no f la w ea lt le mo) {i : Nat} (h : ∀ d, d < nd → rK ea lt le mo no (i + 1) f d = rK ea lt le mo no i f d) (hl : ∀ d, d < nd → rK ea lt le mo no (i + 1) f d ≤ la d) : yM nd no f la ea lt le mo (rK ea lt le mo no (i + 1) f) := by
  refine ⟨⟨fun d hd => ⟨?_, ?_⟩, ?_⟩, fun v hv d hd => rK_below hwf hv (i + 1) d hd⟩
  · have := rK_ge (ea := ea) (lt := lt) (le := le) (mo := mo) (no := no) (i + 1) f d
    dsimp only
    omega
  · have := hl d hd
    dsimp only
    omega
  · have hfix : ly_H no ea lt (fun j => (le j : Int)) (fun j => (mo j : Int)) (fun d => ((rK ea lt le mo no i f d : Nat) : Int)) := by
      refine ly_fix (n := nd) (yS_ab hwf) (fun d hd => ?_)
      rw [← rR_z]
      have := h d hd
      show ((rK ea lt le mo no (i + 1) f d : Nat) : Int) = _
      rw [this]
    intro j hj
    obtain ⟨ha, hb⟩ := yS_ab hwf j hj
    have h1 := hfix j hj
    dsimp only at h1 ⊢
    rw [h _ ha, h _ hb]
    exact h1
theorem yM_unique {z v : Nat → Nat} (hz : yM nd no f la ea lt le mo z) (hv : yM nd no f la ea lt le mo v) : ∀ d, d < nd → z d = v d := by
  intro d hd
  have h1 := hz.2 _ hv.1 d hd
  have h2 := hv.2 _ hz.1 d hd
  dsimp only at h1 h2
  omega
end LZ
/-- the site doesn't see what lies from code 18 on -/
theorem cSi.of {I J : tI} {nd no : Nat} {f la : Nat → Nat} {ph : Nat → Int32} {w : Nat → Nat → Nat} {ea lt le mo : Nat → Nat} (h : cSi I nd no f la ph w ea lt le mo) (h8 : nd ≤ 8) (hJ : ∀ k, 1 ≤ k → k < 18 → J k = I k) : cSi J nd no f la ph w ea lt le mo := by
  obtain ⟨h1, h2, h3, h4⟩ := h
  refine ⟨by rw [hJ 1 (by omega) (by omega)]; exact h1, by rw [hJ 1 (by omega) (by omega)]; exact h2, fun d hd => ?_, fun j hj => ?_⟩
  · rw [hJ 2 (by omega) (by omega), hJ 3 (by omega) (by omega), hJ 4 (by omega) (by omega), hJ (10 + d) (by omega) (by omega)]
    exact h3 d hd
  · rw [hJ 6 (by omega) (by omega), hJ 7 (by omega) (by omega), hJ 8 (by omega) (by omega), hJ 9 (by omega) (by omega)]
    exact h4 j hj
theorem cSi.up {I : tI} {nd no : Nat} {f la : Nat → Nat} {ph : Nat → Int32} {w : Nat → Nat → Nat} {ea lt le mo : Nat → Nat} (h : cSi I nd no f la ph w ea lt le mo) (h8 : nd ≤ 8) {ky : Nat} (hk : 18 ≤ ky) (row : Nat → Int32) : cSi (va_up I ky row) nd no f la ph w ea lt le mo := h.of h8 (fun k _ h2 => va_up_ne _ _ (by omega))
end
section
section C5
variable {l : Launch} {D : va_G} {cs : Nat → ClassId} {base : Nat} {sa : Nat → Nat} {n : Nat} {ad : Nat → Nat}
set_option maxHeartbeats 4000000 in
set_option maxRecDepth 100000 in
theorem lp1X1_findLeastYears {p : Program} {e : Env} {R : Room} {s : State} {m : MethodId} {args : Array Value} {below : List Frame} {meth : Method} {c : Code} {cells slots : Nat} {Q : State → Prop} (S0 : CallFix p m c cX1_findLeastYears 4 s args wX1_findLeastYears RX1) (hE : eV D cs base sa s) (hRf : 0 ≤ R.frames) (hRl : 0 ≤ R.locals) (hRc : cells ≤ R.cells) (hRs : slots ≤ R.slots) (I : tI) (L : tL) {nd no : Nat} {f la : Nat → Nat} {ph : Nat → Int32} {w : Nat → Nat → Nat} {ea lt le mo : Nat → Nat} (ky : Nat) (hSi : cSi I nd no f la ph w ea lt le mo) (hwf : wfS nd no f la w ea lt le mo) (hk18 : 18 ≤ ky) (hky : ∀ r q, wP n ad cs ky r q = some (.inl (cs 0, 8, .inl r)))
    (kx : ∀ (row : Nat → Int32) (H : Heap) (locs : List Loc) (ls : Array Slot), rw_Y nd row f → tR D vwCl base ad (tC (wP n ad cs) (va_up I ky row) L) H → va_S (fun q => base ≤ q) s.heap H locs → lv_has ls 4 [(2, .int (nI nd)), (0, .ref (ad 1)), (1, .ref (ad ky))] → W p l e R s m args below meth c H locs cells slots Q (F0 m 25 ls [])) :
    ∀ (k j : Nat) (row : Nat → Int32) (H : Heap) (locs : List Loc) (ls : Array Slot), j ≤ nd → nd + 1 ≤ j + k → rw_Y j row f → tR D vwCl base ad (tC (wP n ad cs) (va_up I ky row) L) H → va_S (fun q => base ≤ q) s.heap H locs → lv_has ls 4 [(2, .int (nI j)), (0, .ref (ad 1)), (1, .ref (ad ky))] → W p l e R s m args below meth c H locs cells slots Q (F0 m 2 ls []) := by
  obtain ⟨hx, hb, hml, hown, hts⟩ := S0
  have hK := hE.K
  obtain ⟨h_nd, h_no, h_d, h_o⟩ := id hwf
  intro k
  induction k with
  | zero => intro j row H locs ls h1 h2; exact absurd h2 (by omega)
  | succ k ih =>
    intro j row H locs ls hj hk hin hR hS hl
    refine lv_iload_n hx hb dX1_findLeastYears_2 rfl (lv_at hl 0 rfl) ?_
    refine lv_aload_n hx hb dX1_findLeastYears_3 rfl (lv_at hl 1 rfl) ?_
    refine tb_get hx hb hts (fun w h => List.mem_cons_of_mem _ (inX1 w h)) hown hK hR 1 rfl rfl 8 (by decide) (hts _ (List.mem_cons_of_mem _ k46)) (fun _ h => h) rfl dX1_findLeastYears_4 ?_
    rw [show (va_up I ky row) 1 8 = nI nd from (by rw [va_up_ne _ _ (by omega)]; exact hSi.1)]
    refine lv_icmp_ge (tgt := 25) hx hb dX1_findLeastYears_7 (by decide) (fun c1 => ?_) (fun c1 => ?_)
    · have hjN : j = nd := by have e9 := (nI_leI (by omega) (by omega)).mp c1; omega
      subst hjN
      exact kx row H locs ls hin hR hS (lv_sub hl [0, 1, 2] rfl)
    · have hjN : j < nd := by
        rcases Nat.lt_or_ge j nd with q | q
        · exact q
        · exact absurd (nI_le (by omega) (by omega)) c1
      refine lv_aload_n hx hb dX1_findLeastYears_10 rfl (lv_at hl 2 rfl) ?_
      refine lv_iload_n hx hb dX1_findLeastYears_11 rfl (lv_at hl 0 rfl) ?_
      refine lv_aload_n hx hb dX1_findLeastYears_12 rfl (lv_at hl 1 rfl) ?_
      refine tb_get hx hb hts (fun w h => List.mem_cons_of_mem _ (inX1 w h)) hown hK hR 1 rfl rfl 0 (by decide) (hts _ (List.mem_cons_of_mem _ k35)) (fun _ h => h) rfl dX1_findLeastYears_13 ?_
      refine lv_iload_n hx hb dX1_findLeastYears_16 rfl (lv_at hl 0 rfl) ?_
      refine tp_iald hx hb hK hR 2 0 (fun _ _ => rfl) rfl j rfl (by omega) (by decide) dX1_findLeastYears_17 ?_
      rw [show (va_up I ky row) 2 j = nI (f j) from (by rw [va_up_ne _ _ (by omega)]; exact (hSi.2.2.1 j (by omega)).1)]
      refine tp_iast hx hb hK hR hS ky 0 hky rfl j rfl (by omega) (by decide) dX1_findLeastYears_18 (fun H locs hR hS => ?_)
      rw [bx_uu, va_up_self] at hR
      have hin2 : rw_Y (j + 1) (upd row j (nI (f j))) f := by
        intro i hi; unfold upd; split
        · rename_i e9; rw [e9]
        · exact hin i (by omega)
      refine lv_iinc (v := nI (j + 1)) (lv' := [(2, .int (nI (j + 1))), (0, .ref (ad 1)), (1, .ref (ad ky))]) hx hb dX1_findLeastYears_19 hl (k := 0) rfl (nI_1 _) (by decide) rfl (fun ls hl => ?_)
      refine lv_goto (tgt := 2) hx hb dX1_findLeastYears_22 (by decide) ?_
      exact ih (j + 1) (upd row j (nI (f j))) H locs ls (by omega) (by omega) hin2 hR hS (lv_sub hl [0, 1, 2] rfl)
set_option maxHeartbeats 4000000 in
set_option maxRecDepth 100000 in
theorem lp2X1_findLeastYears {p : Program} {e : Env} {R : Room} {s : State} {m : MethodId} {args : Array Value} {below : List Frame} {meth : Method} {c : Code} {cells slots : Nat} {Q : State → Prop} (S0 : CallFix p m c cX1_findLeastYears 4 s args wX1_findLeastYears RX1) (hE : eV D cs base sa s) (hRf : 1 ≤ R.frames) (hRl : 30 ≤ R.locals) (hRc : cells ≤ R.cells) (hRs : slots ≤ R.slots) (I : tI) (L : tL) {nd no : Nat} {f la : Nat → Nat} {ph : Nat → Int32} {w : Nat → Nat → Nat} {ea lt le mo : Nat → Nat} (ky : Nat) (hSi : cSi I nd no f la ph w ea lt le mo) (hwf : wfS nd no f la w ea lt le mo) (hk18 : 18 ≤ ky) (hky : ∀ r q, wP n ad cs ky r q = some (.inl (cs 0, 8, .inl r)))
    (kx : ∀ (row : Nat → Int32) (z : Int32) (H : Heap) (locs : List Loc) (ls : Array Slot), (∃ j, j ≤ 9 ∧ (z = 0 ∨ j = 9) ∧ rw_Y nd row (rK ea lt le mo no j f) ∧ ((j = 0 ∧ z = 1) ∨ ∃ i, j = i + 1 ∧ rZ nd (rK ea lt le mo no i f) (rK ea lt le mo no j f) z)) → tR D vwCl base ad (tC (wP n ad cs) (va_up I ky row) L) H → va_S (fun q => base ≤ q) s.heap H locs → lv_has ls 4 [(2, .int z), (0, .ref (ad 1)), (1, .ref (ad ky))] → W p l e R s m args below meth c H locs cells slots Q (F0 m 51 ls [])) :
    ∀ (k j : Nat) (row : Nat → Int32) (z : Int32) (H : Heap) (locs : List Loc) (ls : Array Slot), j ≤ 9 → 9 + 1 ≤ j + k → rw_Y nd row (rK ea lt le mo no j f) → ((j = 0 ∧ z = 1) ∨ ∃ i, j = i + 1 ∧ rZ nd (rK ea lt le mo no i f) (rK ea lt le mo no j f) z) → tR D vwCl base ad (tC (wP n ad cs) (va_up I ky row) L) H → va_S (fun q => base ≤ q) s.heap H locs → lv_has ls 4 [(3, .int (nI j)), (2, .int z), (0, .ref (ad 1)), (1, .ref (ad ky))] → W p l e R s m args below meth c H locs cells slots Q (F0 m 29 ls []) := by
  obtain ⟨hx, hb, hml, hown, hts⟩ := S0
  have hK := hE.K
  obtain ⟨h_nd, h_no, h_d, h_o⟩ := id hwf
  intro k
  induction k with
  | zero => intro j row z H locs ls h1 h2; exact absurd h2 (by omega)
  | succ k ih =>
    intro j row z H locs ls hj hk hrow hz hR hS hl
    refine lv_iload_n hx hb dX1_findLeastYears_29 rfl (lv_at hl 0 rfl) ?_
    refine lv_bipush (v := nI 8) hx hb dX1_findLeastYears_30 (by decide) ?_
    refine lv_icmp_gt (tgt := 51) hx hb dX1_findLeastYears_32 (by decide) (fun c1 => ?_) (fun c1 => ?_)
    · have hjN : j = 9 := by have e9 := (nI_ltI (by omega) (by omega)).mp c1; omega
      subst hjN
      exact kx row z H locs ls ⟨9, Nat.le_refl 9, Or.inr rfl, hrow, hz⟩ hR hS (lv_sub hl [1, 2, 3] rfl)
    · have hjN : j < 9 := by
        rcases Nat.lt_or_ge j 9 with q | q
        · exact q
        · exact absurd (nI_lt (by omega) (by omega)) c1
      refine lv_iload_n hx hb dX1_findLeastYears_35 rfl (lv_at hl 1 rfl) ?_
      refine lv_if_eq (tgt := 51) hx hb dX1_findLeastYears_36 (by decide) (fun c2 => ?_) (fun c2 => ?_)
      · exact kx row z H locs ls ⟨j, by omega, Or.inl c2, hrow, hz⟩ hR hS (lv_sub hl [1, 2, 3] rfl)
      · refine lv_aload_n hx hb dX1_findLeastYears_39 rfl (lv_at hl 2 rfl) ?_
        refine lv_aload_n hx hb dX1_findLeastYears_40 rfl (lv_at hl 3 rfl) ?_
        refine kc_i (va_runV (As := [.ref (ad ky)]) (rest := []) ⟨hx, hb, hml, hown, hts⟩ (mX1_raiseByOrders I L ky (255 + 6120 * j) (rK ea lt le mo no j f) row hSi hwf hk18 hky (rK_le hwf j) (by omega) hrow) (cwV 1 hts (kw_V k138 k140 ks1 k3 k141) rfl rfl rfl (by decide +kernel) ⟨Nat.le_trans (Nat.le_of_ble_eq_true rfl) hRf, Nat.le_trans (Nat.le_of_ble_eq_true rfl) hRl⟩) (kB_preV hE hR hS 1 rfl rfl [.ref (ad ky)]) rfl rfl hl.1 rfl (lv_room (Nat.le_of_ble_eq_true rfl)) dX1_findLeastYears_41 ⟨hRc, hRs⟩) hS (fun r u H locs hw hR hS => ?_)
        obtain ⟨row1, rfl, hrow1, hz1⟩ := hw
        have hR : tR D vwCl base ad (tC (wP n ad cs) (va_up I ky row1) L) H := hR
        refine lv_istore_n (lv' := [(2, .int r), (3, .int (nI j)), (0, .ref (ad 1)), (1, .ref (ad ky))]) hx hb dX1_findLeastYears_44 rfl hl (by decide) rfl (fun ls hl => ?_)
        refine lv_iinc (v := nI (j + 1)) (lv' := [(3, .int (nI (j + 1))), (2, .int r), (0, .ref (ad 1)), (1, .ref (ad ky))]) hx hb dX1_findLeastYears_45 hl (k := 1) rfl (nI_1 _) (by decide) rfl (fun ls hl => ?_)
        refine lv_goto (tgt := 29) hx hb dX1_findLeastYears_48 (by decide) ?_
        exact ih (j + 1) row1 r H locs ls (by omega) (by omega) hrow1 (Or.inr ⟨j, rfl, hz1⟩) hR hS (lv_sub hl [0, 1, 2, 3] rfl)
set_option maxHeartbeats 4000000 in
set_option maxRecDepth 100000 in
theorem mX1_findLeastYears (I : tI) (L : tL) {nd no : Nat} {f la : Nat → Nat} {ph : Nat → Int32} {w : Nat → Nat → Nat} {ea lt le mo : Nat → Nat} (ky : Nat) (hSi : cSi I nd no f la ph w ea lt le mo) (hwf : wfS nd no f la w ea lt le mo) (hk18 : 18 ≤ ky) (hky : ∀ r q, wP n ad cs ky r q = some (.inl (cs 0, 8, .inl r))) : Met l yX1_findLeastYears wX1_findLeastYears ({ frames := 1, cells := 0, slots := 0, locals := 30 }) (va_Pc [.ref (ad 1), .ref (ad ky)] (kB D cs base sa n ad I L)) (va_Qi (fun (r : Int32) (u : tI × tL) => ∃ row : Nat → Int32, u = (va_up I ky row, L) ∧ ((r = 1 ∧ ∃ z : Nat → Nat, yM nd no f la ea lt le mo z ∧ rw_Y nd row z) ∨ (r = 0 ∧ ¬ ∃ z, yS nd no f la ea lt le mo z))) (kA D cs base n ad) (fun q => base ≤ q)) 0 0 (fun q => base ≤ q) := by
  refine Met.ofW (cc := cX1_findLeastYears) (maxL := 4) (ret := (some .boolean)) (by decide) rfl ?_
  intro p e s m args below meth c s₁ Bd hml hv
  obtain ⟨rfl, hE, hR⟩ := hv
  have hx := Bd.exec
  have hb := Bd.bytes
  have hr := Bd.returns
  have hts := atoms_spec (ws := wX1_findLeastYears) Bd.pre
  have hown : s.vm.findClass RX1 = some m.cls := findClass_of_methodNamed Bd.named
  have hlocks := Bd.notSynchronized
  have hK := hE.K
  have hS : va_S (fun q => base ≤ q) s.heap s.heap [] := va_S.rf
  have hR : tR D vwCl base ad (tC (wP n ad cs) I L) s.heap := hR
  have hl := lv_entry ([.ref (ad 1), .ref (ad ky)]) (n := 4) (Nat.le_of_ble_eq_true rfl)
  rw [lg_entry_eq]
  generalize (lg_sl ([.ref (ad 1), .ref (ad ky)]) ++ List.replicate (4 - (lg_sl ([.ref (ad 1), .ref (ad ky)])).length) Slot.unset).toArray = ls at hl ⊢
  have hl : lv_has ls 4 [(0, .ref (ad 1)), (1, .ref (ad ky))] := hl
  obtain ⟨h_nd, h_no, h_d, h_o⟩ := id hwf
  refine lv_iconst (v := 0) hx hb dX1_findLeastYears_0 (by decide) ?_
  rw [show (0 : Int32) = nI 0 from nI_0.symm]
  refine lv_istore_n (lv' := [(2, .int (nI 0)), (0, .ref (ad 1)), (1, .ref (ad ky))]) hx hb dX1_findLeastYears_1 rfl hl (by decide) rfl (fun ls hl => ?_)
  have hR : tR D vwCl base ad (tC (wP n ad cs) (va_up I ky (I ky)) L) s.heap := by rw [va_up_id]; exact hR
  refine lp1X1_findLeastYears ⟨hx, hb, hml, hown, hts⟩ hE (Nat.zero_le _) (Nat.zero_le _) (Nat.le_of_ble_eq_true rfl) (Nat.le_of_ble_eq_true rfl) I L ky hSi hwf hk18 hky (fun row H locs ls hrow hR hS hl => ?_) (nd + 1) 0 (I ky) _ _ ls (Nat.zero_le _) (by omega) (fun i hi => absurd hi (Nat.not_lt_zero _)) hR hS (lv_sub hl [0, 1, 2] rfl)
  refine lv_iconst (v := 1) hx hb dX1_findLeastYears_25 (by decide) ?_
  refine lv_istore_n (lv' := [(2, .int 1), (0, .ref (ad 1)), (1, .ref (ad ky))]) hx hb dX1_findLeastYears_26 rfl hl (by decide) rfl (fun ls hl => ?_)
  refine lv_iconst (v := 0) hx hb dX1_findLeastYears_27 (by decide) ?_
  rw [show (0 : Int32) = nI 0 from nI_0.symm]
  refine lv_istore_n (lv' := [(3, .int (nI 0)), (2, .int 1), (0, .ref (ad 1)), (1, .ref (ad ky))]) hx hb dX1_findLeastYears_28 rfl hl (by decide) rfl (fun ls hl => ?_)
  refine lp2X1_findLeastYears ⟨hx, hb, hml, hown, hts⟩ hE (Nat.le_of_ble_eq_true rfl) (Nat.le_of_ble_eq_true rfl) (Nat.le_of_ble_eq_true rfl) (Nat.le_of_ble_eq_true rfl) I L ky hSi hwf hk18 hky (fun row z H locs ls hex hR hS hl => ?_) 10 0 row 1 _ _ ls (Nat.zero_le _) (by omega) hrow (Or.inl ⟨rfl, rfl⟩) hR hS (lv_sub hl [0, 1, 2, 3] rfl)
  obtain ⟨j, hj9, hzj, hrow, hz⟩ := hex
  refine lv_iload_n hx hb dX1_findLeastYears_51 rfl (lv_at hl 0 rfl) ?_
  refine lv_if_ne (tgt := 67) hx hb dX1_findLeastYears_52 (by decide) (fun c1 => ?_) (fun c1 => ?_)
  · have hno : ¬ ∃ z, yS nd no f la ea lt le mo z := by
      have h9 : j = 9 := hzj.elim (fun q => absurd q c1) id
      subst h9
      rcases hz with ⟨q, -⟩ | ⟨i, hi, q⟩
      · omega
      · have hi8 : i = 8 := by omega
        subst hi8
        rcases q with ⟨q, -⟩ | ⟨-, q⟩
        · exact absurd q c1
        · exact ls_no hwf q
    refine lv_iconst (v := 0) hx hb dX1_findLeastYears_67 (by decide) ?_
    exact W.zret (v := 0) hx hb hr rfl (fun t ht hW => ⟨⟨_, (va_up I ky row, L), rfl, ⟨row, rfl, Or.inr ⟨rfl, hno⟩⟩, by show tR _ _ _ _ _ t.heap; rw [ht]; exact hR⟩, hS.F ht⟩) hS.2.2 dX1_findLeastYears_68
  · have hz0 : ∃ i, j = i + 1 ∧ ∀ d, d < nd → rK ea lt le mo no (i + 1) f d = rK ea lt le mo no i f d := by
      rcases hz with ⟨-, q⟩ | ⟨i, hi, q⟩
      · rw [c1] at q; exact absurd q (by decide)
      · rcases q with ⟨-, q⟩ | ⟨q, -⟩
        · exact ⟨i, hi, by rw [hi] at q; exact q⟩
        · rw [c1] at q; exact absurd q (by decide)
    obtain ⟨i, hi, hfx⟩ := hz0
    subst hi
    refine lv_aload_n hx hb dX1_findLeastYears_55 rfl (lv_at hl 1 rfl) ?_
    refine lv_aload_n hx hb dX1_findLeastYears_56 rfl (lv_at hl 2 rfl) ?_
    refine kc_i (va_runV (As := [.ref (ad ky)]) (rest := []) ⟨hx, hb, hml, hown, hts⟩ (mX1_noneIsPastLast (va_up I ky row) L ky (rK ea lt le mo no (i + 1) f) (hSi.up h_nd hk18 row) hwf hky (fun i hi => by rw [va_up_self]; exact hrow i hi) (fun d hd => by have q := rK_le hwf (i + 1) d hd; omega)) (cwV 1 hts (kw_V k142 k144 ks2 k3 k145) rfl rfl rfl (by decide +kernel) ⟨Nat.le_of_ble_eq_true rfl, Nat.le_of_ble_eq_true rfl⟩) (kB_preV hE hR hS 1 rfl rfl [.ref (ad ky)]) rfl rfl hl.1 rfl (lv_room (Nat.le_of_ble_eq_true rfl)) dX1_findLeastYears_57 ⟨Nat.le_of_ble_eq_true rfl, Nat.le_of_ble_eq_true rfl⟩) hS (fun r u H locs hw hR hS => ?_)
    obtain ⟨hres, rfl⟩ := hw
    have hR : tR D vwCl base ad (tC (wP n ad cs) (va_up I ky row) L) H := hR
    refine lv_if_eq (tgt := 67) hx hb dX1_findLeastYears_60 (by decide) (fun c2 => ?_) (fun c2 => ?_)
    · have hno : ¬ ∃ z, yS nd no f la ea lt le mo z := by
        rcases hres with ⟨q, -⟩ | ⟨-, q⟩
        · rw [c2] at q; exact absurd q (by decide)
        · exact ls_past hwf q
      refine lv_iconst (v := 0) hx hb dX1_findLeastYears_67 (by decide) ?_
      exact W.zret (v := 0) hx hb hr rfl (fun t ht hW => ⟨⟨_, (va_up I ky row, L), rfl, ⟨row, rfl, Or.inr ⟨rfl, hno⟩⟩, by show tR _ _ _ _ _ t.heap; rw [ht]; exact hR⟩, hS.F ht⟩) hS.2.2 dX1_findLeastYears_68
    · have hyes : ∀ d, d < nd → rK ea lt le mo no (i + 1) f d ≤ la d := by
        rcases hres with ⟨-, q⟩ | ⟨q, -⟩
        · exact q
        · exact absurd q c2
      refine lv_iconst (v := 1) hx hb dX1_findLeastYears_63 (by decide) ?_
      refine lv_goto (tgt := 68) hx hb dX1_findLeastYears_64 (by decide) ?_
      exact W.zret (v := 1) hx hb hr rfl (fun t ht hW => ⟨⟨_, (va_up I ky row, L), rfl, ⟨row, rfl, Or.inl ⟨rfl, _, ls_yes hwf hfx hyes, hrow⟩⟩, by show tR _ _ _ _ _ t.heap; rw [ht]; exact hR⟩, hS.F ht⟩) hS.2.2 dX1_findLeastYears_68
end C5
end
section
/-- behind keeping the years of the first j chains as row kp -/
def gKY (I : tI) (b kp j : Nat) : tI := fun k => if b + 8 ≤ k ∧ k < b + 8 + j then va_cpy (I (k - 4)) (I k) 0 (kp * 8) 8 else I k
theorem gKY_0 (I : tI) (b kp : Nat) : gKY I b kp 0 = I := by
  funext k
  unfold gKY
  rw [if_neg (by omega)]
theorem gKY_lo (I : tI) {b kp j k : Nat} (h : k < b + 8) : gKY I b kp j k = I k := by
  unfold gKY
  rw [if_neg (by omega)]
theorem gKY_hi (I : tI) {b kp j k : Nat} (h : b + 8 + j ≤ k) : gKY I b kp j k = I k := by
  unfold gKY
  rw [if_neg (by omega)]
theorem gKY_s (I : tI) {b kp j : Nat} (hj : j < 4) : va_up (gKY I b kp j) (b + 8 + j) (va_cpy (gKY I b kp j (b + 4 + j)) (gKY I b kp j (b + 8 + j)) 0 (kp * 8) 8) = gKY I b kp (j + 1) := by
  rw [gKY_lo I (by omega), gKY_hi I (Nat.le_refl _)]
  funext k
  by_cases h : k = b + 8 + j
  · subst h
    rw [va_up_self]
    unfold gKY
    rw [if_pos (by omega), show b + 8 + j - 4 = b + 4 + j by omega]
  · rw [va_up_ne _ _ h]
    unfold gKY
    by_cases h2 : b + 8 ≤ k ∧ k < b + 8 + j
    · rw [if_pos h2, if_pos (by omega)]
    · rw [if_neg h2, if_neg (by omega)]
def gKeep (I : tI) (b kp n : Nat) : tI := va_up (gKY I b kp n) b (upd (I b) 3 (nI (kp + 1)))
/-- behind taking over the first j chains of the course b2 -/
def gTk (I : tI) (b b2 kp j : Nat) : tI := fun k => if b + 4 ≤ k ∧ k < b + 4 + j then va_cpy (I (b2 + (k - b))) (I k) 0 0 8 else if b + 8 ≤ k ∧ k < b + 8 + j then va_cpy (I (b2 + (k - b))) (I k) 0 0 (kp * 8) else I k
def gTl (L : tL) (b b2 j : Nat) : tL := va_up L (b + 2) (fun i => if i < j then L (b2 + 2) i else L (b + 2) i)
theorem gTk_0 (I : tI) (b b2 kp : Nat) : gTk I b b2 kp 0 = I := by
  funext k
  unfold gTk
  rw [if_neg (by omega), if_neg (by omega)]
theorem gTl_0 (L : tL) (b b2 : Nat) : gTl L b b2 0 = L := by
  unfold gTl
  rw [show (fun i => if i < 0 then L (b2 + 2) i else L (b + 2) i) = L (b + 2) from funext fun i => if_neg (Nat.not_lt_zero _)]
  exact va_up_id L (b + 2)
theorem gTk_n (I : tI) {b b2 kp j k : Nat} (h : ¬ (b + 4 ≤ k ∧ k < b + 4 + j)) (h2 : ¬ (b + 8 ≤ k ∧ k < b + 8 + j)) : gTk I b b2 kp j k = I k := by
  unfold gTk
  rw [if_neg h, if_neg h2]
theorem gTk_s (I : tI) {b b2 kp j : Nat} (hB : isB b) (hB2 : isB b2) (hne : b ≠ b2) (hj : j < 4) : va_up (va_up (gTk I b b2 kp j) (b + 4 + j) (va_cpy (gTk I b b2 kp j (b2 + 4 + j)) (gTk I b b2 kp j (b + 4 + j)) 0 0 8)) (b + 8 + j) (va_cpy ((va_up (gTk I b b2 kp j) (b + 4 + j) (va_cpy (gTk I b b2 kp j (b2 + 4 + j)) (gTk I b b2 kp j (b + 4 + j)) 0 0 8)) (b2 + 8 + j)) ((va_up (gTk I b b2 kp j) (b + 4 + j) (va_cpy (gTk I b b2 kp j (b2 + 4 + j)) (gTk I b b2 kp j (b + 4 + j)) 0 0 8)) (b + 8 + j)) 0 0 (kp * 8)) = gTk I b b2 kp (j + 1) := by
  unfold isB at hB hB2
  rw [va_up_ne _ _ (show b2 + 8 + j ≠ b + 4 + j by omega), va_up_ne _ _ (show b + 8 + j ≠ b + 4 + j by omega), gTk_n I (by omega) (by omega), gTk_n I (by omega) (by omega), gTk_n I (by omega) (by omega), gTk_n I (by omega) (by omega)]
  funext k
  by_cases h : k = b + 8 + j
  · subst h
    rw [va_up_self]
    unfold gTk
    rw [if_neg (by omega), if_pos (by omega), show b2 + (b + 8 + j - b) = b2 + 8 + j by omega]
  · rw [va_up_ne _ _ h]
    by_cases h3 : k = b + 4 + j
    · subst h3
      rw [va_up_self]
      unfold gTk
      rw [if_pos (by omega), show b2 + (b + 4 + j - b) = b2 + 4 + j by omega]
    · rw [va_up_ne _ _ h3]
      unfold gTk
      by_cases h4 : b + 4 ≤ k ∧ k < b + 4 + j
      · rw [if_pos h4, if_pos (by omega)]
      · have h6 : ¬ (b + 4 ≤ k ∧ k < b + 4 + (j + 1)) := by omega
        rw [if_neg h4, if_neg h6]
        by_cases h5 : b + 8 ≤ k ∧ k < b + 8 + j
        · rw [if_pos h5, if_pos (by omega)]
        · have h7 : ¬ (b + 8 ≤ k ∧ k < b + 8 + (j + 1)) := by omega
          rw [if_neg h5, if_neg h7]
theorem gTl_s (L : tL) {b b2 j : Nat} (hB : isB b) (hB2 : isB b2) (hne : b ≠ b2) : va_up (gTl L b b2 j) (b + 2) (vp_updL (gTl L b b2 j (b + 2)) j (gTl L b b2 j (b2 + 2) j)) = gTl L b b2 (j + 1) := by
  unfold isB at hB hB2
  unfold gTl
  rw [bx_uu, va_up_self, va_up_ne _ _ (show b2 + 2 ≠ b + 2 by omega)]
  congr 1
  funext i
  unfold vp_updL
  dsimp only
  by_cases h : i = j
  · rw [if_pos h, if_pos (by omega), h]
  · rw [if_neg h]
    by_cases h2 : i < j
    · rw [if_pos h2, if_pos (by omega)]
    · rw [if_neg h2, if_neg (by omega)]
def gTake (I : tI) (b b2 kp n : Nat) : tI := va_up (gTk I b b2 kp n) b (upd (upd (I b) 3 (I b2 3)) 4 (I b2 4))
end
section
section C6
variable {l : Launch} {D : va_G} {cs : Nat → ClassId} {base : Nat} {sa : Nat → Nat} {n : Nat} {ad : Nat → Nat}
set_option maxHeartbeats 4000000 in
set_option maxRecDepth 100000 in
/-- Course.keptYear -/
theorem mX0_keptYear (I : tI) (L : tL) (b ch k d : Nat) (hB : isB b) (hn4 : n ≤ 4) (hch : ch < n) (hkd : k * 8 + d < 480) : Met l yX0_keptYear wX0_keptYear ({ frames := 0, cells := 0, slots := 0, locals := 0 }) (va_Pc [.ref (ad b), .int (nI ch), .int (nI k), .int (nI d)] (kB D cs base sa n ad I L)) (va_Qi (fun (r : Int32) (u : tI × tL) => r = I (b + 8 + ch) (k * 8 + d) ∧ u = (I, L)) (kA D cs base n ad) (fun q => base ≤ q)) 0 0 (fun q => base ≤ q) := by
  refine Met.ofW (cc := cX0_keptYear) (maxL := 4) (ret := (some .int)) (by decide) rfl ?_
  intro p e s m args below meth c s₁ Bd hml hv
  obtain ⟨rfl, hE, hR⟩ := hv
  have hx := Bd.exec
  have hb := Bd.bytes
  have hr := Bd.returns
  have hts := atoms_spec (ws := wX0_keptYear) Bd.pre
  have hown : s.vm.findClass RX0 = some m.cls := findClass_of_methodNamed Bd.named
  have hlocks := Bd.notSynchronized
  have hK := hE.K
  have hS : va_S (fun q => base ≤ q) s.heap s.heap [] := va_S.rf
  have hR : tR D vwCl base ad (tC (wP n ad cs) I L) s.heap := hR
  have hl := lv_entry ([.ref (ad b), .int (nI ch), .int (nI k), .int (nI d)]) (n := 4) (Nat.le_of_ble_eq_true rfl)
  rw [lg_entry_eq]
  generalize (lg_sl ([.ref (ad b), .int (nI ch), .int (nI k), .int (nI d)]) ++ List.replicate (4 - (lg_sl ([.ref (ad b), .int (nI ch), .int (nI k), .int (nI d)])).length) Slot.unset).toArray = ls at hl ⊢
  have hl : lv_has ls 4 [(0, .ref (ad b)), (1, .int (nI ch)), (2, .int (nI k)), (3, .int (nI d))] := hl
  refine lv_aload_n hx hb dX0_keptYear_0 rfl (lv_at hl 0 rfl) ?_
  refine tb_get hx hb hts (fun w h => List.mem_cons_of_mem _ (inX0 w h)) hown hK hR b (wP_b0 hB _ _) rfl 2 (by decide) (hts _ (List.mem_cons_of_mem _ k83)) (fun _ h => h) rfl dX0_keptYear_1 ?_
  refine lv_iload_n hx hb dX0_keptYear_4 rfl (lv_at hl 1 rfl) ?_
  refine tb_aald hx hb hK hR (b + 3) 2 (wP_b3 hB _ _) rfl ch rfl (by omega) (by omega) (if_pos (by omega)) dX0_keptYear_5 ?_
  refine lv_iload_n hx hb dX0_keptYear_6 rfl (lv_at hl 2 rfl) ?_
  refine lv_bipush (v := nI 8) hx hb dX0_keptYear_7 (by decide) ?_
  refine lv_imul hx hb dX0_keptYear_9 ?_
  rw [pk_mul]
  refine lv_iload_n hx hb dX0_keptYear_10 rfl (lv_at hl 3 rfl) ?_
  refine lv_iadd hx hb dX0_keptYear_11 ?_
  rw [nI_add]
  refine tp_iald hx hb hK hR (b + 8 + ch) 0 (fun _ _ => wP_b8 hB hn4 (by omega) _ _) rfl (k * 8 + d) rfl (by omega) (by decide) dX0_keptYear_12 ?_
  exact W.iret (v := I (b + 8 + ch) (k * 8 + d)) hx hb hr (fun t ht hW => ⟨⟨_, (I, L), rfl, ⟨rfl, rfl⟩, by show tR _ _ _ _ _ t.heap; rw [ht]; exact hR⟩, hS.F ht⟩) hS.2.2 dX0_keptYear_13
set_option maxHeartbeats 4000000 in
set_option maxRecDepth 100000 in
theorem lpX0_keepYears {p : Program} {e : Env} {R : Room} {s : State} {m : MethodId} {args : Array Value} {below : List Frame} {meth : Method} {c : Code} {cells slots : Nat} {Q : State → Prop} (S0 : CallFix p m c cX0_keepYears 2 s args wX0_keepYears RX0) (hE : eV D cs base sa s) (hRf : 1 ≤ R.frames) (hRl : 40 ≤ R.locals) (hRc : cells ≤ R.cells) (hRs : slots ≤ R.slots) (I : tI) (L : tL) (b kp : Nat) (hB : isB b) (hn4 : n ≤ 4) (hkp : I b 3 = nI kp) (hk60 : kp < 60)
    (kx : ∀ (H : Heap) (locs : List Loc) (ls : Array Slot), tR D vwCl base ad (tC (wP n ad cs) (gKY I b kp n) L) H → va_S (fun q => base ≤ q) s.heap H locs → lv_has ls 2 [(1, .int (nI n)), (0, .ref (ad b))] → W p l e R s m args below meth c H locs cells slots Q (F0 m 42 ls [])) :
    ∀ (k j : Nat) (H : Heap) (locs : List Loc) (ls : Array Slot), j ≤ n → n + 1 ≤ j + k → tR D vwCl base ad (tC (wP n ad cs) (gKY I b kp j) L) H → va_S (fun q => base ≤ q) s.heap H locs → lv_has ls 2 [(1, .int (nI j)), (0, .ref (ad b))] → W p l e R s m args below meth c H locs cells slots Q (F0 m 2 ls []) := by
  obtain ⟨hx, hb, hml, hown, hts⟩ := S0
  have hK := hE.K
  intro k
  induction k with
  | zero => intro j  H locs ls h1 h2; exact absurd h2 (by omega)
  | succ k ih =>
    intro j  H locs ls hj hk  hR hS hl
    refine lv_iload_n hx hb dX0_keepYears_2 rfl (lv_at hl 0 rfl) ?_
    refine lv_aload_n hx hb dX0_keepYears_3 rfl (lv_at hl 1 rfl) ?_
    refine tb_get hx hb hts (fun w h => List.mem_cons_of_mem _ (inX0 w h)) hown hK hR b (wP_b0 hB _ _) rfl 1 (by decide) (hts _ (List.mem_cons_of_mem _ k81)) (fun _ h => h) rfl dX0_keepYears_4 ?_
    refine tb_alen hx hb hK hR (b + 2) 1 (wP_b2 hB _ _) rfl (v := nI n) rfl dX0_keepYears_7 ?_
    refine lv_icmp_ge (tgt := 42) hx hb dX0_keepYears_8 (by decide) (fun c1 => ?_) (fun c1 => ?_)
    · have hjN : j = n := by have e9 := (nI_leI (by omega) (by omega)).mp c1; omega
      subst hjN
      exact kx  H locs ls  hR hS (lv_sub hl [0, 1] rfl)
    · have hjN : j < n := by
        rcases Nat.lt_or_ge j n with q | q
        · exact q
        · exact absurd (nI_le (by omega) (by omega)) c1
      refine lv_aload_n hx hb dX0_keepYears_11 rfl (lv_at hl 1 rfl) ?_
      refine tb_get hx hb hts (fun w h => List.mem_cons_of_mem _ (inX0 w h)) hown hK hR b (wP_b0 hB _ _) rfl 0 (by decide) (hts _ (List.mem_cons_of_mem _ k79)) (fun _ h => h) rfl dX0_keepYears_12 ?_
      refine lv_iload_n hx hb dX0_keepYears_15 rfl (lv_at hl 0 rfl) ?_
      refine tb_aald hx hb hK hR (b + 1) 2 (wP_b1 hB _ _) rfl j rfl (by omega) (by omega) (if_pos (by omega)) dX0_keepYears_16 ?_
      refine lv_iconst (v := nI 0) hx hb dX0_keepYears_17 (by decide) ?_
      refine lv_aload_n hx hb dX0_keepYears_18 rfl (lv_at hl 1 rfl) ?_
      refine tb_get hx hb hts (fun w h => List.mem_cons_of_mem _ (inX0 w h)) hown hK hR b (wP_b0 hB _ _) rfl 2 (by decide) (hts _ (List.mem_cons_of_mem _ k83)) (fun _ h => h) rfl dX0_keepYears_19 ?_
      refine lv_iload_n hx hb dX0_keepYears_22 rfl (lv_at hl 0 rfl) ?_
      refine tb_aald hx hb hK hR (b + 3) 2 (wP_b3 hB _ _) rfl j rfl (by omega) (by omega) (if_pos (by omega)) dX0_keepYears_23 ?_
      refine lv_aload_n hx hb dX0_keepYears_24 rfl (lv_at hl 1 rfl) ?_
      refine tb_get hx hb hts (fun w h => List.mem_cons_of_mem _ (inX0 w h)) hown hK hR b (wP_b0 hB _ _) rfl 3 (by decide) (hts _ (List.mem_cons_of_mem _ k84)) (fun _ h => h) rfl dX0_keepYears_25 ?_
      rw [show (gKY I b kp j) b 3 = nI kp from (by rw [gKY_lo _ (by omega)]; exact hkp)]
      refine lv_bipush (v := nI 8) hx hb dX0_keepYears_28 (by decide) ?_
      refine lv_imul hx hb dX0_keepYears_30 ?_
      rw [pk_mul]
      refine lv_bipush (v := nI 8) hx hb dX0_keepYears_31 (by decide) ?_
      refine tp_copyi hx hb (hml.trans hl.1.symm) hown (hts _ (List.mem_cons_of_mem _ k386)) (hts _ (List.mem_cons_of_mem _ k388)) (hts _ (List.mem_cons_of_mem _ k387)) (hts _ (List.mem_cons_of_mem _ k12)) hK hR hS (b + 4 + j) (b + 8 + j) 0 (fun _ _ => wP_b4 hB hn4 (by omega) _ _) (fun _ _ => wP_b8 hB hn4 (by omega) _ _) rfl 0 (kp * 8) 8 rfl rfl rfl (by omega) (by omega) (by decide) (by decide) (Nat.le_trans (Nat.le_of_ble_eq_true rfl) hRf) (Nat.le_trans (Nat.le_of_ble_eq_true rfl) hRl) dX0_keepYears_33 (fun H locs hR hS => ?_)
      rw [gKY_s _ (by omega)] at hR
      refine lv_iinc (v := nI (j + 1)) (lv' := [(1, .int (nI (j + 1))), (0, .ref (ad b))]) hx hb dX0_keepYears_36 hl (k := 0) rfl (nI_1 _) (by decide) rfl (fun ls hl => ?_)
      refine lv_goto (tgt := 2) hx hb dX0_keepYears_39 (by decide) ?_
      exact ih (j + 1)  H locs ls (by omega) (by omega)  hR hS (lv_sub hl [0, 1] rfl)
set_option maxHeartbeats 4000000 in
set_option maxRecDepth 100000 in
theorem mX0_keepYears (I : tI) (L : tL) (b kp : Nat) (hB : isB b) (hn4 : n ≤ 4) (hkp : I b 3 = nI kp) (hk60 : kp < 60) : Met l yX0_keepYears wX0_keepYears ({ frames := 1, cells := 0, slots := 0, locals := 40 }) (va_Pc [.ref (ad b)] (kB D cs base sa n ad I L)) (va_Qv (fun (u : tI × tL) => u = (gKeep I b kp n, L)) (kA D cs base n ad) (fun q => base ≤ q)) 0 0 (fun q => base ≤ q) := by
  refine Met.ofW (cc := cX0_keepYears) (maxL := 2) (ret := none) (by decide) rfl ?_
  intro p e s m args below meth c s₁ Bd hml hv
  obtain ⟨rfl, hE, hR⟩ := hv
  have hx := Bd.exec
  have hb := Bd.bytes
  have hr := Bd.returns
  have hts := atoms_spec (ws := wX0_keepYears) Bd.pre
  have hown : s.vm.findClass RX0 = some m.cls := findClass_of_methodNamed Bd.named
  have hlocks := Bd.notSynchronized
  have hK := hE.K
  have hS : va_S (fun q => base ≤ q) s.heap s.heap [] := va_S.rf
  have hR : tR D vwCl base ad (tC (wP n ad cs) I L) s.heap := hR
  have hl := lv_entry ([.ref (ad b)]) (n := 2) (Nat.le_of_ble_eq_true rfl)
  rw [lg_entry_eq]
  generalize (lg_sl ([.ref (ad b)]) ++ List.replicate (2 - (lg_sl ([.ref (ad b)])).length) Slot.unset).toArray = ls at hl ⊢
  have hl : lv_has ls 2 [(0, .ref (ad b))] := hl
  refine lv_iconst (v := 0) hx hb dX0_keepYears_0 (by decide) ?_
  rw [show (0 : Int32) = nI 0 from nI_0.symm]
  refine lv_istore_n (lv' := [(1, .int (nI 0)), (0, .ref (ad b))]) hx hb dX0_keepYears_1 rfl hl (by decide) rfl (fun ls hl => ?_)
  have hR : tR D vwCl base ad (tC (wP n ad cs) (gKY I b kp 0) L) s.heap := by rw [gKY_0]; exact hR
  refine lpX0_keepYears ⟨hx, hb, hml, hown, hts⟩ hE (Nat.le_of_ble_eq_true rfl) (Nat.le_of_ble_eq_true rfl) (Nat.le_of_ble_eq_true rfl) (Nat.le_of_ble_eq_true rfl) I L b kp hB hn4 hkp hk60 (fun H locs ls hR hS hl => ?_) (n + 1) 0 _ _ ls (Nat.zero_le _) (by omega) hR hS (lv_sub hl [0, 1] rfl)
  refine lv_aload_n hx hb dX0_keepYears_42 rfl (lv_at hl 1 rfl) ?_
  refine lv_dup hx hb dX0_keepYears_43 rfl ?_
  refine tb_get hx hb hts (fun w h => List.mem_cons_of_mem _ (inX0 w h)) hown hK hR b (wP_b0 hB _ _) rfl 3 (by decide) (hts _ (List.mem_cons_of_mem _ k84)) (fun _ h => h) rfl dX0_keepYears_44 ?_
  rw [show (gKY I b kp n) b 3 = nI kp from (by rw [gKY_lo _ (by omega)]; exact hkp)]
  refine lv_iconst (v := 1) hx hb dX0_keepYears_47 (by decide) ?_
  refine lv_iadd hx hb dX0_keepYears_48 ?_
  rw [nI_1]
  refine tp_put hx hb hts (fun w h => List.mem_cons_of_mem _ (inX0 w h)) tyX0 tyX0_ok nmX0 hown hK hR hS b (fun r => [.ref (ad (b + 1)), .ref (ad (b + 2)), .ref (ad (b + 3)), .int (r 3), .int (r 4)]) (fun _ _ => wP_b0 hB _ _) rfl 3 (by decide) (hts _ (List.mem_cons_of_mem _ k84)) (fun _ h => h) rfl (ty := .int) rfl rfl rfl (by simp) (fun _ => rfl) dX0_keepYears_49 (fun H locs hR hS => ?_)
  rw [gKY_lo I (show b < b + 8 by omega)] at hR
  exact W.vret hx hb hr (fun t ht hW => ⟨⟨(gKeep I b kp n, L), rfl, rfl, by show tR _ _ _ _ _ t.heap; rw [ht]; exact hR⟩, hS.F ht⟩) hS.2.2 dX0_keepYears_52
set_option maxHeartbeats 4000000 in
set_option maxRecDepth 100000 in
theorem lpX0_take {p : Program} {e : Env} {R : Room} {s : State} {m : MethodId} {args : Array Value} {below : List Frame} {meth : Method} {c : Code} {cells slots : Nat} {Q : State → Prop} (S0 : CallFix p m c cX0_take 3 s args wX0_take RX0) (hE : eV D cs base sa s) (hRf : 1 ≤ R.frames) (hRl : 40 ≤ R.locals) (hRc : cells ≤ R.cells) (hRs : slots ≤ R.slots) (I : tI) (L : tL) (b b2 kp : Nat) (hB : isB b) (hB2 : isB b2) (hne : b ≠ b2) (hn4 : n ≤ 4) (hkp : I b2 3 = nI kp) (hk60 : kp ≤ 60)
    (kx : ∀ (H : Heap) (locs : List Loc) (ls : Array Slot), tR D vwCl base ad (tC (wP n ad cs) (gTk I b b2 kp n) (gTl L b b2 n)) H → va_S (fun q => base ≤ q) s.heap H locs → lv_has ls 3 [(2, .int (nI n)), (0, .ref (ad b)), (1, .ref (ad b2))] → W p l e R s m args below meth c H locs cells slots Q (F0 m 72 ls [])) :
    ∀ (k j : Nat) (H : Heap) (locs : List Loc) (ls : Array Slot), j ≤ n → n + 1 ≤ j + k → tR D vwCl base ad (tC (wP n ad cs) (gTk I b b2 kp j) (gTl L b b2 j)) H → va_S (fun q => base ≤ q) s.heap H locs → lv_has ls 3 [(2, .int (nI j)), (0, .ref (ad b)), (1, .ref (ad b2))] → W p l e R s m args below meth c H locs cells slots Q (F0 m 2 ls []) := by
  obtain ⟨hx, hb, hml, hown, hts⟩ := S0
  have hK := hE.K
  intro k
  induction k with
  | zero => intro j  H locs ls h1 h2; exact absurd h2 (by omega)
  | succ k ih =>
    intro j  H locs ls hj hk  hR hS hl
    refine lv_iload_n hx hb dX0_take_2 rfl (lv_at hl 0 rfl) ?_
    refine lv_aload_n hx hb dX0_take_3 rfl (lv_at hl 1 rfl) ?_
    refine tb_get hx hb hts (fun w h => List.mem_cons_of_mem _ (inX0 w h)) hown hK hR b (wP_b0 hB _ _) rfl 1 (by decide) (hts _ (List.mem_cons_of_mem _ k81)) (fun _ h => h) rfl dX0_take_4 ?_
    refine tb_alen hx hb hK hR (b + 2) 1 (wP_b2 hB _ _) rfl (v := nI n) rfl dX0_take_7 ?_
    refine lv_icmp_ge (tgt := 72) hx hb dX0_take_8 (by decide) (fun c1 => ?_) (fun c1 => ?_)
    · have hjN : j = n := by have e9 := (nI_leI (by omega) (by omega)).mp c1; omega
      subst hjN
      exact kx  H locs ls  hR hS (lv_sub hl [0, 1, 2] rfl)
    · have hjN : j < n := by
        rcases Nat.lt_or_ge j n with q | q
        · exact q
        · exact absurd (nI_le (by omega) (by omega)) c1
      refine lv_aload_n hx hb dX0_take_11 rfl (lv_at hl 2 rfl) ?_
      refine tb_get hx hb hts (fun w h => List.mem_cons_of_mem _ (inX0 w h)) hown hK hR b2 (wP_b0 hB2 _ _) rfl 0 (by decide) (hts _ (List.mem_cons_of_mem _ k79)) (fun _ h => h) rfl dX0_take_12 ?_
      refine lv_iload_n hx hb dX0_take_15 rfl (lv_at hl 0 rfl) ?_
      refine tb_aald hx hb hK hR (b2 + 1) 2 (wP_b1 hB2 _ _) rfl j rfl (by omega) (by omega) (if_pos (by omega)) dX0_take_16 ?_
      refine lv_iconst (v := nI 0) hx hb dX0_take_17 (by decide) ?_
      refine lv_aload_n hx hb dX0_take_18 rfl (lv_at hl 1 rfl) ?_
      refine tb_get hx hb hts (fun w h => List.mem_cons_of_mem _ (inX0 w h)) hown hK hR b (wP_b0 hB _ _) rfl 0 (by decide) (hts _ (List.mem_cons_of_mem _ k79)) (fun _ h => h) rfl dX0_take_19 ?_
      refine lv_iload_n hx hb dX0_take_22 rfl (lv_at hl 0 rfl) ?_
      refine tb_aald hx hb hK hR (b + 1) 2 (wP_b1 hB _ _) rfl j rfl (by omega) (by omega) (if_pos (by omega)) dX0_take_23 ?_
      refine lv_iconst (v := nI 0) hx hb dX0_take_24 (by decide) ?_
      refine lv_bipush (v := nI 8) hx hb dX0_take_25 (by decide) ?_
      refine tp_copyi hx hb (hml.trans hl.1.symm) hown (hts _ (List.mem_cons_of_mem _ k386)) (hts _ (List.mem_cons_of_mem _ k388)) (hts _ (List.mem_cons_of_mem _ k387)) (hts _ (List.mem_cons_of_mem _ k12)) hK hR hS (b2 + 4 + j) (b + 4 + j) 0 (fun _ _ => wP_b4 hB2 hn4 (by omega) _ _) (fun _ _ => wP_b4 hB hn4 (by omega) _ _) rfl 0 0 8 rfl rfl rfl (by omega) (by omega) (by decide) (by decide) (Nat.le_trans (Nat.le_of_ble_eq_true rfl) hRf) (Nat.le_trans (Nat.le_of_ble_eq_true rfl) hRl) dX0_take_27 (fun H locs hR hS => ?_)
      refine lv_aload_n hx hb dX0_take_30 rfl (lv_at hl 2 rfl) ?_
      refine tb_get hx hb hts (fun w h => List.mem_cons_of_mem _ (inX0 w h)) hown hK hR b2 (wP_b0 hB2 _ _) rfl 2 (by decide) (hts _ (List.mem_cons_of_mem _ k83)) (fun _ h => h) rfl dX0_take_31 ?_
      refine lv_iload_n hx hb dX0_take_34 rfl (lv_at hl 0 rfl) ?_
      refine tb_aald hx hb hK hR (b2 + 3) 2 (wP_b3 hB2 _ _) rfl j rfl (by omega) (by omega) (if_pos (by omega)) dX0_take_35 ?_
      refine lv_iconst (v := nI 0) hx hb dX0_take_36 (by decide) ?_
      refine lv_aload_n hx hb dX0_take_37 rfl (lv_at hl 1 rfl) ?_
      refine tb_get hx hb hts (fun w h => List.mem_cons_of_mem _ (inX0 w h)) hown hK hR b (wP_b0 hB _ _) rfl 2 (by decide) (hts _ (List.mem_cons_of_mem _ k83)) (fun _ h => h) rfl dX0_take_38 ?_
      refine lv_iload_n hx hb dX0_take_41 rfl (lv_at hl 0 rfl) ?_
      refine tb_aald hx hb hK hR (b + 3) 2 (wP_b3 hB _ _) rfl j rfl (by omega) (by omega) (if_pos (by omega)) dX0_take_42 ?_
      refine lv_iconst (v := nI 0) hx hb dX0_take_43 (by decide) ?_
      refine lv_aload_n hx hb dX0_take_44 rfl (lv_at hl 2 rfl) ?_
      refine tb_get hx hb hts (fun w h => List.mem_cons_of_mem _ (inX0 w h)) hown hK hR b2 (wP_b0 hB2 _ _) rfl 3 (by decide) (hts _ (List.mem_cons_of_mem _ k84)) (fun _ h => h) rfl dX0_take_45 ?_
      rw [show (va_up (gTk I b b2 kp j) (b + 4 + j) (va_cpy ((gTk I b b2 kp j) (b2 + 4 + j)) ((gTk I b b2 kp j) (b + 4 + j)) 0 0 8)) b2 3 = nI kp from (by first | (rw [gTk_n _ (by unfold isB at hB hB2; omega) (by unfold isB at hB hB2; omega)]; exact hkp) | (rw [va_up_ne _ _ (by unfold isB at hB hB2; omega), gTk_n _ (by unfold isB at hB hB2; omega) (by unfold isB at hB hB2; omega)]; exact hkp))]
      refine lv_bipush (v := nI 8) hx hb dX0_take_48 (by decide) ?_
      refine lv_imul hx hb dX0_take_50 ?_
      rw [pk_mul]
      refine tp_copyi hx hb (hml.trans hl.1.symm) hown (hts _ (List.mem_cons_of_mem _ k386)) (hts _ (List.mem_cons_of_mem _ k388)) (hts _ (List.mem_cons_of_mem _ k387)) (hts _ (List.mem_cons_of_mem _ k12)) hK hR hS (b2 + 8 + j) (b + 8 + j) 0 (fun _ _ => wP_b8 hB2 hn4 (by omega) _ _) (fun _ _ => wP_b8 hB hn4 (by omega) _ _) rfl 0 0 (kp * 8) rfl rfl rfl (by omega) (by omega) (by decide) (by decide) (Nat.le_trans (Nat.le_of_ble_eq_true rfl) hRf) (Nat.le_trans (Nat.le_of_ble_eq_true rfl) hRl) dX0_take_51 (fun H locs hR hS => ?_)
      rw [gTk_s I hB hB2 hne (by omega)] at hR
      refine lv_aload_n hx hb dX0_take_54 rfl (lv_at hl 1 rfl) ?_
      refine tb_get hx hb hts (fun w h => List.mem_cons_of_mem _ (inX0 w h)) hown hK hR b (wP_b0 hB _ _) rfl 1 (by decide) (hts _ (List.mem_cons_of_mem _ k81)) (fun _ h => h) rfl dX0_take_55 ?_
      refine lv_iload_n hx hb dX0_take_58 rfl (lv_at hl 0 rfl) ?_
      refine lv_aload_n hx hb dX0_take_59 rfl (lv_at hl 2 rfl) ?_
      refine tb_get hx hb hts (fun w h => List.mem_cons_of_mem _ (inX0 w h)) hown hK hR b2 (wP_b0 hB2 _ _) rfl 1 (by decide) (hts _ (List.mem_cons_of_mem _ k81)) (fun _ h => h) rfl dX0_take_60 ?_
      refine lv_iload_n hx hb dX0_take_63 rfl (lv_at hl 0 rfl) ?_
      refine tp_lald hx hb hK hR (b2 + 2) 1 (fun _ _ => wP_b2 hB2 _ _) rfl j rfl (by omega) (by omega) dX0_take_64 ?_
      refine tp_last hx hb hK hR hS (b + 2) 1 (fun _ _ => wP_b2 hB _ _) rfl j rfl (by omega) (by omega) dX0_take_65 (fun H locs hR hS => ?_)
      rw [gTl_s L hB hB2 hne] at hR
      refine lv_iinc (v := nI (j + 1)) (lv' := [(2, .int (nI (j + 1))), (0, .ref (ad b)), (1, .ref (ad b2))]) hx hb dX0_take_66 hl (k := 0) rfl (nI_1 _) (by decide) rfl (fun ls hl => ?_)
      refine lv_goto (tgt := 2) hx hb dX0_take_69 (by decide) ?_
      exact ih (j + 1)  H locs ls (by omega) (by omega)  hR hS (lv_sub hl [0, 1, 2] rfl)
set_option maxHeartbeats 4000000 in
set_option maxRecDepth 100000 in
theorem mX0_take (I : tI) (L : tL) (b b2 kp : Nat) (hB : isB b) (hB2 : isB b2) (hne : b ≠ b2) (hn4 : n ≤ 4) (hkp : I b2 3 = nI kp) (hk60 : kp ≤ 60) : Met l yX0_take wX0_take ({ frames := 1, cells := 0, slots := 0, locals := 40 }) (va_Pc [.ref (ad b), .ref (ad b2)] (kB D cs base sa n ad I L)) (va_Qv (fun (u : tI × tL) => u = (gTake I b b2 kp n, gTl L b b2 n)) (kA D cs base n ad) (fun q => base ≤ q)) 0 0 (fun q => base ≤ q) := by
  refine Met.ofW (cc := cX0_take) (maxL := 3) (ret := none) (by decide) rfl ?_
  intro p e s m args below meth c s₁ Bd hml hv
  obtain ⟨rfl, hE, hR⟩ := hv
  have hx := Bd.exec
  have hb := Bd.bytes
  have hr := Bd.returns
  have hts := atoms_spec (ws := wX0_take) Bd.pre
  have hown : s.vm.findClass RX0 = some m.cls := findClass_of_methodNamed Bd.named
  have hlocks := Bd.notSynchronized
  have hK := hE.K
  have hS : va_S (fun q => base ≤ q) s.heap s.heap [] := va_S.rf
  have hR : tR D vwCl base ad (tC (wP n ad cs) I L) s.heap := hR
  have hl := lv_entry ([.ref (ad b), .ref (ad b2)]) (n := 3) (Nat.le_of_ble_eq_true rfl)
  rw [lg_entry_eq]
  generalize (lg_sl ([.ref (ad b), .ref (ad b2)]) ++ List.replicate (3 - (lg_sl ([.ref (ad b), .ref (ad b2)])).length) Slot.unset).toArray = ls at hl ⊢
  have hl : lv_has ls 3 [(0, .ref (ad b)), (1, .ref (ad b2))] := hl
  refine lv_iconst (v := 0) hx hb dX0_take_0 (by decide) ?_
  rw [show (0 : Int32) = nI 0 from nI_0.symm]
  refine lv_istore_n (lv' := [(2, .int (nI 0)), (0, .ref (ad b)), (1, .ref (ad b2))]) hx hb dX0_take_1 rfl hl (by decide) rfl (fun ls hl => ?_)
  have hR : tR D vwCl base ad (tC (wP n ad cs) (gTk I b b2 kp 0) (gTl L b b2 0)) s.heap := by rw [gTk_0, gTl_0]; exact hR
  refine lpX0_take ⟨hx, hb, hml, hown, hts⟩ hE (Nat.le_of_ble_eq_true rfl) (Nat.le_of_ble_eq_true rfl) (Nat.le_of_ble_eq_true rfl) (Nat.le_of_ble_eq_true rfl) I L b b2 kp hB hB2 hne hn4 hkp hk60 (fun H locs ls hR hS hl => ?_) (n + 1) 0 _ _ ls (Nat.zero_le _) (by omega) hR hS (lv_sub hl [0, 1, 2] rfl)
  refine lv_aload_n hx hb dX0_take_72 rfl (lv_at hl 1 rfl) ?_
  refine lv_aload_n hx hb dX0_take_73 rfl (lv_at hl 2 rfl) ?_
  refine tb_get hx hb hts (fun w h => List.mem_cons_of_mem _ (inX0 w h)) hown hK hR b2 (wP_b0 hB2 _ _) rfl 3 (by decide) (hts _ (List.mem_cons_of_mem _ k84)) (fun _ h => h) rfl dX0_take_74 ?_
  refine tp_put hx hb hts (fun w h => List.mem_cons_of_mem _ (inX0 w h)) tyX0 tyX0_ok nmX0 hown hK hR hS b (fun r => [.ref (ad (b + 1)), .ref (ad (b + 2)), .ref (ad (b + 3)), .int (r 3), .int (r 4)]) (fun _ _ => wP_b0 hB _ _) rfl 3 (by decide) (hts _ (List.mem_cons_of_mem _ k84)) (fun _ h => h) rfl (ty := .int) rfl rfl rfl (by simp) (fun _ => rfl) dX0_take_77 (fun H locs hR hS => ?_)
  refine lv_aload_n hx hb dX0_take_80 rfl (lv_at hl 1 rfl) ?_
  refine lv_aload_n hx hb dX0_take_81 rfl (lv_at hl 2 rfl) ?_
  refine tb_get hx hb hts (fun w h => List.mem_cons_of_mem _ (inX0 w h)) hown hK hR b2 (wP_b0 hB2 _ _) rfl 4 (by decide) (hts _ (List.mem_cons_of_mem _ k86)) (fun _ h => h) rfl dX0_take_82 ?_
  refine tp_put hx hb hts (fun w h => List.mem_cons_of_mem _ (inX0 w h)) tyX0 tyX0_ok nmX0 hown hK hR hS b (fun r => [.ref (ad (b + 1)), .ref (ad (b + 2)), .ref (ad (b + 3)), .int (r 3), .int (r 4)]) (fun _ _ => wP_b0 hB _ _) rfl 4 (by decide) (hts _ (List.mem_cons_of_mem _ k86)) (fun _ h => h) rfl (ty := .int) rfl rfl rfl (by simp) (fun _ => rfl) dX0_take_85 (fun H locs hR hS => ?_)
  have e1 : gTk I b b2 kp n b = I b := gTk_n I (by unfold isB at hB hB2; omega) (by unfold isB at hB hB2; omega)
  have e2 : gTk I b b2 kp n b2 = I b2 := gTk_n I (by unfold isB at hB hB2; omega) (by unfold isB at hB hB2; omega)
  rw [bx_uu, va_up_self, va_up_ne _ _ (Ne.symm hne), e1, e2] at hR
  exact W.vret hx hb hr (fun t ht hW => ⟨⟨(gTake I b b2 kp n, gTl L b b2 n), rfl, rfl, by show tR _ _ _ _ _ t.heap; rw [ht]; exact hR⟩, hS.F ht⟩) hS.2.2 dX0_take_88
end C6
end
section
/-! A COURSE at b: years Y, states st, rows R (chain, row, date), kp rows, sp steps -/
def cCo (I : tI) (L : tL) (n nd b : Nat) (Y : Nat → Nat → Nat) (st : Nat → Int64) (R : Nat → Nat → Nat → Nat) (kp sp : Nat) : Prop :=
  I b 3 = nI kp ∧ I b 4 = nI sp ∧ ∀ c, c < n → L (b + 2) c = st c ∧ (∀ d, d < nd → I (b + 4 + c) d = nI (Y c d)) ∧ ∀ k, k < kp → ∀ d, d < nd → I (b + 8 + c) (k * 8 + d) = nI (R c k d)
/-- years as the chains have them: between first and last, all orders holding -/
def wfY (nd no : Nat) (f la ea lt le mo : Nat → Nat) (y : Nat → Nat) : Prop := (∀ d, d < nd → f d ≤ y d ∧ y d ≤ la d) ∧ ∀ k, k < no → y (ea k) + le k ≤ y (lt k) ∧ y (lt k) ≤ y (ea k) + mo k
/-- the year that a date draws -/
def dY (no : Nat) (f la : Nat → Nat) (w : Nat → Nat → Nat) (ea lt le mo : Nat → Nat) (d : Nat) (y : Nat → Nat) (x : Nat) : Nat :=
  sPick (fun q => w d (q - f d)) (sHi la ea lt le mo d y no - sLo f ea lt le mo d y no) (sLo f ea lt le mo d y no) (x % sSum (fun q => w d (q - f d)) (sLo f ea lt le mo d y no) (sHi la ea lt le mo d y no + 1 - sLo f ea lt le mo d y no))
section SY
variable {nd no : Nat} {f la : Nat → Nat} {w : Nat → Nat → Nat} {ea lt le mo : Nat → Nat}
theorem wfY_ok (hwf : wfS nd no f la w ea lt le mo) {y : Nat → Nat} (hy : wfY nd no f la ea lt le mo y) {d : Nat} (hd : d < nd) : sOk f la ea lt le mo d y (y d) no :=
  ⟨(hy.1 d hd).1, (hy.1 d hd).2, fun k hk => ⟨fun e => by have h := hy.2 k hk; rw [e] at h; omega, fun e => by have h := hy.2 k hk; rw [e] at h; omega⟩⟩
theorem wfY_le (hwf : wfS nd no f la w ea lt le mo) {y : Nat → Nat} (hy : wfY nd no f la ea lt le mo y) : ∀ k, k < no → ea k ≠ lt k ∧ y (ea k) + le k ≤ y (lt k) := fun k hk => ⟨(hwf.2.2.2 k hk).2.2.1, (hy.2 k hk).1⟩
theorem wfY_lh (hwf : wfS nd no f la w ea lt le mo) {y : Nat → Nat} (hy : wfY nd no f la ea lt le mo y) {d : Nat} (hd : d < nd) : sLo f ea lt le mo d y no ≤ sHi la ea lt le mo d y no := by
  have h := (sOk_iff (wfY_le hwf hy) (Nat.le_refl no)).mp (wfY_ok hwf hy hd)
  omega
theorem dY_in (hwf : wfS nd no f la w ea lt le mo) {y : Nat → Nat} (hy : wfY nd no f la ea lt le mo y) {d : Nat} (hd : d < nd) (x : Nat) : sLo f ea lt le mo d y no ≤ dY no f la w ea lt le mo d y x ∧ dY no f la w ea lt le mo d y x ≤ sHi la ea lt le mo d y no := by
  have h1 := wfY_lh hwf hy hd
  have h2 := sPick_le (fun q => w d (q - f d)) (sHi la ea lt le mo d y no - sLo f ea lt le mo d y no) (sLo f ea lt le mo d y no) (x % sSum (fun q => w d (q - f d)) (sLo f ea lt le mo d y no) (sHi la ea lt le mo d y no + 1 - sLo f ea lt le mo d y no))
  unfold dY
  omega
theorem wfY_up (hwf : wfS nd no f la w ea lt le mo) {y : Nat → Nat} (hy : wfY nd no f la ea lt le mo y) {d : Nat} (hd : d < nd) {v : Nat} (hv : sOk f la ea lt le mo d y v no) : wfY nd no f la ea lt le mo (va_up y d v) := by
  refine ⟨fun i hi => ?_, fun k hk => ?_⟩
  · by_cases e : i = d
    · rw [e, va_up_self]; exact ⟨hv.1, hv.2.1⟩
    · rw [va_up_ne _ _ e]; exact hy.1 i hi
  · have hne := (hwf.2.2.2 k hk).2.2.1
    have h0 := hy.2 k hk
    by_cases e1 : lt k = d
    · have e2 : ¬ ea k = d := fun q => hne (by omega)
      rw [e1, va_up_self, va_up_ne _ _ e2]
      exact ((hv.2.2 k hk).1 e1)
    · by_cases e2 : ea k = d
      · rw [e2, va_up_self, va_up_ne _ _ e1]
        have := (hv.2.2 k hk).2 e2
        omega
      · rw [va_up_ne _ _ e1, va_up_ne _ _ e2]
        exact h0
theorem wfY_dY (hwf : wfS nd no f la w ea lt le mo) {y : Nat → Nat} (hy : wfY nd no f la ea lt le mo y) {d : Nat} (hd : d < nd) (x : Nat) : wfY nd no f la ea lt le mo (va_up y d (dY no f la w ea lt le mo d y x)) :=
  wfY_up hwf hy hd ((sOk_iff (wfY_le hwf hy) (Nat.le_refl no)).mpr (dY_in hwf hy hd x))
theorem wfY_b (hwf : wfS nd no f la w ea lt le mo) {y : Nat → Nat} (hy : wfY nd no f la ea lt le mo y) : ∀ i, i < nd → y i ≤ 255 := fun i hi => by
  have h1 := hy.1 i hi
  have h2 := hwf.2.2.1 i hi
  omega
end SY
/-- the state's next number, and what is drawn of it -/
def stN (s : Int64) : Int64 := 6364136223846793005 * s + 1442695040888963407
def sX (s : Int64) : Nat := (s.toUInt64 >>> ((33 : Int32).toInt64.toUInt64 &&& Int64.toUInt64 63)).toNat
theorem sX_eq (s : Int64) : (s.toUInt64 >>> ((33 : Int32).toInt64.toUInt64 &&& Int64.toUInt64 63)).toInt64 = lN (sX s) := by
  unfold sX
  generalize s.toUInt64 >>> ((33 : Int32).toInt64.toUInt64 &&& Int64.toUInt64 63) = u
  apply Int64.toBitVec_inj.mp
  show u.toBitVec = BitVec.ofNat 64 u.toNat
  apply BitVec.eq_of_toNat_eq
  rw [BitVec.toNat_ofNat]
  show u.toNat = u.toNat % 2 ^ 64
  rw [Nat.mod_eq_of_lt u.toNat_lt]
theorem sX_lt (s : Int64) : sX s < 2 ^ 31 := by
  unfold sX
  rw [show ((33 : Int32).toInt64.toUInt64 &&& Int64.toUInt64 63) = (33 : UInt64) from by decide, UInt64.toNat_shiftRight, show (33 : UInt64).toNat % 64 = 33 from by decide, Nat.shiftRight_eq_div_pow]
  have := s.toUInt64.toNat_lt
  omega
/-- a chain's step over the dates below j -/
def sC (no : Nat) (f la : Nat → Nat) (w : Nat → Nat → Nat) (ea lt le mo : Nat → Nat) : Nat → (Nat → Nat) × Int64 → (Nat → Nat) × Int64
  | 0, q => q
  | j + 1, q => (va_up (sC no f la w ea lt le mo j q).1 j (dY no f la w ea lt le mo j (sC no f la w ea lt le mo j q).1 (sX (stN (sC no f la w ea lt le mo j q).2))), stN (sC no f la w ea lt le mo j q).2)
theorem wfY_sC {nd no : Nat} {f la : Nat → Nat} {w : Nat → Nat → Nat} {ea lt le mo : Nat → Nat} (hwf : wfS nd no f la w ea lt le mo) {q : (Nat → Nat) × Int64} (hy : wfY nd no f la ea lt le mo q.1) {j : Nat} (hj : j ≤ nd) : wfY nd no f la ea lt le mo (sC no f la w ea lt le mo j q).1 := by
  induction j with
  | zero => exact hy
  | succ j ih => exact wfY_dY hwf (ih (by omega)) (by omega) _
/-- is a step kept; how many of the next ones are -/
def isK (bu ev s : Nat) : Prop := bu < s ∧ (s - bu) % ev = 0
theorem isK_dec (bu ev s : Nat) : isK bu ev s ∨ ¬ isK bu ev s := by unfold isK; omega
def kN (bu ev s : Nat) : Nat := if bu < s ∧ (s - bu) % ev = 0 then 1 else 0
def cK (bu ev sp : Nat) : Nat → Nat
  | 0 => 0
  | i + 1 => cK bu ev sp i + kN bu ev (sp + (i + 1))
theorem kN_le (bu ev s : Nat) : kN bu ev s ≤ 1 := by unfold kN; split <;> omega
theorem cK_le (bu ev sp i : Nat) : cK bu ev sp i ≤ i := by
  induction i with
  | zero => exact Nat.le_refl _
  | succ i ih => have := kN_le bu ev (sp + (i + 1)); show cK bu ev sp i + _ ≤ _; omega
end
section
theorem vp_updL_uu (f : Nat → Int64) (k : Nat) (v w : Int64) : vp_updL (vp_updL f k v) k w = vp_updL f k w := by
  funext j
  unfold vp_updL
  by_cases h : j = k
  · rw [if_pos h, if_pos h]
  · rw [if_neg h, if_neg h, if_neg h]
theorem vp_updL_self (f : Nat → Int64) (k : Nat) (v : Int64) : vp_updL f k v k = v := by unfold vp_updL; rw [if_pos rfl]
theorem vp_updL_id (f : Nat → Int64) (k : Nat) : vp_updL f k (f k) = f := by
  funext j
  unfold vp_updL
  by_cases h : j = k
  · rw [if_pos h, h]
  · rw [if_neg h]
theorem kN_1 {bu ev s : Nat} (h1 : bu < s) (h2 : (s - bu) % ev = 0) : (1 : Int32) = nI (kN bu ev s) := by
  unfold kN
  rw [if_pos ⟨h1, h2⟩]
  rfl
theorem kN_0 {bu ev s : Nat} (h : ¬ (bu < s ∧ (s - bu) % ev = 0)) : (0 : Int32) = nI (kN bu ev s) := by
  unfold kN
  rw [if_neg h]
  rfl
theorem nI_z {a : Nat} (h : a < 2 ^ 31) : nI a = 0 ↔ a = 0 := by
  rw [show (0 : Int32) = nI 0 from rfl]
  exact nI_eq h (by decide)
theorem cK_s {bu ev sp j : Nat} (h : 1 ≤ j) : cK bu ev sp (j + 1 - 1) = cK bu ev sp (j - 1) + kN bu ev (sp + j) := by
  obtain ⟨i, rfl⟩ : ∃ i, j = i + 1 := ⟨j - 1, by omega⟩
  rfl
/-- the class's own numbers: chains n, burn-in bu, thin ev -/
def cCf (I : tI) (n bu ev : Nat) : Prop := I 0 1 = nI n ∧ I 0 7 = nI bu ∧ I 0 8 = nI ev ∧ 1 ≤ n ∧ n ≤ 4 ∧ bu ≤ 100 ∧ 1 ≤ ev ∧ ev ≤ 20
end
section
section C7
variable {l : Launch} {D : va_G} {cs : Nat → ClassId} {base : Nat} {sa : Nat → Nat} {n : Nat} {ad : Nat → Nat}
set_option maxHeartbeats 4000000 in
set_option maxRecDepth 100000 in
theorem mX2_isKept (I : tI) (L : tL) (x : Nat) (bu ev : Nat) (hcf : cCf I n bu ev) (hx20 : x < 2 ^ 20) : Met l yX2_isKept wX2_isKept ({ frames := 0, cells := 0, slots := 0, locals := 0 }) (va_Pc [.ref (ad 0), .int (nI x)] (kB D cs base sa n ad I L)) (va_Qi (fun (r : Int32) (u : tI × tL) => r = nI (kN bu ev x) ∧ u = (I, L)) (kA D cs base n ad) (fun q => base ≤ q)) 0 0 (fun q => base ≤ q) := by
  refine Met.ofW (cc := cX2_isKept) (maxL := 2) (ret := (some .boolean)) (by decide) rfl ?_
  intro p e s m args below meth c s₁ Bd hml hv
  obtain ⟨rfl, hE, hR⟩ := hv
  have hx := Bd.exec
  have hb := Bd.bytes
  have hr := Bd.returns
  have hts := atoms_spec (ws := wX2_isKept) Bd.pre
  have hown : s.vm.findClass RX2 = some m.cls := findClass_of_methodNamed Bd.named
  have hlocks := Bd.notSynchronized
  have hK := hE.K
  have hS : va_S (fun q => base ≤ q) s.heap s.heap [] := va_S.rf
  have hR : tR D vwCl base ad (tC (wP n ad cs) I L) s.heap := hR
  have hl := lv_entry ([.ref (ad 0), .int (nI x)]) (n := 2) (Nat.le_of_ble_eq_true rfl)
  rw [lg_entry_eq]
  generalize (lg_sl ([.ref (ad 0), .int (nI x)]) ++ List.replicate (2 - (lg_sl ([.ref (ad 0), .int (nI x)])).length) Slot.unset).toArray = ls at hl ⊢
  have hl : lv_has ls 2 [(0, .ref (ad 0)), (1, .int (nI x))] := hl
  obtain ⟨h_c1, h_c2, h_c3, h_n1, h_n4, h_bu, h_e1, h_e2⟩ := id hcf
  refine lv_iload_n hx hb dX2_isKept_0 rfl (lv_at hl 1 rfl) ?_
  refine lv_aload_n hx hb dX2_isKept_1 rfl (lv_at hl 0 rfl) ?_
  refine tb_get hx hb hts (fun w h => List.mem_cons_of_mem _ (inX2 w h)) hown hK hR 0 rfl rfl 7 (by decide) (hts _ (List.mem_cons_of_mem _ k108)) (fun _ h => h) rfl dX2_isKept_2 ?_
  rw [show I 0 7 = nI bu from hcf.2.1]
  refine lv_icmp_le (tgt := 33) hx hb dX2_isKept_5 (by decide) (fun c1 => ?_) (fun c1 => ?_)
  · have hq : ¬ (bu < x ∧ (x - bu) % ev = 0) := fun z => by have q := (nI_leI (by omega) (by omega)).mp c1; omega
    refine lv_iconst (v := 0) hx hb dX2_isKept_33 (by decide) ?_
    exact W.zret (v := 0) hx hb hr rfl (fun t ht hW => ⟨⟨_, (I, L), rfl, ⟨kN_0 hq, rfl⟩, by show tR _ _ _ _ _ t.heap; rw [ht]; exact hR⟩, hS.F ht⟩) hS.2.2 dX2_isKept_34
  · have hq1 : bu < x := Nat.lt_of_not_le (fun q => c1 (nI_le q (by omega)))
    refine lv_aload_n hx hb dX2_isKept_8 rfl (lv_at hl 0 rfl) ?_
    refine tb_get hx hb hts (fun w h => List.mem_cons_of_mem _ (inX2 w h)) hown hK hR 0 rfl rfl 8 (by decide) (hts _ (List.mem_cons_of_mem _ k109)) (fun _ h => h) rfl dX2_isKept_9 ?_
    rw [show I 0 8 = nI ev from hcf.2.2.1]
    refine lv_if_le (tgt := 33) hx hb dX2_isKept_12 (by decide) (fun c2 => ?_) (fun c2 => ?_)
    · exact absurd c2 (nI_nle (by omega) (by omega))
    · refine lv_iload_n hx hb dX2_isKept_15 rfl (lv_at hl 1 rfl) ?_
      refine lv_aload_n hx hb dX2_isKept_16 rfl (lv_at hl 0 rfl) ?_
      refine tb_get hx hb hts (fun w h => List.mem_cons_of_mem _ (inX2 w h)) hown hK hR 0 rfl rfl 7 (by decide) (hts _ (List.mem_cons_of_mem _ k108)) (fun _ h => h) rfl dX2_isKept_17 ?_
      rw [show I 0 7 = nI bu from hcf.2.1]
      refine lv_isub hx hb dX2_isKept_20 ?_
      rw [pk_sub (by omega)]
      refine lv_aload_n hx hb dX2_isKept_21 rfl (lv_at hl 0 rfl) ?_
      refine tb_get hx hb hts (fun w h => List.mem_cons_of_mem _ (inX2 w h)) hown hK hR 0 rfl rfl 8 (by decide) (hts _ (List.mem_cons_of_mem _ k109)) (fun _ h => h) rfl dX2_isKept_22 ?_
      rw [show I 0 8 = nI ev from hcf.2.2.1]
      refine lv_irem hx hb dX2_isKept_25 (nI_ne0 (by omega) (by omega)) ?_
      rw [pk_rem (by omega) (by omega) (by omega)]
      refine lv_if_ne (tgt := 33) hx hb dX2_isKept_26 (by decide) (fun c3 => ?_) (fun c3 => ?_)
      · have hq : ¬ (bu < x ∧ (x - bu) % ev = 0) := fun z => c3 (by rw [z.2]; rfl)
        refine lv_iconst (v := 0) hx hb dX2_isKept_33 (by decide) ?_
        exact W.zret (v := 0) hx hb hr rfl (fun t ht hW => ⟨⟨_, (I, L), rfl, ⟨kN_0 hq, rfl⟩, by show tR _ _ _ _ _ t.heap; rw [ht]; exact hR⟩, hS.F ht⟩) hS.2.2 dX2_isKept_34
      · have hq2 : (x - bu) % ev = 0 := (nI_z (by have := Nat.mod_lt (x - bu) (show 0 < ev by omega); omega)).mp c3
        refine lv_iconst (v := 1) hx hb dX2_isKept_29 (by decide) ?_
        refine lv_goto (tgt := 34) hx hb dX2_isKept_30 (by decide) ?_
        exact W.zret (v := 1) hx hb hr rfl (fun t ht hW => ⟨⟨_, (I, L), rfl, ⟨kN_1 hq1 hq2, rfl⟩, by show tR _ _ _ _ _ t.heap; rw [ht]; exact hR⟩, hS.F ht⟩) hS.2.2 dX2_isKept_34
set_option maxHeartbeats 4000000 in
set_option maxRecDepth 100000 in
theorem lpX2_rowsToCome {p : Program} {e : Env} {R : Room} {s : State} {m : MethodId} {args : Array Value} {below : List Frame} {meth : Method} {c : Code} {cells slots : Nat} {Q : State → Prop} (S0 : CallFix p m c cX2_rowsToCome 4 s args wX2_rowsToCome RX2) (hE : eV D cs base sa s) (hRf : 1 ≤ R.frames) (hRl : 30 ≤ R.locals) (hRc : cells ≤ R.cells) (hRs : slots ≤ R.slots) (I : tI) (L : tL) (x sp : Nat) (bu ev : Nat) (hcf : cCf I n bu ev) (hsp : I 20 4 = nI sp) (hx100 : x ≤ 100) (hsp2 : sp < 2 ^ 19)
    (kx : ∀ (H : Heap) (locs : List Loc) (ls : Array Slot), 1 ≤ x + 1 → tR D vwCl base ad (tC (wP n ad cs) I L) H → va_S (fun q => base ≤ q) s.heap H locs → lv_has ls 4 [(3, .int (nI (x + 1))), (2, .int (nI (cK bu ev sp ((x + 1) - 1)))), (0, .ref (ad 0)), (1, .int (nI x))] → W p l e R s m args below meth c H locs cells slots Q (F0 m 34 ls [])) :
    ∀ (k j : Nat) (H : Heap) (locs : List Loc) (ls : Array Slot), j ≤ x + 1 → x + 1 + 1 ≤ j + k → 1 ≤ j → tR D vwCl base ad (tC (wP n ad cs) I L) H → va_S (fun q => base ≤ q) s.heap H locs → lv_has ls 4 [(3, .int (nI j)), (2, .int (nI (cK bu ev sp (j - 1)))), (0, .ref (ad 0)), (1, .int (nI x))] → W p l e R s m args below meth c H locs cells slots Q (F0 m 4 ls []) := by
  obtain ⟨hx, hb, hml, hown, hts⟩ := S0
  have hK := hE.K
  obtain ⟨h_c1, h_c2, h_c3, h_n1, h_n4, h_bu, h_e1, h_e2⟩ := id hcf
  intro k
  induction k with
  | zero => intro j  H locs ls h1 h2; exact absurd h2 (by omega)
  | succ k ih =>
    intro j  H locs ls hj hk hj1 hR hS hl
    refine lv_iload_n hx hb dX2_rowsToCome_4 rfl (lv_at hl 0 rfl) ?_
    refine lv_iload_n hx hb dX2_rowsToCome_5 rfl (lv_at hl 3 rfl) ?_
    refine lv_icmp_gt (tgt := 34) hx hb dX2_rowsToCome_6 (by decide) (fun c1 => ?_) (fun c1 => ?_)
    · have hjN : j = x + 1 := by have e9 := (nI_ltI (by omega) (by omega)).mp c1; omega
      subst hjN
      exact kx  H locs ls hj1 hR hS (lv_sub hl [0, 1, 2, 3] rfl)
    · have hjN : j < x + 1 := by
        rcases Nat.lt_or_ge j (x + 1) with q | q
        · exact q
        · exact absurd (nI_lt (by omega) (by omega)) c1
      refine lv_aload_n hx hb dX2_rowsToCome_9 rfl (lv_at hl 2 rfl) ?_
      refine lv_aload_n hx hb dX2_rowsToCome_10 rfl (lv_at hl 2 rfl) ?_
      refine tb_get hx hb hts (fun w h => List.mem_cons_of_mem _ (inX2 w h)) hown hK hR 0 rfl rfl 3 (by decide) (hts _ (List.mem_cons_of_mem _ k104)) (fun _ h => h) rfl dX2_rowsToCome_11 ?_
      refine tb_getN hx hb hts (fun w h => List.mem_cons_of_mem _ (inX0 w h)) hown hK hR 20 rfl rfl 4 (by decide) (va_Nw.use rfl (hE.2.1 (120, "SeedChains$Course", "steps", "I") (by decide))) (fun _ h => h) rfl dX2_rowsToCome_14 ?_
      rw [show I 20 4 = nI sp from hsp]
      refine lv_iload_n hx hb dX2_rowsToCome_17 rfl (lv_at hl 0 rfl) ?_
      refine lv_iadd hx hb dX2_rowsToCome_18 ?_
      rw [nI_add]
      refine kc_i (va_runV (As := [.int (nI (sp + j))]) (rest := []) ⟨hx, hb, hml, hown, hts⟩ (mX2_isKept I L (sp + j) bu ev hcf (by omega)) (cwV 1 hts (kw_V k353 k355 ks13 k1 k356) rfl rfl rfl (by decide +kernel) ⟨Nat.le_trans (Nat.le_of_ble_eq_true rfl) hRf, Nat.le_trans (Nat.le_of_ble_eq_true rfl) hRl⟩) (kB_preV hE hR hS 0 rfl rfl [.int (nI (sp + j))]) rfl rfl hl.1 rfl (lv_room (Nat.le_of_ble_eq_true rfl)) dX2_rowsToCome_19 ⟨hRc, hRs⟩) hS (fun r u H locs hw hR hS => ?_)
      obtain ⟨rfl, rfl⟩ := hw
      have hR : tR D vwCl base ad (tC (wP n ad cs) I L) H := hR
      refine lv_if_eq (tgt := 28) hx hb dX2_rowsToCome_22 (by decide) (fun c2 => ?_) (fun c2 => ?_)
      · have hq : kN bu ev (sp + j) = 0 := (nI_z (by have := kN_le bu ev (sp + j); omega)).mp c2
        rw [show cK bu ev sp (j - 1) = cK bu ev sp (j + 1 - 1) from by rw [cK_s hj1, hq]; rfl] at hl
        refine lv_iinc (v := nI (j + 1)) (lv' := [(3, .int (nI (j + 1))), (2, .int (nI (cK bu ev sp (j + 1 - 1)))), (0, .ref (ad 0)), (1, .int (nI x))]) hx hb dX2_rowsToCome_28 hl (k := 0) rfl (nI_1 _) (by decide) rfl (fun ls hl => ?_)
        refine lv_goto (tgt := 4) hx hb dX2_rowsToCome_31 (by decide) ?_
        exact ih (j + 1)  H locs ls (by omega) (by omega) (by omega) hR hS (lv_sub hl [0, 1, 2, 3] rfl)
      · have hq : kN bu ev (sp + j) = 1 := by have q1 := kN_le bu ev (sp + j); have q2 : ¬ kN bu ev (sp + j) = 0 := fun z => c2 (by rw [z]; rfl); omega
        refine lv_iinc (v := nI (cK bu ev sp (j - 1) + 1)) (lv' := [(2, .int (nI (cK bu ev sp (j - 1) + 1))), (3, .int (nI j)), (0, .ref (ad 0)), (1, .int (nI x))]) hx hb dX2_rowsToCome_25 hl (k := 1) rfl (nI_1 _) (by decide) rfl (fun ls hl => ?_)
        rw [show cK bu ev sp (j - 1) + 1 = cK bu ev sp (j + 1 - 1) from by rw [cK_s hj1, hq]] at hl
        refine lv_iinc (v := nI (j + 1)) (lv' := [(3, .int (nI (j + 1))), (2, .int (nI (cK bu ev sp (j + 1 - 1)))), (0, .ref (ad 0)), (1, .int (nI x))]) hx hb dX2_rowsToCome_28 hl (k := 1) rfl (nI_1 _) (by decide) rfl (fun ls hl => ?_)
        refine lv_goto (tgt := 4) hx hb dX2_rowsToCome_31 (by decide) ?_
        exact ih (j + 1)  H locs ls (by omega) (by omega) (by omega) hR hS (lv_sub hl [0, 1, 2, 3] rfl)
set_option maxHeartbeats 4000000 in
set_option maxRecDepth 100000 in
theorem mX2_rowsToCome (I : tI) (L : tL) (x sp : Nat) (bu ev : Nat) (hcf : cCf I n bu ev) (hsp : I 20 4 = nI sp) (hx100 : x ≤ 100) (hsp2 : sp < 2 ^ 19) : Met l yX2_rowsToCome wX2_rowsToCome ({ frames := 1, cells := 0, slots := 0, locals := 30 }) (va_Pc [.ref (ad 0), .int (nI x)] (kB D cs base sa n ad I L)) (va_Qi (fun (r : Int32) (u : tI × tL) => r = nI (cK bu ev sp x) ∧ u = (I, L)) (kA D cs base n ad) (fun q => base ≤ q)) 0 0 (fun q => base ≤ q) := by
  refine Met.ofW (cc := cX2_rowsToCome) (maxL := 4) (ret := (some .int)) (by decide) rfl ?_
  intro p e s m args below meth c s₁ Bd hml hv
  obtain ⟨rfl, hE, hR⟩ := hv
  have hx := Bd.exec
  have hb := Bd.bytes
  have hr := Bd.returns
  have hts := atoms_spec (ws := wX2_rowsToCome) Bd.pre
  have hown : s.vm.findClass RX2 = some m.cls := findClass_of_methodNamed Bd.named
  have hlocks := Bd.notSynchronized
  have hK := hE.K
  have hS : va_S (fun q => base ≤ q) s.heap s.heap [] := va_S.rf
  have hR : tR D vwCl base ad (tC (wP n ad cs) I L) s.heap := hR
  have hl := lv_entry ([.ref (ad 0), .int (nI x)]) (n := 4) (Nat.le_of_ble_eq_true rfl)
  rw [lg_entry_eq]
  generalize (lg_sl ([.ref (ad 0), .int (nI x)]) ++ List.replicate (4 - (lg_sl ([.ref (ad 0), .int (nI x)])).length) Slot.unset).toArray = ls at hl ⊢
  have hl : lv_has ls 4 [(0, .ref (ad 0)), (1, .int (nI x))] := hl
  refine lv_iconst (v := 0) hx hb dX2_rowsToCome_0 (by decide) ?_
  rw [show (0 : Int32) = nI (cK bu ev sp (1 - 1)) from rfl]
  refine lv_istore_n (lv' := [(2, .int (nI (cK bu ev sp (1 - 1)))), (0, .ref (ad 0)), (1, .int (nI x))]) hx hb dX2_rowsToCome_1 rfl hl (by decide) rfl (fun ls hl => ?_)
  refine lv_iconst (v := 1) hx hb dX2_rowsToCome_2 (by decide) ?_
  rw [show (1 : Int32) = nI 1 from rfl]
  refine lv_istore_n (lv' := [(3, .int (nI 1)), (2, .int (nI (cK bu ev sp (1 - 1)))), (0, .ref (ad 0)), (1, .int (nI x))]) hx hb dX2_rowsToCome_3 rfl hl (by decide) rfl (fun ls hl => ?_)
  refine lpX2_rowsToCome ⟨hx, hb, hml, hown, hts⟩ hE (Nat.le_of_ble_eq_true rfl) (Nat.le_of_ble_eq_true rfl) (Nat.le_of_ble_eq_true rfl) (Nat.le_of_ble_eq_true rfl) I L x sp bu ev hcf hsp hx100 hsp2 (fun H locs ls _ hR hS hl => ?_) (x + 1) 1 _ _ ls (by omega) (by omega) (Nat.le_refl _) hR hS (lv_sub hl [0, 1, 2, 3] rfl)
  refine lv_iload_n hx hb dX2_rowsToCome_34 rfl (lv_at hl 1 rfl) ?_
  exact W.iret (v := nI (cK bu ev sp (x + 1 - 1))) hx hb hr (fun t ht hW => ⟨⟨_, (I, L), rfl, ⟨rfl, rfl⟩, by show tR _ _ _ _ _ t.heap; rw [ht]; exact hR⟩, hS.F ht⟩) hS.2.2 dX2_rowsToCome_35
set_option maxHeartbeats 4000000 in
set_option maxRecDepth 100000 in
theorem mX2_forget (I : tI) (L : tL)   : Met l yX2_forget wX2_forget ({ frames := 0, cells := 0, slots := 0, locals := 0 }) (va_Pc [.ref (ad 0)] (kB D cs base sa n ad I L)) (va_Qv (fun (u : tI × tL) => u = (va_up I 0 (upd (upd (I 0) 6 0) 5 0), L)) (kA D cs base n ad) (fun q => base ≤ q)) 0 0 (fun q => base ≤ q) := by
  refine Met.ofW (cc := cX2_forget) (maxL := 1) (ret := none) (by decide) rfl ?_
  intro p e s m args below meth c s₁ Bd hml hv
  obtain ⟨rfl, hE, hR⟩ := hv
  have hx := Bd.exec
  have hb := Bd.bytes
  have hr := Bd.returns
  have hts := atoms_spec (ws := wX2_forget) Bd.pre
  have hown : s.vm.findClass RX2 = some m.cls := findClass_of_methodNamed Bd.named
  have hlocks := Bd.notSynchronized
  have hK := hE.K
  have hS : va_S (fun q => base ≤ q) s.heap s.heap [] := va_S.rf
  have hR : tR D vwCl base ad (tC (wP n ad cs) I L) s.heap := hR
  have hl := lv_entry ([.ref (ad 0)]) (n := 1) (Nat.le_of_ble_eq_true rfl)
  rw [lg_entry_eq]
  generalize (lg_sl ([.ref (ad 0)]) ++ List.replicate (1 - (lg_sl ([.ref (ad 0)])).length) Slot.unset).toArray = ls at hl ⊢
  have hl : lv_has ls 1 [(0, .ref (ad 0))] := hl
  refine lv_aload_n hx hb dX2_forget_0 rfl (lv_at hl 0 rfl) ?_
  refine lv_iconst (v := 0) hx hb dX2_forget_1 (by decide) ?_
  refine tp_put hx hb hts (fun w h => List.mem_cons_of_mem _ (inX2 w h)) tyX2 tyX2_ok nmX2 hown hK hR hS 0 (fun r => [.int (r 0), .int (r 1), .ref (ad 1), .ref (ad 20), .ref (ad 18), .int (r 5), .int (r 6), .int (r 7), .int (r 8)]) (fun _ _ => rfl) rfl 6 (by decide) (hts _ (List.mem_cons_of_mem _ k107)) (fun _ h => h) rfl (ty := .boolean) rfl rfl rfl (by simp) (fun _ => rfl) dX2_forget_2 (fun H locs hR hS => ?_)
  refine lv_aload_n hx hb dX2_forget_5 rfl (lv_at hl 0 rfl) ?_
  refine lv_iconst (v := 0) hx hb dX2_forget_6 (by decide) ?_
  refine tp_put hx hb hts (fun w h => List.mem_cons_of_mem _ (inX2 w h)) tyX2 tyX2_ok nmX2 hown hK hR hS 0 (fun r => [.int (r 0), .int (r 1), .ref (ad 1), .ref (ad 20), .ref (ad 18), .int (r 5), .int (r 6), .int (r 7), .int (r 8)]) (fun _ _ => rfl) rfl 5 (by decide) (hts _ (List.mem_cons_of_mem _ k106)) (fun _ h => h) rfl (ty := .int) rfl rfl rfl (by simp) (fun _ => rfl) dX2_forget_7 (fun H locs hR hS => ?_)
  rw [bx_uu, va_up_self] at hR
  exact W.vret hx hb hr (fun t ht hW => ⟨⟨(va_up I 0 (upd (upd (I 0) 6 0) 5 0), L), rfl, rfl, by show tR _ _ _ _ _ t.heap; rw [ht]; exact hR⟩, hS.F ht⟩) hS.2.2 dX2_forget_10
set_option maxHeartbeats 4000000 in
set_option maxRecDepth 100000 in
theorem lpX2_stepChain {p : Program} {e : Env} {R : Room} {s : State} {m : MethodId} {args : Array Value} {below : List Frame} {meth : Method} {c : Code} {cells slots : Nat} {Q : State → Prop} (S0 : CallFix p m c cX2_stepChain 4 s args wX2_stepChain RX2) (hE : eV D cs base sa s) (hRf : 3 ≤ R.frames) (hRl : 100 ≤ R.locals) (hRc : cells ≤ R.cells) (hRs : slots ≤ R.slots) (I : tI) (L : tL) {nd no : Nat} {f la : Nat → Nat} {ph : Nat → Int32} {w : Nat → Nat → Nat} {ea lt le mo : Nat → Nat} (ch : Nat) (Y : Nat → Nat) (s0 : Int64) (hSi : cSi I nd no f la ph w ea lt le mo) (hwf : wfS nd no f la w ea lt le mo) (hn4 : n ≤ 4) (hch : ch < n) (hwY : wfY nd no f la ea lt le mo Y)
    (kx : ∀ (y : Nat → Nat) (s9 : Int64) (row : Nat → Int32) (H : Heap) (locs : List Loc) (ls : Array Slot), rw_Y nd row y → (y, s9) = sC no f la w ea lt le mo nd (Y, s0) → tR D vwCl base ad (tC (wP n ad cs) (va_up I (20 + 4 + ch) row) (va_up L 22 (vp_updL (L 22) ch s9))) H → va_S (fun q => base ≤ q) s.heap H locs → lv_has ls 4 [(3, .int (nI nd)), (0, .ref (ad 0)), (1, .int (nI ch)), (2, .ref (ad (20 + 4 + ch)))] → W p l e R s m args below meth c H locs cells slots Q (F0 m 79 ls [])) :
    ∀ (k j : Nat) (y : Nat → Nat) (s9 : Int64) (row : Nat → Int32) (H : Heap) (locs : List Loc) (ls : Array Slot), j ≤ nd → nd + 1 ≤ j + k → rw_Y nd row y → (y, s9) = sC no f la w ea lt le mo j (Y, s0) → tR D vwCl base ad (tC (wP n ad cs) (va_up I (20 + 4 + ch) row) (va_up L 22 (vp_updL (L 22) ch s9))) H → va_S (fun q => base ≤ q) s.heap H locs → lv_has ls 4 [(3, .int (nI j)), (0, .ref (ad 0)), (1, .int (nI ch)), (2, .ref (ad (20 + 4 + ch)))] → W p l e R s m args below meth c H locs cells slots Q (F0 m 12 ls []) := by
  obtain ⟨hx, hb, hml, hown, hts⟩ := S0
  have hK := hE.K
  obtain ⟨h_nd, h_no, h_d, h_o⟩ := id hwf
  intro k
  induction k with
  | zero => intro j y s9 row H locs ls h1 h2; exact absurd h2 (by omega)
  | succ k ih =>
    intro j y s9 row H locs ls hj hk hrow hys hR hS hl
    refine lv_iload_n hx hb dX2_stepChain_12 rfl (lv_at hl 0 rfl) ?_
    refine lv_aload_n hx hb dX2_stepChain_13 rfl (lv_at hl 1 rfl) ?_
    refine tb_get hx hb hts (fun w h => List.mem_cons_of_mem _ (inX2 w h)) hown hK hR 0 rfl rfl 2 (by decide) (hts _ (List.mem_cons_of_mem _ k103)) (fun _ h => h) rfl dX2_stepChain_14 ?_
    refine tb_getN hx hb hts (fun w h => List.mem_cons_of_mem _ (inX1 w h)) hown hK hR 1 rfl rfl 8 (by decide) (va_Nw.use rfl (hE.2.1 (68, "SeedChains$Site", "dates", "I") (by decide))) (fun _ h => h) rfl dX2_stepChain_17 ?_
    rw [show (va_up I (20 + 4 + ch) row) 1 8 = nI nd from (by rw [va_up_ne _ _ (by omega)]; exact hSi.1)]
    refine lv_icmp_ge (tgt := 79) hx hb dX2_stepChain_20 (by decide) (fun c1 => ?_) (fun c1 => ?_)
    · have hjN : j = nd := by have e9 := (nI_leI (by omega) (by omega)).mp c1; omega
      subst hjN
      exact kx y s9 row H locs ls hrow hys hR hS (lv_sub hl [0, 1, 2, 3] rfl)
    · have hjN : j < nd := by
        rcases Nat.lt_or_ge j nd with q | q
        · exact q
        · exact absurd (nI_le (by omega) (by omega)) c1
      have hwy : wfY nd no f la ea lt le mo y := by have q := wfY_sC hwf (q := (Y, s0)) hwY (j := j) (by omega); rw [← hys] at q; exact q
      refine lv_aload_n hx hb dX2_stepChain_23 rfl (lv_at hl 1 rfl) ?_
      refine tb_get hx hb hts (fun w h => List.mem_cons_of_mem _ (inX2 w h)) hown hK hR 0 rfl rfl 3 (by decide) (hts _ (List.mem_cons_of_mem _ k104)) (fun _ h => h) rfl dX2_stepChain_24 ?_
      refine tb_getN hx hb hts (fun w h => List.mem_cons_of_mem _ (inX0 w h)) hown hK hR 20 rfl rfl 1 (by decide) (va_Nw.use rfl (hE.2.1 (123, "SeedChains$Course", "states", "[J") (by decide))) (fun _ h => h) rfl dX2_stepChain_27 ?_
      refine lv_iload_n hx hb dX2_stepChain_30 rfl (lv_at hl 2 rfl) ?_
      refine lv_ldc2 (v := 6364136223846793005) hx hb hown (hts _ (List.mem_cons_of_mem _ k366)) dX2_stepChain_31 ?_
      refine lv_aload_n hx hb dX2_stepChain_34 rfl (lv_at hl 1 rfl) ?_
      refine tb_get hx hb hts (fun w h => List.mem_cons_of_mem _ (inX2 w h)) hown hK hR 0 rfl rfl 3 (by decide) (hts _ (List.mem_cons_of_mem _ k104)) (fun _ h => h) rfl dX2_stepChain_35 ?_
      refine tb_getN hx hb hts (fun w h => List.mem_cons_of_mem _ (inX0 w h)) hown hK hR 20 rfl rfl 1 (by decide) (va_Nw.use rfl (hE.2.1 (123, "SeedChains$Course", "states", "[J") (by decide))) (fun _ h => h) rfl dX2_stepChain_38 ?_
      refine lv_iload_n hx hb dX2_stepChain_41 rfl (lv_at hl 2 rfl) ?_
      refine tp_lald hx hb hK hR 22 1 (fun _ _ => rfl) rfl ch rfl (by omega) (by omega) dX2_stepChain_42 ?_
      rw [show (va_up L 22 (vp_updL (L 22) ch s9)) 22 ch = s9 from (by rw [va_up_self, vp_updL_self])]
      refine lv_lmul hx hb dX2_stepChain_43 ?_
      refine lv_ldc2 (v := 1442695040888963407) hx hb hown (hts _ (List.mem_cons_of_mem _ k367)) dX2_stepChain_44 ?_
      refine lv_ladd hx hb dX2_stepChain_47 ?_
      refine tp_last hx hb hK hR hS 22 1 (fun _ _ => rfl) rfl ch rfl (by omega) (by omega) dX2_stepChain_48 (fun H locs hR hS => ?_)
      have hR : tR D vwCl base ad (tC (wP n ad cs) (va_up I (20 + 4 + ch) row) (va_up L 22 (vp_updL (L 22) ch (stN s9)))) H := by rw [bx_uu, va_up_self, vp_updL_uu] at hR; exact hR
      refine lv_aload_n hx hb dX2_stepChain_49 rfl (lv_at hl 3 rfl) ?_
      refine lv_iload_n hx hb dX2_stepChain_50 rfl (lv_at hl 0 rfl) ?_
      refine lv_aload_n hx hb dX2_stepChain_51 rfl (lv_at hl 1 rfl) ?_
      refine tb_get hx hb hts (fun w h => List.mem_cons_of_mem _ (inX2 w h)) hown hK hR 0 rfl rfl 2 (by decide) (hts _ (List.mem_cons_of_mem _ k103)) (fun _ h => h) rfl dX2_stepChain_52 ?_
      refine lv_iload_n hx hb dX2_stepChain_55 rfl (lv_at hl 0 rfl) ?_
      refine lv_aload_n hx hb dX2_stepChain_56 rfl (lv_at hl 3 rfl) ?_
      refine lv_aload_n hx hb dX2_stepChain_57 rfl (lv_at hl 1 rfl) ?_
      refine tb_get hx hb hts (fun w h => List.mem_cons_of_mem _ (inX2 w h)) hown hK hR 0 rfl rfl 3 (by decide) (hts _ (List.mem_cons_of_mem _ k104)) (fun _ h => h) rfl dX2_stepChain_58 ?_
      refine tb_getN hx hb hts (fun w h => List.mem_cons_of_mem _ (inX0 w h)) hown hK hR 20 rfl rfl 1 (by decide) (va_Nw.use rfl (hE.2.1 (123, "SeedChains$Course", "states", "[J") (by decide))) (fun _ h => h) rfl dX2_stepChain_61 ?_
      refine lv_iload_n hx hb dX2_stepChain_64 rfl (lv_at hl 2 rfl) ?_
      refine tp_lald hx hb hK hR 22 1 (fun _ _ => rfl) rfl ch rfl (by omega) (by omega) dX2_stepChain_65 ?_
      rw [show (va_up L 22 (vp_updL (L 22) ch (stN s9))) 22 ch = stN s9 from (by rw [va_up_self, vp_updL_self])]
      refine lv_bipush (v := 33) hx hb dX2_stepChain_66 (by decide) ?_
      refine lv_lushr hx hb dX2_stepChain_68 rfl ?_
      rw [show (((stN s9).toUInt64 >>> ((33 : Int32).toInt64.toUInt64 &&& Int64.toUInt64 63)).toInt64) = lN (sX (stN s9)) from sX_eq _]
      refine kc_i (va_runVN (As := [.int (nI j), .ref (ad (20 + 4 + ch)), .long (lN (sX (stN s9)))]) (rest := [.int (nI j), .ref (ad (20 + 4 + ch))]) ⟨hx, hb, hml, hown, hts⟩ (mX1_drawnYear (va_up I (20 + 4 + ch) row) (va_up L 22 (vp_updL (L 22) ch (stN s9))) (20 + 4 + ch) j y (sX (stN s9)) (hSi.up h_nd (by omega) row) hwf hjN (fun r q => wP_b4 (Or.inl rfl) hn4 hch r q) (fun i hi => by rw [va_up_self]; exact hrow i hi) (wfY_b hwf hwy) (fun k hk => (hwy.2 k hk).1) _ _ rfl rfl (wfY_lh hwf hwy hjN) (sX_lt _)) ⟨va_cnB 3 hts (kw_N k371) rfl rfl rfl (hE.2.2.1 (212, yX1_drawnYear) (by decide)) (hts _ (List.mem_cons_of_mem _ k3)) (by decide +kernel) ⟨Nat.le_trans (Nat.le_of_ble_eq_true rfl) hRf, Nat.le_trans (Nat.le_of_ble_eq_true rfl) hRl⟩, hts _ (List.mem_cons_of_mem _ k370), hts _ (List.mem_cons_of_mem _ ks16)⟩ (kB_preV hE hR hS 1 rfl rfl [.int (nI j), .ref (ad (20 + 4 + ch)), .long (lN (sX (stN s9)))]) rfl rfl hl.1 rfl (lv_room (Nat.le_of_ble_eq_true rfl)) dX2_stepChain_69 ⟨hRc, hRs⟩) hS (fun r u H locs hw hR hS => ?_)
      have hw : r = nI (dY no f la w ea lt le mo j y (sX (stN s9))) ∧ u = (va_up I (20 + 4 + ch) row, va_up L 22 (vp_updL (L 22) ch (stN s9))) := hw
      obtain ⟨rfl, rfl⟩ := hw
      have hR : tR D vwCl base ad (tC (wP n ad cs) (va_up I (20 + 4 + ch) row) (va_up L 22 (vp_updL (L 22) ch (stN s9)))) H := hR
      refine tp_iast hx hb hK hR hS (20 + 4 + ch) 0 (fun _ _ => wP_b4 (Or.inl rfl) hn4 hch _ _) rfl j rfl (by omega) (by decide) dX2_stepChain_72 (fun H locs hR hS => ?_)
      rw [bx_uu, va_up_self] at hR
      have hrow1 : rw_Y nd (upd row j (nI (dY no f la w ea lt le mo j y (sX (stN s9))))) (va_up y j (dY no f la w ea lt le mo j y (sX (stN s9)))) := hrow.put _ _ rfl
      have hys1 : (va_up y j (dY no f la w ea lt le mo j y (sX (stN s9))), stN s9) = sC no f la w ea lt le mo (j + 1) (Y, s0) := by simp only [sC]; rw [← hys]
      refine lv_iinc (v := nI (j + 1)) (lv' := [(3, .int (nI (j + 1))), (0, .ref (ad 0)), (1, .int (nI ch)), (2, .ref (ad (20 + 4 + ch)))]) hx hb dX2_stepChain_73 hl (k := 0) rfl (nI_1 _) (by decide) rfl (fun ls hl => ?_)
      refine lv_goto (tgt := 12) hx hb dX2_stepChain_76 (by decide) ?_
      exact ih (j + 1) (va_up y j (dY no f la w ea lt le mo j y (sX (stN s9)))) (stN s9) (upd row j (nI (dY no f la w ea lt le mo j y (sX (stN s9))))) H locs ls (by omega) (by omega) hrow1 hys1 hR hS (lv_sub hl [0, 1, 2, 3] rfl)
set_option maxHeartbeats 4000000 in
set_option maxRecDepth 100000 in
theorem mX2_stepChain (I : tI) (L : tL) {nd no : Nat} {f la : Nat → Nat} {ph : Nat → Int32} {w : Nat → Nat → Nat} {ea lt le mo : Nat → Nat} (ch : Nat) (Y : Nat → Nat) (hSi : cSi I nd no f la ph w ea lt le mo) (hwf : wfS nd no f la w ea lt le mo) (hn4 : n ≤ 4) (hch : ch < n) (hY : rw_Y nd (I (20 + 4 + ch)) Y) (hwY : wfY nd no f la ea lt le mo Y) : Met l yX2_stepChain wX2_stepChain ({ frames := 3, cells := 0, slots := 0, locals := 100 }) (va_Pc [.ref (ad 0), .int (nI ch)] (kB D cs base sa n ad I L)) (va_Qv (fun (u : tI × tL) => ∃ row : Nat → Int32, u = (va_up I (20 + 4 + ch) row, va_up L 22 (vp_updL (L 22) ch (sC no f la w ea lt le mo nd (Y, L 22 ch)).2)) ∧ rw_Y nd row (sC no f la w ea lt le mo nd (Y, L 22 ch)).1) (kA D cs base n ad) (fun q => base ≤ q)) 0 0 (fun q => base ≤ q) := by
  refine Met.ofW (cc := cX2_stepChain) (maxL := 4) (ret := none) (by decide) rfl ?_
  intro p e s m args below meth c s₁ Bd hml hv
  obtain ⟨rfl, hE, hR⟩ := hv
  have hx := Bd.exec
  have hb := Bd.bytes
  have hr := Bd.returns
  have hts := atoms_spec (ws := wX2_stepChain) Bd.pre
  have hown : s.vm.findClass RX2 = some m.cls := findClass_of_methodNamed Bd.named
  have hlocks := Bd.notSynchronized
  have hK := hE.K
  have hS : va_S (fun q => base ≤ q) s.heap s.heap [] := va_S.rf
  have hR : tR D vwCl base ad (tC (wP n ad cs) I L) s.heap := hR
  have hl := lv_entry ([.ref (ad 0), .int (nI ch)]) (n := 4) (Nat.le_of_ble_eq_true rfl)
  rw [lg_entry_eq]
  generalize (lg_sl ([.ref (ad 0), .int (nI ch)]) ++ List.replicate (4 - (lg_sl ([.ref (ad 0), .int (nI ch)])).length) Slot.unset).toArray = ls at hl ⊢
  have hl : lv_has ls 4 [(0, .ref (ad 0)), (1, .int (nI ch))] := hl
  obtain ⟨h_nd, h_no, h_d, h_o⟩ := id hwf
  refine lv_aload_n hx hb dX2_stepChain_0 rfl (lv_at hl 0 rfl) ?_
  refine tb_get hx hb hts (fun w h => List.mem_cons_of_mem _ (inX2 w h)) hown hK hR 0 rfl rfl 3 (by decide) (hts _ (List.mem_cons_of_mem _ k104)) (fun _ h => h) rfl dX2_stepChain_1 ?_
  refine tb_getN hx hb hts (fun w h => List.mem_cons_of_mem _ (inX0 w h)) hown hK hR 20 rfl rfl 0 (by decide) (va_Nw.use rfl (hE.2.1 (129, "SeedChains$Course", "years", "[[I") (by decide))) (fun _ h => h) rfl dX2_stepChain_4 ?_
  refine lv_iload_n hx hb dX2_stepChain_7 rfl (lv_at hl 1 rfl) ?_
  refine tb_aald hx hb hK hR 21 2 rfl rfl ch rfl (by omega) (by omega) (if_pos (by omega)) dX2_stepChain_8 ?_
  refine lv_astore_n (lv' := [(2, .ref (ad (20 + 4 + ch))), (0, .ref (ad 0)), (1, .int (nI ch))]) hx hb dX2_stepChain_9 rfl hl (by decide) rfl (fun ls hl => ?_)
  refine lv_iconst (v := 0) hx hb dX2_stepChain_10 (by decide) ?_
  rw [show (0 : Int32) = nI 0 from nI_0.symm]
  refine lv_istore_n (lv' := [(3, .int (nI 0)), (2, .ref (ad (20 + 4 + ch))), (0, .ref (ad 0)), (1, .int (nI ch))]) hx hb dX2_stepChain_11 rfl hl (by decide) rfl (fun ls hl => ?_)
  have hR : tR D vwCl base ad (tC (wP n ad cs) (va_up I (20 + 4 + ch) (I (20 + 4 + ch))) (va_up L 22 (vp_updL (L 22) ch (L 22 ch)))) s.heap := by rw [va_up_id, vp_updL_id, va_up_id]; exact hR
  refine lpX2_stepChain ⟨hx, hb, hml, hown, hts⟩ hE (Nat.le_of_ble_eq_true rfl) (Nat.le_of_ble_eq_true rfl) (Nat.le_of_ble_eq_true rfl) (Nat.le_of_ble_eq_true rfl) I L ch Y (L 22 ch) hSi hwf hn4 hch hwY (fun y s9 row H locs ls hrow hys hR hS hl => ?_) (nd + 1) 0 Y (L 22 ch) (I (20 + 4 + ch)) _ _ ls (Nat.zero_le _) (by omega) hY rfl hR hS (lv_sub hl [0, 2, 3, 1] rfl)
  rw [← hys]
  exact W.vret hx hb hr (fun t ht hW => ⟨⟨(va_up I (20 + 4 + ch) row, va_up L 22 (vp_updL (L 22) ch s9)), rfl, ⟨row, rfl, hrow⟩, by show tR _ _ _ _ _ t.heap; rw [ht]; exact hR⟩, hS.F ht⟩) hS.2.2 dX2_stepChain_79
end C7
end
section
theorem cCf.of {I J : tI} {n bu ev : Nat} (h : cCf I n bu ev) (hJ : J 0 = I 0) : cCf J n bu ev := by
  unfold cCf
  rw [hJ]
  exact h
section SA
variable {nd no : Nat} {f la : Nat → Nat} {w : Nat → Nat → Nat} {ea lt le mo : Nat → Nat}
/-- all chains a step on: years, states -/
def nY (nd no : Nat) (f la : Nat → Nat) (w : Nat → Nat → Nat) (ea lt le mo : Nat → Nat) (Y : Nat → Nat → Nat) (st : Nat → Int64) : Nat → Nat → Nat := fun c => (sC no f la w ea lt le mo nd (Y c, st c)).1
def nS (nd no : Nat) (f la : Nat → Nat) (w : Nat → Nat → Nat) (ea lt le mo : Nat → Nat) (Y : Nat → Nat → Nat) (st : Nat → Int64) : Nat → Int64 := fun c => (sC no f la w ea lt le mo nd (Y c, st c)).2
def nR (kp : Nat) (Y1 : Nat → Nat → Nat) (R : Nat → Nat → Nat → Nat) : Nat → Nat → Nat → Nat := fun c k d => if k = kp then Y1 c d else R c k d
/-- the chains below j have stepped on -/
def sJ (n nd no : Nat) (f la : Nat → Nat) (w : Nat → Nat → Nat) (ea lt le mo : Nat → Nat) (Y : Nat → Nat → Nat) (st : Nat → Int64) (I : tI) (L : tL) (j : Nat) (J : tI) (K : tL) : Prop :=
  (∀ k, (k < 24 ∨ 28 ≤ k) → J k = I k) ∧ (∀ k, k ≠ 22 → K k = L k) ∧ ∀ c, c < n → (c < j → K 22 c = nS nd no f la w ea lt le mo Y st c ∧ rw_Y nd (J (20 + 4 + c)) (nY nd no f la w ea lt le mo Y st c)) ∧ (j ≤ c → K 22 c = st c ∧ rw_Y nd (J (20 + 4 + c)) (Y c))
theorem sJ_s {n : Nat} {Y : Nat → Nat → Nat} {st : Nat → Int64} {I J : tI} {L K : tL} {j : Nat} (h : sJ n nd no f la w ea lt le mo Y st I L j J K) (hj : j < n) (hn : n ≤ 4) {row : Nat → Int32} (hrow : rw_Y nd row (nY nd no f la w ea lt le mo Y st j)) : sJ n nd no f la w ea lt le mo Y st I L (j + 1) (va_up J (20 + 4 + j) row) (va_up K 22 (vp_updL (K 22) j (nS nd no f la w ea lt le mo Y st j))) := by
  obtain ⟨h1, h2, h3⟩ := h
  refine ⟨fun k hk => by rw [va_up_ne _ _ (by omega)]; exact h1 k hk, fun k hk => by rw [va_up_ne _ _ hk]; exact h2 k hk, fun c hc => ?_⟩
  rw [va_up_self]
  by_cases e : c = j
  · subst e
    rw [vp_updL_self, va_up_self]
    exact ⟨fun _ => ⟨rfl, hrow⟩, fun q => by omega⟩
  · rw [va_up_ne _ _ (show 20 + 4 + c ≠ 20 + 4 + j by omega)]
    have e2 : vp_updL (K 22) j (nS nd no f la w ea lt le mo Y st j) c = K 22 c := by unfold vp_updL; rw [if_neg e]
    rw [e2]
    exact ⟨fun q => (h3 c hc).1 (by omega), fun q => (h3 c hc).2 (by omega)⟩
theorem cCo_s0 {n : Nat} {Y : Nat → Nat → Nat} {st : Nat → Int64} {R : Nat → Nat → Nat → Nat} {kp sp : Nat} {I J : tI} {L K : tL} (hCo : cCo I L n nd 20 Y st R kp sp) (h : sJ n nd no f la w ea lt le mo Y st I L n J K) (hn : n ≤ 4) : cCo (va_up J 20 (upd (J 20) 4 (nI (sp + 1)))) K n nd 20 (nY nd no f la w ea lt le mo Y st) (nS nd no f la w ea lt le mo Y st) (nR kp (nY nd no f la w ea lt le mo Y st) R) kp (sp + 1) := by
  obtain ⟨h1, h2, h3⟩ := h
  obtain ⟨g1, g2, g3⟩ := hCo
  refine ⟨?_, ?_, fun c hc => ⟨((h3 c hc).1 hc).1, fun d hd => ?_, fun k hk d hd => ?_⟩⟩
  · rw [va_up_self]
    show J 20 3 = _
    rw [h1 20 (by omega)]
    exact g1
  · rw [va_up_self]
    exact if_pos rfl
  · rw [va_up_ne _ _ (by omega)]
    exact ((h3 c hc).1 hc).2 d hd
  · rw [va_up_ne _ _ (by omega), h1 _ (by omega), (g3 c hc).2.2 k hk d hd]
    unfold nR
    rw [if_neg (by omega)]
theorem cCo_s1 {n : Nat} {Y1 : Nat → Nat → Nat} {st1 : Nat → Int64} {R : Nat → Nat → Nat → Nat} {kp sp : Nat} {J : tI} {K : tL} (hCo : cCo J K n nd 20 Y1 st1 (nR kp Y1 R) kp sp) (hn : n ≤ 4) (h8 : nd ≤ 8) (hk : kp < 60) : cCo (gKeep J 20 kp n) K n nd 20 Y1 st1 (nR kp Y1 R) (kp + 1) sp := by
  obtain ⟨g1, g2, g3⟩ := hCo
  refine ⟨?_, ?_, fun c hc => ⟨(g3 c hc).1, fun d hd => ?_, fun k hk2 d hd => ?_⟩⟩
  · unfold gKeep
    rw [va_up_self]
    exact if_pos rfl
  · unfold gKeep
    rw [va_up_self]
    exact g2
  · unfold gKeep
    rw [va_up_ne _ _ (by omega), gKY_lo _ (by omega)]
    exact (g3 c hc).2.1 d hd
  · unfold gKeep
    rw [va_up_ne _ _ (by omega)]
    unfold gKY
    rw [if_pos (by omega), show 20 + 8 + c - 4 = 20 + 4 + c by omega]
    by_cases e : k = kp
    · subst e
      rw [pk_cpy_in (by omega) (by omega), show 0 + (k * 8 + d - k * 8) = d by omega, (g3 c hc).2.1 d hd]
      unfold nR
      rw [if_pos rfl]
    · rw [pk_cpy_out (by omega)]
      exact (g3 c hc).2.2 k (by omega) d hd
end SA
end
section
section C8
variable {l : Launch} {D : va_G} {cs : Nat → ClassId} {base : Nat} {sa : Nat → Nat} {n : Nat} {ad : Nat → Nat}
set_option maxHeartbeats 4000000 in
set_option maxRecDepth 100000 in
theorem lpX2_stepAll {p : Program} {e : Env} {R : Room} {s : State} {m : MethodId} {args : Array Value} {below : List Frame} {meth : Method} {c : Code} {cells slots : Nat} {Q : State → Prop} (S0 : CallFix p m c cX2_stepAll 2 s args wX2_stepAll RX2) (hE : eV D cs base sa s) (hRf : 4 ≤ R.frames) (hRl : 140 ≤ R.locals) (hRc : cells ≤ R.cells) (hRs : slots ≤ R.slots) (I : tI) (L : tL) {nd no : Nat} {f la : Nat → Nat} {ph : Nat → Int32} {w : Nat → Nat → Nat} {ea lt le mo : Nat → Nat} {Y : Nat → Nat → Nat} {st : Nat → Int64} {Rw : Nat → Nat → Nat → Nat} {kp sp : Nat} (bu ev : Nat) (hSi : cSi I nd no f la ph w ea lt le mo) (hwf : wfS nd no f la w ea lt le mo) (hcf : cCf I n bu ev) (hCo : cCo I L n nd 20 Y st Rw kp sp) (hwY : ∀ c, c < n → wfY nd no f la ea lt le mo (Y c))
    (kx : ∀ (J : tI) (K : tL) (H : Heap) (locs : List Loc) (ls : Array Slot), sJ n nd no f la w ea lt le mo Y st I L n J K → tR D vwCl base ad (tC (wP n ad cs) J K) H → va_S (fun q => base ≤ q) s.heap H locs → lv_has ls 2 [(1, .int (nI n)), (0, .ref (ad 0))] → W p l e R s m args below meth c H locs cells slots Q (F0 m 21 ls [])) :
    ∀ (k j : Nat) (J : tI) (K : tL) (H : Heap) (locs : List Loc) (ls : Array Slot), j ≤ n → n + 1 ≤ j + k → sJ n nd no f la w ea lt le mo Y st I L j J K → tR D vwCl base ad (tC (wP n ad cs) J K) H → va_S (fun q => base ≤ q) s.heap H locs → lv_has ls 2 [(1, .int (nI j)), (0, .ref (ad 0))] → W p l e R s m args below meth c H locs cells slots Q (F0 m 2 ls []) := by
  obtain ⟨hx, hb, hml, hown, hts⟩ := S0
  have hK := hE.K
  obtain ⟨h_nd, h_no, h_d, h_o⟩ := id hwf
  obtain ⟨h_c1, h_c2, h_c3, h_n1, h_n4, h_bu, h_e1, h_e2⟩ := id hcf
  intro k
  induction k with
  | zero => intro j J K H locs ls h1 h2; exact absurd h2 (by omega)
  | succ k ih =>
    intro j J K H locs ls hj hk hJ hR hS hl
    refine lv_iload_n hx hb dX2_stepAll_2 rfl (lv_at hl 0 rfl) ?_
    refine lv_aload_n hx hb dX2_stepAll_3 rfl (lv_at hl 1 rfl) ?_
    refine tb_get hx hb hts (fun w h => List.mem_cons_of_mem _ (inX2 w h)) hown hK hR 0 rfl rfl 1 (by decide) (hts _ (List.mem_cons_of_mem _ k102)) (fun _ h => h) rfl dX2_stepAll_4 ?_
    rw [show J 0 1 = nI n from (by rw [hJ.1 0 (by omega)]; exact hcf.1)]
    refine lv_icmp_ge (tgt := 21) hx hb dX2_stepAll_7 (by decide) (fun c1 => ?_) (fun c1 => ?_)
    · have hjN : j = n := by have e9 := (nI_leI (by omega) (by omega)).mp c1; omega
      subst hjN
      exact kx J K H locs ls hJ hR hS (lv_sub hl [0, 1] rfl)
    · have hjN : j < n := by
        rcases Nat.lt_or_ge j n with q | q
        · exact q
        · exact absurd (nI_le (by omega) (by omega)) c1
      refine lv_aload_n hx hb dX2_stepAll_10 rfl (lv_at hl 1 rfl) ?_
      refine lv_iload_n hx hb dX2_stepAll_11 rfl (lv_at hl 0 rfl) ?_
      refine kc_v (va_runV (As := [.int (nI j)]) (rest := []) ⟨hx, hb, hml, hown, hts⟩ (mX2_stepChain J K j (Y j) (hSi.of h_nd (fun k a b => hJ.1 k (by omega))) hwf h_n4 hjN ((hJ.2.2 j hjN).2 (Nat.le_refl _)).2 (hwY j hjN)) (cwV 1 hts (kw_V k362 k364 ks15 k1 k365) rfl rfl rfl (by decide +kernel) ⟨Nat.le_trans (Nat.le_of_ble_eq_true rfl) hRf, Nat.le_trans (Nat.le_of_ble_eq_true rfl) hRl⟩) (kB_preV hE hR hS 0 rfl rfl [.int (nI j)]) rfl rfl hl.1 rfl (lv_room (Nat.le_of_ble_eq_true rfl)) dX2_stepAll_12 ⟨hRc, hRs⟩) hS (fun u H locs hw hR hS => ?_)
      rw [((hJ.2.2 j hjN).2 (Nat.le_refl _)).1] at hw
      obtain ⟨row, rfl, hrow⟩ := hw
      have hJ2 := sJ_s hJ hjN h_n4 hrow
      have hR : tR D vwCl base ad (tC (wP n ad cs) (va_up J (20 + 4 + j) row) (va_up K 22 (vp_updL (K 22) j (nS nd no f la w ea lt le mo Y st j)))) H := hR
      refine lv_iinc (v := nI (j + 1)) (lv' := [(1, .int (nI (j + 1))), (0, .ref (ad 0))]) hx hb dX2_stepAll_15 hl (k := 0) rfl (nI_1 _) (by decide) rfl (fun ls hl => ?_)
      refine lv_goto (tgt := 2) hx hb dX2_stepAll_18 (by decide) ?_
      exact ih (j + 1) (va_up J (20 + 4 + j) row) (va_up K 22 (vp_updL (K 22) j (nS nd no f la w ea lt le mo Y st j))) H locs ls (by omega) (by omega) hJ2 hR hS (lv_sub hl [0, 1] rfl)
set_option maxHeartbeats 4000000 in
set_option maxRecDepth 100000 in
theorem mX2_stepAll (I : tI) (L : tL) {nd no : Nat} {f la : Nat → Nat} {ph : Nat → Int32} {w : Nat → Nat → Nat} {ea lt le mo : Nat → Nat} {Y : Nat → Nat → Nat} {st : Nat → Int64} {Rw : Nat → Nat → Nat → Nat} {kp sp : Nat} (bu ev : Nat) (hSi : cSi I nd no f la ph w ea lt le mo) (hwf : wfS nd no f la w ea lt le mo) (hcf : cCf I n bu ev) (hCo : cCo I L n nd 20 Y st Rw kp sp) (hwY : ∀ c, c < n → wfY nd no f la ea lt le mo (Y c)) (hsp : sp < 2 ^ 19) (hk60 : kp + kN bu ev (sp + 1) ≤ 60) : Met l yX2_stepAll wX2_stepAll ({ frames := 4, cells := 0, slots := 0, locals := 140 }) (va_Pc [.ref (ad 0)] (kB D cs base sa n ad I L)) (va_Qv (fun (u : tI × tL) => cCo u.1 u.2 n nd 20 (nY nd no f la w ea lt le mo Y st) (nS nd no f la w ea lt le mo Y st) (nR kp (nY nd no f la w ea lt le mo Y st) Rw) (kp + kN bu ev (sp + 1)) (sp + 1) ∧ (∀ k, (k < 20 ∨ 40 ≤ k) → u.1 k = I k) ∧ ∀ k, k ≠ 22 → u.2 k = L k) (kA D cs base n ad) (fun q => base ≤ q)) 0 0 (fun q => base ≤ q) := by
  refine Met.ofW (cc := cX2_stepAll) (maxL := 2) (ret := none) (by decide) rfl ?_
  intro p e s m args below meth c s₁ Bd hml hv
  obtain ⟨rfl, hE, hR⟩ := hv
  have hx := Bd.exec
  have hb := Bd.bytes
  have hr := Bd.returns
  have hts := atoms_spec (ws := wX2_stepAll) Bd.pre
  have hown : s.vm.findClass RX2 = some m.cls := findClass_of_methodNamed Bd.named
  have hlocks := Bd.notSynchronized
  have hK := hE.K
  have hS : va_S (fun q => base ≤ q) s.heap s.heap [] := va_S.rf
  have hR : tR D vwCl base ad (tC (wP n ad cs) I L) s.heap := hR
  have hl := lv_entry ([.ref (ad 0)]) (n := 2) (Nat.le_of_ble_eq_true rfl)
  rw [lg_entry_eq]
  generalize (lg_sl ([.ref (ad 0)]) ++ List.replicate (2 - (lg_sl ([.ref (ad 0)])).length) Slot.unset).toArray = ls at hl ⊢
  have hl : lv_has ls 2 [(0, .ref (ad 0))] := hl
  obtain ⟨h_nd, h_no, h_d, h_o⟩ := id hwf
  obtain ⟨h_c1, h_c2, h_c3, h_n1, h_n4, h_bu, h_e1, h_e2⟩ := id hcf
  refine lv_iconst (v := 0) hx hb dX2_stepAll_0 (by decide) ?_
  rw [show (0 : Int32) = nI 0 from nI_0.symm]
  refine lv_istore_n (lv' := [(1, .int (nI 0)), (0, .ref (ad 0))]) hx hb dX2_stepAll_1 rfl hl (by decide) rfl (fun ls hl => ?_)
  refine lpX2_stepAll ⟨hx, hb, hml, hown, hts⟩ hE (Nat.le_of_ble_eq_true rfl) (Nat.le_of_ble_eq_true rfl) (Nat.le_of_ble_eq_true rfl) (Nat.le_of_ble_eq_true rfl) I L bu ev hSi hwf hcf hCo hwY (fun J K H locs ls hJ hR hS hl => ?_) (n + 1) 0 I L _ _ ls (Nat.zero_le _) (by omega) ⟨fun _ _ => rfl, fun _ _ => rfl, fun c hc => ⟨fun q => absurd q (Nat.not_lt_zero _), fun _ => ⟨(hCo.2.2 c hc).1, (hCo.2.2 c hc).2.1⟩⟩⟩ hR hS (lv_sub hl [0, 1] rfl)
  have hC0 := cCo_s0 hCo hJ h_n4
  refine lv_aload_n hx hb dX2_stepAll_21 rfl (lv_at hl 1 rfl) ?_
  refine tb_get hx hb hts (fun w h => List.mem_cons_of_mem _ (inX2 w h)) hown hK hR 0 rfl rfl 3 (by decide) (hts _ (List.mem_cons_of_mem _ k104)) (fun _ h => h) rfl dX2_stepAll_22 ?_
  refine lv_dup hx hb dX2_stepAll_25 rfl ?_
  refine tb_getN hx hb hts (fun w h => List.mem_cons_of_mem _ (inX0 w h)) hown hK hR 20 rfl rfl 4 (by decide) (va_Nw.use rfl (hE.2.1 (120, "SeedChains$Course", "steps", "I") (by decide))) (fun _ h => h) rfl dX2_stepAll_26 ?_
  rw [show J 20 4 = nI sp from (by first | (rw [hJ.1 20 (by omega)]; exact hCo.2.1) | (rw [va_up_self]; exact if_pos rfl))]
  refine lv_iconst (v := 1) hx hb dX2_stepAll_29 (by decide) ?_
  refine lv_iadd hx hb dX2_stepAll_30 ?_
  rw [nI_1]
  refine tp_putN hx hb hts (fun w h => List.mem_cons_of_mem _ (inX0 w h)) tyX0 tyX0_ok nmX0 hown hK hR hS 20 (fun r => [.ref (ad (21)), .ref (ad (22)), .ref (ad (23)), .int (r 3), .int (r 4)]) (fun _ _ => rfl) rfl 4 (by decide) (va_Nw.use rfl (hE.2.1 (120, "SeedChains$Course", "steps", "I") (by decide))) (fun _ h => h) rfl (ty := .int) rfl rfl rfl (by simp) (fun _ => rfl) dX2_stepAll_31 (fun H locs hR hS => ?_)
  have hcf1 : cCf (va_up J 20 (upd (J 20) 4 (nI (sp + 1)))) n bu ev := hcf.of (by rw [va_up_ne _ _ (by omega)]; exact hJ.1 0 (by omega))
  refine lv_aload_n hx hb dX2_stepAll_34 rfl (lv_at hl 1 rfl) ?_
  refine lv_aload_n hx hb dX2_stepAll_35 rfl (lv_at hl 1 rfl) ?_
  refine tb_get hx hb hts (fun w h => List.mem_cons_of_mem _ (inX2 w h)) hown hK hR 0 rfl rfl 3 (by decide) (hts _ (List.mem_cons_of_mem _ k104)) (fun _ h => h) rfl dX2_stepAll_36 ?_
  refine tb_getN hx hb hts (fun w h => List.mem_cons_of_mem _ (inX0 w h)) hown hK hR 20 rfl rfl 4 (by decide) (va_Nw.use rfl (hE.2.1 (120, "SeedChains$Course", "steps", "I") (by decide))) (fun _ h => h) rfl dX2_stepAll_39 ?_
  rw [show (va_up J 20 (upd (J 20) 4 (nI (sp + 1)))) 20 4 = nI (sp + 1) from (by first | (rw [hJ.1 20 (by omega)]; exact hCo.2.1) | (rw [va_up_self]; exact if_pos rfl))]
  refine kc_i (va_runV (As := [.int (nI (sp + 1))]) (rest := []) ⟨hx, hb, hml, hown, hts⟩ (mX2_isKept (va_up J 20 (upd (J 20) 4 (nI (sp + 1)))) K (sp + 1) bu ev hcf1 (by omega)) (cwV 1 hts (kw_V k353 k355 ks13 k1 k356) rfl rfl rfl (by decide +kernel) ⟨Nat.le_of_ble_eq_true rfl, Nat.le_of_ble_eq_true rfl⟩) (kB_preV hE hR hS 0 rfl rfl [.int (nI (sp + 1))]) rfl rfl hl.1 rfl (lv_room (Nat.le_of_ble_eq_true rfl)) dX2_stepAll_42 ⟨Nat.le_of_ble_eq_true rfl, Nat.le_of_ble_eq_true rfl⟩) hS (fun r u H locs hw hR hS => ?_)
  obtain ⟨rfl, rfl⟩ := hw
  have hR : tR D vwCl base ad (tC (wP n ad cs) (va_up J 20 (upd (J 20) 4 (nI (sp + 1)))) K) H := hR
  refine lv_if_eq (tgt := 55) hx hb dX2_stepAll_45 (by decide) (fun c1 => ?_) (fun c1 => ?_)
  · have hq : kN bu ev (sp + 1) = 0 := (nI_z (by have := kN_le bu ev (sp + 1); omega)).mp c1
    exact W.vret hx hb hr (fun t ht hW => ⟨⟨((va_up J 20 (upd (J 20) 4 (nI (sp + 1)))), K), rfl, ⟨(by rw [hq]; exact hC0), fun k hk => by show (va_up J 20 (upd (J 20) 4 (nI (sp + 1)))) k = I k; rw [va_up_ne _ _ (by omega)]; exact hJ.1 k (by omega), hJ.2.1⟩, by show tR _ _ _ _ _ t.heap; rw [ht]; exact hR⟩, hS.F ht⟩) hS.2.2 dX2_stepAll_55
  · have hq : kN bu ev (sp + 1) = 1 := by have q1 := kN_le bu ev (sp + 1); have q2 : ¬ kN bu ev (sp + 1) = 0 := fun z => c1 (by rw [z]; rfl); omega
    refine lv_aload_n hx hb dX2_stepAll_48 rfl (lv_at hl 1 rfl) ?_
    refine tb_get hx hb hts (fun w h => List.mem_cons_of_mem _ (inX2 w h)) hown hK hR 0 rfl rfl 3 (by decide) (hts _ (List.mem_cons_of_mem _ k104)) (fun _ h => h) rfl dX2_stepAll_49 ?_
    refine kc_v (va_runVN (As := []) (rest := []) ⟨hx, hb, hml, hown, hts⟩ (mX0_keepYears (va_up J 20 (upd (J 20) 4 (nI (sp + 1)))) K 20 kp (Or.inl rfl) h_n4 hC0.1 (by omega)) ⟨va_cnB 0 hts (kw_N k385) rfl rfl rfl (hE.2.2.1 (205, yX0_keepYears) (by decide)) (hts _ (List.mem_cons_of_mem _ k4)) (by decide +kernel) ⟨Nat.le_of_ble_eq_true rfl, Nat.le_of_ble_eq_true rfl⟩, hts _ (List.mem_cons_of_mem _ k384), hts _ (List.mem_cons_of_mem _ ks19)⟩ (kB_preV hE hR hS 20 rfl rfl []) rfl rfl hl.1 rfl (lv_room (Nat.le_of_ble_eq_true rfl)) dX2_stepAll_52 ⟨Nat.le_of_ble_eq_true rfl, Nat.le_of_ble_eq_true rfl⟩) hS (fun u H locs hw hR hS => ?_)
    subst hw
    have hR : tR D vwCl base ad (tC (wP n ad cs) (gKeep (va_up J 20 (upd (J 20) 4 (nI (sp + 1)))) 20 kp n) K) H := hR
    exact W.vret hx hb hr (fun t ht hW => ⟨⟨((gKeep (va_up J 20 (upd (J 20) 4 (nI (sp + 1)))) 20 kp n), K), rfl, ⟨(by rw [hq]; exact cCo_s1 hC0 h_n4 h_nd (by omega)), fun k hk => by show (gKeep (va_up J 20 (upd (J 20) 4 (nI (sp + 1)))) 20 kp n) k = I k; unfold gKeep; rw [va_up_ne _ _ (by omega)]; unfold gKY; rw [if_neg (by omega), va_up_ne _ _ (by omega)]; exact hJ.1 k (by omega), hJ.2.1⟩, by show tR _ _ _ _ _ t.heap; rw [ht]; exact hR⟩, hS.F ht⟩) hS.2.2 dX2_stepAll_55
end C8
end
section
/-! EXCEPTIONS: what a throw needs, what a caller sees -/
def xnm : List String := ["java/lang/RuntimeException", "java/lang/Exception"]
theorem xW_use {args : Array Value} {s : State} (h : ∀ w ∈ xW, va_Nw w s) : ∀ w ∈ xW, w.before args s = true := fun w hw => va_Nw.use ((by decide +kernel : ∀ w ∈ xW, w.onTables = true) w hw) (h w hw)
theorem at_I {args : Array Value} {s : State} (hts : ∀ w ∈ wAll, w.before args s = true) (hx : ∀ w ∈ xW, va_Nw w s) : ∀ w ∈ vx_atS RX2 65 "java/lang/IllegalArgumentException" xnm, w.before args s = true :=
  vx_hat (B := xW) (fun w hw => hts w (wAll_of (List.mem_append_right _ ((by decide +kernel : ∀ w ∈ (vx_atS RX2 65 "java/lang/IllegalArgumentException" xnm).filter goodWord, w ∈ tables_1) w hw)) (List.mem_filter.mp hw).2)) (by decide +kernel) (xW_use hx)
theorem at_S {args : Array Value} {s : State} (hts : ∀ w ∈ wAll, w.before args s = true) (hx : ∀ w ∈ xW, va_Nw w s) : ∀ w ∈ vx_atS RX2 75 "java/lang/IllegalStateException" xnm, w.before args s = true :=
  vx_hat (B := xW) (fun w hw => hts w (wAll_of (List.mem_append_right _ ((by decide +kernel : ∀ w ∈ (vx_atS RX2 75 "java/lang/IllegalStateException" xnm).filter goodWord, w ∈ tables_1) w hw)) (List.mem_filter.mp hw).2)) (by decide +kernel) (xW_use hx)
theorem go_I : ∀ w ∈ Cond.classLink RX2 61 "java/lang/IllegalArgumentException" :: Cond.initialized "java/lang/IllegalArgumentException" :: vx_atS RX2 65 "java/lang/IllegalArgumentException" xnm, vx_ot w = true := by decide +kernel
theorem go_S : ∀ w ∈ Cond.classLink RX2 71 "java/lang/IllegalStateException" :: Cond.initialized "java/lang/IllegalStateException" :: vx_atS RX2 75 "java/lang/IllegalStateException" xnm, vx_ot w = true := by decide +kernel
theorem fit_n : ∀ q ∈ xnm, Bundle.fit q = true := by decide +kernel
/-- what a throw leaves: the class thrown is one of TH, the state is as it was -/
abbrev kX (D : va_G) (cs : Nat → ClassId) (base n : Nat) (ad : Nat → Nat) (I : tI) (L : tL) (TH : String → Prop) : String → State → State → Prop := vx_X (fun u : tI × tL => u = (I, L)) (fun E u t => TH E ∧ kA D cs base n ad u t) (fun q => base ≤ q)
section KX
variable {p : Program} {l : Launch} {e : Env} {R : Room} {s : State} {m : MethodId} {args : Array Value} {below : List Frame} {meth : Method} {c : Code} {H : Heap} {locs : List Loc} {cells slots : Nat}
variable {pc : Nat} {ls : Array Slot} {rest st0 : List Value} {D : va_G} {cs : Nat → ClassId} {base : Nat} {n : Nat} {ad : Nat → Nat} {mc ms mc2 ms2 : Nat} {a : Array Value} {I : tI} {L : tL} {TH TH2 : String → Prop} {Qc : Array Value → State → Outcome → State → Prop}
theorem kX_mk (hR : tR D vwCl base ad (tC (wP n ad cs) I L) H) (hS : va_S (fun q => base ≤ q) s.heap H locs) {E : String} (hT : TH E) : ∀ t : State, s.vm.Alike t.vm → H.size ≤ t.heap.size → (∀ q : Nat, q < H.size → t.heap[q]? = H[q]?) → kX D cs base n ad I L TH E s t :=
  fun t _ hz hk => ⟨(I, L), rfl, ⟨hT, hR.kept hk⟩, Nat.le_trans hS.1 hz, fun q h1 h2 => (hk q (Nat.lt_of_lt_of_le h1 hS.1)).trans (hS.2.1 q h1 h2)⟩
theorem kX_to (hR : tR D vwCl base ad (tC (wP n ad cs) I L) H) (hS : va_S (fun q => base ≤ q) s.heap H locs) {E : String} (hT : TH E) : ∀ t : State, t.heap = H → s.vm.Alike t.vm → kX D cs base n ad I L TH E s t :=
  fun t ht hv => kX_mk hR hS hT t hv (by rw [ht]; exact Nat.le_refl _) (fun q _ => by rw [ht])
/-- a call that may throw; what is thrown goes on to the caller -/
theorem kt_v {post : tI × tL → Prop} (hr : vx_Run p l e R s m args below meth c H locs cells slots mc ms (F0 m pc ls st0) rest (va_Qv post (kA D cs base n ad) (fun q => base ≤ q) a) (kX D cs base n ad I L TH) (fun q => base ≤ q)) (hS : va_S (fun q => base ≤ q) s.heap H locs) (htab : ∀ x ∈ c.exceptionTable.toList, False) (hlocks : meth.locks = false) (hT : ∀ E, TH E → TH2 E) (hc : cells + mc ≤ mc2) (hs : slots + ms ≤ ms2)
    (kk : ∀ (u : tI × tL) (H1 : Heap) (locs1 : List Loc), post u → tR D vwCl base ad (tC (wP n ad cs) u.1 u.2) H1 → va_S (fun q => base ≤ q) s.heap H1 locs1 → W p l e R s m args below meth c H1 locs1 (cells + mc) (slots + ms) (vx_MQ below Qc (kX D cs base n ad I L TH2) args s mc2 ms2 (fun q => base ≤ q)) (F0 m (pc + 3) ls rest)) :
    W p l e R s m args below meth c H locs cells slots (vx_MQ below Qc (kX D cs base n ad I L TH2) args s mc2 ms2 (fun q => base ≤ q)) (F0 m pc ls st0) :=
  vx_callv hr hS (fun _ _ h => h) (fun _ h => h) (fun _ _ h => h)
    (fun E ce q9 u t H1 locs1 ht hv hu hB _ _ hS1 hce hcv hcl => by
      subst hu
      exact vx_out (fun x h => (htab x h).elim) hlocks hce hcv hcl (kX_to (by rw [← ht]; exact hB.2) hS1 (hT E hB.1)) hS1.2.2 hc hs)
    (fun u t H1 locs1 ht _ hw hB _ _ hS1 => kk u H1 locs1 hw (by rw [← ht]; exact hB) hS1)
end KX
/-- small numbers in what is given -/
def inN (N : Nat) (x : Int32) : Prop := ∃ j, j < N ∧ x = nI j
theorem inN_neg {N : Nat} {x : Int32} (hN : N < 2 ^ 31) (h : x < 0) : ¬ inN N x := fun ⟨j, hj, e⟩ => by rw [e] at h; exact absurd h (nI_pos (by omega))
theorem inN_ge {N M : Nat} {x : Int32} (hN : N < 2 ^ 31) (hM : N ≤ M) (hM2 : M < 2 ^ 31) (h : nI M ≤ x) : ¬ inN N x := fun ⟨j, hj, e⟩ => by
  rw [e] at h
  have := (nI_leI hM2 (by omega)).mp h
  omega
theorem inN_of {N : Nat} {x : Int32} (hN : N < 2 ^ 31) (h0 : ¬ x < 0) (h : ¬ nI N ≤ x) : inN N x := by
  obtain ⟨j, hj, e⟩ := nI_of h0
  refine ⟨j, ?_, e⟩
  rcases Nat.lt_or_ge j N with q | q
  · exact q
  · exact absurd (by rw [e]; exact nI_le q hj) h
theorem i_nlt {a b : Int32} (h : ¬ a < b) : b ≤ a := by
  rw [Int32.lt_iff_toInt_lt] at h
  rw [Int32.le_iff_toInt_le]
  omega
theorem i_nle {a b : Int32} (h : ¬ a ≤ b) : b < a := by
  rw [Int32.le_iff_toInt_le] at h
  rw [Int32.lt_iff_toInt_lt]
  omega
theorem i_lt_n {a b : Int32} (h : a < b) : ¬ b ≤ a := by
  rw [Int32.lt_iff_toInt_lt] at h
  rw [Int32.le_iff_toInt_le]
  omega
end
section
/-! 'throw new NoSuchElementException(text)': its constructor hands on by entry 13 of its pool (JDK 17), where the kit's row asks entry 7; the way of the library's ctorThrowS, with the first class's link of its own -/
def nN : String := "java/util/NoSuchElementException"
def n13 : ByteArray := prog_14_method_4_code
theorem n13_0 : decode n13 0 = .ok (.aload_n 0, 1) := by decide +kernel
theorem n13_1 : decode n13 1 = .ok (.aload_n 1, 1) := by decide +kernel
theorem n13_2 : decode n13 2 = .ok (.invokespecial 13, 3) := by decide +kernel
theorem n13_5 : decode n13 5 = .ok (.return_, 1) := by decide +kernel
def nPs : List Cond := Bundle.passSAtoms "java/util/NoSuchElementException" "java/lang/RuntimeException" 13 n13
def nCh : List Cond := Bundle.chainSAtoms "java/lang/RuntimeException" ["java/lang/Exception"]
def nTl : List Cond :=
  [.methodLink "SeedChains" 154 (Bundle.initS "java/util/NoSuchElementException"), .instantiable "java/util/NoSuchElementException" 6, .castable "java/util/NoSuchElementException" "java/util/NoSuchElementException", .selects "java/util/NoSuchElementException" Bundle.tFill0 Bundle.tFill0, .selects "java/util/NoSuchElementException" Bundle.tFill Bundle.tFill,
   .lays "java/util/NoSuchElementException" Bundle.tN "cause" "Ljava/lang/Throwable;", .lays "java/util/NoSuchElementException" Bundle.tN "stackTrace" Bundle.steD, .lays "java/util/NoSuchElementException" Bundle.tN "suppressedExceptions" Bundle.listD, .lays "java/util/NoSuchElementException" Bundle.tN "detailMessage" "Ljava/lang/String;",
   .isRef (.static Bundle.tN "UNASSIGNED_STACK" Bundle.steD), .isRef (.static Bundle.tN "SUPPRESSED_SENTINEL" Bundle.listD),
   .fieldLink Bundle.tN 198 Bundle.tN "backtrace" "Ljava/lang/Object;", .lays Bundle.tN Bundle.tN "backtrace" "Ljava/lang/Object;", .lays "java/util/NoSuchElementException" Bundle.tN "backtrace" "Ljava/lang/Object;"]
def nAt : List Cond := Bundle.throwableAtoms ++ (Bundle.throwableSAtoms ++ (nPs ++ (nCh ++ nTl)))
theorem nAt_1 {x : Cond} (h : x ∈ Bundle.throwableAtoms) : x ∈ nAt := List.mem_append_left _ h
theorem nAt_2 {x : Cond} (h : x ∈ Bundle.throwableSAtoms) : x ∈ nAt := List.mem_append_right _ (List.mem_append_left _ h)
theorem nAt_3 {x : Cond} (h : x ∈ nPs) : x ∈ nAt := List.mem_append_right _ (List.mem_append_right _ (List.mem_append_left _ h))
theorem nAt_4 {x : Cond} (h : x ∈ nCh) : x ∈ nAt := List.mem_append_right _ (List.mem_append_right _ (List.mem_append_right _ (List.mem_append_left _ h)))
theorem nAt_5 {x : Cond} (h : x ∈ nTl) : x ∈ nAt := List.mem_append_right _ (List.mem_append_right _ (List.mem_append_right _ (List.mem_append_right _ h)))
section NS
variable {p : Program} {l : Launch} {e : Env} {R : Room} {s : State} {m₀ : MethodId} {args : Array Value} {below : List Frame} {meth : Method} {c : Code} {T0 : State} {locs : List Loc} {cells slots : Nat}
set_option maxHeartbeats 4000000 in
theorem ctorThrowN (X : Stand p l e R s m₀ args below meth c T0 locs cells slots) (hexec : p.tables.exec = Jvm.exec) (htr : e.platform.stackTraces = false)
    (hown : s.vm.findClass "SeedChains" = some m₀.cls) (h : ∀ a ∈ nAt, a.before args s = true)
    (hlocs : ∀ x ∈ locs, ∀ cell, s.heap[x.base]? = some cell → cell.vm.isStatics = false)
    {a : Addr} {cX : ClassId} {kX : Class} (hfoundX : s.vm.findClass "java/util/NoSuchElementException" = some cX) (hkX : s.vm.classes[cX]? = some kX) (hcell : T0.heap[a]? = some (freshCell cX kX)) (hnew : s.heap.size ≤ a)
    {msg : Value} (hmsg : msg.isRef = true)
    {g : JFrame} (hg : g.method = m₀) (hsize : g.locals.size = c.maxLocals) (hlocked : g.locked = none) (hentered : g.entered = []) {rest : List Value} (hstack : g.stack = msg :: .ref a :: .ref a :: rest)
    (hd6 : decode c.code g.pc = .ok (.invokespecial 154, 3)) (hd9 : decode c.code (g.pc + 3) = .ok (.athrow, 1)) (hout : ∀ x ∈ c.exceptionTable.toList, covers x (g.pc + 3) = false)
    (hRframes : 5 < R.frames) (hRlocals : 2 * g.monitorRoom + ((Value.ref a :: rest).map fun v => v.category).sum + 81 ≤ R.locals) (hlocks : meth.locks = false) :
    ∃ U : State, Steps p.tables e below (T0.setTop g) U ∧ U.status = .running ∧ Ended U below (.threw a) ∧ s.WarmedH U.vm ∧ s.sameButNew ({ U with vm := s.vm } : State) locs cells slots ∧
      ∃ ce : Cell, U.heap[a]? = some ce ∧ s.vm.findClass "java/util/NoSuchElementException" = some ce.cls ∧ ce.vm = .none := by
  have howns : e.platform.frameOwnsMonitors = true := by rw [X.admits.platform]
  have hfin : e.platform.finalization = false := by rw [X.admits.platform]
  have hpl : e.platform.magicAccessors = ({} : Platform).magicAccessors := by rw [X.admits.platform]
  have tl : ∀ x, x ∈ nTl → x.holds args s none s [] = true := fun x hx => h x (nAt_5 hx)
  obtain ⟨T, Z0, L, -, Y⟩ := ThrowableC.of_atoms (args := args) howns hfin hpl (fun x hx => h x (nAt_1 hx))
  obtain ⟨Z, M, LZ, LM, hnZ⟩ := Init0T.ofS_atoms (args := args) hpl L Y (fun x hx => h x (nAt_2 hx))
  obtain ⟨P2, Qs, hlen2, L2, hL2, hP2m, hlink2, hpass2⟩ := Bundle.chainS (args := args) hpl hnZ ["java/lang/Exception"] "java/lang/RuntimeException" (by decide +kernel) (by decide +kernel) (fun x hx => h x (nAt_4 hx))
  obtain ⟨P1, L1, hP1m, hP1s⟩ := PassC.ofS_atoms (args := args) (s := s) hpl (X := "java/util/NoSuchElementException") (Y := "java/lang/RuntimeException") (by decide +kernel) (by decide +kernel) n13_0 n13_1 n13_2 n13_5 (fun x hx => h x (nAt_3 hx))
  have hlink1 : P1.sup = firstOf (Z.m T.toThrowableT) ((P2 :: Qs).map (·.toPassT)) := Option.some.inj (hP1s.symm.trans hP2m)
  have hlink : PassesOn (Z.m T.toThrowableT) ((P2 :: Qs).map (·.toPassT)) := ⟨hlink2, hpass2⟩
  have hL : ∀ P, P ∈ P2 :: Qs → P.LinksS e.platform s := fun P hP => by
    rcases List.mem_cons.mp hP with rfl | hP
    · exact L2
    · exact hL2 P hP
  have hlen : (P2 :: Qs).length = 2 := by simp [hlen2]
  generalize P2 :: Qs = Ps at hlink1 hlink hL hlen
  have hfound : s.vm.findClass "java/util/NoSuchElementException" = some P1.m.cls := findClass_of_methodNamed hP1m
  cases Option.some.inj (hfoundX.symm.trans hfound)
  obtain ⟨c1, kX', hc1, hk, hord, -, -, hn6⟩ := Cond.instantiable_spec (tl (.instantiable "java/util/NoSuchElementException" 6) (by simp [nTl]))
  cases Option.some.inj (hc1.symm.trans hfound)
  cases Option.some.inj (hkX.symm.trans hk)
  have hsel0 : selectMethod e.platform s.vm P1.m.cls T.fill0 = .method T.fill0 := by
    obtain ⟨c2, r2, m2, q1, q2, q3, q4, -⟩ := Cond.selects_spec (tl (.selects "java/util/NoSuchElementException" Bundle.tFill0 Bundle.tFill0) (by simp [nTl]))
    cases Option.some.inj (q1.symm.trans hfound)
    cases Option.some.inj (q2.symm.trans (State.methodFound?_of_named Y.fill0 (by decide)))
    cases Option.some.inj (q3.symm.trans Y.fill0)
    rw [Launch.admits_selectMethod X.admits]; exact q4
  have hselF : selectMethod e.platform s.vm P1.m.cls T.fill = .method T.fill := by
    obtain ⟨c2, r2, m2, q1, q2, q3, q4, -⟩ := Cond.selects_spec (tl (.selects "java/util/NoSuchElementException" Bundle.tFill Bundle.tFill) (by simp [nTl]))
    cases Option.some.inj (q1.symm.trans hfound)
    cases Option.some.inj (q2.symm.trans (State.methodFound?_of_named Y.fill (by decide)))
    cases Option.some.inj (q3.symm.trans Y.fill)
    rw [Launch.admits_selectMethod X.admits]; exact q4
  obtain ⟨cellS0, hcS0, hiss⟩ := Y.statics
  obtain ⟨u0, hu0⟩ := Cond.staticRefV Y.unassigned L.unassignedStatic L.statics hcS0 hiss (tl (.isRef (.static Bundle.tN "UNASSIGNED_STACK" Bundle.steD)) (by simp [nTl]))
  obtain ⟨sen, hsen⟩ := Cond.staticRefV Y.sentinel L.sentinelStatic L.statics hcS0 hiss (tl (.isRef (.static Bundle.tN "SUPPRESSED_SENTINEL" Bundle.listD)) (by simp [nTl]))
  obtain ⟨ci198, i198, fB, hk198, hg198, ha198, hsB, -, hnB, htB, hffB⟩ := Cond.ownField (t := .object "java/lang/Object") Y.found L.cls (by decide +kernel) (tl (.fieldLink Bundle.tN 198 Bundle.tN "backtrace" "Ljava/lang/Object;") (by simp [nTl])) (tl (.lays Bundle.tN Bundle.tN "backtrace" "Ljava/lang/Object;") (by simp [nTl])) e.platform hpl
  obtain ⟨cellS, hcS', heS, -, hkeep⟩ := X.same.2.2.2.2.2 T.aS cellS0 hcS0
  have hcellS : T0.heap[T.aS]? = some cellS := hcS'
  have hout' : ∀ i, (⟨T.aS, i⟩ : Loc) ∉ locs := fun i hmem => by
    have := hlocs _ hmem cellS0 hcS0
    rw [hiss] at this; cases this
  have hknownS : cellS.vm ≠ .unknown := by
    rw [heS]; intro hu
    rw [show cellS0.vm = .unknown from hu] at hiss
    cases hiss
  have hneS : T.aS ≠ a := Nat.ne_of_lt (Nat.lt_of_lt_of_le (Array.getElem?_eq_some_iff.mp hcS0).1 hnew)
  obtain ⟨iM, hffM⟩ := Y.msg
  obtain ⟨tyC, dC, hdC, hdnC⟩ := Cond.laysAt hfound hk Y.cause (tl (.lays "java/util/NoSuchElementException" Bundle.tN "cause" "Ljava/lang/Throwable;") (by simp [nTl]))
  obtain ⟨tyS, dS, hdS, hdnS⟩ := Cond.laysAt hfound hk Y.stack (tl (.lays "java/util/NoSuchElementException" Bundle.tN "stackTrace" Bundle.steD) (by simp [nTl]))
  obtain ⟨tyP, dP, hdP, hdnP⟩ := Cond.laysAt hfound hk Y.supp (tl (.lays "java/util/NoSuchElementException" Bundle.tN "suppressedExceptions" Bundle.listD) (by simp [nTl]))
  obtain ⟨tyM, dM, hdM, hdnM⟩ := Cond.laysAt hfound hk hffM (tl (.lays "java/util/NoSuchElementException" Bundle.tN "detailMessage" "Ljava/lang/String;") (by simp [nTl]))
  obtain ⟨tyB, dB, hdB, hdnB⟩ := Cond.laysAt hfound hk hffB (tl (.lays "java/util/NoSuchElementException" Bundle.tN "backtrace" "Ljava/lang/Object;") (by simp [nTl]))
  have bC := Cond.laysApart hdB hdC hdnB hdnC (by rw [hnB, Y.causeName]; decide)
  have bS := Cond.laysApart hdB hdS hdnB hdnS (by rw [hnB, Y.stackName]; decide)
  have bP := Cond.laysApart hdB hdP hdnB hdnP (by rw [hnB, Y.suppName]; decide)
  have hskip : SkipFacts T e.platform s (fun u => u) u0 ((preparedCellV T.toThrowableT (freshCell P1.m.cls kX) a u0 sen).withEntry T0.cur) :=
    ⟨{ ci198 := ci198, i198 := i198, fBack := fB }, ⟨hk198, hg198, ha198, hsB⟩, by
      have := fresh_default (c := P1.m.cls) tyB
      rw [htB] at this
      simpa [preparedCellV, Cell.setSlot, Cell.withEntry, Array.getElem?_setIfInBounds, bC, bS, bP, bC.symm, bS.symm, bP.symm, defaultValue] using this, fun _ _ => rfl⟩
  obtain ⟨tm, methC, cdC, kC, vm₁, hnC, -, -, -, -, -, -, -, hW₁, st1⟩ := Steps.initColdS (tb := p.tables) (e := e) (below := below) (s := s) (U := T0) X.here hexec X.warmed hpl hown (t := Bundle.initS "java/util/NoSuchElementException") rfl rfl (by decide +kernel)
    (tl (.methodLink "SeedChains" 154 (Bundle.initS "java/util/NoSuchElementException")) (by simp [nTl])) (h (.instanceMethod (Bundle.initS "java/util/NoSuchElementException")) (nAt_3 (by simp [nPs, Bundle.passSAtoms]))) (bytes := n13) (maxL := 2) (h (.code (Bundle.initS "java/util/NoSuchElementException") n13 2 none) (nAt_3 (by simp [nPs, Bundle.passSAtoms])))
    (f := g) hg (a := a) (msg := msg) (rest := .ref a :: rest) hstack hd6
  cases Option.some.inj (hnC.symm.trans hP1m)
  have X₁ := X.noted hW₁
  obtain ⟨vm₂, X₂, st2⟩ := X₁.ctorMessageOffV hexec (g := { g with stack := .ref a :: rest }) hg hsize T L Z LZ M LM (P1 :: Ps)
    (fun P hP => by rcases List.mem_cons.mp hP with rfl | hP; exact L1; exact hL P hP) ⟨hlink1, hlink⟩ (u0 := u0) (sen := sen) (self := a) hmsg (cell := freshCell P1.m.cls kX) (cellS := cellS)
    hcell (fun _ => by simp) (by simp) rfl rfl hsel0 hselF hcellS hneS hknownS (by rw [hkeep _ (hout' _)]; exact hu0) (by rw [hkeep _ (hout' _)]; exact hsen)
    (Takes.of_laid hk hord tyC (by rw [Y.causeType]; rfl)) (Takes.of_laid hk hord tyS (by rw [Y.stackType]; exact fits_refV_array _ u0)) (Takes.of_laid hk hord tyP (by rw [Y.suppType]; exact fits_refV_object _ sen))
    (Takes.of_laid hk hord tyM (by rw [Y.msgType]; exact fits_refV_object _ ⟨msg, hmsg⟩)) Y.objLocals hskip htr [] hd6
    (by simp only [List.length_cons, hlen]; omega) (by simp only [List.length_cons, hlen]; exact hRlocals)
  obtain ⟨hwalk, hrun, hended, hWU, hsame⟩ := X₂.athrowLeaves hexec (g := { g with stack := .ref a :: rest, pc := g.pc + 3 }) hg hlocked hentered hout (a := a) (rest := rest) rfl hd9
  have hlt : a < ((T0.setVm vm₁).setVm vm₂).heap.size := (Array.getElem?_eq_some_iff.mp hcell).1
  have hU := heapAt_setCell_self (s := (T0.setVm vm₁).setVm vm₂) (plainBareV T.toThrowableT (freshCell P1.m.cls kX) a u0 sen msg) hlt
  refine ⟨_, st1 _ (fun acts => ?_), hrun, hended, hWU, hsame.weaken (fun y hy hlt' => ?_) (Nat.le_refl _) (Nat.le_refl _), _, hU, hfound, rfl⟩
  · rw [doInvoke_state]
    exact st2 _ hwalk
  · rcases List.mem_append.mp hy with h1 | h1
    · exact h1
    · exfalso
      have hb : y.base = a := by
        simp only [List.mem_cons, List.not_mem_nil, or_false] at h1
        rcases h1 with rfl | rfl | rfl | rfl | rfl <;> rfl
      rw [hb] at hlt'
      exact Nat.not_lt.mpr hnew hlt'
end NS
end
section
section VN
variable {p : Program} {l : Launch} {e : Env} {R : Room} {s : State} {m : MethodId} {args : Array Value} {below : List Frame} {meth : Method} {c : Code} {H : Heap} {locs : List Loc} {cells slots : Nat} {Q : State → Prop}
variable {free : Addr → Prop} {ls : Array Slot} {rest : List Value} {Qc : Array Value → State → Outcome → State → Prop} {XC : String → State → State → Prop}
theorem vn_throw {cc : ByteArray} {pc : Nat} (hexec : p.tables.exec = Jvm.exec) (hb : c.code = cc) (hl : l.stackTraces = false) {text : String} {is mc ms sa : Nat} {A : Nat → Prop}
    (hown : s.vm.findClass "SeedChains" = some m.cls) 
    (hk : (Cond.classLink "SeedChains" 150 "java/util/NoSuchElementException").before args s = true) (hini : (Cond.initialized "java/util/NoSuchElementException").before args s = true) (hstr : vk_R "SeedChains" is text sa s) (hat : ∀ w ∈ nAt.filter vx_no, w.before args s = true)
    (hgood : ∀ w ∈ Cond.classLink "SeedChains" 150 "java/util/NoSuchElementException" :: Cond.initialized "java/util/NoSuchElementException" :: nAt.filter vx_no, vx_ot w = true)
    (hU : vx_Zq Bundle.tN "UNASSIGNED_STACK" Bundle.steD A s s.heap) (hN : vx_Zq Bundle.tN "SUPPRESSED_SENTINEL" Bundle.listD A s s.heap) (hS : va_S A s.heap H locs) (hsize : ls.size = c.maxLocals)
    (d0 : decode cc pc = .ok (.new 150, 3)) (d3 : decode cc (pc + 3) = .ok (.dup, 1)) (d4 : decode cc (pc + 4) = .ok (.ldc is, 2)) (d6 : decode cc (pc + 6) = .ok (.invokespecial 154, 3)) (d9 : decode cc (pc + 9) = .ok (.athrow, 1))
    (hout : ∀ x ∈ c.exceptionTable.toList, covers x (pc + 9) = false)
    (hRframes : 5 < R.frames) (hRlocals : (rest.map fun v => v.category).sum + 82 ≤ R.locals) (hRcells : cells + 1 ≤ R.cells) (hRslots : slots + 6 ≤ R.slots) (hlocks : meth.locks = false)
    (hx : ∀ t : State, s.vm.Alike t.vm → H.size ≤ t.heap.size → (∀ q : Nat, q < H.size → t.heap[q]? = H[q]?) → XC "java/util/NoSuchElementException" s t)
    (hf : ∀ z ∈ locs, free z.base) (hc : cells + 1 ≤ mc) (hs : slots + 6 ≤ ms) :
    W p l e R s m args below meth c H locs cells slots (vx_MQ below Qc XC args s mc ms free) (F0 m pc ls rest) := by
  intro T hT X
  have htr : e.platform.stackTraces = false := (show e.platform.stackTraces = l.stackTraces by rw [X.admits.platform]).trans hl
  have Y := vx_rebase X (R' := { frames := R.frames, locals := R.locals, cells := 1, slots := 6 }) (Nat.le_refl _) (Nat.le_refl _) hRcells hRslots
  obtain ⟨s', hA⟩ : ∃ z, z = (T.setVm s.vm).setFrames (.invoking m args :: below) := ⟨_, rfl⟩
  rw [← hA] at Y
  have hvm : s'.vm = s.vm := by rw [hA]; rfl
  have hhp : s'.heap = H := by rw [hA]; exact hT
  have hW0 : s.WarmedH s'.vm := by rw [hvm]; exact State.WarmedH.refl s
  have hat' : ∀ w ∈ nAt.filter vx_no, w.before args s' = true := fun w hw => vx_ot_at hW0 hvm.symm (hgood w (List.mem_cons_of_mem _ (List.mem_cons_of_mem _ hw))) (hat w hw)
  have hk' : (Cond.classLink "SeedChains" 150 "java/util/NoSuchElementException").before args s' = true := vx_ot_at hW0 hvm.symm (hgood _ List.mem_cons_self) hk
  have hini' : (Cond.initialized "java/util/NoSuchElementException").before args s' = true := vx_ot_at hW0 hvm.symm (hgood _ (List.mem_cons_of_mem _ List.mem_cons_self)) hini
  have hU' : vx_Zq Bundle.tN "UNASSIGNED_STACK" Bundle.steD A s' s'.heap := by rw [hhp]; exact vx_Zq.moved hW0.alike (hU.kept hS.2.1)
  have hN' : vx_Zq Bundle.tN "SUPPRESSED_SENTINEL" Bundle.listD A s' s'.heap := by rw [hhp]; exact vx_Zq.moved hW0.alike (hN.kept hS.2.1)
  have h : ∀ w ∈ nAt, w.before args s' = true := vx_own hat' (vx_isRefq hU'.1) (vx_isRefq hN'.1) hU'.2.word hN'.2.word
  have hown' : s'.vm.findClass "SeedChains" = some m.cls := by rw [hvm]; exact hown
  have hins : (Cond.instantiable "java/util/NoSuchElementException" 6).before args s' = true := h _ (nAt_5 (by simp [nTl]))
  obtain ⟨vm₁, cX, kX, hfX, hkX, -, -, X₁, st1⟩ := Y.newCold hexec (own := "SeedChains") (C := "java/util/NoSuchElementException") (index := 150) (n := 6) hown' hk' hins hini'
    (g := F0 m pc ls rest) rfl (by rw [hb]; exact d0) (Nat.le_refl _) (Nat.le_refl _)
  generalize hT1 : (T.setVm vm₁).pushCell { cls := cX, slots := kX.instanceTypes.map defaultValue, vm := .none } = T1 at X₁ st1
  have hcat : (Value.ref T.heap.size).category = 1 := rfl
  have hcellA : T1.heap[T.heap.size]? = some (freshCell cX kX) := by rw [← hT1]; exact State.heap_pushCell_size _ _
  have d3' : decode c.code (pc + 3) = .ok (.dup, 1) := by rw [hb]; exact d3
  have d4' : decode c.code (pc + 4) = .ok (.ldc is, 2) := by rw [hb]; exact d4
  have hstr' : vk_R "SeedChains" is text sa s' := vk_R.warm hW0 hstr
  obtain ⟨U, hsteps, hrun, hend, hW, hsame, ce, hce, hO1, hO2⟩ := ctorThrowN X₁ hexec htr hown' h (fun x hx => nomatch hx) hfX hkX hcellA (by rw [hhp, hT]; exact Nat.le_refl _) (msg := .ref sa) rfl
    (g := { method := m, pc := pc + 6, locals := ls, stack := .ref sa :: .ref T.heap.size :: .ref T.heap.size :: rest, locked := none }) rfl hsize rfl rfl (rest := rest) rfl
    (by rw [hb]; exact d6) (by rw [hb]; exact d9) hout hRframes (by simp only [List.map_cons, List.sum_cons, hcat]; omega) hlocks
  obtain ⟨f1, f2⟩ := vx_frame hsame
  rw [hhp] at f1 f2
  have hWs : s.WarmedH U.vm := State.WarmedH.trans hW0 hW
  have hcl : s.vm.findClass "java/util/NoSuchElementException" = some ce.cls := by
    have h9 := hO1
    rw [hvm] at h9
    exact h9
  have hall : s.sameButNew ({ U with vm := s.vm } : State) locs mc ms := by
    subst hA
    obtain ⟨e1, e2⟩ := hsame
    rw [State.setFrames_setFrames] at e1
    have h2 : (T.setVm s.vm).sameButNew ({ U with vm := s.vm } : State) [] (0 + 1) (0 + 6) := ⟨e1, e2⟩
    have h3 := X.same.trans h2
    rw [List.append_nil] at h3
    exact h3.mono hc hs
  refine ⟨U, ?_, .threw T.heap.size, hrun, hend, Or.inr ⟨T.heap.size, rfl, "java/util/NoSuchElementException", ce, locs, hx U hWs.alike f1 (fun q hq => f2 q hq (fun z hz => nomatch hz)), hce, hO2, hcl, hWs, hall, hf⟩⟩
  refine st1 _ ?_
  show Steps p.tables e below (T1.setTop { method := m, pc := pc + 3, locals := ls, stack := .ref T.heap.size :: rest, locked := none }) _
  jvm_step X₁.here [X₁.here.top, hexec, d3', Value.category]
  exact X₁.ldcString hexec (own := "SeedChains") (text := text) (index := is) (a := sa) hown' hstr'.1 hstr'.2
    (g := { method := m, pc := pc + 4, locals := ls, stack := .ref T.heap.size :: .ref T.heap.size :: rest, locked := none }) rfl d4' _ hsteps
end VN
theorem at_N {args : Array Value} {s : State} (hts : ∀ w ∈ wAll, w.before args s = true) (hx : ∀ w ∈ xW, va_Nw w s) : ∀ w ∈ nAt.filter vx_no, w.before args s = true :=
  vx_hat (B := xW) (fun w hw => hts w (wAll_of (List.mem_append_right _ ((by decide +kernel : ∀ w ∈ (nAt.filter vx_no).filter goodWord, w ∈ tables_1) w hw)) (List.mem_filter.mp hw).2)) (by decide +kernel) (xW_use hx)
theorem go_N : ∀ w ∈ Cond.classLink "SeedChains" 150 "java/util/NoSuchElementException" :: Cond.initialized "java/util/NoSuchElementException" :: nAt.filter vx_no, vx_ot w = true := by decide +kernel
section TH
variable {p : Program} {l : Launch} {e : Env} {R : Room} {s : State} {m : MethodId} {args : Array Value} {below : List Frame} {meth : Method} {c : Code} {H : Heap} {locs : List Loc} {cells slots : Nat}
variable {cc : ByteArray} {pc : Nat} {ls : Array Slot} {rest : List Value} {D : va_G} {cs : Nat → ClassId} {base : Nat} {sa : Nat → Nat} {n : Nat} {ad : Nat → Nat} {mc ms : Nat} {I : tI} {L : tL} {TH : String → Prop} {Qc : Array Value → State → Outcome → State → Prop}
theorem th_N (hexec : p.tables.exec = Jvm.exec) (hb : c.code = cc) (hl0 : l.stackTraces = false) (hown : s.vm.findClass "SeedChains" = some m.cls) {X9 : Cond} (hts : ∀ w ∈ X9 :: wAll, w.before args s = true) (hE : eV D cs base sa s) (hR : tR D vwCl base ad (tC (wP n ad cs) I L) H) (hS : va_S (fun q => base ≤ q) s.heap H locs) (hsize : ls.size = c.maxLocals) (is : Nat) (text : String) (hq : (is, text) ∈ nT) (d4 : decode cc (pc + 4) = .ok (.ldc is, 2)) (d3 : decode cc (pc + 3) = .ok (.dup, 1)) (d9 : decode cc (pc + 9) = .ok (.athrow, 1)) (htab : ∀ x ∈ c.exceptionTable.toList, False) (hlocks : meth.locks = false) (hRf : 5 < R.frames) (hRl : (rest.map fun v => v.category).sum + 82 ≤ R.locals) (hRc : cells + 1 ≤ R.cells) (hRs : slots + 6 ≤ R.slots) (hc : cells + 1 ≤ mc) (hs : slots + 6 ≤ ms) (hT : TH eN) (d0 : decode cc pc = .ok (.new 150, 3)) (d6 : decode cc (pc + 6) = .ok (.invokespecial 154, 3)) : W p l e R s m args below meth c H locs cells slots (vx_MQ below Qc (kX D cs base n ad I L TH) args s mc ms (fun q => base ≤ q)) (F0 m pc ls rest) :=
  vn_throw hexec hb hl0 hown (hts _ (List.mem_cons_of_mem _ k270)) (hts _ (List.mem_cons_of_mem _ k11)) (hE.2.2.2.1 (is, text) hq) (at_N (fun w h => hts w (List.mem_cons_of_mem _ h)) hE.2.2.2.2.2.2.2.2.1) go_N hE.2.2.2.2.1 hE.2.2.2.2.2.1 hS hsize d0 d3 d4 d6 d9 (fun x h => (htab x h).elim) hRf hRl hRc hRs hlocks (kX_mk hR hS hT) hS.2.2 hc hs
theorem th_I (hexec : p.tables.exec = Jvm.exec) (hb : c.code = cc) (hl0 : l.stackTraces = false) (hown : s.vm.findClass "SeedChains" = some m.cls) {X9 : Cond} (hts : ∀ w ∈ X9 :: wAll, w.before args s = true) (hE : eV D cs base sa s) (hR : tR D vwCl base ad (tC (wP n ad cs) I L) H) (hS : va_S (fun q => base ≤ q) s.heap H locs) (hsize : ls.size = c.maxLocals) (is : Nat) (text : String) (hq : (is, text) ∈ nT) (d4 : decode cc (pc + 4) = .ok (.ldc is, 2)) (d3 : decode cc (pc + 3) = .ok (.dup, 1)) (d9 : decode cc (pc + 9) = .ok (.athrow, 1)) (htab : ∀ x ∈ c.exceptionTable.toList, False) (hlocks : meth.locks = false) (hRf : 5 < R.frames) (hRl : (rest.map fun v => v.category).sum + 82 ≤ R.locals) (hRc : cells + 1 ≤ R.cells) (hRs : slots + 6 ≤ R.slots) (hc : cells + 1 ≤ mc) (hs : slots + 6 ≤ ms) (hT : TH eI) (d0 : decode cc pc = .ok (.new 61, 3)) (d6 : decode cc (pc + 6) = .ok (.invokespecial 65, 3)) : W p l e R s m args below meth c H locs cells slots (vx_MQ below Qc (kX D cs base n ad I L TH) args s mc ms (fun q => base ≤ q)) (F0 m pc ls rest) :=
  vx_throwS (names := xnm) hexec hb hl0 hown (by decide +kernel) fit_n (hts _ (List.mem_cons_of_mem _ k161)) (hts _ (List.mem_cons_of_mem _ k9)) (hE.2.2.2.1 (is, text) hq) (at_I (fun w h => hts w (List.mem_cons_of_mem _ h)) hE.2.2.2.2.2.2.2.2.1) go_I hE.2.2.2.2.1 hE.2.2.2.2.2.1 hS hsize d0 d3 d4 d6 d9 (fun x h => (htab x h).elim) hRf hRl hRc hRs hlocks (kX_mk hR hS hT) hS.2.2 hc hs
theorem th_S (hexec : p.tables.exec = Jvm.exec) (hb : c.code = cc) (hl0 : l.stackTraces = false) (hown : s.vm.findClass "SeedChains" = some m.cls) {X9 : Cond} (hts : ∀ w ∈ X9 :: wAll, w.before args s = true) (hE : eV D cs base sa s) (hR : tR D vwCl base ad (tC (wP n ad cs) I L) H) (hS : va_S (fun q => base ≤ q) s.heap H locs) (hsize : ls.size = c.maxLocals) (is : Nat) (text : String) (hq : (is, text) ∈ nT) (d4 : decode cc (pc + 4) = .ok (.ldc is, 2)) (d3 : decode cc (pc + 3) = .ok (.dup, 1)) (d9 : decode cc (pc + 9) = .ok (.athrow, 1)) (htab : ∀ x ∈ c.exceptionTable.toList, False) (hlocks : meth.locks = false) (hRf : 5 < R.frames) (hRl : (rest.map fun v => v.category).sum + 82 ≤ R.locals) (hRc : cells + 1 ≤ R.cells) (hRs : slots + 6 ≤ R.slots) (hc : cells + 1 ≤ mc) (hs : slots + 6 ≤ ms) (hT : TH eS) (d0 : decode cc pc = .ok (.new 71, 3)) (d6 : decode cc (pc + 6) = .ok (.invokespecial 75, 3)) : W p l e R s m args below meth c H locs cells slots (vx_MQ below Qc (kX D cs base n ad I L TH) args s mc ms (fun q => base ≤ q)) (F0 m pc ls rest) :=
  vx_throwS (names := xnm) hexec hb hl0 hown (by decide +kernel) fit_n (hts _ (List.mem_cons_of_mem _ k230)) (hts _ (List.mem_cons_of_mem _ k10)) (hE.2.2.2.1 (is, text) hq) (at_S (fun w h => hts w (List.mem_cons_of_mem _ h)) hE.2.2.2.2.2.2.2.2.1) go_S hE.2.2.2.2.1 hE.2.2.2.2.2.1 hS hsize d0 d3 d4 d6 d9 (fun x h => (htab x h).elim) hRf hRl hRc hRs hlocks (kX_mk hR hS hT) hS.2.2 hc hs
end TH
end
section
/-! WHAT THE CALLS ASK OF WHAT THEY ARE GIVEN -/
theorem i_le_lt1 {x : Int32} (h : x ≤ 255) : x < 256 := by
  rw [Int32.le_iff_toInt_le] at h
  rw [Int32.lt_iff_toInt_lt]
  rw [show (255 : Int32).toInt = 255 from rfl] at h
  rw [show (256 : Int32).toInt = 256 from rfl]
  omega
theorem i_gt255 {x : Int32} (h : ¬ x ≤ 255) : (256 : Int32) ≤ x := by
  rw [Int32.le_iff_toInt_le] at h
  rw [Int32.le_iff_toInt_le]
  rw [show (255 : Int32).toInt = 255 from rfl] at h
  rw [show (256 : Int32).toInt = 256 from rfl]
  omega
theorem i_lt_le {a b c : Int32} (h : a < b) (h2 : b ≤ c) : a < c := by
  rw [Int32.le_iff_toInt_le] at h2
  rw [Int32.lt_iff_toInt_lt] at h ⊢
  omega
/-- x is a date, y one of its years -/
def yOk (nd : Nat) (f la : Nat → Nat) (x y : Int32) : Prop := inN nd x ∧ ∃ d j, d < nd ∧ x = nI d ∧ y = nI (f d + j) ∧ f d + j ≤ la d
section YO
variable {nd : Nat} {f la : Nat → Nat} {d : Nat} {y : Int32}
theorem yOk_lo (h8 : d < nd ∧ nd ≤ 8 ∧ f d ≤ la d ∧ la d ≤ 255) (h : y < nI (f d)) : ¬ yOk nd f la (nI d) y := fun ⟨_, e, j, h1, h2, h3, h4⟩ => by
  have := (nI_eq (by omega) (by omega)).mp h2
  subst this
  rw [h3] at h
  have := (nI_ltI (by omega) (by omega)).mp h
  omega
theorem yOk_hi (h8 : d < nd ∧ nd ≤ 8 ∧ f d ≤ la d ∧ la d ≤ 255) (h : ¬ y ≤ nI (la d)) : ¬ yOk nd f la (nI d) y := fun ⟨_, e, j, h1, h2, h3, h4⟩ => by
  have := (nI_eq (by omega) (by omega)).mp h2
  subst this
  rw [h3] at h
  exact h (nI_le h4 (by omega))
theorem yOk_of (h8 : d < nd ∧ nd ≤ 8 ∧ f d ≤ la d ∧ la d ≤ 255) (h0 : ¬ y < nI (f d)) (h : y ≤ nI (la d)) : yOk nd f la (nI d) y := by
  have hz : ¬ y < 0 := fun q => h0 (i_lt_le q (by rw [← nI_0]; exact nI_le (Nat.zero_le _) (by omega)))
  obtain ⟨z, hz2, e⟩ := nI_of hz
  subst e
  have h1 := i_nlt h0
  have h2 := (nI_leI (by omega) hz2).mp h1
  have h3 := (nI_leI hz2 (by omega)).mp h
  exact ⟨⟨d, h8.1, rfl⟩, d, z - f d, h8.1, rfl, by rw [show f d + (z - f d) = z by omega], by omega⟩
end YO
end
section
section C9
variable {l : Launch} {D : va_G} {cs : Nat → ClassId} {base : Nat} {sa : Nat → Nat} {n : Nat} {ad : Nat → Nat}
set_option maxHeartbeats 4000000 in
set_option maxRecDepth 100000 in
theorem mX2_needYears (hl0 : l.stackTraces = false) (I : tI) (L : tL) (x : Int32)  : vx_Met l yX2_needYears wX2_needYears ({ frames := 6, cells := 1, slots := 6, locals := 82 }) (va_Pc [.int x] (kB D cs base sa n ad I L)) (va_Qv (fun (u : tI × tL) => inN 256 x ∧ u = (I, L)) (kA D cs base n ad) (fun q => base ≤ q)) (kX D cs base n ad I L (fun E => E = eI ∧ ¬ inN 256 x)) 1 6 (fun q => base ≤ q) := by
  refine vx_ofW (cc := cX2_needYears) (maxL := 1) (ret := none) (by decide) rfl ?_
  intro p e s m args below meth c s₁ Bd hml htab hv
  obtain ⟨rfl, hE, hR⟩ := hv
  have hx := Bd.exec
  have hb := Bd.bytes
  have hr := Bd.returns
  have hts := atoms_spec (ws := wX2_needYears) Bd.pre
  have hown : s.vm.findClass RX2 = some m.cls := findClass_of_methodNamed Bd.named
  have hlocks := Bd.notSynchronized
  have hK := hE.K
  have hS : va_S (fun q => base ≤ q) s.heap s.heap [] := va_S.rf
  have hR : tR D vwCl base ad (tC (wP n ad cs) I L) s.heap := hR
  have hl := lv_entry ([.int x]) (n := 1) (Nat.le_of_ble_eq_true rfl)
  rw [lg_entry_eq]
  generalize (lg_sl ([.int x]) ++ List.replicate (1 - (lg_sl ([.int x])).length) Slot.unset).toArray = ls at hl ⊢
  have hl : lv_has ls 1 [(0, .int x)] := hl
  refine lv_iload_n hx hb dX2_needYears_0 rfl (lv_at hl 0 rfl) ?_
  refine lv_if_lt (tgt := 11) hx hb dX2_needYears_1 (by decide) (fun c1 => ?_) (fun c1 => ?_)
  · exact th_I hx hb hl0 hown hts hE hR hS (hl.1.trans hml.symm) 195 "years" (by decide) dX2_needYears_15 dX2_needYears_14 dX2_needYears_20 htab hlocks (Nat.le_of_ble_eq_true rfl) (Nat.le_of_ble_eq_true rfl) (Nat.le_of_ble_eq_true rfl) (Nat.le_of_ble_eq_true rfl) (Nat.le_of_ble_eq_true rfl) (Nat.le_of_ble_eq_true rfl) (⟨rfl, inN_neg (by decide) c1⟩) dX2_needYears_11 dX2_needYears_17
  · refine lv_iload_n hx hb dX2_needYears_4 rfl (lv_at hl 0 rfl) ?_
    refine lv_sipush (v := 255) hx hb dX2_needYears_5 (by decide) ?_
    refine lv_icmp_le (tgt := 21) hx hb dX2_needYears_8 (by decide) (fun c2 => ?_) (fun c2 => ?_)
    · refine W.widen (k := 1) (n := 6) (Nat.le_of_ble_eq_true rfl) (Nat.le_of_ble_eq_true rfl) ?_
      refine vx_ret ?_
      exact W.vret hx hb hr (fun t ht hW => ⟨⟨(I, L), rfl, ⟨inN_of (by decide) c1 (fun q => by have q2 := c2; exact absurd (show (256 : Int32) ≤ x from q) (i_lt_n (i_le_lt1 q2))), rfl⟩, by show tR _ _ _ _ _ t.heap; rw [ht]; exact hR⟩, hS.F ht⟩) hS.2.2 dX2_needYears_21
    · exact th_I hx hb hl0 hown hts hE hR hS (hl.1.trans hml.symm) 195 "years" (by decide) dX2_needYears_15 dX2_needYears_14 dX2_needYears_20 htab hlocks (Nat.le_of_ble_eq_true rfl) (Nat.le_of_ble_eq_true rfl) (Nat.le_of_ble_eq_true rfl) (Nat.le_of_ble_eq_true rfl) (Nat.le_of_ble_eq_true rfl) (Nat.le_of_ble_eq_true rfl) (⟨rfl, inN_ge (by decide) (Nat.le_refl _) (by decide) (show nI 256 ≤ x from i_gt255 c2)⟩) dX2_needYears_11 dX2_needYears_17
set_option maxHeartbeats 4000000 in
set_option maxRecDepth 100000 in
theorem mX2_needPhase (hl0 : l.stackTraces = false) (I : tI) (L : tL) (x : Int32)  : vx_Met l yX2_needPhase wX2_needPhase ({ frames := 6, cells := 1, slots := 6, locals := 82 }) (va_Pc [.int x] (kB D cs base sa n ad I L)) (va_Qv (fun (u : tI × tL) => inN 4 x ∧ u = (I, L)) (kA D cs base n ad) (fun q => base ≤ q)) (kX D cs base n ad I L (fun E => E = eN ∧ ¬ inN 4 x)) 1 6 (fun q => base ≤ q) := by
  refine vx_ofW (cc := cX2_needPhase) (maxL := 1) (ret := none) (by decide) rfl ?_
  intro p e s m args below meth c s₁ Bd hml htab hv
  obtain ⟨rfl, hE, hR⟩ := hv
  have hx := Bd.exec
  have hb := Bd.bytes
  have hr := Bd.returns
  have hts := atoms_spec (ws := wX2_needPhase) Bd.pre
  have hown : s.vm.findClass RX2 = some m.cls := findClass_of_methodNamed Bd.named
  have hlocks := Bd.notSynchronized
  have hK := hE.K
  have hS : va_S (fun q => base ≤ q) s.heap s.heap [] := va_S.rf
  have hR : tR D vwCl base ad (tC (wP n ad cs) I L) s.heap := hR
  have hl := lv_entry ([.int x]) (n := 1) (Nat.le_of_ble_eq_true rfl)
  rw [lg_entry_eq]
  generalize (lg_sl ([.int x]) ++ List.replicate (1 - (lg_sl ([.int x])).length) Slot.unset).toArray = ls at hl ⊢
  have hl : lv_has ls 1 [(0, .int x)] := hl
  refine lv_iload_n hx hb dX2_needPhase_0 rfl (lv_at hl 0 rfl) ?_
  refine lv_if_lt (tgt := 9) hx hb dX2_needPhase_1 (by decide) (fun c1 => ?_) (fun c1 => ?_)
  · exact th_N hx hb hl0 hown hts hE hR hS (hl.1.trans hml.symm) 194 "phase" (by decide) dX2_needPhase_13 dX2_needPhase_12 dX2_needPhase_18 htab hlocks (Nat.le_of_ble_eq_true rfl) (Nat.le_of_ble_eq_true rfl) (Nat.le_of_ble_eq_true rfl) (Nat.le_of_ble_eq_true rfl) (Nat.le_of_ble_eq_true rfl) (Nat.le_of_ble_eq_true rfl) (⟨rfl, inN_neg (by decide) c1⟩) dX2_needPhase_9 dX2_needPhase_15
  · refine lv_iload_n hx hb dX2_needPhase_4 rfl (lv_at hl 0 rfl) ?_
    refine lv_iconst (v := 4) hx hb dX2_needPhase_5 (by decide) ?_
    refine lv_icmp_lt (tgt := 19) hx hb dX2_needPhase_6 (by decide) (fun c2 => ?_) (fun c2 => ?_)
    · refine W.widen (k := 1) (n := 6) (Nat.le_of_ble_eq_true rfl) (Nat.le_of_ble_eq_true rfl) ?_
      refine vx_ret ?_
      exact W.vret hx hb hr (fun t ht hW => ⟨⟨(I, L), rfl, ⟨inN_of (by decide) c1 (i_lt_n (show x < nI 4 from c2)), rfl⟩, by show tR _ _ _ _ _ t.heap; rw [ht]; exact hR⟩, hS.F ht⟩) hS.2.2 dX2_needPhase_19
    · exact th_N hx hb hl0 hown hts hE hR hS (hl.1.trans hml.symm) 194 "phase" (by decide) dX2_needPhase_13 dX2_needPhase_12 dX2_needPhase_18 htab hlocks (Nat.le_of_ble_eq_true rfl) (Nat.le_of_ble_eq_true rfl) (Nat.le_of_ble_eq_true rfl) (Nat.le_of_ble_eq_true rfl) (Nat.le_of_ble_eq_true rfl) (Nat.le_of_ble_eq_true rfl) (⟨rfl, inN_ge (by decide) (Nat.le_refl _) (by decide) (show nI 4 ≤ x from i_nlt c2)⟩) dX2_needPhase_9 dX2_needPhase_15
set_option maxHeartbeats 4000000 in
set_option maxRecDepth 100000 in
theorem mX2_needDate (hl0 : l.stackTraces = false) (I : tI) (L : tL) (nd : Nat) (x : Int32) (hnd : I 1 8 = nI nd) (h8 : nd ≤ 8) : vx_Met l yX2_needDate wX2_needDate ({ frames := 6, cells := 1, slots := 6, locals := 82 }) (va_Pc [.ref (ad 0), .int x] (kB D cs base sa n ad I L)) (va_Qv (fun (u : tI × tL) => inN nd x ∧ u = (I, L)) (kA D cs base n ad) (fun q => base ≤ q)) (kX D cs base n ad I L (fun E => E = eN ∧ ¬ inN nd x)) 1 6 (fun q => base ≤ q) := by
  refine vx_ofW (cc := cX2_needDate) (maxL := 2) (ret := none) (by decide) rfl ?_
  intro p e s m args below meth c s₁ Bd hml htab hv
  obtain ⟨rfl, hE, hR⟩ := hv
  have hx := Bd.exec
  have hb := Bd.bytes
  have hr := Bd.returns
  have hts := atoms_spec (ws := wX2_needDate) Bd.pre
  have hown : s.vm.findClass RX2 = some m.cls := findClass_of_methodNamed Bd.named
  have hlocks := Bd.notSynchronized
  have hK := hE.K
  have hS : va_S (fun q => base ≤ q) s.heap s.heap [] := va_S.rf
  have hR : tR D vwCl base ad (tC (wP n ad cs) I L) s.heap := hR
  have hl := lv_entry ([.ref (ad 0), .int x]) (n := 2) (Nat.le_of_ble_eq_true rfl)
  rw [lg_entry_eq]
  generalize (lg_sl ([.ref (ad 0), .int x]) ++ List.replicate (2 - (lg_sl ([.ref (ad 0), .int x])).length) Slot.unset).toArray = ls at hl ⊢
  have hl : lv_has ls 2 [(0, .ref (ad 0)), (1, .int x)] := hl
  refine lv_iload_n hx hb dX2_needDate_0 rfl (lv_at hl 1 rfl) ?_
  refine lv_if_lt (tgt := 15) hx hb dX2_needDate_1 (by decide) (fun c1 => ?_) (fun c1 => ?_)
  · exact th_N hx hb hl0 hown hts hE hR hS (hl.1.trans hml.symm) 184 "date" (by decide) dX2_needDate_19 dX2_needDate_18 dX2_needDate_24 htab hlocks (Nat.le_of_ble_eq_true rfl) (Nat.le_of_ble_eq_true rfl) (Nat.le_of_ble_eq_true rfl) (Nat.le_of_ble_eq_true rfl) (Nat.le_of_ble_eq_true rfl) (Nat.le_of_ble_eq_true rfl) (⟨rfl, inN_neg (by omega) c1⟩) dX2_needDate_15 dX2_needDate_21
  · refine lv_iload_n hx hb dX2_needDate_4 rfl (lv_at hl 1 rfl) ?_
    refine lv_aload_n hx hb dX2_needDate_5 rfl (lv_at hl 0 rfl) ?_
    refine tb_get hx hb hts (fun w h => List.mem_cons_of_mem _ (inX2 w h)) hown hK hR 0 rfl rfl 2 (by decide) (hts _ (List.mem_cons_of_mem _ k103)) (fun _ h => h) rfl dX2_needDate_6 ?_
    refine tb_getN hx hb hts (fun w h => List.mem_cons_of_mem _ (inX1 w h)) hown hK hR 1 rfl rfl 8 (by decide) (va_Nw.use rfl (hE.2.1 (68, "SeedChains$Site", "dates", "I") (by decide))) (fun _ h => h) rfl dX2_needDate_9 ?_
    rw [show I 1 8 = nI nd from hnd]
    refine lv_icmp_lt (tgt := 25) hx hb dX2_needDate_12 (by decide) (fun c2 => ?_) (fun c2 => ?_)
    · refine W.widen (k := 1) (n := 6) (Nat.le_of_ble_eq_true rfl) (Nat.le_of_ble_eq_true rfl) ?_
      refine vx_ret ?_
      exact W.vret hx hb hr (fun t ht hW => ⟨⟨(I, L), rfl, ⟨inN_of (by omega) c1 (i_lt_n c2), rfl⟩, by show tR _ _ _ _ _ t.heap; rw [ht]; exact hR⟩, hS.F ht⟩) hS.2.2 dX2_needDate_25
    · exact th_N hx hb hl0 hown hts hE hR hS (hl.1.trans hml.symm) 184 "date" (by decide) dX2_needDate_19 dX2_needDate_18 dX2_needDate_24 htab hlocks (Nat.le_of_ble_eq_true rfl) (Nat.le_of_ble_eq_true rfl) (Nat.le_of_ble_eq_true rfl) (Nat.le_of_ble_eq_true rfl) (Nat.le_of_ble_eq_true rfl) (Nat.le_of_ble_eq_true rfl) (⟨rfl, inN_ge (by omega) (Nat.le_refl _) (by omega) (i_nlt c2)⟩) dX2_needDate_15 dX2_needDate_21
set_option maxHeartbeats 4000000 in
set_option maxRecDepth 100000 in
theorem mX2_needYearOf (hl0 : l.stackTraces = false) (I : tI) (L : tL) {nd no : Nat} {f la : Nat → Nat} {ph : Nat → Int32} {w : Nat → Nat → Nat} {ea lt le mo : Nat → Nat} (x y : Int32) (hSi : cSi I nd no f la ph w ea lt le mo) (hwf : wfS nd no f la w ea lt le mo) : vx_Met l yX2_needYearOf wX2_needYearOf ({ frames := 7, cells := 2, slots := 12, locals := 120 }) (va_Pc [.ref (ad 0), .int x, .int y] (kB D cs base sa n ad I L)) (va_Qv (fun (u : tI × tL) => yOk nd f la x y ∧ u = (I, L)) (kA D cs base n ad) (fun q => base ≤ q)) (kX D cs base n ad I L (fun E => E = eN ∧ ¬ yOk nd f la x y)) 2 12 (fun q => base ≤ q) := by
  refine vx_ofW (cc := cX2_needYearOf) (maxL := 3) (ret := none) (by decide) rfl ?_
  intro p e s m args below meth c s₁ Bd hml htab hv
  obtain ⟨rfl, hE, hR⟩ := hv
  have hx := Bd.exec
  have hb := Bd.bytes
  have hr := Bd.returns
  have hts := atoms_spec (ws := wX2_needYearOf) Bd.pre
  have hown : s.vm.findClass RX2 = some m.cls := findClass_of_methodNamed Bd.named
  have hlocks := Bd.notSynchronized
  have hK := hE.K
  have hS : va_S (fun q => base ≤ q) s.heap s.heap [] := va_S.rf
  have hR : tR D vwCl base ad (tC (wP n ad cs) I L) s.heap := hR
  have hl := lv_entry ([.ref (ad 0), .int x, .int y]) (n := 3) (Nat.le_of_ble_eq_true rfl)
  rw [lg_entry_eq]
  generalize (lg_sl ([.ref (ad 0), .int x, .int y]) ++ List.replicate (3 - (lg_sl ([.ref (ad 0), .int x, .int y])).length) Slot.unset).toArray = ls at hl ⊢
  have hl : lv_has ls 3 [(0, .ref (ad 0)), (1, .int x), (2, .int y)] := hl
  obtain ⟨h_nd, h_no, h_d, h_o⟩ := id hwf
  refine lv_aload_n hx hb dX2_needYearOf_0 rfl (lv_at hl 0 rfl) ?_
  refine lv_iload_n hx hb dX2_needYearOf_1 rfl (lv_at hl 1 rfl) ?_
  refine kt_v (vx_runV (As := [.int x]) (rest := []) ⟨hx, hb, hml, hown, hts⟩ (mX2_needDate hl0 I L nd x hSi.1 h_nd) (cwV 1 hts (kw_V k266 k268 ks7 k1 k269) rfl rfl rfl (by decide +kernel) ⟨Nat.le_of_ble_eq_true rfl, Nat.le_of_ble_eq_true rfl⟩) (kB_preV hE hR hS 0 rfl rfl [.int x]) rfl rfl hl.1 rfl (lv_room (Nat.le_of_ble_eq_true rfl)) dX2_needYearOf_2 ⟨Nat.le_of_ble_eq_true rfl, Nat.le_of_ble_eq_true rfl⟩) hS htab hlocks (fun E h => ⟨h.1, fun z => h.2 z.1⟩) (Nat.le_of_ble_eq_true rfl) (Nat.le_of_ble_eq_true rfl) (fun u H locs hw hR hS => ?_)
  obtain ⟨hd0, rfl⟩ := hw
  have hR : tR D vwCl base ad (tC (wP n ad cs) I L) H := hR
  obtain ⟨d, hd, rfl⟩ := hd0
  obtain ⟨g1, g2, g3, g4⟩ := h_d d hd
  refine lv_iload_n hx hb dX2_needYearOf_5 rfl (lv_at hl 2 rfl) ?_
  refine lv_aload_n hx hb dX2_needYearOf_6 rfl (lv_at hl 0 rfl) ?_
  refine tb_get hx hb hts (fun w h => List.mem_cons_of_mem _ (inX2 w h)) hown hK hR 0 rfl rfl 2 (by decide) (hts _ (List.mem_cons_of_mem _ k103)) (fun _ h => h) rfl dX2_needYearOf_7 ?_
  refine tb_getN hx hb hts (fun w h => List.mem_cons_of_mem _ (inX1 w h)) hown hK hR 1 rfl rfl 0 (by decide) (va_Nw.use rfl (hE.2.1 (186, "SeedChains$Site", "first", "[I") (by decide))) (fun _ h => h) rfl dX2_needYearOf_10 ?_
  refine lv_iload_n hx hb dX2_needYearOf_13 rfl (lv_at hl 1 rfl) ?_
  refine tp_iald hx hb hK hR 2 0 (fun _ _ => rfl) rfl d rfl (by omega) (by decide) dX2_needYearOf_14 ?_
  rw [show I 2 d = nI (f d) from (hSi.2.2.1 d (by omega)).1]
  refine lv_icmp_lt (tgt := 31) hx hb dX2_needYearOf_15 (by decide) (fun c1 => ?_) (fun c1 => ?_)
  · exact th_N hx hb hl0 hown hts hE hR hS (hl.1.trans hml.symm) 192 "year" (by decide) dX2_needYearOf_35 dX2_needYearOf_34 dX2_needYearOf_40 htab hlocks (Nat.le_of_ble_eq_true rfl) (Nat.le_of_ble_eq_true rfl) (Nat.le_of_ble_eq_true rfl) (Nat.le_of_ble_eq_true rfl) (Nat.le_of_ble_eq_true rfl) (Nat.le_of_ble_eq_true rfl) (⟨rfl, yOk_lo (by omega) c1⟩) dX2_needYearOf_31 dX2_needYearOf_37
  · refine lv_iload_n hx hb dX2_needYearOf_18 rfl (lv_at hl 2 rfl) ?_
    refine lv_aload_n hx hb dX2_needYearOf_19 rfl (lv_at hl 0 rfl) ?_
    refine tb_get hx hb hts (fun w h => List.mem_cons_of_mem _ (inX2 w h)) hown hK hR 0 rfl rfl 2 (by decide) (hts _ (List.mem_cons_of_mem _ k103)) (fun _ h => h) rfl dX2_needYearOf_20 ?_
    refine tb_getN hx hb hts (fun w h => List.mem_cons_of_mem _ (inX1 w h)) hown hK hR 1 rfl rfl 1 (by decide) (va_Nw.use rfl (hE.2.1 (189, "SeedChains$Site", "last", "[I") (by decide))) (fun _ h => h) rfl dX2_needYearOf_23 ?_
    refine lv_iload_n hx hb dX2_needYearOf_26 rfl (lv_at hl 1 rfl) ?_
    refine tp_iald hx hb hK hR 3 0 (fun _ _ => rfl) rfl d rfl (by omega) (by decide) dX2_needYearOf_27 ?_
    rw [show I 3 d = nI (la d) from (hSi.2.2.1 d (by omega)).2.1]
    refine lv_icmp_le (tgt := 41) hx hb dX2_needYearOf_28 (by decide) (fun c2 => ?_) (fun c2 => ?_)
    · refine W.widen (k := 2) (n := 12) (Nat.le_of_ble_eq_true rfl) (Nat.le_of_ble_eq_true rfl) ?_
      refine vx_ret ?_
      exact W.vret hx hb hr (fun t ht hW => ⟨⟨(I, L), rfl, ⟨yOk_of (by omega) c1 c2, rfl⟩, by show tR _ _ _ _ _ t.heap; rw [ht]; exact hR⟩, hS.F ht⟩) hS.2.2 dX2_needYearOf_41
    · exact th_N hx hb hl0 hown hts hE hR hS (hl.1.trans hml.symm) 192 "year" (by decide) dX2_needYearOf_35 dX2_needYearOf_34 dX2_needYearOf_40 htab hlocks (Nat.le_of_ble_eq_true rfl) (Nat.le_of_ble_eq_true rfl) (Nat.le_of_ble_eq_true rfl) (Nat.le_of_ble_eq_true rfl) (Nat.le_of_ble_eq_true rfl) (Nat.le_of_ble_eq_true rfl) (⟨rfl, yOk_hi (by omega) c2⟩) dX2_needYearOf_31 dX2_needYearOf_37
set_option maxHeartbeats 4000000 in
set_option maxRecDepth 100000 in
theorem mX2_needStarted (hl0 : l.stackTraces = false) (I : tI) (L : tL) (sd : Nat) (hsd : I 0 6 = nI sd) (hs1 : sd ≤ 1) : vx_Met l yX2_needStarted wX2_needStarted ({ frames := 6, cells := 1, slots := 6, locals := 82 }) (va_Pc [.ref (ad 0)] (kB D cs base sa n ad I L)) (va_Qv (fun (u : tI × tL) => sd = 1 ∧ u = (I, L)) (kA D cs base n ad) (fun q => base ≤ q)) (kX D cs base n ad I L (fun E => E = eS ∧ ¬ sd = 1)) 1 6 (fun q => base ≤ q) := by
  refine vx_ofW (cc := cX2_needStarted) (maxL := 1) (ret := none) (by decide) rfl ?_
  intro p e s m args below meth c s₁ Bd hml htab hv
  obtain ⟨rfl, hE, hR⟩ := hv
  have hx := Bd.exec
  have hb := Bd.bytes
  have hr := Bd.returns
  have hts := atoms_spec (ws := wX2_needStarted) Bd.pre
  have hown : s.vm.findClass RX2 = some m.cls := findClass_of_methodNamed Bd.named
  have hlocks := Bd.notSynchronized
  have hK := hE.K
  have hS : va_S (fun q => base ≤ q) s.heap s.heap [] := va_S.rf
  have hR : tR D vwCl base ad (tC (wP n ad cs) I L) s.heap := hR
  have hl := lv_entry ([.ref (ad 0)]) (n := 1) (Nat.le_of_ble_eq_true rfl)
  rw [lg_entry_eq]
  generalize (lg_sl ([.ref (ad 0)]) ++ List.replicate (1 - (lg_sl ([.ref (ad 0)])).length) Slot.unset).toArray = ls at hl ⊢
  have hl : lv_has ls 1 [(0, .ref (ad 0))] := hl
  refine lv_aload_n hx hb dX2_needStarted_0 rfl (lv_at hl 0 rfl) ?_
  refine tb_get hx hb hts (fun w h => List.mem_cons_of_mem _ (inX2 w h)) hown hK hR 0 rfl rfl 6 (by decide) (hts _ (List.mem_cons_of_mem _ k107)) (fun _ h => h) rfl dX2_needStarted_1 ?_
  rw [show I 0 6 = nI sd from hsd]
  refine lv_if_ne (tgt := 17) hx hb dX2_needStarted_4 (by decide) (fun c1 => ?_) (fun c1 => ?_)
  · refine W.widen (k := 1) (n := 6) (Nat.le_of_ble_eq_true rfl) (Nat.le_of_ble_eq_true rfl) ?_
    refine vx_ret ?_
    exact W.vret hx hb hr (fun t ht hW => ⟨⟨(I, L), rfl, ⟨(by have q : ¬ sd = 0 := fun z => c1 (by rw [z]; rfl); omega), rfl⟩, by show tR _ _ _ _ _ t.heap; rw [ht]; exact hR⟩, hS.F ht⟩) hS.2.2 dX2_needStarted_17
  · exact th_S hx hb hl0 hown hts hE hR hS (hl.1.trans hml.symm) 196 "nothing is started" (by decide) dX2_needStarted_11 dX2_needStarted_10 dX2_needStarted_16 htab hlocks (Nat.le_of_ble_eq_true rfl) (Nat.le_of_ble_eq_true rfl) (Nat.le_of_ble_eq_true rfl) (Nat.le_of_ble_eq_true rfl) (Nat.le_of_ble_eq_true rfl) (Nat.le_of_ble_eq_true rfl) (⟨rfl, fun z => absurd c1 (by rw [z]; decide)⟩) dX2_needStarted_7 dX2_needStarted_13
end C9
end
section
/-! SUMS over rows and chains; the span of a phase -/
def sS (g : Nat → Nat) : Nat → Nat
  | 0 => 0
  | m + 1 => sS g m + g m
def s2 (g : Nat → Nat → Nat) (kp : Nat) : Nat → Nat
  | 0 => 0
  | c + 1 => s2 g kp c + sS (g c) kp
theorem sS_le {g : Nat → Nat} {m B : Nat} (h : ∀ i, i < m → g i ≤ B) : sS g m ≤ m * B := by
  induction m with
  | zero => exact Nat.zero_le _
  | succ m ih =>
    have h1 := ih (fun i hi => h i (by omega))
    have h2 := h m (by omega)
    show sS g m + g m ≤ (m + 1) * B
    rw [Nat.succ_mul]
    omega
theorem s2_le {g : Nat → Nat → Nat} {kp m B : Nat} (h : ∀ c, c < m → ∀ k, k < kp → g c k ≤ B) : s2 g kp m ≤ m * (kp * B) := by
  induction m with
  | zero => exact Nat.zero_le _
  | succ m ih =>
    have h1 := ih (fun c hc => h c (by omega))
    have h2 := sS_le (h m (by omega))
    show s2 g kp m + sS (g m) kp ≤ (m + 1) * (kp * B)
    rw [Nat.succ_mul]
    omega
theorem sS_add (g : Nat → Nat) (a b : Nat) : sS g (a + b) = sS g a + sS (fun i => g (a + i)) b := by
  induction b with
  | zero => rfl
  | succ b ih =>
    show sS g (a + b) + g (a + b) = _ + (sS (fun i => g (a + i)) b + g (a + b))
    rw [ih]
    omega
theorem sS_congr {g h : Nat → Nat} {m : Nat} (e : ∀ i, i < m → g i = h i) : sS g m = sS h m := by
  induction m with
  | zero => rfl
  | succ m ih =>
    show sS g m + g m = sS h m + h m
    rw [ih (fun i hi => e i (by omega)), e m (by omega)]
/-- the reference's way: one counter over all rows of all chains -/
theorem sS_s2 (g : Nat → Nat → Nat) {kp : Nat} (hk : 0 < kp) (n : Nat) : sS (fun i => g (i / kp) (i % kp)) (n * kp) = s2 g kp n := by
  induction n with
  | zero => rw [Nat.zero_mul]; rfl
  | succ n ih =>
    rw [Nat.succ_mul, sS_add, ih]
    show _ = s2 g kp n + sS (g n) kp
    rw [sS_congr (h := g n) (fun i hi => ?_)]
    rw [show (n * kp + i) / kp = n from by rw [Nat.add_comm, Nat.add_mul_div_right _ _ hk, Nat.div_eq_of_lt hi, Nat.zero_add], show (n * kp + i) % kp = i from by rw [Nat.add_comm, Nat.add_mul_mod_self_right, Nat.mod_eq_of_lt hi]]
theorem s2_k0 (g : Nat → Nat → Nat) (n : Nat) : s2 g 0 n = 0 := by
  induction n with
  | zero => rfl
  | succ n ih => show s2 g 0 n + 0 = 0; rw [ih]
def mxF (g : Nat → Nat) : Nat → Nat
  | 0 => g 0
  | c + 1 => if mxF g c < g (c + 1) then g (c + 1) else mxF g c
def mnF (g : Nat → Nat) : Nat → Nat
  | 0 => g 0
  | c + 1 => if g (c + 1) < mnF g c then g (c + 1) else mnF g c
theorem mxF_le {g : Nat → Nat} {m B : Nat} (h : ∀ i, i ≤ m → g i ≤ B) : mxF g m ≤ B := by
  induction m with
  | zero => exact h 0 (Nat.le_refl _)
  | succ m ih =>
    have h1 := ih (fun i hi => h i (by omega))
    have h2 := h (m + 1) (Nat.le_refl _)
    simp only [mxF]
    split <;> omega
theorem mnF_le {g : Nat → Nat} {m B : Nat} (h : ∀ i, i ≤ m → g i ≤ B) : mnF g m ≤ B := by
  induction m with
  | zero => exact h 0 (Nat.le_refl _)
  | succ m ih =>
    have h1 := ih (fun i hi => h i (by omega))
    have h2 := h (m + 1) (Nat.le_refl _)
    simp only [mnF]
    split <;> omega
theorem mn_mx (g : Nat → Nat) (m : Nat) : mnF g m ≤ mxF g m := by
  induction m with
  | zero => exact Nat.le_refl _
  | succ m ih =>
    simp only [mnF, mxF]
    split <;> split <;> omega
/-- the first year among the members of x below j (b without any), and the last one and one more (0 without any) -/
def spL (ph : Nat → Int32) (x : Int32) (g : Nat → Nat) (b : Nat) : Nat → Nat
  | 0 => b
  | j + 1 => if ph j = x then (if g j < spL ph x g b j then g j else spL ph x g b j) else spL ph x g b j
def spH (ph : Nat → Int32) (x : Int32) (g : Nat → Nat) : Nat → Nat
  | 0 => 0
  | j + 1 => if ph j = x then (if spH ph x g j < g j + 1 then g j + 1 else spH ph x g j) else spH ph x g j
theorem spL_le (ph : Nat → Int32) (x : Int32) (g : Nat → Nat) (b j : Nat) : spL ph x g b j ≤ b := by
  induction j with
  | zero => exact Nat.le_refl _
  | succ j ih =>
    simp only [spL]
    split
    · split <;> omega
    · exact ih
theorem spH_le {ph : Nat → Int32} {x : Int32} {g : Nat → Nat} {j B : Nat} (h : ∀ i, i < j → g i ≤ B) : spH ph x g j ≤ B + 1 := by
  induction j with
  | zero => exact Nat.zero_le _
  | succ j ih =>
    have h1 := ih (fun i hi => h i (by omega))
    have h2 := h j (by omega)
    simp only [spH]
    split
    · split <;> omega
    · exact h1
theorem sp_lh {ph : Nat → Int32} {x : Int32} {g : Nat → Nat} {b j : Nat} : spH ph x g j ≠ 0 → spL ph x g b j < spH ph x g j := by
  induction j with
  | zero => intro h; exact absurd rfl h
  | succ j ih =>
    simp only [spH, spL]
    by_cases h : ph j = x
    · rw [if_pos h, if_pos h]
      intro _
      by_cases h0 : spH ph x g j = 0
      · rw [h0]
        split <;> split <;> omega
      · have := ih h0
        split <;> split <;> omega
    · rw [if_neg h, if_neg h]
      exact ih
theorem spL_b {ph : Nat → Int32} {x : Int32} {g : Nat → Nat} {a b j : Nat} (h : ∀ i, i < j → g i < a ∧ g i < b) : spH ph x g j ≠ 0 → spL ph x g a j = spL ph x g b j := by
  induction j with
  | zero => intro h; exact absurd rfl h
  | succ j ih =>
    have hj := h j (by omega)
    simp only [spH, spL]
    by_cases hx : ph j = x
    · rw [if_pos hx, if_pos hx, if_pos hx]
      intro _
      by_cases h0 : spH ph x g j = 0
      · have e : ∀ q, spL ph x g q j = q := by
          have : ∀ i, i ≤ j → spH ph x g i = 0 := by
            intro i hi
            have mono : ∀ k, spH ph x g i ≤ spH ph x g (i + k) := by
              intro k
              induction k with
              | zero => exact Nat.le_refl _
              | succ k ihk =>
                refine Nat.le_trans ihk ?_
                show _ ≤ spH ph x g (i + k + 1)
                simp only [spH]
                split
                · split <;> omega
                · exact Nat.le_refl _
            have := mono (j - i)
            rw [show i + (j - i) = j by omega] at this
            omega
          intro q
          have key : ∀ i, i ≤ j → spL ph x g q i = q := by
            intro i
            induction i with
            | zero => intro _; rfl
            | succ i ihi =>
              intro hi
              have z := this (i + 1) hi
              simp only [spH] at z
              simp only [spL]
              by_cases hp : ph i = x
              · rw [if_pos hp] at z
                split at z <;> omega
              · rw [if_neg hp]
                exact ihi (by omega)
          exact key j (Nat.le_refl _)
        rw [e a, e b, if_pos hj.1, if_pos hj.2]
      · rw [ih (fun i hi => h i (by omega)) h0]
    · rw [if_neg hx, if_neg hx, if_neg hx]
      exact ih (fun i hi => h i (by omega))
theorem i_m1 {b : Nat} (hb : b < 2 ^ 30) : (-1 : Int32) < nI b := by
  rw [Int32.lt_iff_toInt_lt, nI_tri hb]
  show (-1 : Int) < _
  omega
/-- a last year that may be missing -/
def hI : Nat → Int32
  | 0 => -1
  | k + 1 => nI k
/-- the span of the members of x in the row g -/
def spV (ph : Nat → Int32) (x : Int32) (g : Nat → Nat) (nd : Nat) : Int32 := if spH ph x g nd = 0 then -1 else nI (spH ph x g nd - 1 - spL ph x g 256 nd)
theorem hI_mx {a b : Nat} (ha : a < 2 ^ 29) (hb : b < 2 ^ 29) : (if hI a < nI b then nI b else hI a) = hI (if a < b + 1 then b + 1 else a) := by
  cases a with
  | zero =>
    have h1 : (0 : Nat) < b + 1 := Nat.succ_pos b
    have h2 : (-1 : Int32) < nI b := i_m1 (by omega)
    rw [if_pos h1]
    exact if_pos h2
  | succ a =>
    show (if nI a < nI b then nI b else nI a) = _
    rw [mx_n (by omega) (by omega)]
    by_cases h : a < b
    · rw [if_pos h, if_pos (by omega)]; rfl
    · rw [if_neg h, if_neg (by omega)]; rfl
theorem hI_m1 {a : Nat} (ha : a < 2 ^ 29) : hI a = -1 ↔ a = 0 := by
  cases a with
  | zero => exact ⟨fun _ => rfl, fun _ => rfl⟩
  | succ a =>
    refine ⟨fun h => ?_, fun h => by omega⟩
    have h1 : nI a = -1 := h
    have h2 := i_m1 (b := a) (by omega)
    rw [h1] at h2
    exact absurd h2 (by decide)
theorem hI_s {a : Nat} (h : a ≠ 0) : hI a = nI (a - 1) := by
  cases a with
  | zero => exact absurd rfl h
  | succ a => rfl
end
section
/-! start, pure: the chains below j are set -/
def stS (se : Int32) (c : Nat) : Int64 := se.toInt64 + 1000003 * (nI c).toInt64
/-- the frame; kept and steps are 0; states; and the years, or that there are none -/
def stJ (n nd no : Nat) (f la ea lt le mo : Nat → Nat) (se : Int32) (I : tI) (L : tL) (j : Nat) (J : tI) (K : tL) : Prop :=
  ((∀ k, k ≠ 0 → (k < 20 ∨ 40 ≤ k) → J k = I k) ∧ (∀ i, i ≠ 6 → J 0 i = I 0 i) ∧ J 20 3 = nI 0 ∧ J 20 4 = nI 0 ∧ ∀ k, k ≠ 22 → K k = L k) ∧ (∀ c, c < n → c < j → K 22 c = stS se c) ∧
  ((J 0 6 = 1 ∧ ∀ c, c < n → c < j → ∃ z : Nat → Nat, yM nd no f la ea lt le mo z ∧ rw_Y nd (J (20 + 4 + c)) z) ∨ (J 0 6 = 0 ∧ ¬ ∃ z, yS nd no f la ea lt le mo z))
section SJ2
variable {n nd no : Nat} {f la ea lt le mo : Nat → Nat} {se : Int32} {I J : tI} {L K : tL} {j : Nat}
theorem stJ_i (se : Int32) (hn : n ≤ 4) : stJ n nd no f la ea lt le mo se I L 0 (va_up (va_up (va_up I 20 (upd (I 20) 3 0)) 20 (upd (va_up I 20 (upd (I 20) 3 0) 20) 4 0)) 0 (upd (va_up (va_up I 20 (upd (I 20) 3 0)) 20 (upd (va_up I 20 (upd (I 20) 3 0) 20) 4 0) 0) 6 1)) L := by
  refine ⟨⟨fun k h0 hk => ?_, fun i hi => ?_, ?_, ?_, fun _ _ => rfl⟩, fun _ _ q => absurd q (Nat.not_lt_zero _), Or.inl ⟨?_, fun _ _ q => absurd q (Nat.not_lt_zero _)⟩⟩
  · rw [va_up_ne _ _ h0, va_up_ne _ _ (by omega), va_up_ne _ _ (by omega)]
  · rw [va_up_self, pk_un hi, va_up_ne _ _ (by omega), va_up_ne _ _ (by omega)]
  · rw [va_up_ne _ _ (by omega), va_up_self, pk_un (by omega), va_up_self, pk_us]; rfl
  · rw [va_up_ne _ _ (by omega), va_up_self, pk_us]; rfl
  · rw [va_up_self, pk_us]
theorem stJ.nn (h : stJ n nd no f la ea lt le mo se I L j J K) (h0 : J 0 6 = 0) : ¬ ∃ z, yS nd no f la ea lt le mo z := by
  rcases h.2.2 with ⟨h1, _⟩ | ⟨_, h2⟩
  · rw [h0] at h1; exact absurd h1 (by decide)
  · exact h2
theorem stJ.f1 (h : stJ n nd no f la ea lt le mo se I L j J K) (h0 : ¬ J 0 6 = 0) : J 0 6 = 1 := by
  rcases h.2.2 with ⟨h1, _⟩ | ⟨h1, _⟩
  · exact h1
  · exact absurd h1 h0
theorem stJ.y (h : stJ n nd no f la ea lt le mo se I L j J K) (h0 : ¬ J 0 6 = 0) : ∀ c, c < n → c < j → ∃ z : Nat → Nat, yM nd no f la ea lt le mo z ∧ rw_Y nd (J (20 + 4 + c)) z := by
  rcases h.2.2 with ⟨_, h1⟩ | ⟨h1, _⟩
  · exact h1
  · exact absurd h1 h0
theorem stJ_fr {row : Nat → Int32} {x : Int32} (h : stJ n nd no f la ea lt le mo se I L j J K) (hj : j < n) (hn : n ≤ 4) :
    ((∀ k, k ≠ 0 → (k < 20 ∨ 40 ≤ k) → (va_up (va_up J (20 + 4 + j) row) 0 (upd (va_up J (20 + 4 + j) row 0) 6 x)) k = I k) ∧ (∀ i, i ≠ 6 → (va_up (va_up J (20 + 4 + j) row) 0 (upd (va_up J (20 + 4 + j) row 0) 6 x)) 0 i = I 0 i) ∧ (va_up (va_up J (20 + 4 + j) row) 0 (upd (va_up J (20 + 4 + j) row 0) 6 x)) 20 3 = nI 0 ∧ (va_up (va_up J (20 + 4 + j) row) 0 (upd (va_up J (20 + 4 + j) row 0) 6 x)) 20 4 = nI 0 ∧ ∀ k, k ≠ 22 → (va_up K 22 (vp_updL (K 22) j (stS se j))) k = L k) ∧ (∀ c, c < n → c < j + 1 → (va_up K 22 (vp_updL (K 22) j (stS se j))) 22 c = stS se c) := by
  obtain ⟨⟨h1, h2, h3, h4, h5⟩, h6, h7⟩ := h
  refine ⟨⟨fun k h0 hk => ?_, fun i hi => ?_, ?_, ?_, fun k hk => ?_⟩, fun c hc hj2 => ?_⟩
  · rw [va_up_ne _ _ h0, va_up_ne _ _ (by omega)]; exact h1 k h0 hk
  · rw [va_up_self, pk_un hi, va_up_ne _ _ (by omega)]; exact h2 i hi
  · rw [va_up_ne _ _ (by omega), va_up_ne _ _ (by omega)]; exact h3
  · rw [va_up_ne _ _ (by omega), va_up_ne _ _ (by omega)]; exact h4
  · rw [va_up_ne _ _ hk]; exact h5 k hk
  · rw [va_up_self]
    by_cases e : c = j
    · rw [e, vp_updL_self]
    · rw [pk_uLn e]; exact h6 c hc (by omega)
theorem stJ_1 {row : Nat → Int32} (h : stJ n nd no f la ea lt le mo se I L j J K) (hj : j < n) (hn : n ≤ 4) (h0 : ¬ va_up J (20 + 4 + j) row 0 6 = 0) (hz : ∃ z : Nat → Nat, yM nd no f la ea lt le mo z ∧ rw_Y nd row z) : stJ n nd no f la ea lt le mo se I L (j + 1) (va_up (va_up J (20 + 4 + j) row) 0 (upd (va_up J (20 + 4 + j) row 0) 6 1)) (va_up K 22 (vp_updL (K 22) j (stS se j))) := by
  obtain ⟨a, b⟩ := stJ_fr (row := row) (x := 1) h hj hn
  rw [va_up_ne _ _ (by omega)] at h0
  refine ⟨a, b, Or.inl ⟨by rw [va_up_self, pk_us], fun c hc hj2 => ?_⟩⟩
  rw [va_up_ne _ _ (by omega)]
  by_cases e : c = j
  · rw [e, va_up_self]; exact hz
  · rw [va_up_ne _ _ (by omega)]; exact h.y h0 c hc (by omega)
theorem stJ_0 {row : Nat → Int32} (h : stJ n nd no f la ea lt le mo se I L j J K) (hj : j < n) (hn : n ≤ 4) (hz : ¬ ∃ z, yS nd no f la ea lt le mo z) : stJ n nd no f la ea lt le mo se I L (j + 1) (va_up (va_up J (20 + 4 + j) row) 0 (upd (va_up J (20 + 4 + j) row 0) 6 0)) (va_up K 22 (vp_updL (K 22) j (stS se j))) := by
  obtain ⟨a, b⟩ := stJ_fr (row := row) (x := 0) h hj hn
  exact ⟨a, b, Or.inr ⟨by rw [va_up_self, pk_us], hz⟩⟩
theorem stJ.z (h : stJ n nd no f la ea lt le mo se I L n J K) (h1 : 1 ≤ n) (h0 : ¬ J 0 6 = 0) : ∃ z : Nat → Nat, yM nd no f la ea lt le mo z ∧ cCo J K n nd 20 (fun _ => z) (stS se) (fun _ _ _ => 0) 0 0 := by
  have hy := h.y h0
  obtain ⟨z, hz, _⟩ := hy 0 (by omega) (by omega)
  refine ⟨z, hz, h.1.2.2.1, h.1.2.2.2.1, fun c hc => ⟨h.2.1 c hc hc, fun d hd => ?_, fun k hk => absurd hk (Nat.not_lt_zero _)⟩⟩
  obtain ⟨v, hv, hr⟩ := hy c hc hc
  rw [hr d hd, yM_unique hv hz d hd]
end SJ2
end
section
section C10
variable {l : Launch} {D : va_G} {cs : Nat → ClassId} {base : Nat} {sa : Nat → Nat} {n : Nat} {ad : Nat → Nat}
set_option maxHeartbeats 4000000 in
set_option maxRecDepth 100000 in
theorem lpX2_sumOfYears {p : Program} {e : Env} {R : Room} {s : State} {m : MethodId} {args : Array Value} {below : List Frame} {meth : Method} {c : Code} {cells slots : Nat} {Q : State → Prop} (S0 : CallFix p m c cX2_sumOfYears 5 s args wX2_sumOfYears RX2) (hE : eV D cs base sa s) (hRf : 1 ≤ R.frames) (hRl : 40 ≤ R.locals) (hRc : cells ≤ R.cells) (hRs : slots ≤ R.slots) (I : tI) (L : tL) {nd : Nat} {Y : Nat → Nat → Nat} {st : Nat → Int64} {Rw : Nat → Nat → Nat → Nat} {kp sp : Nat} (ch d : Nat) (hCo : cCo I L n nd 20 Y st Rw kp sp) (hn4 : n ≤ 4) (hch : ch < n) (hd : d < nd) (h8 : nd ≤ 8) (hk60 : kp ≤ 60)
    (kx : ∀ (H : Heap) (locs : List Loc) (ls : Array Slot), tR D vwCl base ad (tC (wP n ad cs) I L) H → va_S (fun q => base ≤ q) s.heap H locs → lv_has ls 5 [(4, .int (nI kp)), (3, .int (nI (sS (fun k => Rw ch k d) kp))), (0, .ref (ad 0)), (1, .int (nI ch)), (2, .int (nI d))] → W p l e R s m args below meth c H locs cells slots Q (F0 m 37 ls [])) :
    ∀ (k j : Nat) (H : Heap) (locs : List Loc) (ls : Array Slot), j ≤ kp → kp + 1 ≤ j + k → tR D vwCl base ad (tC (wP n ad cs) I L) H → va_S (fun q => base ≤ q) s.heap H locs → lv_has ls 5 [(4, .int (nI j)), (3, .int (nI (sS (fun k => Rw ch k d) j))), (0, .ref (ad 0)), (1, .int (nI ch)), (2, .int (nI d))] → W p l e R s m args below meth c H locs cells slots Q (F0 m 5 ls []) := by
  obtain ⟨hx, hb, hml, hown, hts⟩ := S0
  have hK := hE.K
  intro k
  induction k with
  | zero => intro j  H locs ls h1 h2; exact absurd h2 (by omega)
  | succ k ih =>
    intro j  H locs ls hj hk  hR hS hl
    refine lv_iload hx hb dX2_sumOfYears_5 (lv_at hl 0 rfl) ?_
    refine lv_aload_n hx hb dX2_sumOfYears_7 rfl (lv_at hl 2 rfl) ?_
    refine tb_get hx hb hts (fun w h => List.mem_cons_of_mem _ (inX2 w h)) hown hK hR 0 rfl rfl 3 (by decide) (hts _ (List.mem_cons_of_mem _ k104)) (fun _ h => h) rfl dX2_sumOfYears_8 ?_
    refine tb_getN hx hb hts (fun w h => List.mem_cons_of_mem _ (inX0 w h)) hown hK hR 20 rfl rfl 3 (by decide) (va_Nw.use rfl (hE.2.1 (117, "SeedChains$Course", "kept", "I") (by decide))) (fun _ h => h) rfl dX2_sumOfYears_11 ?_
    rw [show I 20 3 = nI kp from hCo.1]
    refine lv_icmp_ge (tgt := 37) hx hb dX2_sumOfYears_14 (by decide) (fun c1 => ?_) (fun c1 => ?_)
    · have hjN : j = kp := by have e9 := (nI_leI (by omega) (by omega)).mp c1; omega
      subst hjN
      exact kx  H locs ls  hR hS (lv_sub hl [0, 1, 2, 3, 4] rfl)
    · have hjN : j < kp := by
        rcases Nat.lt_or_ge j kp with q | q
        · exact q
        · exact absurd (nI_le (by omega) (by omega)) c1
      refine lv_iload_n hx hb dX2_sumOfYears_17 rfl (lv_at hl 1 rfl) ?_
      refine lv_aload_n hx hb dX2_sumOfYears_18 rfl (lv_at hl 2 rfl) ?_
      refine tb_get hx hb hts (fun w h => List.mem_cons_of_mem _ (inX2 w h)) hown hK hR 0 rfl rfl 3 (by decide) (hts _ (List.mem_cons_of_mem _ k104)) (fun _ h => h) rfl dX2_sumOfYears_19 ?_
      refine lv_iload_n hx hb dX2_sumOfYears_22 rfl (lv_at hl 3 rfl) ?_
      refine lv_iload hx hb dX2_sumOfYears_23 (lv_at hl 0 rfl) ?_
      refine lv_iload_n hx hb dX2_sumOfYears_25 rfl (lv_at hl 4 rfl) ?_
      refine kc_i (va_runVN (As := [.int (nI ch), .int (nI j), .int (nI d)]) (rest := [.int (nI (sS (fun k => Rw ch k d) j))]) ⟨hx, hb, hml, hown, hts⟩ (mX0_keptYear I L 20 ch j d (Or.inl rfl) (by omega) (by omega) (by omega)) ⟨va_cnB 3 hts (kw_N k401) rfl rfl rfl (hE.2.2.1 (157, yX0_keptYear) (by decide)) (hts _ (List.mem_cons_of_mem _ k4)) (by decide +kernel) ⟨Nat.le_trans (Nat.le_of_ble_eq_true rfl) hRf, Nat.le_trans (Nat.le_of_ble_eq_true rfl) hRl⟩, hts _ (List.mem_cons_of_mem _ k400), hts _ (List.mem_cons_of_mem _ ks20)⟩ (kB_preV hE hR hS 20 rfl rfl [.int (nI ch), .int (nI j), .int (nI d)]) rfl rfl hl.1 rfl (lv_room (Nat.le_of_ble_eq_true rfl)) dX2_sumOfYears_26 ⟨hRc, hRs⟩) hS (fun r u H locs hw hR hS => ?_)
      obtain ⟨rfl, rfl⟩ := hw
      have hR : tR D vwCl base ad (tC (wP n ad cs) I L) H := hR
      rw [show (I (20 + 8 + ch) (j * 8 + d)) = nI (Rw ch j d) from (hCo.2.2 ch (by omega)).2.2 j (by omega) d (by omega)]
      refine lv_iadd hx hb dX2_sumOfYears_29 ?_
      rw [nI_add]
      rw [show nI (sS (fun k => Rw ch k d) j + Rw ch j d) = nI (sS (fun k => Rw ch k d) (j + 1)) from rfl]
      refine lv_istore_n (lv' := [(3, .int (nI (sS (fun k => Rw ch k d) (j + 1)))), (4, .int (nI j)), (0, .ref (ad 0)), (1, .int (nI ch)), (2, .int (nI d))]) hx hb dX2_sumOfYears_30 rfl hl (by decide) rfl (fun ls hl => ?_)
      refine lv_iinc (v := nI (j + 1)) (lv' := [(4, .int (nI (j + 1))), (3, .int (nI (sS (fun k => Rw ch k d) (j + 1)))), (0, .ref (ad 0)), (1, .int (nI ch)), (2, .int (nI d))]) hx hb dX2_sumOfYears_31 hl (k := 1) rfl (nI_1 _) (by decide) rfl (fun ls hl => ?_)
      refine lv_goto (tgt := 5) hx hb dX2_sumOfYears_34 (by decide) ?_
      exact ih (j + 1)  H locs ls (by omega) (by omega)  hR hS (lv_sub hl [0, 1, 2, 3, 4] rfl)
set_option maxHeartbeats 4000000 in
set_option maxRecDepth 100000 in
theorem mX2_sumOfYears (I : tI) (L : tL) {nd : Nat} {Y : Nat → Nat → Nat} {st : Nat → Int64} {Rw : Nat → Nat → Nat → Nat} {kp sp : Nat} (ch d : Nat) (hCo : cCo I L n nd 20 Y st Rw kp sp) (hn4 : n ≤ 4) (hch : ch < n) (hd : d < nd) (h8 : nd ≤ 8) (hk60 : kp ≤ 60) : Met l yX2_sumOfYears wX2_sumOfYears ({ frames := 1, cells := 0, slots := 0, locals := 40 }) (va_Pc [.ref (ad 0), .int (nI ch), .int (nI d)] (kB D cs base sa n ad I L)) (va_Qi (fun (r : Int32) (u : tI × tL) => r = nI (sS (fun k => Rw ch k d) kp) ∧ u = (I, L)) (kA D cs base n ad) (fun q => base ≤ q)) 0 0 (fun q => base ≤ q) := by
  refine Met.ofW (cc := cX2_sumOfYears) (maxL := 5) (ret := (some .int)) (by decide) rfl ?_
  intro p e s m args below meth c s₁ Bd hml hv
  obtain ⟨rfl, hE, hR⟩ := hv
  have hx := Bd.exec
  have hb := Bd.bytes
  have hr := Bd.returns
  have hts := atoms_spec (ws := wX2_sumOfYears) Bd.pre
  have hown : s.vm.findClass RX2 = some m.cls := findClass_of_methodNamed Bd.named
  have hlocks := Bd.notSynchronized
  have hK := hE.K
  have hS : va_S (fun q => base ≤ q) s.heap s.heap [] := va_S.rf
  have hR : tR D vwCl base ad (tC (wP n ad cs) I L) s.heap := hR
  have hl := lv_entry ([.ref (ad 0), .int (nI ch), .int (nI d)]) (n := 5) (Nat.le_of_ble_eq_true rfl)
  rw [lg_entry_eq]
  generalize (lg_sl ([.ref (ad 0), .int (nI ch), .int (nI d)]) ++ List.replicate (5 - (lg_sl ([.ref (ad 0), .int (nI ch), .int (nI d)])).length) Slot.unset).toArray = ls at hl ⊢
  have hl : lv_has ls 5 [(0, .ref (ad 0)), (1, .int (nI ch)), (2, .int (nI d))] := hl
  refine lv_iconst (v := 0) hx hb dX2_sumOfYears_0 (by decide) ?_
  rw [show (0 : Int32) = nI (sS (fun k => Rw ch k d) 0) from rfl]
  refine lv_istore_n (lv' := [(3, .int (nI (sS (fun k => Rw ch k d) 0))), (0, .ref (ad 0)), (1, .int (nI ch)), (2, .int (nI d))]) hx hb dX2_sumOfYears_1 rfl hl (by decide) rfl (fun ls hl => ?_)
  refine lv_iconst (v := 0) hx hb dX2_sumOfYears_2 (by decide) ?_
  rw [show (0 : Int32) = nI 0 from nI_0.symm]
  refine lv_istore (lv' := [(4, .int (nI 0)), (3, .int (nI (sS (fun k => Rw ch k d) 0))), (0, .ref (ad 0)), (1, .int (nI ch)), (2, .int (nI d))]) hx hb dX2_sumOfYears_3 hl (by decide) rfl (fun ls hl => ?_)
  refine lpX2_sumOfYears ⟨hx, hb, hml, hown, hts⟩ hE (Nat.le_of_ble_eq_true rfl) (Nat.le_of_ble_eq_true rfl) (Nat.le_of_ble_eq_true rfl) (Nat.le_of_ble_eq_true rfl) I L ch d hCo hn4 hch hd h8 hk60 (fun H locs ls hR hS hl => ?_) (kp + 1) 0 _ _ ls (Nat.zero_le _) (by omega) hR hS (lv_sub hl [0, 1, 2, 3, 4] rfl)
  refine lv_iload_n hx hb dX2_sumOfYears_37 rfl (lv_at hl 1 rfl) ?_
  exact W.iret (v := nI (sS (fun k => Rw ch k d) kp)) hx hb hr (fun t ht hW => ⟨⟨_, (I, L), rfl, ⟨rfl, rfl⟩, by show tR _ _ _ _ _ t.heap; rw [ht]; exact hR⟩, hS.F ht⟩) hS.2.2 dX2_sumOfYears_38
set_option maxHeartbeats 4000000 in
set_option maxRecDepth 100000 in
theorem lpX2_spanOf {p : Program} {e : Env} {R : Room} {s : State} {m : MethodId} {args : Array Value} {below : List Frame} {meth : Method} {c : Code} {cells slots : Nat} {Q : State → Prop} (S0 : CallFix p m c cX2_spanOf 8 s args wX2_spanOf RX2) (hE : eV D cs base sa s) (hRf : 1 ≤ R.frames) (hRl : 40 ≤ R.locals) (hRc : cells ≤ R.cells) (hRs : slots ≤ R.slots) (I : tI) (L : tL) {nd no : Nat} {f la : Nat → Nat} {ph : Nat → Int32} {w : Nat → Nat → Nat} {ea lt le mo : Nat → Nat} {Y : Nat → Nat → Nat} {st : Nat → Int64} {Rw : Nat → Nat → Nat → Nat} {kp sp : Nat} (x : Int32) (ch kr : Nat) (hSi : cSi I nd no f la ph w ea lt le mo) (hwf : wfS nd no f la w ea lt le mo) (hCo : cCo I L n nd 20 Y st Rw kp sp) (hn4 : n ≤ 4) (hch : ch < n) (hk : kr < kp) (hk60 : kp ≤ 60) (hRb : ∀ d, d < nd → Rw ch kr d ≤ 255)
    (kx : ∀ (H : Heap) (locs : List Loc) (ls : Array Slot), tR D vwCl base ad (tC (wP n ad cs) I L) H → va_S (fun q => base ≤ q) s.heap H locs → lv_has ls 8 [(6, .int (nI nd)), (5, .int (hI (spH ph x (Rw ch kr) nd))), (4, .int (nI (spL ph x (Rw ch kr) 256 nd))), (0, .ref (ad 0)), (1, .int x), (2, .int (nI ch)), (3, .int (nI kr))] → W p l e R s m args below meth c H locs cells slots Q (F0 m 74 ls [])) :
    ∀ (k j : Nat) (H : Heap) (locs : List Loc) (ls : Array Slot), j ≤ nd → nd + 1 ≤ j + k → tR D vwCl base ad (tC (wP n ad cs) I L) H → va_S (fun q => base ≤ q) s.heap H locs → lv_has ls 8 [(6, .int (nI j)), (5, .int (hI (spH ph x (Rw ch kr) j))), (4, .int (nI (spL ph x (Rw ch kr) 256 j))), (0, .ref (ad 0)), (1, .int x), (2, .int (nI ch)), (3, .int (nI kr))] → W p l e R s m args below meth c H locs cells slots Q (F0 m 11 ls []) := by
  obtain ⟨hx, hb, hml, hown, hts⟩ := S0
  have hK := hE.K
  obtain ⟨h_nd, h_no, h_d, h_o⟩ := id hwf
  intro k
  induction k with
  | zero => intro j  H locs ls h1 h2; exact absurd h2 (by omega)
  | succ k ih =>
    intro j  H locs ls hj hk  hR hS hl
    refine lv_iload hx hb dX2_spanOf_11 (lv_at hl 0 rfl) ?_
    refine lv_aload_n hx hb dX2_spanOf_13 rfl (lv_at hl 3 rfl) ?_
    refine tb_get hx hb hts (fun w h => List.mem_cons_of_mem _ (inX2 w h)) hown hK hR 0 rfl rfl 2 (by decide) (hts _ (List.mem_cons_of_mem _ k103)) (fun _ h => h) rfl dX2_spanOf_14 ?_
    refine tb_getN hx hb hts (fun w h => List.mem_cons_of_mem _ (inX1 w h)) hown hK hR 1 rfl rfl 8 (by decide) (va_Nw.use rfl (hE.2.1 (68, "SeedChains$Site", "dates", "I") (by decide))) (fun _ h => h) rfl dX2_spanOf_17 ?_
    rw [show I 1 8 = nI nd from hSi.1]
    refine lv_icmp_ge (tgt := 74) hx hb dX2_spanOf_20 (by decide) (fun c1 => ?_) (fun c1 => ?_)
    · have hjN : j = nd := by have e9 := (nI_leI (by omega) (by omega)).mp c1; omega
      subst hjN
      exact kx  H locs ls  hR hS (lv_sub hl [0, 1, 2, 3, 4, 5, 6] rfl)
    · have hjN : j < nd := by
        rcases Nat.lt_or_ge j nd with q | q
        · exact q
        · exact absurd (nI_le (by omega) (by omega)) c1
      refine lv_aload_n hx hb dX2_spanOf_23 rfl (lv_at hl 3 rfl) ?_
      refine tb_get hx hb hts (fun w h => List.mem_cons_of_mem _ (inX2 w h)) hown hK hR 0 rfl rfl 2 (by decide) (hts _ (List.mem_cons_of_mem _ k103)) (fun _ h => h) rfl dX2_spanOf_24 ?_
      refine tb_getN hx hb hts (fun w h => List.mem_cons_of_mem _ (inX1 w h)) hown hK hR 1 rfl rfl 2 (by decide) (va_Nw.use rfl (hE.2.1 (109, "SeedChains$Site", "phase", "[I") (by decide))) (fun _ h => h) rfl dX2_spanOf_27 ?_
      refine lv_iload hx hb dX2_spanOf_30 (lv_at hl 0 rfl) ?_
      refine tp_iald hx hb hK hR 4 0 (fun _ _ => rfl) rfl j rfl (by omega) (by decide) dX2_spanOf_32 ?_
      rw [show I 4 j = ph j from (hSi.2.2.1 j (by omega)).2.2.1]
      refine lv_iload_n hx hb dX2_spanOf_33 rfl (lv_at hl 4 rfl) ?_
      refine lv_icmp_ne (tgt := 68) hx hb dX2_spanOf_34 (by decide) (fun c2 => ?_) (fun c2 => ?_)
      · have hq : ¬ ph j = x := c2
        rw [show spH ph x (Rw ch kr) j = spH ph x (Rw ch kr) (j + 1) from (if_neg hq).symm, show spL ph x (Rw ch kr) 256 j = spL ph x (Rw ch kr) 256 (j + 1) from (if_neg hq).symm] at hl
        refine lv_iinc (v := nI (j + 1)) (lv' := [(6, .int (nI (j + 1))), (5, .int (hI (spH ph x (Rw ch kr) (j + 1)))), (4, .int (nI (spL ph x (Rw ch kr) 256 (j + 1)))), (0, .ref (ad 0)), (1, .int x), (2, .int (nI ch)), (3, .int (nI kr))]) hx hb dX2_spanOf_68 hl (k := 0) rfl (nI_1 _) (by decide) rfl (fun ls hl => ?_)
        refine lv_goto (tgt := 11) hx hb dX2_spanOf_71 (by decide) ?_
        exact ih (j + 1)  H locs ls (by omega) (by omega)  hR hS (lv_sub hl [0, 1, 2, 3, 4, 5, 6] rfl)
      · have hq : ph j = x := c2
        refine lv_aload_n hx hb dX2_spanOf_37 rfl (lv_at hl 3 rfl) ?_
        refine tb_get hx hb hts (fun w h => List.mem_cons_of_mem _ (inX2 w h)) hown hK hR 0 rfl rfl 3 (by decide) (hts _ (List.mem_cons_of_mem _ k104)) (fun _ h => h) rfl dX2_spanOf_38 ?_
        refine lv_iload_n hx hb dX2_spanOf_41 rfl (lv_at hl 5 rfl) ?_
        refine lv_iload_n hx hb dX2_spanOf_42 rfl (lv_at hl 6 rfl) ?_
        refine lv_iload hx hb dX2_spanOf_43 (lv_at hl 0 rfl) ?_
        refine kc_i (va_runVN (As := [.int (nI ch), .int (nI kr), .int (nI j)]) (rest := []) ⟨hx, hb, hml, hown, hts⟩ (mX0_keptYear I L 20 ch kr j (Or.inl rfl) (by omega) (by omega) (by omega)) ⟨va_cnB 3 hts (kw_N k401) rfl rfl rfl (hE.2.2.1 (157, yX0_keptYear) (by decide)) (hts _ (List.mem_cons_of_mem _ k4)) (by decide +kernel) ⟨Nat.le_trans (Nat.le_of_ble_eq_true rfl) hRf, Nat.le_trans (Nat.le_of_ble_eq_true rfl) hRl⟩, hts _ (List.mem_cons_of_mem _ k400), hts _ (List.mem_cons_of_mem _ ks20)⟩ (kB_preV hE hR hS 20 rfl rfl [.int (nI ch), .int (nI kr), .int (nI j)]) rfl rfl hl.1 rfl (lv_room (Nat.le_of_ble_eq_true rfl)) dX2_spanOf_45 ⟨hRc, hRs⟩) hS (fun r u H locs hw hR hS => ?_)
        obtain ⟨rfl, rfl⟩ := hw
        have hR : tR D vwCl base ad (tC (wP n ad cs) I L) H := hR
        rw [show (I (20 + 8 + ch) (kr * 8 + j)) = nI (Rw ch kr j) from (hCo.2.2 ch (by omega)).2.2 kr (by omega) j (by omega)]
        refine lv_istore (lv' := [(7, .int (nI (Rw ch kr j))), (6, .int (nI j)), (5, .int (hI (spH ph x (Rw ch kr) j))), (4, .int (nI (spL ph x (Rw ch kr) 256 j))), (0, .ref (ad 0)), (1, .int x), (2, .int (nI ch)), (3, .int (nI kr))]) hx hb dX2_spanOf_48 hl (by decide) rfl (fun ls hl => ?_)
        refine lv_iload hx hb dX2_spanOf_50 (lv_at hl 3 rfl) ?_
        refine lv_iload hx hb dX2_spanOf_52 (lv_at hl 0 rfl) ?_
        refine va_mmin hx hb (hml.trans hl.1.symm) hown (hts _ (List.mem_cons_of_mem _ k21)) (hts _ (List.mem_cons_of_mem _ k22)) (hts _ (List.mem_cons_of_mem _ k2)) (hts _ (List.mem_cons_of_mem _ k23)) (Nat.le_trans (Nat.le_of_ble_eq_true rfl) hRf) (Nat.le_trans (Nat.le_of_ble_eq_true rfl) hRl) hRc hRs dX2_spanOf_54 ?_
        rw [show (if nI (Rw ch kr j) < nI (spL ph x (Rw ch kr) 256 j) then nI (Rw ch kr j) else nI (spL ph x (Rw ch kr) 256 j)) = nI (spL ph x (Rw ch kr) 256 (j + 1)) from (mn_n (by have := spL_le ph x (Rw ch kr) 256 j; omega) (by have := hRb j hjN; omega)).trans (by simp only [spL]; rw [if_pos hq])]
        refine lv_istore (lv' := [(4, .int (nI (spL ph x (Rw ch kr) 256 (j + 1)))), (7, .int (nI (Rw ch kr j))), (6, .int (nI j)), (5, .int (hI (spH ph x (Rw ch kr) j))), (0, .ref (ad 0)), (1, .int x), (2, .int (nI ch)), (3, .int (nI kr))]) hx hb dX2_spanOf_57 hl (by decide) rfl (fun ls hl => ?_)
        refine lv_iload hx hb dX2_spanOf_59 (lv_at hl 3 rfl) ?_
        refine lv_iload hx hb dX2_spanOf_61 (lv_at hl 1 rfl) ?_
        refine va_mmax hx hb (hml.trans hl.1.symm) hown (hts _ (List.mem_cons_of_mem _ k24)) (hts _ (List.mem_cons_of_mem _ k25)) (hts _ (List.mem_cons_of_mem _ k2)) (hts _ (List.mem_cons_of_mem _ k26)) (Nat.le_trans (Nat.le_of_ble_eq_true rfl) hRf) (Nat.le_trans (Nat.le_of_ble_eq_true rfl) hRl) hRc hRs dX2_spanOf_63 ?_
        rw [show (if hI (spH ph x (Rw ch kr) j) < nI (Rw ch kr j) then nI (Rw ch kr j) else hI (spH ph x (Rw ch kr) j)) = hI (spH ph x (Rw ch kr) (j + 1)) from (hI_mx (by have := spH_le (ph := ph) (x := x) (g := (Rw ch kr)) (j := j) (B := 255) (fun i hi => hRb i (by omega)); omega) (by have := hRb j hjN; omega)).trans (by simp only [spH]; rw [if_pos hq])]
        refine lv_istore (lv' := [(5, .int (hI (spH ph x (Rw ch kr) (j + 1)))), (4, .int (nI (spL ph x (Rw ch kr) 256 (j + 1)))), (7, .int (nI (Rw ch kr j))), (6, .int (nI j)), (0, .ref (ad 0)), (1, .int x), (2, .int (nI ch)), (3, .int (nI kr))]) hx hb dX2_spanOf_66 hl (by decide) rfl (fun ls hl => ?_)
        refine lv_iinc (v := nI (j + 1)) (lv' := [(6, .int (nI (j + 1))), (5, .int (hI (spH ph x (Rw ch kr) (j + 1)))), (4, .int (nI (spL ph x (Rw ch kr) 256 (j + 1)))), (7, .int (nI (Rw ch kr j))), (0, .ref (ad 0)), (1, .int x), (2, .int (nI ch)), (3, .int (nI kr))]) hx hb dX2_spanOf_68 hl (k := 3) rfl (nI_1 _) (by decide) rfl (fun ls hl => ?_)
        refine lv_goto (tgt := 11) hx hb dX2_spanOf_71 (by decide) ?_
        exact ih (j + 1)  H locs ls (by omega) (by omega)  hR hS (lv_sub hl [0, 1, 2, 4, 5, 6, 7] rfl)
set_option maxHeartbeats 4000000 in
set_option maxRecDepth 100000 in
theorem mX2_spanOf (I : tI) (L : tL) {nd no : Nat} {f la : Nat → Nat} {ph : Nat → Int32} {w : Nat → Nat → Nat} {ea lt le mo : Nat → Nat} {Y : Nat → Nat → Nat} {st : Nat → Int64} {Rw : Nat → Nat → Nat → Nat} {kp sp : Nat} (x : Int32) (ch kr : Nat) (hSi : cSi I nd no f la ph w ea lt le mo) (hwf : wfS nd no f la w ea lt le mo) (hCo : cCo I L n nd 20 Y st Rw kp sp) (hn4 : n ≤ 4) (hch : ch < n) (hk : kr < kp) (hk60 : kp ≤ 60) (hRb : ∀ d, d < nd → Rw ch kr d ≤ 255) : Met l yX2_spanOf wX2_spanOf ({ frames := 1, cells := 0, slots := 0, locals := 40 }) (va_Pc [.ref (ad 0), .int x, .int (nI ch), .int (nI kr)] (kB D cs base sa n ad I L)) (va_Qi (fun (r : Int32) (u : tI × tL) => r = spV ph x (Rw ch kr) nd ∧ u = (I, L)) (kA D cs base n ad) (fun q => base ≤ q)) 0 0 (fun q => base ≤ q) := by
  refine Met.ofW (cc := cX2_spanOf) (maxL := 8) (ret := (some .int)) (by decide) rfl ?_
  intro p e s m args below meth c s₁ Bd hml hv
  obtain ⟨rfl, hE, hR⟩ := hv
  have hx := Bd.exec
  have hb := Bd.bytes
  have hr := Bd.returns
  have hts := atoms_spec (ws := wX2_spanOf) Bd.pre
  have hown : s.vm.findClass RX2 = some m.cls := findClass_of_methodNamed Bd.named
  have hlocks := Bd.notSynchronized
  have hK := hE.K
  have hS : va_S (fun q => base ≤ q) s.heap s.heap [] := va_S.rf
  have hR : tR D vwCl base ad (tC (wP n ad cs) I L) s.heap := hR
  have hl := lv_entry ([.ref (ad 0), .int x, .int (nI ch), .int (nI kr)]) (n := 8) (Nat.le_of_ble_eq_true rfl)
  rw [lg_entry_eq]
  generalize (lg_sl ([.ref (ad 0), .int x, .int (nI ch), .int (nI kr)]) ++ List.replicate (8 - (lg_sl ([.ref (ad 0), .int x, .int (nI ch), .int (nI kr)])).length) Slot.unset).toArray = ls at hl ⊢
  have hl : lv_has ls 8 [(0, .ref (ad 0)), (1, .int x), (2, .int (nI ch)), (3, .int (nI kr))] := hl
  obtain ⟨h_nd, h_no, h_d, h_o⟩ := id hwf
  have h_sh := spH_le (ph := ph) (x := x) (g := (Rw ch kr)) (j := nd) (B := 255) hRb
  refine lv_sipush (v := 256) hx hb dX2_spanOf_0 (by decide) ?_
  rw [show (256 : Int32) = nI (spL ph x (Rw ch kr) 256 0) from rfl]
  refine lv_istore (lv' := [(4, .int (nI (spL ph x (Rw ch kr) 256 0))), (0, .ref (ad 0)), (1, .int x), (2, .int (nI ch)), (3, .int (nI kr))]) hx hb dX2_spanOf_3 hl (by decide) rfl (fun ls hl => ?_)
  refine lv_iconst (v := -1) hx hb dX2_spanOf_5 (by decide) ?_
  rw [show (-1 : Int32) = hI (spH ph x (Rw ch kr) 0) from rfl]
  refine lv_istore (lv' := [(5, .int (hI (spH ph x (Rw ch kr) 0))), (4, .int (nI (spL ph x (Rw ch kr) 256 0))), (0, .ref (ad 0)), (1, .int x), (2, .int (nI ch)), (3, .int (nI kr))]) hx hb dX2_spanOf_6 hl (by decide) rfl (fun ls hl => ?_)
  refine lv_iconst (v := 0) hx hb dX2_spanOf_8 (by decide) ?_
  rw [show (0 : Int32) = nI 0 from nI_0.symm]
  refine lv_istore (lv' := [(6, .int (nI 0)), (5, .int (hI (spH ph x (Rw ch kr) 0))), (4, .int (nI (spL ph x (Rw ch kr) 256 0))), (0, .ref (ad 0)), (1, .int x), (2, .int (nI ch)), (3, .int (nI kr))]) hx hb dX2_spanOf_9 hl (by decide) rfl (fun ls hl => ?_)
  refine lpX2_spanOf ⟨hx, hb, hml, hown, hts⟩ hE (Nat.le_of_ble_eq_true rfl) (Nat.le_of_ble_eq_true rfl) (Nat.le_of_ble_eq_true rfl) (Nat.le_of_ble_eq_true rfl) I L x ch kr hSi hwf hCo hn4 hch hk hk60 hRb (fun H locs ls hR hS hl => ?_) (nd + 1) 0 _ _ ls (Nat.zero_le _) (by omega) hR hS (lv_sub hl [0, 1, 2, 3, 4, 5, 6] rfl)
  refine lv_iload hx hb dX2_spanOf_74 (lv_at hl 1 rfl) ?_
  refine lv_iconst (v := -1) hx hb dX2_spanOf_76 (by decide) ?_
  refine lv_icmp_ne (tgt := 84) hx hb dX2_spanOf_77 (by decide) (fun c1 => ?_) (fun c1 => ?_)
  · have hq : spH ph x (Rw ch kr) nd ≠ 0 := fun z => c1 ((hI_m1 (by omega)).mpr z)
    have hq2 := sp_lh (b := 256) hq
    rw [hI_s hq] at hl
    refine lv_iload hx hb dX2_spanOf_84 (lv_at hl 1 rfl) ?_
    refine lv_iload hx hb dX2_spanOf_86 (lv_at hl 2 rfl) ?_
    refine lv_isub hx hb dX2_spanOf_88 ?_
    rw [pk_sub (by omega)]
    exact W.iret (v := nI (spH ph x (Rw ch kr) nd - 1 - spL ph x (Rw ch kr) 256 nd)) hx hb hr (fun t ht hW => ⟨⟨_, (I, L), rfl, ⟨by unfold spV; rw [if_neg hq], rfl⟩, by show tR _ _ _ _ _ t.heap; rw [ht]; exact hR⟩, hS.F ht⟩) hS.2.2 dX2_spanOf_89
  · have hq : spH ph x (Rw ch kr) nd = 0 := (hI_m1 (by omega)).mp c1
    refine lv_iconst (v := -1) hx hb dX2_spanOf_80 (by decide) ?_
    refine lv_goto (tgt := 89) hx hb dX2_spanOf_81 (by decide) ?_
    exact W.iret (v := (-1)) hx hb hr (fun t ht hW => ⟨⟨_, (I, L), rfl, ⟨by unfold spV; rw [if_pos hq], rfl⟩, by show tR _ _ _ _ _ t.heap; rw [ht]; exact hR⟩, hS.F ht⟩) hS.2.2 dX2_spanOf_89
set_option maxHeartbeats 4000000 in
set_option maxRecDepth 100000 in
theorem lpX2_start {p : Program} {e : Env} {R : Room} {s : State} {m : MethodId} {args : Array Value} {below : List Frame} {meth : Method} {c : Code} {cells slots : Nat} {Q : State → Prop} (S0 : CallFix p m c cX2_start 2 s args wX2_start RX2) (hE : eV D cs base sa s) (hRf : 3 ≤ R.frames) (hRl : 90 ≤ R.locals) (hRc : cells ≤ R.cells) (hRs : slots ≤ R.slots) (I : tI) (L : tL) {nd no : Nat} {f la : Nat → Nat} {ph : Nat → Int32} {w : Nat → Nat → Nat} {ea lt le mo : Nat → Nat} (se : Int32) (hSi : cSi I nd no f la ph w ea lt le mo) (hwf : wfS nd no f la w ea lt le mo) (bu ev : Nat) (hcf : cCf I n bu ev) (hse : I 0 0 = se)
    (kx : ∀ (J : tI) (K : tL) (H : Heap) (locs : List Loc) (ls : Array Slot), stJ n nd no f la ea lt le mo se I L n J K → tR D vwCl base ad (tC (wP n ad cs) J K) H → va_S (fun q => base ≤ q) s.heap H locs → lv_has ls 2 [(1, .int (nI n)), (0, .ref (ad 0))] → W p l e R s m args below meth c H locs cells slots Q (F0 m 93 ls [])) :
    ∀ (k j : Nat) (J : tI) (K : tL) (H : Heap) (locs : List Loc) (ls : Array Slot), j ≤ n → n + 1 ≤ j + k → stJ n nd no f la ea lt le mo se I L j J K → tR D vwCl base ad (tC (wP n ad cs) J K) H → va_S (fun q => base ≤ q) s.heap H locs → lv_has ls 2 [(1, .int (nI j)), (0, .ref (ad 0))] → W p l e R s m args below meth c H locs cells slots Q (F0 m 23 ls []) := by
  obtain ⟨hx, hb, hml, hown, hts⟩ := S0
  have hK := hE.K
  obtain ⟨h_nd, h_no, h_d, h_o⟩ := id hwf
  obtain ⟨h_c1, h_c2, h_c3, h_n1, h_n4, h_bu, h_e1, h_e2⟩ := id hcf
  intro k
  induction k with
  | zero => intro j J K H locs ls h1 h2; exact absurd h2 (by omega)
  | succ k ih =>
    intro j J K H locs ls hj hk hJ hR hS hl
    refine lv_iload_n hx hb dX2_start_23 rfl (lv_at hl 0 rfl) ?_
    refine lv_aload_n hx hb dX2_start_24 rfl (lv_at hl 1 rfl) ?_
    refine tb_get hx hb hts (fun w h => List.mem_cons_of_mem _ (inX2 w h)) hown hK hR 0 rfl rfl 1 (by decide) (hts _ (List.mem_cons_of_mem _ k102)) (fun _ h => h) rfl dX2_start_25 ?_
    rw [show J 0 1 = nI n from (by rw [hJ.1.2.1 1 (by omega)]; exact hcf.1)]
    refine lv_icmp_ge (tgt := 93) hx hb dX2_start_28 (by decide) (fun c1 => ?_) (fun c1 => ?_)
    · have hjN : j = n := by have e9 := (nI_leI (by omega) (by omega)).mp c1; omega
      subst hjN
      exact kx J K H locs ls hJ hR hS (lv_sub hl [0, 1] rfl)
    · have hjN : j < n := by
        rcases Nat.lt_or_ge j n with q | q
        · exact q
        · exact absurd (nI_le (by omega) (by omega)) c1
      refine lv_aload_n hx hb dX2_start_31 rfl (lv_at hl 1 rfl) ?_
      refine tb_get hx hb hts (fun w h => List.mem_cons_of_mem _ (inX2 w h)) hown hK hR 0 rfl rfl 3 (by decide) (hts _ (List.mem_cons_of_mem _ k104)) (fun _ h => h) rfl dX2_start_32 ?_
      refine tb_getN hx hb hts (fun w h => List.mem_cons_of_mem _ (inX0 w h)) hown hK hR 20 rfl rfl 1 (by decide) (va_Nw.use rfl (hE.2.1 (123, "SeedChains$Course", "states", "[J") (by decide))) (fun _ h => h) rfl dX2_start_35 ?_
      refine lv_iload_n hx hb dX2_start_38 rfl (lv_at hl 0 rfl) ?_
      refine lv_aload_n hx hb dX2_start_39 rfl (lv_at hl 1 rfl) ?_
      refine tb_get hx hb hts (fun w h => List.mem_cons_of_mem _ (inX2 w h)) hown hK hR 0 rfl rfl 0 (by decide) (hts _ (List.mem_cons_of_mem _ k101)) (fun _ h => h) rfl dX2_start_40 ?_
      rw [show J 0 0 = se from (by rw [hJ.1.2.1 0 (by omega)]; exact hse)]
      refine lv_i2l hx hb dX2_start_43 rfl ?_
      refine lv_ldc2 (v := 1000003) hx hb hown (hts _ (List.mem_cons_of_mem _ k133)) dX2_start_44 ?_
      refine lv_iload_n hx hb dX2_start_47 rfl (lv_at hl 0 rfl) ?_
      refine lv_i2l hx hb dX2_start_48 rfl ?_
      refine lv_lmul hx hb dX2_start_49 ?_
      refine lv_ladd hx hb dX2_start_50 ?_
      rw [show se.toInt64 + 1000003 * (nI j).toInt64 = stS se j from rfl]
      refine tp_last hx hb hK hR hS 22 1 (fun _ _ => rfl) rfl j rfl (by omega) (by omega) dX2_start_51 (fun H locs hR hS => ?_)
      refine lv_aload_n hx hb dX2_start_52 rfl (lv_at hl 1 rfl) ?_
      refine lv_aload_n hx hb dX2_start_53 rfl (lv_at hl 1 rfl) ?_
      refine tb_get hx hb hts (fun w h => List.mem_cons_of_mem _ (inX2 w h)) hown hK hR 0 rfl rfl 2 (by decide) (hts _ (List.mem_cons_of_mem _ k103)) (fun _ h => h) rfl dX2_start_54 ?_
      refine lv_aload_n hx hb dX2_start_57 rfl (lv_at hl 1 rfl) ?_
      refine tb_get hx hb hts (fun w h => List.mem_cons_of_mem _ (inX2 w h)) hown hK hR 0 rfl rfl 3 (by decide) (hts _ (List.mem_cons_of_mem _ k104)) (fun _ h => h) rfl dX2_start_58 ?_
      refine tb_getN hx hb hts (fun w h => List.mem_cons_of_mem _ (inX0 w h)) hown hK hR 20 rfl rfl 0 (by decide) (va_Nw.use rfl (hE.2.1 (129, "SeedChains$Course", "years", "[[I") (by decide))) (fun _ h => h) rfl dX2_start_61 ?_
      refine lv_iload_n hx hb dX2_start_64 rfl (lv_at hl 0 rfl) ?_
      refine tb_aald hx hb hK hR 21 2 rfl rfl j rfl (by omega) (by omega) (if_pos (by omega)) dX2_start_65 ?_
      refine kc_i (va_runVN (As := [.ref (ad (20 + 4 + j))]) (rest := [.ref (ad 0)]) ⟨hx, hb, hml, hown, hts⟩ (mX1_findLeastYears J (va_up K 22 (vp_updL (K 22) j (stS se j))) (20 + 4 + j) (hSi.of h_nd (fun k a b => hJ.1.1 k (by omega) (by omega))) hwf (by omega) (fun r q => wP_b4 (Or.inl rfl) h_n4 hjN r q)) ⟨va_cnB 1 hts (kw_N k137) rfl rfl rfl (hE.2.2.1 (133, yX1_findLeastYears) (by decide)) (hts _ (List.mem_cons_of_mem _ k3)) (by decide +kernel) ⟨Nat.le_trans (Nat.le_of_ble_eq_true rfl) hRf, Nat.le_trans (Nat.le_of_ble_eq_true rfl) hRl⟩, hts _ (List.mem_cons_of_mem _ k136), hts _ (List.mem_cons_of_mem _ ks0)⟩ (kB_preV hE hR hS 1 rfl rfl [.ref (ad (20 + 4 + j))]) rfl rfl hl.1 rfl (lv_room (Nat.le_of_ble_eq_true rfl)) dX2_start_66 ⟨hRc, hRs⟩) hS (fun r u H locs hw hR hS => ?_)
      obtain ⟨row, rfl, hrow⟩ := hw
      have hR : tR D vwCl base ad (tC (wP n ad cs) (va_up J (20 + 4 + j) row) (va_up K 22 (vp_updL (K 22) j (stS se j)))) H := hR
      refine lv_if_eq (tgt := 83) hx hb dX2_start_69 (by decide) (fun c2 => ?_) (fun c2 => ?_)
      · have hz : ¬ ∃ z, yS nd no f la ea lt le mo z := by
          rcases hrow with ⟨h1, _⟩ | ⟨_, h2⟩
          · rw [h1] at c2; exact absurd c2 (by decide)
          · exact h2
        refine lv_iconst (v := 0) hx hb dX2_start_83 (by decide) ?_
        refine tp_put hx hb hts (fun w h => List.mem_cons_of_mem _ (inX2 w h)) tyX2 tyX2_ok nmX2 hown hK hR hS 0 (fun r => [.int (r 0), .int (r 1), .ref (ad 1), .ref (ad 20), .ref (ad 18), .int (r 5), .int (r 6), .int (r 7), .int (r 8)]) (fun _ _ => rfl) rfl 6 (by decide) (hts _ (List.mem_cons_of_mem _ k107)) (fun _ h => h) rfl (ty := .boolean) rfl rfl rfl (by simp) (fun _ => rfl) dX2_start_84 (fun H locs hR hS => ?_)
        have hJ2 := stJ_0 (row := row) hJ hjN h_n4 hz
        refine lv_iinc (v := nI (j + 1)) (lv' := [(1, .int (nI (j + 1))), (0, .ref (ad 0))]) hx hb dX2_start_87 hl (k := 0) rfl (nI_1 _) (by decide) rfl (fun ls hl => ?_)
        refine lv_goto (tgt := 23) hx hb dX2_start_90 (by decide) ?_
        exact ih (j + 1) (va_up (va_up J (20 + 4 + j) row) 0 (upd (va_up J (20 + 4 + j) row 0) 6 0)) (va_up K 22 (vp_updL (K 22) j (stS se j))) H locs ls (by omega) (by omega) hJ2 hR hS (lv_sub hl [0, 1] rfl)
      · have hz : ∃ z : Nat → Nat, yM nd no f la ea lt le mo z ∧ rw_Y nd row z := by
          rcases hrow with ⟨_, h1⟩ | ⟨h2, _⟩
          · exact h1
          · exact absurd h2 c2
        refine lv_aload_n hx hb dX2_start_72 rfl (lv_at hl 1 rfl) ?_
        refine tb_get hx hb hts (fun w h => List.mem_cons_of_mem _ (inX2 w h)) hown hK hR 0 rfl rfl 6 (by decide) (hts _ (List.mem_cons_of_mem _ k107)) (fun _ h => h) rfl dX2_start_73 ?_
        refine lv_if_eq (tgt := 83) hx hb dX2_start_76 (by decide) (fun c3 => ?_) (fun c3 => ?_)
        · refine lv_iconst (v := 0) hx hb dX2_start_83 (by decide) ?_
          refine tp_put hx hb hts (fun w h => List.mem_cons_of_mem _ (inX2 w h)) tyX2 tyX2_ok nmX2 hown hK hR hS 0 (fun r => [.int (r 0), .int (r 1), .ref (ad 1), .ref (ad 20), .ref (ad 18), .int (r 5), .int (r 6), .int (r 7), .int (r 8)]) (fun _ _ => rfl) rfl 6 (by decide) (hts _ (List.mem_cons_of_mem _ k107)) (fun _ h => h) rfl (ty := .boolean) rfl rfl rfl (by simp) (fun _ => rfl) dX2_start_84 (fun H locs hR hS => ?_)
          have hJ2 := stJ_0 (row := row) hJ hjN h_n4 (hJ.nn (by rw [va_up_ne _ _ (by omega)] at c3; exact c3))
          refine lv_iinc (v := nI (j + 1)) (lv' := [(1, .int (nI (j + 1))), (0, .ref (ad 0))]) hx hb dX2_start_87 hl (k := 0) rfl (nI_1 _) (by decide) rfl (fun ls hl => ?_)
          refine lv_goto (tgt := 23) hx hb dX2_start_90 (by decide) ?_
          exact ih (j + 1) (va_up (va_up J (20 + 4 + j) row) 0 (upd (va_up J (20 + 4 + j) row 0) 6 0)) (va_up K 22 (vp_updL (K 22) j (stS se j))) H locs ls (by omega) (by omega) hJ2 hR hS (lv_sub hl [0, 1] rfl)
        · refine lv_iconst (v := 1) hx hb dX2_start_79 (by decide) ?_
          refine lv_goto (tgt := 84) hx hb dX2_start_80 (by decide) ?_
          refine tp_put hx hb hts (fun w h => List.mem_cons_of_mem _ (inX2 w h)) tyX2 tyX2_ok nmX2 hown hK hR hS 0 (fun r => [.int (r 0), .int (r 1), .ref (ad 1), .ref (ad 20), .ref (ad 18), .int (r 5), .int (r 6), .int (r 7), .int (r 8)]) (fun _ _ => rfl) rfl 6 (by decide) (hts _ (List.mem_cons_of_mem _ k107)) (fun _ h => h) rfl (ty := .boolean) rfl rfl rfl (by simp) (fun _ => rfl) dX2_start_84 (fun H locs hR hS => ?_)
          have hJ2 := stJ_1 hJ hjN h_n4 c3 hz
          refine lv_iinc (v := nI (j + 1)) (lv' := [(1, .int (nI (j + 1))), (0, .ref (ad 0))]) hx hb dX2_start_87 hl (k := 0) rfl (nI_1 _) (by decide) rfl (fun ls hl => ?_)
          refine lv_goto (tgt := 23) hx hb dX2_start_90 (by decide) ?_
          exact ih (j + 1) (va_up (va_up J (20 + 4 + j) row) 0 (upd (va_up J (20 + 4 + j) row 0) 6 1)) (va_up K 22 (vp_updL (K 22) j (stS se j))) H locs ls (by omega) (by omega) hJ2 hR hS (lv_sub hl [0, 1] rfl)
set_option maxHeartbeats 4000000 in
set_option maxRecDepth 100000 in
theorem mX2_start (I : tI) (L : tL) {nd no : Nat} {f la : Nat → Nat} {ph : Nat → Int32} {w : Nat → Nat → Nat} {ea lt le mo : Nat → Nat} (se : Int32) (hSi : cSi I nd no f la ph w ea lt le mo) (hwf : wfS nd no f la w ea lt le mo) (bu ev : Nat) (hcf : cCf I n bu ev) (hse : I 0 0 = se) : Met l yX2_start wX2_start ({ frames := 3, cells := 0, slots := 0, locals := 90 }) (va_Pc [.ref (ad 0)] (kB D cs base sa n ad I L)) (va_Qi (fun (r : Int32) (u : tI × tL) => ((r = 0 ∧ u.1 0 6 = 1 ∧ ∃ z : Nat → Nat, yM nd no f la ea lt le mo z ∧ cCo u.1 u.2 n nd 20 (fun _ => z) (stS se) (fun _ _ _ => 0) 0 0) ∨ (r = 1 ∧ u.1 0 6 = 0 ∧ ¬ ∃ z, yS nd no f la ea lt le mo z)) ∧ (∀ k, k ≠ 0 → (k < 20 ∨ 40 ≤ k) → u.1 k = I k) ∧ (∀ i, i ≠ 6 → u.1 0 i = I 0 i) ∧ ∀ k, k ≠ 22 → u.2 k = L k) (kA D cs base n ad) (fun q => base ≤ q)) 0 0 (fun q => base ≤ q) := by
  refine Met.ofW (cc := cX2_start) (maxL := 2) (ret := (some .int)) (by decide) rfl ?_
  intro p e s m args below meth c s₁ Bd hml hv
  obtain ⟨rfl, hE, hR⟩ := hv
  have hx := Bd.exec
  have hb := Bd.bytes
  have hr := Bd.returns
  have hts := atoms_spec (ws := wX2_start) Bd.pre
  have hown : s.vm.findClass RX2 = some m.cls := findClass_of_methodNamed Bd.named
  have hlocks := Bd.notSynchronized
  have hK := hE.K
  have hS : va_S (fun q => base ≤ q) s.heap s.heap [] := va_S.rf
  have hR : tR D vwCl base ad (tC (wP n ad cs) I L) s.heap := hR
  have hl := lv_entry ([.ref (ad 0)]) (n := 2) (Nat.le_of_ble_eq_true rfl)
  rw [lg_entry_eq]
  generalize (lg_sl ([.ref (ad 0)]) ++ List.replicate (2 - (lg_sl ([.ref (ad 0)])).length) Slot.unset).toArray = ls at hl ⊢
  have hl : lv_has ls 2 [(0, .ref (ad 0))] := hl
  obtain ⟨h_nd, h_no, h_d, h_o⟩ := id hwf
  obtain ⟨h_c1, h_c2, h_c3, h_n1, h_n4, h_bu, h_e1, h_e2⟩ := id hcf
  refine lv_aload_n hx hb dX2_start_0 rfl (lv_at hl 0 rfl) ?_
  refine tb_get hx hb hts (fun w h => List.mem_cons_of_mem _ (inX2 w h)) hown hK hR 0 rfl rfl 3 (by decide) (hts _ (List.mem_cons_of_mem _ k104)) (fun _ h => h) rfl dX2_start_1 ?_
  refine lv_iconst (v := 0) hx hb dX2_start_4 (by decide) ?_
  refine tp_putN hx hb hts (fun w h => List.mem_cons_of_mem _ (inX0 w h)) tyX0 tyX0_ok nmX0 hown hK hR hS 20 (fun r => [.ref (ad (21)), .ref (ad (22)), .ref (ad (23)), .int (r 3), .int (r 4)]) (fun _ _ => rfl) rfl 3 (by decide) (va_Nw.use rfl (hE.2.1 (117, "SeedChains$Course", "kept", "I") (by decide))) (fun _ h => h) rfl (ty := .int) rfl rfl rfl (by simp) (fun _ => rfl) dX2_start_5 (fun H locs hR hS => ?_)
  refine lv_aload_n hx hb dX2_start_8 rfl (lv_at hl 0 rfl) ?_
  refine tb_get hx hb hts (fun w h => List.mem_cons_of_mem _ (inX2 w h)) hown hK hR 0 rfl rfl 3 (by decide) (hts _ (List.mem_cons_of_mem _ k104)) (fun _ h => h) rfl dX2_start_9 ?_
  refine lv_iconst (v := 0) hx hb dX2_start_12 (by decide) ?_
  refine tp_putN hx hb hts (fun w h => List.mem_cons_of_mem _ (inX0 w h)) tyX0 tyX0_ok nmX0 hown hK hR hS 20 (fun r => [.ref (ad (21)), .ref (ad (22)), .ref (ad (23)), .int (r 3), .int (r 4)]) (fun _ _ => rfl) rfl 4 (by decide) (va_Nw.use rfl (hE.2.1 (120, "SeedChains$Course", "steps", "I") (by decide))) (fun _ h => h) rfl (ty := .int) rfl rfl rfl (by simp) (fun _ => rfl) dX2_start_13 (fun H locs hR hS => ?_)
  refine lv_aload_n hx hb dX2_start_16 rfl (lv_at hl 0 rfl) ?_
  refine lv_iconst (v := 1) hx hb dX2_start_17 (by decide) ?_
  refine tp_put hx hb hts (fun w h => List.mem_cons_of_mem _ (inX2 w h)) tyX2 tyX2_ok nmX2 hown hK hR hS 0 (fun r => [.int (r 0), .int (r 1), .ref (ad 1), .ref (ad 20), .ref (ad 18), .int (r 5), .int (r 6), .int (r 7), .int (r 8)]) (fun _ _ => rfl) rfl 6 (by decide) (hts _ (List.mem_cons_of_mem _ k107)) (fun _ h => h) rfl (ty := .boolean) rfl rfl rfl (by simp) (fun _ => rfl) dX2_start_18 (fun H locs hR hS => ?_)
  refine lv_iconst (v := 0) hx hb dX2_start_21 (by decide) ?_
  rw [show (0 : Int32) = nI 0 from nI_0.symm]
  refine lv_istore_n (lv' := [(1, .int (nI 0)), (0, .ref (ad 0))]) hx hb dX2_start_22 rfl hl (by decide) rfl (fun ls hl => ?_)
  have hJ0 : stJ n nd no f la ea lt le mo se I L 0 (va_up (va_up (va_up I 20 (upd (I 20) 3 0)) 20 (upd ((va_up I 20 (upd (I 20) 3 0)) 20) 4 0)) 0 (upd ((va_up (va_up I 20 (upd (I 20) 3 0)) 20 (upd ((va_up I 20 (upd (I 20) 3 0)) 20) 4 0)) 0) 6 1)) L := stJ_i se h_n4
  refine lpX2_start ⟨hx, hb, hml, hown, hts⟩ hE (Nat.le_of_ble_eq_true rfl) (Nat.le_of_ble_eq_true rfl) (Nat.le_of_ble_eq_true rfl) (Nat.le_of_ble_eq_true rfl) I L se hSi hwf bu ev hcf hse (fun J K H locs ls hJ hR hS hl => ?_) (n + 1) 0 _ L _ _ ls (Nat.zero_le _) (by omega) hJ0 hR hS (lv_sub hl [0, 1] rfl)
  refine lv_aload_n hx hb dX2_start_93 rfl (lv_at hl 1 rfl) ?_
  refine tb_get hx hb hts (fun w h => List.mem_cons_of_mem _ (inX2 w h)) hown hK hR 0 rfl rfl 6 (by decide) (hts _ (List.mem_cons_of_mem _ k107)) (fun _ h => h) rfl dX2_start_94 ?_
  refine lv_if_eq (tgt := 104) hx hb dX2_start_97 (by decide) (fun c1 => ?_) (fun c1 => ?_)
  · refine lv_iconst (v := 1) hx hb dX2_start_104 (by decide) ?_
    exact W.iret (v := 1) hx hb hr (fun t ht hW => ⟨⟨_, (J, K), rfl, ⟨Or.inr ⟨rfl, c1, hJ.nn c1⟩, hJ.1.1, hJ.1.2.1, hJ.1.2.2.2.2⟩, by show tR _ _ _ _ _ t.heap; rw [ht]; exact hR⟩, hS.F ht⟩) hS.2.2 dX2_start_105
  · refine lv_iconst (v := 0) hx hb dX2_start_100 (by decide) ?_
    refine lv_goto (tgt := 105) hx hb dX2_start_101 (by decide) ?_
    exact W.iret (v := 0) hx hb hr (fun t ht hW => ⟨⟨_, (J, K), rfl, ⟨Or.inl ⟨rfl, hJ.f1 c1, hJ.z h_n1 c1⟩, hJ.1.1, hJ.1.2.1, hJ.1.2.2.2.2⟩, by show tR _ _ _ _ _ t.heap; rw [ht]; exact hR⟩, hS.F ht⟩) hS.2.2 dX2_start_105
end C10
end
section
/-! THE SITE'S CALLS: what they ask -/
def gF (I : tI) : tI := va_up I 0 (upd (upd (I 0) 6 0) 5 0)
theorem gF_ne (I : tI) {k : Nat} (h : k ≠ 0) : gF I k = I k := va_up_ne _ _ h
def dOk (p0 p1 : Int32) : Prop := inN 256 p0 ∧ inN 256 p1 ∧ p0 ≤ p1 ∧ p1 - p0 ≤ 63
def inR (a b : Nat) (x : Int32) : Prop := ∃ j, a ≤ j ∧ j ≤ b ∧ x = nI j
theorem inR_lo {a b : Nat} {x : Int32} (hb : b < 2 ^ 31) (ha : a ≤ b) (h : x < nI a) : ¬ inR a b x := fun ⟨j, h1, h2, e⟩ => by
  rw [e] at h
  have := (nI_ltI (by omega) (by omega)).mp h
  omega
theorem inR_hi {a b : Nat} {x : Int32} (hb : b < 2 ^ 31) (h : ¬ x ≤ nI b) : ¬ inR a b x := fun ⟨j, h1, h2, e⟩ => h (by rw [e]; exact nI_le h2 hb)
theorem inR_of {a b : Nat} {x : Int32} (hb : b < 2 ^ 31) (ha : a ≤ b) (h0 : ¬ x < nI a) (h : x ≤ nI b) : inR a b x := by
  have hz : ¬ x < 0 := fun q => h0 (i_lt_le q (by rw [← nI_0]; exact nI_le (Nat.zero_le _) (by omega)))
  obtain ⟨z, hz2, e⟩ := nI_of hz
  subst e
  have h2 := (nI_leI (by omega) hz2).mp (i_nlt h0)
  have h3 := (nI_leI hz2 (by omega)).mp h
  exact ⟨z, h2, h3, rfl⟩
def bOk (nd : Nat) (p0 p1 : Int32) : Prop := inN nd p0 ∧ inN nd p1
def bOk2 (p0 p1 p2 p3 : Int32) : Prop := inN 256 p2 ∧ inN 256 p3 ∧ p0 ≠ p1 ∧ p2 ≤ p3
def mOk (nd : Nat) (p0 p1 : Int32) : Prop := inN nd p0 ∧ (p1 = -1 ∨ inN 4 p1)
end
section
section C11
variable {l : Launch} {D : va_G} {cs : Nat → ClassId} {base : Nat} {sa : Nat → Nat} {n : Nat} {ad : Nat → Nat}
set_option maxHeartbeats 4000000 in
set_option maxRecDepth 100000 in
theorem mX2_date (hl0 : l.stackTraces = false) (I : tI) (L : tL) (nd : Nat) (p0 p1 : Int32) (hnd : I 1 8 = nI nd) (h8 : nd ≤ 8) : vx_Met l yX2_date wX2_date ({ frames := 8, cells := 3, slots := 18, locals := 140 }) (va_Pc [.ref (ad 0), .int p0, .int p1] (kB D cs base sa n ad I L)) (va_Qi (fun (r : Int32) (u : tI × tL) => dOk p0 p1 ∧ nd < 8 ∧ r = nI nd ∧ u = (gAD (gF I) nd p0 p1, L)) (kA D cs base n ad) (fun q => base ≤ q)) (kX D cs base n ad I L (fun E => (E = eI ∧ ¬ dOk p0 p1) ∨ (E = eS ∧ dOk p0 p1 ∧ ¬ nd < 8))) 3 18 (fun q => base ≤ q) := by
  refine vx_ofW (cc := cX2_date) (maxL := 3) (ret := (some .int)) (by decide) rfl ?_
  intro p e s m args below meth c s₁ Bd hml htab hv
  obtain ⟨rfl, hE, hR⟩ := hv
  have hx := Bd.exec
  have hb := Bd.bytes
  have hr := Bd.returns
  have hts := atoms_spec (ws := wX2_date) Bd.pre
  have hown : s.vm.findClass RX2 = some m.cls := findClass_of_methodNamed Bd.named
  have hlocks := Bd.notSynchronized
  have hK := hE.K
  have hS : va_S (fun q => base ≤ q) s.heap s.heap [] := va_S.rf
  have hR : tR D vwCl base ad (tC (wP n ad cs) I L) s.heap := hR
  have hl := lv_entry ([.ref (ad 0), .int p0, .int p1]) (n := 3) (Nat.le_of_ble_eq_true rfl)
  rw [lg_entry_eq]
  generalize (lg_sl ([.ref (ad 0), .int p0, .int p1]) ++ List.replicate (3 - (lg_sl ([.ref (ad 0), .int p0, .int p1])).length) Slot.unset).toArray = ls at hl ⊢
  have hl : lv_has ls 3 [(0, .ref (ad 0)), (1, .int p0), (2, .int p1)] := hl
  refine lv_iload_n hx hb dX2_date_0 rfl (lv_at hl 1 rfl) ?_
  refine kt_v (vx_runS (As := [.int p0]) (rest := []) ⟨hx, hb, hml, hown, hts⟩ (mX2_needYears hl0 I L p0) (va_cwS 1 hts (kw_S k158 k159 k1 k160) rfl rfl rfl (by decide +kernel) ⟨Nat.le_of_ble_eq_true rfl, Nat.le_of_ble_eq_true rfl⟩) (kB_pre hE hR hS [.int p0]) rfl rfl hl.1 rfl (lv_room (Nat.le_of_ble_eq_true rfl)) dX2_date_1 ⟨Nat.le_of_ble_eq_true rfl, Nat.le_of_ble_eq_true rfl⟩) hS htab hlocks (fun E h => Or.inl ⟨h.1, fun z => h.2 z.1⟩) (Nat.le_of_ble_eq_true rfl) (Nat.le_of_ble_eq_true rfl) (fun u H locs hw hR hS => ?_)
  obtain ⟨hp0, rfl⟩ := hw
  have hR : tR D vwCl base ad (tC (wP n ad cs) I L) H := hR
  refine lv_iload_n hx hb dX2_date_4 rfl (lv_at hl 2 rfl) ?_
  refine kt_v (vx_runS (As := [.int p1]) (rest := []) ⟨hx, hb, hml, hown, hts⟩ (mX2_needYears hl0 I L p1) (va_cwS 1 hts (kw_S k158 k159 k1 k160) rfl rfl rfl (by decide +kernel) ⟨Nat.le_of_ble_eq_true rfl, Nat.le_of_ble_eq_true rfl⟩) (kB_pre hE hR hS [.int p1]) rfl rfl hl.1 rfl (lv_room (Nat.le_of_ble_eq_true rfl)) dX2_date_5 ⟨Nat.le_of_ble_eq_true rfl, Nat.le_of_ble_eq_true rfl⟩) hS htab hlocks (fun E h => Or.inl ⟨h.1, fun z => h.2 z.2.1⟩) (Nat.le_of_ble_eq_true rfl) (Nat.le_of_ble_eq_true rfl) (fun u H locs hw hR hS => ?_)
  obtain ⟨hp1, rfl⟩ := hw
  have hR : tR D vwCl base ad (tC (wP n ad cs) I L) H := hR
  refine lv_iload_n hx hb dX2_date_8 rfl (lv_at hl 1 rfl) ?_
  refine lv_iload_n hx hb dX2_date_9 rfl (lv_at hl 2 rfl) ?_
  refine lv_icmp_gt (tgt := 21) hx hb dX2_date_10 (by decide) (fun c1 => ?_) (fun c1 => ?_)
  · exact th_I hx hb hl0 hown hts hE hR hS (hl.1.trans hml.symm) 63 "first and last year" (by decide) dX2_date_25 dX2_date_24 dX2_date_30 htab hlocks (Nat.le_of_ble_eq_true rfl) (Nat.le_of_ble_eq_true rfl) (Nat.le_of_ble_eq_true rfl) (Nat.le_of_ble_eq_true rfl) (Nat.le_of_ble_eq_true rfl) (Nat.le_of_ble_eq_true rfl) (Or.inl ⟨rfl, fun z => i_lt_n c1 z.2.2.1⟩) dX2_date_21 dX2_date_27
  · refine lv_iload_n hx hb dX2_date_13 rfl (lv_at hl 2 rfl) ?_
    refine lv_iload_n hx hb dX2_date_14 rfl (lv_at hl 1 rfl) ?_
    refine lv_isub hx hb dX2_date_15 ?_
    refine lv_bipush (v := 63) hx hb dX2_date_16 (by decide) ?_
    refine lv_icmp_le (tgt := 31) hx hb dX2_date_18 (by decide) (fun c2 => ?_) (fun c2 => ?_)
    · have hok : dOk p0 p1 := ⟨hp0, hp1, i_nlt c1, c2⟩
      refine lv_aload_n hx hb dX2_date_31 rfl (lv_at hl 0 rfl) ?_
      refine tb_get hx hb hts (fun w h => List.mem_cons_of_mem _ (inX2 w h)) hown hK hR 0 rfl rfl 2 (by decide) (hts _ (List.mem_cons_of_mem _ k103)) (fun _ h => h) rfl dX2_date_32 ?_
      refine tb_getN hx hb hts (fun w h => List.mem_cons_of_mem _ (inX1 w h)) hown hK hR 1 rfl rfl 8 (by decide) (va_Nw.use rfl (hE.2.1 (68, "SeedChains$Site", "dates", "I") (by decide))) (fun _ h => h) rfl dX2_date_35 ?_
      rw [show I 1 8 = nI nd from hnd]
      refine lv_bipush (v := 8) hx hb dX2_date_38 (by decide) ?_
      refine lv_icmp_lt (tgt := 53) hx hb dX2_date_40 (by decide) (fun c3 => ?_) (fun c3 => ?_)
      · have hlt : nd < 8 := (nI_ltI (by omega) (by decide)).mp (show nI nd < nI 8 from c3)
        refine lv_aload_n hx hb dX2_date_53 rfl (lv_at hl 0 rfl) ?_
        refine kc_v (va_runV (As := []) (rest := []) ⟨hx, hb, hml, hown, hts⟩ (mX2_forget I L) (cwV 0 hts (kw_V k246 k248 ks4 k1 k249) rfl rfl rfl (by decide +kernel) ⟨Nat.le_of_ble_eq_true rfl, Nat.le_of_ble_eq_true rfl⟩) (kB_preV hE hR hS 0 rfl rfl []) rfl rfl hl.1 rfl (lv_room (Nat.le_of_ble_eq_true rfl)) dX2_date_54 ⟨Nat.le_of_ble_eq_true rfl, Nat.le_of_ble_eq_true rfl⟩) hS (fun u H locs hw hR hS => ?_)
        subst hw
        have hR : tR D vwCl base ad (tC (wP n ad cs) (gF I) L) H := hR
        refine lv_aload_n hx hb dX2_date_57 rfl (lv_at hl 0 rfl) ?_
        refine tb_get hx hb hts (fun w h => List.mem_cons_of_mem _ (inX2 w h)) hown hK hR 0 rfl rfl 2 (by decide) (hts _ (List.mem_cons_of_mem _ k103)) (fun _ h => h) rfl dX2_date_58 ?_
        refine lv_iload_n hx hb dX2_date_61 rfl (lv_at hl 1 rfl) ?_
        refine lv_iload_n hx hb dX2_date_62 rfl (lv_at hl 2 rfl) ?_
        refine kc_i (va_runVN (As := [.int p0, .int p1]) (rest := []) ⟨hx, hb, hml, hown, hts⟩ (mX1_addDate (gF I) L nd p0 p1 (by rw [gF_ne _ (by omega)]; exact hnd) hlt) ⟨va_cnB 2 hts (kw_N k253) rfl rfl rfl (hE.2.2.1 (79, yX1_addDate) (by decide)) (hts _ (List.mem_cons_of_mem _ k3)) (by decide +kernel) ⟨Nat.le_of_ble_eq_true rfl, Nat.le_of_ble_eq_true rfl⟩, hts _ (List.mem_cons_of_mem _ k252), hts _ (List.mem_cons_of_mem _ ks5)⟩ (kB_preV hE hR hS 1 rfl rfl [.int p0, .int p1]) rfl rfl hl.1 rfl (lv_room (Nat.le_of_ble_eq_true rfl)) dX2_date_63 ⟨Nat.le_of_ble_eq_true rfl, Nat.le_of_ble_eq_true rfl⟩) hS (fun r u H locs hw hR hS => ?_)
        obtain ⟨rfl, rfl⟩ := hw
        have hR : tR D vwCl base ad (tC (wP n ad cs) (gAD (gF I) nd p0 p1) L) H := hR
        refine W.widen (k := 3) (n := 18) (Nat.le_of_ble_eq_true rfl) (Nat.le_of_ble_eq_true rfl) ?_
        refine vx_ret ?_
        exact W.iret (v := nI nd) hx hb hr (fun t ht hW => ⟨⟨_, (gAD (gF I) nd p0 p1, L), rfl, ⟨hok, hlt, rfl, rfl⟩, by show tR _ _ _ _ _ t.heap; rw [ht]; exact hR⟩, hS.F ht⟩) hS.2.2 dX2_date_66
      · exact th_S hx hb hl0 hown hts hE hR hS (hl.1.trans hml.symm) 73 "there are eight dates" (by decide) dX2_date_47 dX2_date_46 dX2_date_52 htab hlocks (Nat.le_of_ble_eq_true rfl) (Nat.le_of_ble_eq_true rfl) (Nat.le_of_ble_eq_true rfl) (Nat.le_of_ble_eq_true rfl) (Nat.le_of_ble_eq_true rfl) (Nat.le_of_ble_eq_true rfl) (Or.inr ⟨rfl, hok, fun z => c3 (show nI nd < nI 8 from nI_lt z (by decide))⟩) dX2_date_43 dX2_date_49
    · exact th_I hx hb hl0 hown hts hE hR hS (hl.1.trans hml.symm) 63 "first and last year" (by decide) dX2_date_25 dX2_date_24 dX2_date_30 htab hlocks (Nat.le_of_ble_eq_true rfl) (Nat.le_of_ble_eq_true rfl) (Nat.le_of_ble_eq_true rfl) (Nat.le_of_ble_eq_true rfl) (Nat.le_of_ble_eq_true rfl) (Nat.le_of_ble_eq_true rfl) (Or.inl ⟨rfl, fun z => c2 z.2.2.2⟩) dX2_date_21 dX2_date_27
set_option maxHeartbeats 4000000 in
set_option maxRecDepth 100000 in
theorem mX2_weight (hl0 : l.stackTraces = false) (I : tI) (L : tL) {nd no : Nat} {f la : Nat → Nat} {ph : Nat → Int32} {w : Nat → Nat → Nat} {ea lt le mo : Nat → Nat} (p0 p1 p2 : Int32) (hSi : cSi I nd no f la ph w ea lt le mo) (hwf : wfS nd no f la w ea lt le mo) : vx_Met l yX2_weight wX2_weight ({ frames := 9, cells := 3, slots := 18, locals := 180 }) (va_Pc [.ref (ad 0), .int p0, .int p1, .int p2] (kB D cs base sa n ad I L)) (va_Qi (fun (r : Int32) (u : tI × tL) => inR 1 1000 p2 ∧ ∃ d j, d < nd ∧ p0 = nI d ∧ p1 = nI (f d + j) ∧ f d + j ≤ la d ∧ r = nI (w d j) ∧ u = (va_up (gF I) (10 + d) (upd (gF I (10 + d)) j p2), L)) (kA D cs base n ad) (fun q => base ≤ q)) (kX D cs base n ad I L (fun E => (E = eN ∧ ¬ yOk nd f la p0 p1) ∨ (E = eI ∧ yOk nd f la p0 p1 ∧ ¬ inR 1 1000 p2))) 3 18 (fun q => base ≤ q) := by
  refine vx_ofW (cc := cX2_weight) (maxL := 4) (ret := (some .int)) (by decide) rfl ?_
  intro p e s m args below meth c s₁ Bd hml htab hv
  obtain ⟨rfl, hE, hR⟩ := hv
  have hx := Bd.exec
  have hb := Bd.bytes
  have hr := Bd.returns
  have hts := atoms_spec (ws := wX2_weight) Bd.pre
  have hown : s.vm.findClass RX2 = some m.cls := findClass_of_methodNamed Bd.named
  have hlocks := Bd.notSynchronized
  have hK := hE.K
  have hS : va_S (fun q => base ≤ q) s.heap s.heap [] := va_S.rf
  have hR : tR D vwCl base ad (tC (wP n ad cs) I L) s.heap := hR
  have hl := lv_entry ([.ref (ad 0), .int p0, .int p1, .int p2]) (n := 4) (Nat.le_of_ble_eq_true rfl)
  rw [lg_entry_eq]
  generalize (lg_sl ([.ref (ad 0), .int p0, .int p1, .int p2]) ++ List.replicate (4 - (lg_sl ([.ref (ad 0), .int p0, .int p1, .int p2])).length) Slot.unset).toArray = ls at hl ⊢
  have hl : lv_has ls 4 [(0, .ref (ad 0)), (1, .int p0), (2, .int p1), (3, .int p2)] := hl
  obtain ⟨h_nd, h_no, h_d, h_o⟩ := id hwf
  refine lv_aload_n hx hb dX2_weight_0 rfl (lv_at hl 0 rfl) ?_
  refine lv_iload_n hx hb dX2_weight_1 rfl (lv_at hl 1 rfl) ?_
  refine lv_iload_n hx hb dX2_weight_2 rfl (lv_at hl 2 rfl) ?_
  refine kt_v (vx_runV (As := [.int p0, .int p1]) (rest := []) ⟨hx, hb, hml, hown, hts⟩ (mX2_needYearOf hl0 I L p0 p1 hSi hwf) (cwV 2 hts (kw_V k262 k264 ks6 k1 k265) rfl rfl rfl (by decide +kernel) ⟨Nat.le_of_ble_eq_true rfl, Nat.le_of_ble_eq_true rfl⟩) (kB_preV hE hR hS 0 rfl rfl [.int p0, .int p1]) rfl rfl hl.1 rfl (lv_room (Nat.le_of_ble_eq_true rfl)) dX2_weight_3 ⟨Nat.le_of_ble_eq_true rfl, Nat.le_of_ble_eq_true rfl⟩) hS htab hlocks (fun E h => Or.inl h) (Nat.le_of_ble_eq_true rfl) (Nat.le_of_ble_eq_true rfl) (fun u H locs hw hR hS => ?_)
  obtain ⟨hy, rfl⟩ := hw
  have hR : tR D vwCl base ad (tC (wP n ad cs) I L) H := hR
  obtain ⟨_, d, j, hd, rfl, rfl, hj⟩ := id hy
  obtain ⟨g1, g2, g3, g4⟩ := h_d d hd
  refine lv_iload_n hx hb dX2_weight_6 rfl (lv_at hl 3 rfl) ?_
  refine lv_iconst (v := 1) hx hb dX2_weight_7 (by decide) ?_
  refine lv_icmp_lt (tgt := 18) hx hb dX2_weight_8 (by decide) (fun c1 => ?_) (fun c1 => ?_)
  · exact th_I hx hb hl0 hown hts hE hR hS (hl.1.trans hml.symm) 86 "weight" (by decide) dX2_weight_22 dX2_weight_21 dX2_weight_27 htab hlocks (Nat.le_of_ble_eq_true rfl) (Nat.le_of_ble_eq_true rfl) (Nat.le_of_ble_eq_true rfl) (Nat.le_of_ble_eq_true rfl) (Nat.le_of_ble_eq_true rfl) (Nat.le_of_ble_eq_true rfl) (Or.inr ⟨rfl, hy, inR_lo (by decide) (by decide) (show p2 < nI 1 from c1)⟩) dX2_weight_18 dX2_weight_24
  · refine lv_iload_n hx hb dX2_weight_11 rfl (lv_at hl 3 rfl) ?_
    refine lv_sipush (v := 1000) hx hb dX2_weight_12 (by decide) ?_
    refine lv_icmp_le (tgt := 28) hx hb dX2_weight_15 (by decide) (fun c2 => ?_) (fun c2 => ?_)
    · have hw2 : inR 1 1000 p2 := inR_of (by decide) (by decide) (show ¬ p2 < nI 1 from c1) (show p2 ≤ nI 1000 from c2)
      refine lv_aload_n hx hb dX2_weight_28 rfl (lv_at hl 0 rfl) ?_
      refine kc_v (va_runV (As := []) (rest := []) ⟨hx, hb, hml, hown, hts⟩ (mX2_forget I L) (cwV 0 hts (kw_V k246 k248 ks4 k1 k249) rfl rfl rfl (by decide +kernel) ⟨Nat.le_of_ble_eq_true rfl, Nat.le_of_ble_eq_true rfl⟩) (kB_preV hE hR hS 0 rfl rfl []) rfl rfl hl.1 rfl (lv_room (Nat.le_of_ble_eq_true rfl)) dX2_weight_29 ⟨Nat.le_of_ble_eq_true rfl, Nat.le_of_ble_eq_true rfl⟩) hS (fun u H locs hw hR hS => ?_)
      subst hw
      have hR : tR D vwCl base ad (tC (wP n ad cs) (gF I) L) H := hR
      refine lv_aload_n hx hb dX2_weight_32 rfl (lv_at hl 0 rfl) ?_
      refine tb_get hx hb hts (fun w h => List.mem_cons_of_mem _ (inX2 w h)) hown hK hR 0 rfl rfl 2 (by decide) (hts _ (List.mem_cons_of_mem _ k103)) (fun _ h => h) rfl dX2_weight_33 ?_
      refine lv_iload_n hx hb dX2_weight_36 rfl (lv_at hl 1 rfl) ?_
      refine lv_iload_n hx hb dX2_weight_37 rfl (lv_at hl 2 rfl) ?_
      refine lv_iload_n hx hb dX2_weight_38 rfl (lv_at hl 3 rfl) ?_
      refine kc_i (va_runVN (As := [.int (nI d), .int (nI (f d + j)), .int p2]) (rest := []) ⟨hx, hb, hml, hown, hts⟩ (mX1_changeWeight (gF I) L d j (nI (f d + j)) p2 (by omega) (by rw [gF_ne _ (by omega), (hSi.2.2.1 d hd).1, pk_sub (by omega), show f d + j - f d = j by omega]) (by omega)) ⟨va_cnB 3 hts (kw_N k291) rfl rfl rfl (hE.2.2.1 (88, yX1_changeWeight) (by decide)) (hts _ (List.mem_cons_of_mem _ k3)) (by decide +kernel) ⟨Nat.le_of_ble_eq_true rfl, Nat.le_of_ble_eq_true rfl⟩, hts _ (List.mem_cons_of_mem _ k290), hts _ (List.mem_cons_of_mem _ ks8)⟩ (kB_preV hE hR hS 1 rfl rfl [.int (nI d), .int (nI (f d + j)), .int p2]) rfl rfl hl.1 rfl (lv_room (Nat.le_of_ble_eq_true rfl)) dX2_weight_39 ⟨Nat.le_of_ble_eq_true rfl, Nat.le_of_ble_eq_true rfl⟩) hS (fun r u H locs hw hR hS => ?_)
      obtain ⟨rfl, rfl⟩ := hw
      have hR : tR D vwCl base ad (tC (wP n ad cs) (va_up (gF I) (10 + d) (upd (gF I (10 + d)) j p2)) L) H := hR
      refine W.widen (k := 3) (n := 18) (Nat.le_of_ble_eq_true rfl) (Nat.le_of_ble_eq_true rfl) ?_
      refine vx_ret ?_
      exact W.iret (v := gF I (10 + d) j) hx hb hr (fun t ht hW => ⟨⟨_, (va_up (gF I) (10 + d) (upd (gF I (10 + d)) j p2), L), rfl, ⟨hw2, d, j, hd, rfl, rfl, hj, by rw [gF_ne _ (by omega)]; exact (hSi.2.2.1 d hd).2.2.2 j (by omega), rfl⟩, by show tR _ _ _ _ _ t.heap; rw [ht]; exact hR⟩, hS.F ht⟩) hS.2.2 dX2_weight_42
    · exact th_I hx hb hl0 hown hts hE hR hS (hl.1.trans hml.symm) 86 "weight" (by decide) dX2_weight_22 dX2_weight_21 dX2_weight_27 htab hlocks (Nat.le_of_ble_eq_true rfl) (Nat.le_of_ble_eq_true rfl) (Nat.le_of_ble_eq_true rfl) (Nat.le_of_ble_eq_true rfl) (Nat.le_of_ble_eq_true rfl) (Nat.le_of_ble_eq_true rfl) (Or.inr ⟨rfl, hy, inR_hi (by decide) (show ¬ p2 ≤ nI 1000 from c2)⟩) dX2_weight_18 dX2_weight_24
set_option maxHeartbeats 4000000 in
set_option maxRecDepth 100000 in
theorem mX2_before (hl0 : l.stackTraces = false) (I : tI) (L : tL) (nd no : Nat) (p0 p1 p2 p3 : Int32) (hnd : I 1 8 = nI nd) (h8 : nd ≤ 8) (hno : I 1 9 = nI no) (h24 : no ≤ 24) : vx_Met l yX2_before wX2_before ({ frames := 8, cells := 5, slots := 30, locals := 140 }) (va_Pc [.ref (ad 0), .int p0, .int p1, .int p2, .int p3] (kB D cs base sa n ad I L)) (va_Qi (fun (r : Int32) (u : tI × tL) => bOk nd p0 p1 ∧ bOk2 p0 p1 p2 p3 ∧ no < 24 ∧ r = nI no ∧ u = (gAO (gF I) no p0 p1 p2 p3, L)) (kA D cs base n ad) (fun q => base ≤ q)) (kX D cs base n ad I L (fun E => (E = eN ∧ ¬ bOk nd p0 p1) ∨ (E = eI ∧ bOk nd p0 p1 ∧ ¬ bOk2 p0 p1 p2 p3) ∨ (E = eS ∧ bOk nd p0 p1 ∧ bOk2 p0 p1 p2 p3 ∧ ¬ no < 24))) 5 30 (fun q => base ≤ q) := by
  refine vx_ofW (cc := cX2_before) (maxL := 5) (ret := (some .int)) (by decide) rfl ?_
  intro p e s m args below meth c s₁ Bd hml htab hv
  obtain ⟨rfl, hE, hR⟩ := hv
  have hx := Bd.exec
  have hb := Bd.bytes
  have hr := Bd.returns
  have hts := atoms_spec (ws := wX2_before) Bd.pre
  have hown : s.vm.findClass RX2 = some m.cls := findClass_of_methodNamed Bd.named
  have hlocks := Bd.notSynchronized
  have hK := hE.K
  have hS : va_S (fun q => base ≤ q) s.heap s.heap [] := va_S.rf
  have hR : tR D vwCl base ad (tC (wP n ad cs) I L) s.heap := hR
  have hl := lv_entry ([.ref (ad 0), .int p0, .int p1, .int p2, .int p3]) (n := 5) (Nat.le_of_ble_eq_true rfl)
  rw [lg_entry_eq]
  generalize (lg_sl ([.ref (ad 0), .int p0, .int p1, .int p2, .int p3]) ++ List.replicate (5 - (lg_sl ([.ref (ad 0), .int p0, .int p1, .int p2, .int p3])).length) Slot.unset).toArray = ls at hl ⊢
  have hl : lv_has ls 5 [(0, .ref (ad 0)), (1, .int p0), (2, .int p1), (3, .int p2), (4, .int p3)] := hl
  refine lv_aload_n hx hb dX2_before_0 rfl (lv_at hl 0 rfl) ?_
  refine lv_iload_n hx hb dX2_before_1 rfl (lv_at hl 1 rfl) ?_
  refine kt_v (vx_runV (As := [.int p0]) (rest := []) ⟨hx, hb, hml, hown, hts⟩ (mX2_needDate hl0 I L nd p0 hnd h8) (cwV 1 hts (kw_V k266 k268 ks7 k1 k269) rfl rfl rfl (by decide +kernel) ⟨Nat.le_of_ble_eq_true rfl, Nat.le_of_ble_eq_true rfl⟩) (kB_preV hE hR hS 0 rfl rfl [.int p0]) rfl rfl hl.1 rfl (lv_room (Nat.le_of_ble_eq_true rfl)) dX2_before_2 ⟨Nat.le_of_ble_eq_true rfl, Nat.le_of_ble_eq_true rfl⟩) hS htab hlocks (fun E h => Or.inl ⟨h.1, fun z => h.2 z.1⟩) (Nat.le_of_ble_eq_true rfl) (Nat.le_of_ble_eq_true rfl) (fun u H locs hw hR hS => ?_)
  obtain ⟨hp0, rfl⟩ := hw
  have hR : tR D vwCl base ad (tC (wP n ad cs) I L) H := hR
  refine lv_aload_n hx hb dX2_before_5 rfl (lv_at hl 0 rfl) ?_
  refine lv_iload_n hx hb dX2_before_6 rfl (lv_at hl 2 rfl) ?_
  refine kt_v (vx_runV (As := [.int p1]) (rest := []) ⟨hx, hb, hml, hown, hts⟩ (mX2_needDate hl0 I L nd p1 hnd h8) (cwV 1 hts (kw_V k266 k268 ks7 k1 k269) rfl rfl rfl (by decide +kernel) ⟨Nat.le_of_ble_eq_true rfl, Nat.le_of_ble_eq_true rfl⟩) (kB_preV hE hR hS 0 rfl rfl [.int p1]) rfl rfl hl.1 rfl (lv_room (Nat.le_of_ble_eq_true rfl)) dX2_before_7 ⟨Nat.le_of_ble_eq_true rfl, Nat.le_of_ble_eq_true rfl⟩) hS htab hlocks (fun E h => Or.inl ⟨h.1, fun z => h.2 z.2⟩) (Nat.le_of_ble_eq_true rfl) (Nat.le_of_ble_eq_true rfl) (fun u H locs hw hR hS => ?_)
  obtain ⟨hp1, rfl⟩ := hw
  have hR : tR D vwCl base ad (tC (wP n ad cs) I L) H := hR
  have hok : bOk nd p0 p1 := ⟨hp0, hp1⟩
  refine lv_iload_n hx hb dX2_before_10 rfl (lv_at hl 3 rfl) ?_
  refine kt_v (vx_runS (As := [.int p2]) (rest := []) ⟨hx, hb, hml, hown, hts⟩ (mX2_needYears hl0 I L p2) (va_cwS 1 hts (kw_S k158 k159 k1 k160) rfl rfl rfl (by decide +kernel) ⟨Nat.le_of_ble_eq_true rfl, Nat.le_of_ble_eq_true rfl⟩) (kB_pre hE hR hS [.int p2]) rfl rfl hl.1 rfl (lv_room (Nat.le_of_ble_eq_true rfl)) dX2_before_11 ⟨Nat.le_of_ble_eq_true rfl, Nat.le_of_ble_eq_true rfl⟩) hS htab hlocks (fun E h => Or.inr (Or.inl ⟨h.1, hok, fun z => h.2 z.1⟩)) (Nat.le_of_ble_eq_true rfl) (Nat.le_of_ble_eq_true rfl) (fun u H locs hw hR hS => ?_)
  obtain ⟨hp2, rfl⟩ := hw
  have hR : tR D vwCl base ad (tC (wP n ad cs) I L) H := hR
  refine lv_iload hx hb dX2_before_14 (lv_at hl 4 rfl) ?_
  refine kt_v (vx_runS (As := [.int p3]) (rest := []) ⟨hx, hb, hml, hown, hts⟩ (mX2_needYears hl0 I L p3) (va_cwS 1 hts (kw_S k158 k159 k1 k160) rfl rfl rfl (by decide +kernel) ⟨Nat.le_of_ble_eq_true rfl, Nat.le_of_ble_eq_true rfl⟩) (kB_pre hE hR hS [.int p3]) rfl rfl hl.1 rfl (lv_room (Nat.le_of_ble_eq_true rfl)) dX2_before_16 ⟨Nat.le_of_ble_eq_true rfl, Nat.le_of_ble_eq_true rfl⟩) hS htab hlocks (fun E h => Or.inr (Or.inl ⟨h.1, hok, fun z => h.2 z.2.1⟩)) (Nat.le_of_ble_eq_true rfl) (Nat.le_of_ble_eq_true rfl) (fun u H locs hw hR hS => ?_)
  obtain ⟨hp3, rfl⟩ := hw
  have hR : tR D vwCl base ad (tC (wP n ad cs) I L) H := hR
  refine lv_iload_n hx hb dX2_before_19 rfl (lv_at hl 1 rfl) ?_
  refine lv_iload_n hx hb dX2_before_20 rfl (lv_at hl 2 rfl) ?_
  refine lv_icmp_eq (tgt := 30) hx hb dX2_before_21 (by decide) (fun c1 => ?_) (fun c1 => ?_)
  · exact th_I hx hb hl0 hown hts hE hR hS (hl.1.trans hml.symm) 95 "order" (by decide) dX2_before_34 dX2_before_33 dX2_before_39 htab hlocks (Nat.le_of_ble_eq_true rfl) (Nat.le_of_ble_eq_true rfl) (Nat.le_of_ble_eq_true rfl) (Nat.le_of_ble_eq_true rfl) (Nat.le_of_ble_eq_true rfl) (Nat.le_of_ble_eq_true rfl) (Or.inr (Or.inl ⟨rfl, hok, fun z => z.2.2.1 c1⟩)) dX2_before_30 dX2_before_36
  · refine lv_iload_n hx hb dX2_before_24 rfl (lv_at hl 3 rfl) ?_
    refine lv_iload hx hb dX2_before_25 (lv_at hl 4 rfl) ?_
    refine lv_icmp_le (tgt := 40) hx hb dX2_before_27 (by decide) (fun c2 => ?_) (fun c2 => ?_)
    · have hok2 : bOk2 p0 p1 p2 p3 := ⟨hp2, hp3, c1, c2⟩
      refine lv_aload_n hx hb dX2_before_40 rfl (lv_at hl 0 rfl) ?_
      refine tb_get hx hb hts (fun w h => List.mem_cons_of_mem _ (inX2 w h)) hown hK hR 0 rfl rfl 2 (by decide) (hts _ (List.mem_cons_of_mem _ k103)) (fun _ h => h) rfl dX2_before_41 ?_
      refine tb_getN hx hb hts (fun w h => List.mem_cons_of_mem _ (inX1 w h)) hown hK hR 1 rfl rfl 9 (by decide) (va_Nw.use rfl (hE.2.1 (97, "SeedChains$Site", "orders", "I") (by decide))) (fun _ h => h) rfl dX2_before_44 ?_
      rw [show I 1 9 = nI no from hno]
      refine lv_bipush (v := 24) hx hb dX2_before_47 (by decide) ?_
      refine lv_icmp_lt (tgt := 62) hx hb dX2_before_49 (by decide) (fun c3 => ?_) (fun c3 => ?_)
      · have hlt : no < 24 := (nI_ltI (by omega) (by decide)).mp (show nI no < nI 24 from c3)
        refine lv_aload_n hx hb dX2_before_62 rfl (lv_at hl 0 rfl) ?_
        refine kc_v (va_runV (As := []) (rest := []) ⟨hx, hb, hml, hown, hts⟩ (mX2_forget I L) (cwV 0 hts (kw_V k246 k248 ks4 k1 k249) rfl rfl rfl (by decide +kernel) ⟨Nat.le_of_ble_eq_true rfl, Nat.le_of_ble_eq_true rfl⟩) (kB_preV hE hR hS 0 rfl rfl []) rfl rfl hl.1 rfl (lv_room (Nat.le_of_ble_eq_true rfl)) dX2_before_63 ⟨Nat.le_of_ble_eq_true rfl, Nat.le_of_ble_eq_true rfl⟩) hS (fun u H locs hw hR hS => ?_)
        subst hw
        have hR : tR D vwCl base ad (tC (wP n ad cs) (gF I) L) H := hR
        refine lv_aload_n hx hb dX2_before_66 rfl (lv_at hl 0 rfl) ?_
        refine tb_get hx hb hts (fun w h => List.mem_cons_of_mem _ (inX2 w h)) hown hK hR 0 rfl rfl 2 (by decide) (hts _ (List.mem_cons_of_mem _ k103)) (fun _ h => h) rfl dX2_before_67 ?_
        refine lv_iload_n hx hb dX2_before_70 rfl (lv_at hl 1 rfl) ?_
        refine lv_iload_n hx hb dX2_before_71 rfl (lv_at hl 2 rfl) ?_
        refine lv_iload_n hx hb dX2_before_72 rfl (lv_at hl 3 rfl) ?_
        refine lv_iload hx hb dX2_before_73 (lv_at hl 4 rfl) ?_
        refine kc_i (va_runVN (As := [.int p0, .int p1, .int p2, .int p3]) (rest := []) ⟨hx, hb, hml, hown, hts⟩ (mX1_addOrder (gF I) L no p0 p1 p2 p3 (by rw [gF_ne _ (by omega)]; exact hno) hlt) ⟨va_cnB 4 hts (kw_N k308) rfl rfl rfl (hE.2.2.1 (102, yX1_addOrder) (by decide)) (hts _ (List.mem_cons_of_mem _ k3)) (by decide +kernel) ⟨Nat.le_of_ble_eq_true rfl, Nat.le_of_ble_eq_true rfl⟩, hts _ (List.mem_cons_of_mem _ k307), hts _ (List.mem_cons_of_mem _ ks10)⟩ (kB_preV hE hR hS 1 rfl rfl [.int p0, .int p1, .int p2, .int p3]) rfl rfl hl.1 rfl (lv_room (Nat.le_of_ble_eq_true rfl)) dX2_before_75 ⟨Nat.le_of_ble_eq_true rfl, Nat.le_of_ble_eq_true rfl⟩) hS (fun r u H locs hw hR hS => ?_)
        obtain ⟨rfl, rfl⟩ := hw
        have hR : tR D vwCl base ad (tC (wP n ad cs) (gAO (gF I) no p0 p1 p2 p3) L) H := hR
        refine W.widen (k := 5) (n := 30) (Nat.le_of_ble_eq_true rfl) (Nat.le_of_ble_eq_true rfl) ?_
        refine vx_ret ?_
        exact W.iret (v := nI no) hx hb hr (fun t ht hW => ⟨⟨_, (gAO (gF I) no p0 p1 p2 p3, L), rfl, ⟨hok, hok2, hlt, rfl, rfl⟩, by show tR _ _ _ _ _ t.heap; rw [ht]; exact hR⟩, hS.F ht⟩) hS.2.2 dX2_before_78
      · exact th_S hx hb hl0 hown hts hE hR hS (hl.1.trans hml.symm) 100 "there are 24 orders" (by decide) dX2_before_56 dX2_before_55 dX2_before_61 htab hlocks (Nat.le_of_ble_eq_true rfl) (Nat.le_of_ble_eq_true rfl) (Nat.le_of_ble_eq_true rfl) (Nat.le_of_ble_eq_true rfl) (Nat.le_of_ble_eq_true rfl) (Nat.le_of_ble_eq_true rfl) (Or.inr (Or.inr ⟨rfl, hok, hok2, fun z => c3 (show nI no < nI 24 from nI_lt z (by decide))⟩)) dX2_before_52 dX2_before_58
    · exact th_I hx hb hl0 hown hts hE hR hS (hl.1.trans hml.symm) 95 "order" (by decide) dX2_before_34 dX2_before_33 dX2_before_39 htab hlocks (Nat.le_of_ble_eq_true rfl) (Nat.le_of_ble_eq_true rfl) (Nat.le_of_ble_eq_true rfl) (Nat.le_of_ble_eq_true rfl) (Nat.le_of_ble_eq_true rfl) (Nat.le_of_ble_eq_true rfl) (Or.inr (Or.inl ⟨rfl, hok, fun z => c2 z.2.2.2⟩)) dX2_before_30 dX2_before_36
set_option maxHeartbeats 4000000 in
set_option maxRecDepth 100000 in
theorem mX2_member (hl0 : l.stackTraces = false) (I : tI) (L : tL) {nd no : Nat} {f la : Nat → Nat} {ph : Nat → Int32} {w : Nat → Nat → Nat} {ea lt le mo : Nat → Nat} (p0 p1 : Int32) (hSi : cSi I nd no f la ph w ea lt le mo) (hwf : wfS nd no f la w ea lt le mo) : vx_Met l yX2_member wX2_member ({ frames := 8, cells := 2, slots := 12, locals := 140 }) (va_Pc [.ref (ad 0), .int p0, .int p1] (kB D cs base sa n ad I L)) (va_Qi (fun (r : Int32) (u : tI × tL) => mOk nd p0 p1 ∧ ∃ d, d < nd ∧ p0 = nI d ∧ r = ph d ∧ u = (va_up I 4 (upd (I 4) d p1), L)) (kA D cs base n ad) (fun q => base ≤ q)) (kX D cs base n ad I L (fun E => E = eN ∧ ¬ mOk nd p0 p1)) 2 12 (fun q => base ≤ q) := by
  refine vx_ofW (cc := cX2_member) (maxL := 4) (ret := (some .int)) (by decide) rfl ?_
  intro p e s m args below meth c s₁ Bd hml htab hv
  obtain ⟨rfl, hE, hR⟩ := hv
  have hx := Bd.exec
  have hb := Bd.bytes
  have hr := Bd.returns
  have hts := atoms_spec (ws := wX2_member) Bd.pre
  have hown : s.vm.findClass RX2 = some m.cls := findClass_of_methodNamed Bd.named
  have hlocks := Bd.notSynchronized
  have hK := hE.K
  have hS : va_S (fun q => base ≤ q) s.heap s.heap [] := va_S.rf
  have hR : tR D vwCl base ad (tC (wP n ad cs) I L) s.heap := hR
  have hl := lv_entry ([.ref (ad 0), .int p0, .int p1]) (n := 4) (Nat.le_of_ble_eq_true rfl)
  rw [lg_entry_eq]
  generalize (lg_sl ([.ref (ad 0), .int p0, .int p1]) ++ List.replicate (4 - (lg_sl ([.ref (ad 0), .int p0, .int p1])).length) Slot.unset).toArray = ls at hl ⊢
  have hl : lv_has ls 4 [(0, .ref (ad 0)), (1, .int p0), (2, .int p1)] := hl
  obtain ⟨h_nd, h_no, h_d, h_o⟩ := id hwf
  refine lv_aload_n hx hb dX2_member_0 rfl (lv_at hl 0 rfl) ?_
  refine lv_iload_n hx hb dX2_member_1 rfl (lv_at hl 1 rfl) ?_
  refine kt_v (vx_runV (As := [.int p0]) (rest := []) ⟨hx, hb, hml, hown, hts⟩ (mX2_needDate hl0 I L nd p0 hSi.1 h_nd) (cwV 1 hts (kw_V k266 k268 ks7 k1 k269) rfl rfl rfl (by decide +kernel) ⟨Nat.le_of_ble_eq_true rfl, Nat.le_of_ble_eq_true rfl⟩) (kB_preV hE hR hS 0 rfl rfl [.int p0]) rfl rfl hl.1 rfl (lv_room (Nat.le_of_ble_eq_true rfl)) dX2_member_2 ⟨Nat.le_of_ble_eq_true rfl, Nat.le_of_ble_eq_true rfl⟩) hS htab hlocks (fun E h => ⟨h.1, fun z => h.2 z.1⟩) (Nat.le_of_ble_eq_true rfl) (Nat.le_of_ble_eq_true rfl) (fun u H locs hw hR hS => ?_)
  obtain ⟨hp0, rfl⟩ := hw
  have hR : tR D vwCl base ad (tC (wP n ad cs) I L) H := hR
  obtain ⟨d, hd, rfl⟩ := id hp0
  refine lv_iload_n hx hb dX2_member_5 rfl (lv_at hl 2 rfl) ?_
  refine lv_iconst (v := -1) hx hb dX2_member_6 (by decide) ?_
  refine lv_icmp_eq (tgt := 14) hx hb dX2_member_7 (by decide) (fun c1 => ?_) (fun c1 => ?_)
  · have hok : mOk nd (nI d) p1 := ⟨hp0, Or.inl c1⟩
    refine lv_aload_n hx hb dX2_member_14 rfl (lv_at hl 0 rfl) ?_
    refine tb_get hx hb hts (fun w h => List.mem_cons_of_mem _ (inX2 w h)) hown hK hR 0 rfl rfl 2 (by decide) (hts _ (List.mem_cons_of_mem _ k103)) (fun _ h => h) rfl dX2_member_15 ?_
    refine tb_getN hx hb hts (fun w h => List.mem_cons_of_mem _ (inX1 w h)) hown hK hR 1 rfl rfl 2 (by decide) (va_Nw.use rfl (hE.2.1 (109, "SeedChains$Site", "phase", "[I") (by decide))) (fun _ h => h) rfl dX2_member_18 ?_
    refine lv_iload_n hx hb dX2_member_21 rfl (lv_at hl 1 rfl) ?_
    refine tp_iald hx hb hK hR 4 0 (fun _ _ => rfl) rfl d rfl (by omega) (by decide) dX2_member_22 ?_
    rw [show I 4 d = ph d from (hSi.2.2.1 d (by omega)).2.2.1]
    refine lv_istore_n (lv' := [(3, .int (ph d)), (0, .ref (ad 0)), (1, .int (nI d)), (2, .int p1)]) hx hb dX2_member_23 rfl hl (by decide) rfl (fun ls hl => ?_)
    refine lv_aload_n hx hb dX2_member_24 rfl (lv_at hl 1 rfl) ?_
    refine tb_get hx hb hts (fun w h => List.mem_cons_of_mem _ (inX2 w h)) hown hK hR 0 rfl rfl 2 (by decide) (hts _ (List.mem_cons_of_mem _ k103)) (fun _ h => h) rfl dX2_member_25 ?_
    refine tb_getN hx hb hts (fun w h => List.mem_cons_of_mem _ (inX1 w h)) hown hK hR 1 rfl rfl 2 (by decide) (va_Nw.use rfl (hE.2.1 (109, "SeedChains$Site", "phase", "[I") (by decide))) (fun _ h => h) rfl dX2_member_28 ?_
    refine lv_iload_n hx hb dX2_member_31 rfl (lv_at hl 2 rfl) ?_
    refine lv_iload_n hx hb dX2_member_32 rfl (lv_at hl 3 rfl) ?_
    refine tp_iast hx hb hK hR hS 4 0 (fun _ _ => rfl) rfl d rfl (by omega) (by decide) dX2_member_33 (fun H locs hR hS => ?_)
    refine lv_iload_n hx hb dX2_member_34 rfl (lv_at hl 0 rfl) ?_
    refine W.widen (k := 2) (n := 12) (Nat.le_of_ble_eq_true rfl) (Nat.le_of_ble_eq_true rfl) ?_
    refine vx_ret ?_
    exact W.iret (v := ph d) hx hb hr (fun t ht hW => ⟨⟨_, (va_up I 4 (upd (I 4) d p1), L), rfl, ⟨hok, d, hd, rfl, rfl, rfl⟩, by show tR _ _ _ _ _ t.heap; rw [ht]; exact hR⟩, hS.F ht⟩) hS.2.2 dX2_member_35
  · refine lv_iload_n hx hb dX2_member_10 rfl (lv_at hl 2 rfl) ?_
    refine kt_v (vx_runS (As := [.int p1]) (rest := []) ⟨hx, hb, hml, hown, hts⟩ (mX2_needPhase hl0 I L p1) (va_cwS 1 hts (kw_S k316 k317 k1 k318) rfl rfl rfl (by decide +kernel) ⟨Nat.le_of_ble_eq_true rfl, Nat.le_of_ble_eq_true rfl⟩) (kB_pre hE hR hS [.int p1]) rfl rfl hl.1 rfl (lv_room (Nat.le_of_ble_eq_true rfl)) dX2_member_11 ⟨Nat.le_of_ble_eq_true rfl, Nat.le_of_ble_eq_true rfl⟩) hS htab hlocks (fun E h => ⟨h.1, fun z => z.2.elim c1 h.2⟩) (Nat.le_of_ble_eq_true rfl) (Nat.le_of_ble_eq_true rfl) (fun u H locs hw hR hS => ?_)
    obtain ⟨hp1, rfl⟩ := hw
    have hR : tR D vwCl base ad (tC (wP n ad cs) I L) H := hR
    have hok : mOk nd (nI d) p1 := ⟨hp0, Or.inr hp1⟩
    refine lv_aload_n hx hb dX2_member_14 rfl (lv_at hl 0 rfl) ?_
    refine tb_get hx hb hts (fun w h => List.mem_cons_of_mem _ (inX2 w h)) hown hK hR 0 rfl rfl 2 (by decide) (hts _ (List.mem_cons_of_mem _ k103)) (fun _ h => h) rfl dX2_member_15 ?_
    refine tb_getN hx hb hts (fun w h => List.mem_cons_of_mem _ (inX1 w h)) hown hK hR 1 rfl rfl 2 (by decide) (va_Nw.use rfl (hE.2.1 (109, "SeedChains$Site", "phase", "[I") (by decide))) (fun _ h => h) rfl dX2_member_18 ?_
    refine lv_iload_n hx hb dX2_member_21 rfl (lv_at hl 1 rfl) ?_
    refine tp_iald hx hb hK hR 4 0 (fun _ _ => rfl) rfl d rfl (by omega) (by decide) dX2_member_22 ?_
    rw [show I 4 d = ph d from (hSi.2.2.1 d (by omega)).2.2.1]
    refine lv_istore_n (lv' := [(3, .int (ph d)), (0, .ref (ad 0)), (1, .int (nI d)), (2, .int p1)]) hx hb dX2_member_23 rfl hl (by decide) rfl (fun ls hl => ?_)
    refine lv_aload_n hx hb dX2_member_24 rfl (lv_at hl 1 rfl) ?_
    refine tb_get hx hb hts (fun w h => List.mem_cons_of_mem _ (inX2 w h)) hown hK hR 0 rfl rfl 2 (by decide) (hts _ (List.mem_cons_of_mem _ k103)) (fun _ h => h) rfl dX2_member_25 ?_
    refine tb_getN hx hb hts (fun w h => List.mem_cons_of_mem _ (inX1 w h)) hown hK hR 1 rfl rfl 2 (by decide) (va_Nw.use rfl (hE.2.1 (109, "SeedChains$Site", "phase", "[I") (by decide))) (fun _ h => h) rfl dX2_member_28 ?_
    refine lv_iload_n hx hb dX2_member_31 rfl (lv_at hl 2 rfl) ?_
    refine lv_iload_n hx hb dX2_member_32 rfl (lv_at hl 3 rfl) ?_
    refine tp_iast hx hb hK hR hS 4 0 (fun _ _ => rfl) rfl d rfl (by omega) (by decide) dX2_member_33 (fun H locs hR hS => ?_)
    refine lv_iload_n hx hb dX2_member_34 rfl (lv_at hl 0 rfl) ?_
    refine W.widen (k := 2) (n := 12) (Nat.le_of_ble_eq_true rfl) (Nat.le_of_ble_eq_true rfl) ?_
    refine vx_ret ?_
    exact W.iret (v := ph d) hx hb hr (fun t ht hW => ⟨⟨_, (va_up I 4 (upd (I 4) d p1), L), rfl, ⟨hok, d, hd, rfl, rfl, rfl⟩, by show tR _ _ _ _ _ t.heap; rw [ht]; exact hR⟩, hS.F ht⟩) hS.2.2 dX2_member_35
set_option maxHeartbeats 4000000 in
set_option maxRecDepth 100000 in
theorem mX2_burn (hl0 : l.stackTraces = false) (I : tI) (L : tL) (p0 : Int32)  : vx_Met l yX2_burn wX2_burn ({ frames := 8, cells := 1, slots := 6, locals := 140 }) (va_Pc [.ref (ad 0), .int p0] (kB D cs base sa n ad I L)) (va_Qi (fun (r : Int32) (u : tI × tL) => inR 0 100 p0 ∧ r = I 0 7 ∧ u = (va_up I 0 (upd (I 0) 7 p0), L)) (kA D cs base n ad) (fun q => base ≤ q)) (kX D cs base n ad I L (fun E => E = eI ∧ ¬ inR 0 100 p0)) 1 6 (fun q => base ≤ q) := by
  refine vx_ofW (cc := cX2_burn) (maxL := 3) (ret := (some .int)) (by decide) rfl ?_
  intro p e s m args below meth c s₁ Bd hml htab hv
  obtain ⟨rfl, hE, hR⟩ := hv
  have hx := Bd.exec
  have hb := Bd.bytes
  have hr := Bd.returns
  have hts := atoms_spec (ws := wX2_burn) Bd.pre
  have hown : s.vm.findClass RX2 = some m.cls := findClass_of_methodNamed Bd.named
  have hlocks := Bd.notSynchronized
  have hK := hE.K
  have hS : va_S (fun q => base ≤ q) s.heap s.heap [] := va_S.rf
  have hR : tR D vwCl base ad (tC (wP n ad cs) I L) s.heap := hR
  have hl := lv_entry ([.ref (ad 0), .int p0]) (n := 3) (Nat.le_of_ble_eq_true rfl)
  rw [lg_entry_eq]
  generalize (lg_sl ([.ref (ad 0), .int p0]) ++ List.replicate (3 - (lg_sl ([.ref (ad 0), .int p0])).length) Slot.unset).toArray = ls at hl ⊢
  have hl : lv_has ls 3 [(0, .ref (ad 0)), (1, .int p0)] := hl
  refine lv_iload_n hx hb dX2_burn_0 rfl (lv_at hl 1 rfl) ?_
  refine lv_if_lt (tgt := 10) hx hb dX2_burn_1 (by decide) (fun c1 => ?_) (fun c1 => ?_)
  · exact th_I hx hb hl0 hown hts hE hR hS (hl.1.trans hml.symm) 113 "burn-in" (by decide) dX2_burn_14 dX2_burn_13 dX2_burn_19 htab hlocks (Nat.le_of_ble_eq_true rfl) (Nat.le_of_ble_eq_true rfl) (Nat.le_of_ble_eq_true rfl) (Nat.le_of_ble_eq_true rfl) (Nat.le_of_ble_eq_true rfl) (Nat.le_of_ble_eq_true rfl) (⟨rfl, inR_lo (by decide) (by decide) (show p0 < nI 0 from c1)⟩) dX2_burn_10 dX2_burn_16
  · refine lv_iload_n hx hb dX2_burn_4 rfl (lv_at hl 1 rfl) ?_
    refine lv_bipush (v := 100) hx hb dX2_burn_5 (by decide) ?_
    refine lv_icmp_le (tgt := 20) hx hb dX2_burn_7 (by decide) (fun c2 => ?_) (fun c2 => ?_)
    · have hok : inR 0 100 p0 := inR_of (by decide) (by decide) (show ¬ p0 < nI 0 from c1) (show p0 ≤ nI 100 from c2)
      refine lv_aload_n hx hb dX2_burn_20 rfl (lv_at hl 0 rfl) ?_
      refine tb_get hx hb hts (fun w h => List.mem_cons_of_mem _ (inX2 w h)) hown hK hR 0 rfl rfl 7 (by decide) (hts _ (List.mem_cons_of_mem _ k108)) (fun _ h => h) rfl dX2_burn_21 ?_
      refine lv_istore_n (lv' := [(2, .int (I 0 7)), (0, .ref (ad 0)), (1, .int p0)]) hx hb dX2_burn_24 rfl hl (by decide) rfl (fun ls hl => ?_)
      refine lv_aload_n hx hb dX2_burn_25 rfl (lv_at hl 1 rfl) ?_
      refine lv_iload_n hx hb dX2_burn_26 rfl (lv_at hl 2 rfl) ?_
      refine tp_put hx hb hts (fun w h => List.mem_cons_of_mem _ (inX2 w h)) tyX2 tyX2_ok nmX2 hown hK hR hS 0 (fun r => [.int (r 0), .int (r 1), .ref (ad 1), .ref (ad 20), .ref (ad 18), .int (r 5), .int (r 6), .int (r 7), .int (r 8)]) (fun _ _ => rfl) rfl 7 (by decide) (hts _ (List.mem_cons_of_mem _ k108)) (fun _ h => h) rfl (ty := .int) rfl rfl rfl (by simp) (fun _ => rfl) dX2_burn_27 (fun H locs hR hS => ?_)
      refine lv_iload_n hx hb dX2_burn_30 rfl (lv_at hl 0 rfl) ?_
      refine W.widen (k := 1) (n := 6) (Nat.le_of_ble_eq_true rfl) (Nat.le_of_ble_eq_true rfl) ?_
      refine vx_ret ?_
      exact W.iret (v := I 0 7) hx hb hr (fun t ht hW => ⟨⟨_, (va_up I 0 (upd (I 0) 7 p0), L), rfl, ⟨hok, rfl, rfl⟩, by show tR _ _ _ _ _ t.heap; rw [ht]; exact hR⟩, hS.F ht⟩) hS.2.2 dX2_burn_31
    · exact th_I hx hb hl0 hown hts hE hR hS (hl.1.trans hml.symm) 113 "burn-in" (by decide) dX2_burn_14 dX2_burn_13 dX2_burn_19 htab hlocks (Nat.le_of_ble_eq_true rfl) (Nat.le_of_ble_eq_true rfl) (Nat.le_of_ble_eq_true rfl) (Nat.le_of_ble_eq_true rfl) (Nat.le_of_ble_eq_true rfl) (Nat.le_of_ble_eq_true rfl) (⟨rfl, inR_hi (by decide) (show ¬ p0 ≤ nI 100 from c2)⟩) dX2_burn_10 dX2_burn_16
set_option maxHeartbeats 4000000 in
set_option maxRecDepth 100000 in
theorem mX2_thin (hl0 : l.stackTraces = false) (I : tI) (L : tL) (p0 : Int32)  : vx_Met l yX2_thin wX2_thin ({ frames := 8, cells := 1, slots := 6, locals := 140 }) (va_Pc [.ref (ad 0), .int p0] (kB D cs base sa n ad I L)) (va_Qi (fun (r : Int32) (u : tI × tL) => inR 1 20 p0 ∧ r = I 0 8 ∧ u = (va_up I 0 (upd (I 0) 8 p0), L)) (kA D cs base n ad) (fun q => base ≤ q)) (kX D cs base n ad I L (fun E => E = eI ∧ ¬ inR 1 20 p0)) 1 6 (fun q => base ≤ q) := by
  refine vx_ofW (cc := cX2_thin) (maxL := 3) (ret := (some .int)) (by decide) rfl ?_
  intro p e s m args below meth c s₁ Bd hml htab hv
  obtain ⟨rfl, hE, hR⟩ := hv
  have hx := Bd.exec
  have hb := Bd.bytes
  have hr := Bd.returns
  have hts := atoms_spec (ws := wX2_thin) Bd.pre
  have hown : s.vm.findClass RX2 = some m.cls := findClass_of_methodNamed Bd.named
  have hlocks := Bd.notSynchronized
  have hK := hE.K
  have hS : va_S (fun q => base ≤ q) s.heap s.heap [] := va_S.rf
  have hR : tR D vwCl base ad (tC (wP n ad cs) I L) s.heap := hR
  have hl := lv_entry ([.ref (ad 0), .int p0]) (n := 3) (Nat.le_of_ble_eq_true rfl)
  rw [lg_entry_eq]
  generalize (lg_sl ([.ref (ad 0), .int p0]) ++ List.replicate (3 - (lg_sl ([.ref (ad 0), .int p0])).length) Slot.unset).toArray = ls at hl ⊢
  have hl : lv_has ls 3 [(0, .ref (ad 0)), (1, .int p0)] := hl
  refine lv_iload_n hx hb dX2_thin_0 rfl (lv_at hl 1 rfl) ?_
  refine lv_iconst (v := 1) hx hb dX2_thin_1 (by decide) ?_
  refine lv_icmp_lt (tgt := 11) hx hb dX2_thin_2 (by decide) (fun c1 => ?_) (fun c1 => ?_)
  · exact th_I hx hb hl0 hown hts hE hR hS (hl.1.trans hml.symm) 115 "thin" (by decide) dX2_thin_15 dX2_thin_14 dX2_thin_20 htab hlocks (Nat.le_of_ble_eq_true rfl) (Nat.le_of_ble_eq_true rfl) (Nat.le_of_ble_eq_true rfl) (Nat.le_of_ble_eq_true rfl) (Nat.le_of_ble_eq_true rfl) (Nat.le_of_ble_eq_true rfl) (⟨rfl, inR_lo (by decide) (by decide) (show p0 < nI 1 from c1)⟩) dX2_thin_11 dX2_thin_17
  · refine lv_iload_n hx hb dX2_thin_5 rfl (lv_at hl 1 rfl) ?_
    refine lv_bipush (v := 20) hx hb dX2_thin_6 (by decide) ?_
    refine lv_icmp_le (tgt := 21) hx hb dX2_thin_8 (by decide) (fun c2 => ?_) (fun c2 => ?_)
    · have hok : inR 1 20 p0 := inR_of (by decide) (by decide) (show ¬ p0 < nI 1 from c1) (show p0 ≤ nI 20 from c2)
      refine lv_aload_n hx hb dX2_thin_21 rfl (lv_at hl 0 rfl) ?_
      refine tb_get hx hb hts (fun w h => List.mem_cons_of_mem _ (inX2 w h)) hown hK hR 0 rfl rfl 8 (by decide) (hts _ (List.mem_cons_of_mem _ k109)) (fun _ h => h) rfl dX2_thin_22 ?_
      refine lv_istore_n (lv' := [(2, .int (I 0 8)), (0, .ref (ad 0)), (1, .int p0)]) hx hb dX2_thin_25 rfl hl (by decide) rfl (fun ls hl => ?_)
      refine lv_aload_n hx hb dX2_thin_26 rfl (lv_at hl 1 rfl) ?_
      refine lv_iload_n hx hb dX2_thin_27 rfl (lv_at hl 2 rfl) ?_
      refine tp_put hx hb hts (fun w h => List.mem_cons_of_mem _ (inX2 w h)) tyX2 tyX2_ok nmX2 hown hK hR hS 0 (fun r => [.int (r 0), .int (r 1), .ref (ad 1), .ref (ad 20), .ref (ad 18), .int (r 5), .int (r 6), .int (r 7), .int (r 8)]) (fun _ _ => rfl) rfl 8 (by decide) (hts _ (List.mem_cons_of_mem _ k109)) (fun _ h => h) rfl (ty := .int) rfl rfl rfl (by simp) (fun _ => rfl) dX2_thin_28 (fun H locs hR hS => ?_)
      refine lv_iload_n hx hb dX2_thin_31 rfl (lv_at hl 0 rfl) ?_
      refine W.widen (k := 1) (n := 6) (Nat.le_of_ble_eq_true rfl) (Nat.le_of_ble_eq_true rfl) ?_
      refine vx_ret ?_
      exact W.iret (v := I 0 8) hx hb hr (fun t ht hW => ⟨⟨_, (va_up I 0 (upd (I 0) 8 p0), L), rfl, ⟨hok, rfl, rfl⟩, by show tR _ _ _ _ _ t.heap; rw [ht]; exact hR⟩, hS.F ht⟩) hS.2.2 dX2_thin_32
    · exact th_I hx hb hl0 hown hts hE hR hS (hl.1.trans hml.symm) 115 "thin" (by decide) dX2_thin_15 dX2_thin_14 dX2_thin_20 htab hlocks (Nat.le_of_ble_eq_true rfl) (Nat.le_of_ble_eq_true rfl) (Nat.le_of_ble_eq_true rfl) (Nat.le_of_ble_eq_true rfl) (Nat.le_of_ble_eq_true rfl) (Nat.le_of_ble_eq_true rfl) (⟨rfl, inR_hi (by decide) (show ¬ p0 ≤ nI 20 from c2)⟩) dX2_thin_11 dX2_thin_17
end C11
end
