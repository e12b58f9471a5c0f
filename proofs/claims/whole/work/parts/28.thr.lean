/-! EXCEPTIONS: what a throw needs, what a caller sees -/
def xnm : List String := ["java/lang/RuntimeException", "java/lang/Exception"]
theorem xW_use {args : Array Value} {s : State} (h : ∀ w ∈ xW, va_Nw w s) : ∀ w ∈ xW, w.before args s = true := fun w hw => va_Nw.use ((by decide +kernel : ∀ w ∈ xW, w.onTables = true) w hw) (h w hw)
theorem at_I {args : Array Value} {s : State} (hts : ∀ w ∈ wAll, w.before args s = true) (hx : ∀ w ∈ xW, va_Nw w s) : ∀ w ∈ vx_atS RX2 65 "java/lang/IllegalArgumentException" xnm, w.before args s = true :=
  vx_hat (B := xW) (fun w hw => hts w (wAll_of (List.mem_append_right _ ((by decide +kernel : ∀ w ∈ (vx_atS RX2 65 "java/lang/IllegalArgumentException" xnm).filter goodWord, w ∈ tables_1) w hw)) (List.mem_filter.mp hw).2)) (by decide +kernel) (xW_use hx)
theorem at_S {args : Array Value} {s : State} (hts : ∀ w ∈ wAll, w.before args s = true) (hx : ∀ w ∈ xW, va_Nw w s) : ∀ w ∈ vx_atS RX2 75 "java/lang/IllegalStateException" xnm, w.before args s = true :=
  vx_hat (B := xW) (fun w hw => hts w (wAll_of (List.mem_append_right _ ((by decide +kernel : ∀ w ∈ (vx_atS RX2 75 "java/lang/IllegalStateException" xnm).filter goodWord, w ∈ tables_1) w hw)) (List.mem_filter.mp hw).2)) (by decide +kernel) (xW_use hx)
theorem go_I : ∀ w ∈ Cond.classLink RX2 61 "java/lang/IllegalArgumentException" :: Cond.initialized "java/lang/IllegalArgumentException" :: vx_atS RX2 65 "java/lang/IllegalArgumentException" xnm, vx_ot w = true := by decide +kernel
theorem go_S : ∀ w ∈ Cond.classLink RX2 71 "java/lang/IllegalStateException" :: Cond.initialized "java/lang/IllegalStateException" :: vx_atS RX2 75 "java/lang/IllegalStateException" xnm, vx_ot w = true := by decide +kernel
theorem fit_n : ∀ q ∈ xnm, Bundle.fit q = true := by decide +kernel
/-- what a throw leaves: the class thrown is one of TH, the state is as it was -/
abbrev kX (D : va_G) (cs : Nat → ClassId) (base n : Nat) (ad : Nat → Nat) (I : tI) (L : tL) (TH : String → Prop) : String → State → State → Prop := vx_X (fun u : tI × tL => u = (I, L)) (fun E u t => TH E ∧ kA D cs base n ad u t) (fun q => base ≤ q)
section KX
variable {p : Program} {l : Launch} {e : Env} {R : Room} {s : State} {m : MethodId} {args : Array Value} {below : List Frame} {meth : Method} {c : Code} {H : Heap} {locs : List Loc} {cells slots : Nat}
variable {pc : Nat} {ls : Array Slot} {rest st0 : List Value} {D : va_G} {cs : Nat → ClassId} {base : Nat} {n : Nat} {ad : Nat → Nat} {mc ms mc2 ms2 : Nat} {a : Array Value} {I : tI} {L : tL} {TH TH2 : String → Prop} {Qc : Array Value → State → Outcome → State → Prop}
theorem kX_mk (hR : tR D vwCl base ad (tC (wP n ad cs) I L) H) (hS : va_S (fun q => base ≤ q) s.heap H locs) {E : String} (hT : TH E) : ∀ t : State, s.vm.Alike t.vm → H.size ≤ t.heap.size → (∀ q : Nat, q < H.size → t.heap[q]? = H[q]?) → kX D cs base n ad I L TH E s t :=
  fun t _ hz hk => ⟨(I, L), rfl, ⟨hT, hR.kept hk⟩, Nat.le_trans hS.1 hz, fun q h1 h2 => (hk q (Nat.lt_of_lt_of_le h1 hS.1)).trans (hS.2.1 q h1 h2)⟩
theorem kX_to (hR : tR D vwCl base ad (tC (wP n ad cs) I L) H) (hS : va_S (fun q => base ≤ q) s.heap H locs) {E : String} (hT : TH E) : ∀ t : State, t.heap = H → s.vm.Alike t.vm → kX D cs base n ad I L TH E s t :=
  fun t ht hv => kX_mk hR hS hT t hv (by rw [ht]; exact Nat.le_refl _) (fun q _ => by rw [ht])
/-- a call that may throw; what is thrown goes on to the caller -/
theorem kt_v {post : tI × tL → Prop} (hr : vx_Run p l e R s m args below meth c H locs cells slots mc ms (F0 m pc ls st0) rest (va_Qv post (kA D cs base n ad) (fun q => base ≤ q) a) (kX D cs base n ad I L TH) (fun q => base ≤ q)) (hS : va_S (fun q => base ≤ q) s.heap H locs) (htab : ∀ x ∈ c.exceptionTable.toList, False) (hlocks : meth.locks = false) (hT : ∀ E, TH E → TH2 E) (hc : cells + mc ≤ mc2) (hs : slots + ms ≤ ms2)
    (kk : ∀ (u : tI × tL) (H1 : Heap) (locs1 : List Loc), post u → tR D vwCl base ad (tC (wP n ad cs) u.1 u.2) H1 → va_S (fun q => base ≤ q) s.heap H1 locs1 → W p l e R s m args below meth c H1 locs1 (cells + mc) (slots + ms) (vx_MQ below Qc (kX D cs base n ad I L TH2) args s mc2 ms2 (fun q => base ≤ q)) (F0 m (pc + 3) ls rest)) :
    W p l e R s m args below meth c H locs cells slots (vx_MQ below Qc (kX D cs base n ad I L TH2) args s mc2 ms2 (fun q => base ≤ q)) (F0 m pc ls st0) :=
  vx_callv hr hS (fun _ _ h => h) (fun _ h => h) (fun _ _ h => h)
    (fun E ce q9 u t H1 locs1 ht hv hu hB _ _ hS1 hce hcv hcl => by
      subst hu
      exact vx_out (fun x h => (htab x h).elim) hlocks hce hcv hcl (kX_to (by rw [← ht]; exact hB.2) hS1 (hT E hB.1)) hS1.2.2 hc hs)
    (fun u t H1 locs1 ht _ hw hB _ _ hS1 => kk u H1 locs1 hw (by rw [← ht]; exact hB) hS1)
end KX
/-- small numbers in what is given -/
def inN (N : Nat) (x : Int32) : Prop := ∃ j, j < N ∧ x = nI j
theorem inN_neg {N : Nat} {x : Int32} (hN : N < 2 ^ 31) (h : x < 0) : ¬ inN N x := fun ⟨j, hj, e⟩ => by rw [e] at h; exact absurd h (nI_pos (by omega))
theorem inN_ge {N M : Nat} {x : Int32} (hN : N < 2 ^ 31) (hM : N ≤ M) (hM2 : M < 2 ^ 31) (h : nI M ≤ x) : ¬ inN N x := fun ⟨j, hj, e⟩ => by
  rw [e] at h
  have := (nI_leI hM2 (by omega)).mp h
  omega
theorem inN_of {N : Nat} {x : Int32} (hN : N < 2 ^ 31) (h0 : ¬ x < 0) (h : ¬ nI N ≤ x) : inN N x := by
  obtain ⟨j, hj, e⟩ := nI_of h0
  refine ⟨j, ?_, e⟩
  rcases Nat.lt_or_ge j N with q | q
  · exact q
  · exact absurd (by rw [e]; exact nI_le q hj) h
theorem i_nlt {a b : Int32} (h : ¬ a < b) : b ≤ a := by
  rw [Int32.lt_iff_toInt_lt] at h
  rw [Int32.le_iff_toInt_le]
  omega
theorem i_nle {a b : Int32} (h : ¬ a ≤ b) : b < a := by
  rw [Int32.le_iff_toInt_le] at h
  rw [Int32.lt_iff_toInt_lt]
  omega
theorem i_lt_n {a b : Int32} (h : a < b) : ¬ b ≤ a := by
  rw [Int32.lt_iff_toInt_lt] at h
  rw [Int32.le_iff_toInt_le]
  omega
