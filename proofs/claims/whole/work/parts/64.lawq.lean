/-! ONE CALL ON BOTH SIDES -/
theorem pM1 {I : tI} {L : tL} {P1 P2 P3 : Prop} {N : Int32 → tI × tL → Prop} {r : Int32} {u : tI × tL} (h : pM I L P1 P2 P3 N r u) (p : P1) : u = (gT I 1, L) := by
  rcases h with ⟨_, _, h⟩ | ⟨q, _⟩ | ⟨q, _⟩ | ⟨q, _⟩
  · exact h
  all_goals exact absurd p q
theorem pM2 {I : tI} {L : tL} {P1 P2 P3 : Prop} {N : Int32 → tI × tL → Prop} {r : Int32} {u : tI × tL} (h : pM I L P1 P2 P3 N r u) (n1 : ¬ P1) (p : P2) : u = (gT I 2, L) := by
  rcases h with ⟨q, _⟩ | ⟨_, _, _, h⟩ | ⟨_, q, _⟩ | ⟨_, q, _⟩
  · exact absurd q n1
  · exact h
  all_goals exact absurd p q
theorem pM3 {I : tI} {L : tL} {P1 P2 P3 : Prop} {N : Int32 → tI × tL → Prop} {r : Int32} {u : tI × tL} (h : pM I L P1 P2 P3 N r u) (n1 : ¬ P1) (n2 : ¬ P2) (p : P3) : u = (gT I 3, L) := by
  rcases h with ⟨q, _⟩ | ⟨_, q, _⟩ | ⟨_, _, _, _, h⟩ | ⟨_, _, q, _⟩
  · exact absurd q n1
  · exact absurd q n2
  · exact h
  · exact absurd p q
theorem pM0 {I : tI} {L : tL} {P1 P2 P3 : Prop} {N : Int32 → tI × tL → Prop} {r : Int32} {u : tI × tL} (h : pM I L P1 P2 P3 N r u) (n1 : ¬ P1) (n2 : ¬ P2) (n3 : ¬ P3) : N r u := by
  rcases h with ⟨q, _⟩ | ⟨_, q, _⟩ | ⟨_, _, q, _⟩ | ⟨_, _, _, h⟩
  · exact absurd q n1
  · exact absurd q n2
  · exact absurd q n3
  · exact h
theorem nI_m1 {k : Nat} (h : k < 2 ^ 31) : ¬ -1 = nI k := fun q => nI_pos h (by rw [← q]; decide)
section LQ
variable {n B : Nat} {se : Int32} {nd no : Nat} {f la : Nat → Nat} {ph : Nat → Int32} {w : Nat → Nat → Nat} {ea lt le mo : Nat → Nat} {bu ev sd sv : Nat} {Y : Nat → Nat → Nat} {st : Nat → Int64} {Rw : Nat → Nat → Nat → Nat} {kp sp : Nat} {Ys : Nat → Nat → Nat → Nat} {ss : Nat → Nat → Int64} {Rs : Nat → Nat → Nat → Nat → Nat} {ks ps : Nat → Nat} {I : tI} {L : tL} {p0 p1 p2 p3 r r2 r9 x9 : Int32} {u2 v v9 : tI × tL} {y9 : Int64}
theorem fr_gen (hM : lM n B se nd no f la ph w ea lt le mo bu ev sd sv Y st Rw kp sp Ys ss Rs ks ps I L) (hI : ∀ k, 200 ≤ k → v.1 k = I k) (hL : ∀ k, 200 ≤ k → v.2 k = L k) (hv : v9 = (v.1, va_up v.2 220 (vp_updL (v.2 220) 0 y9))) : lM n B se nd no f la ph w ea lt le mo bu ev sd sv Y st Rw kp sp Ys ss Rs ks ps v9.1 v9.2 := by
  subst hv
  exact hM.of (fun k h => hI k h) (fun k h h2 => (va_up_ne _ _ h2).trans (hL k h))
theorem lW_any {ph' : Nat → Int32} {bu' ev' : Nat} (h : lW n B nd no f la ph w ea lt le mo bu ev sd sv Y st Rw kp sp Ys ss Rs ks ps) : lW n B nd no f la ph' w ea lt le mo bu' ev' sd sv Y st Rw kp sp Ys ss Rs ks ps := h
theorem fr_T (hM : lM n B se nd no f la ph w ea lt le mo bu ev sd sv Y st Rw kp sp Ys ss Rs ks ps I L) (hv : v9 = (I, L)) : lM n B se nd no f la ph w ea lt le mo bu ev sd sv Y st Rw kp sp Ys ss Rs ks ps v9.1 v9.2 := by subst hv; exact hM
theorem fin_n (hW : lW n (B + 100) nd no f la ph w ea lt le mo bu ev sd sv Y st Rw kp sp Ys ss Rs ks ps) (hK : lK n se nd no f la ph w ea lt le mo bu ev sd sv Y st Rw kp sp Ys ss Rs ks ps v.1 v.2) (hM : lM n (B + 100) se nd no f la ph w ea lt le mo bu ev sd sv Y st Rw kp sp Ys ss Rs ks ps u2.1 u2.2) (hI : ∀ k, k < 200 → u2.1 k = v9.1 k) (hL : ∀ k, k < 200 → u2.2 k = v9.2 k) (h2 : u2.2 220 = v9.2 220) (h0 : u2.1 200 0 = 0) (hv : v9 = (v.1, va_up v.2 220 (vp_updL (v.2 220) 0 r9.toInt64))) (hr : r9 = r2) : u2.1 200 0 = 0 ∧ ((0 : Int32) = 0 → u2.2 220 0 = r2.toInt64) ∧ lJ n (B + 100) se u2.1 u2.2 := by
  subst hv
  subst hr
  refine ⟨h0, fun _ => ?_, _, _, _, _, _, _, _, _, _, _, _, _, _, _, _, _, _, _, _, _, _, _, _, _, hW, hK.of hW.d8 hM.n4.1 hM.n4.2.1 (fun k hk => hI k hk) (fun k hk => (hL k hk).trans (va_up_ne _ _ (by omega))), hM⟩
  rw [h2]
  show va_up v.2 220 (vp_updL (v.2 220) 0 r9.toInt64) 220 0 = _
  rw [va_up_self]
  unfold vp_updL
  rw [if_pos rfl]
theorem fin_r (hW : lW n B nd no f la ph w ea lt le mo bu ev sd sv Y st Rw kp sp Ys ss Rs ks ps) (hK : lK n se nd no f la ph w ea lt le mo bu ev sd sv Y st Rw kp sp Ys ss Rs ks ps I L) (hM : lM n B se nd no f la ph w ea lt le mo bu ev sd sv Y st Rw kp sp Ys ss Rs ks ps I L) (hv : v9 = (I, va_up L 220 (vp_updL (L 220) 0 r9.toInt64))) (hr : r9 = r2) (hu : u2 = (gT v9.1 0, v9.2)) : u2.1 200 0 = 0 ∧ ((0 : Int32) = 0 → u2.2 220 0 = r2.toInt64) ∧ lJ n (B + 100) se u2.1 u2.2 := by
  have hM9 := fr_gen (v := (I, L)) hM (fun _ _ => rfl) (fun _ _ => rfl) hv
  subst hu
  exact fin_n (v := (I, L)) (hW.up (by omega)) hK ((hM9.gT 0).up (by omega)) (fun k hk => gT_ne v9.1 0 (by omega)) (fun _ _ => rfl) rfl (gT_0 v9.1 0) hv hr
theorem fr_date (hW : lW n B nd no f la ph w ea lt le mo bu ev sd sv Y st Rw kp sp Ys ss Rs ks ps) (hK : lK n se nd no f la ph w ea lt le mo bu ev sd sv Y st Rw kp sp Ys ss Rs ks ps I L) (hM : lM n B se nd no f la ph w ea lt le mo bu ev sd sv Y st Rw kp sp Ys ss Rs ks ps I L) (hw : (r = 0 ∧ ∃ (r9 : Int32) (v : tI × tL), (fun (r : Int32) (u : tI × tL) => dOk p0 p1 ∧ nd < 8 ∧ r = nI nd ∧ u = (gAD (gF I) nd p0 p1, L)) r9 v ∧ v9 = (v.1, va_up v.2 220 (vp_updL (v.2 220) 0 r9.toInt64))) ∨ (r = 1 ∧ (fun E => (E = eI ∧ ¬ dOk p0 p1) ∨ (E = eS ∧ dOk p0 p1 ∧ ¬ nd < 8)) eI ∧ v9 = (I, L)) ∨ (r = 2 ∧ (fun E => (E = eI ∧ ¬ dOk p0 p1) ∨ (E = eS ∧ dOk p0 p1 ∧ ¬ nd < 8)) eS ∧ v9 = (I, L))) : lM n B se nd no f la ph w ea lt le mo bu ev sd sv Y st Rw kp sp Ys ss Rs ks ps v9.1 v9.2 := by
  rcases hw with ⟨rfl, r9, v, hp, hv⟩ | ⟨rfl, ht, hv⟩ | ⟨rfl, ht, hv⟩
  · try dsimp only at hp
    obtain ⟨hdk, hd, hr, rfl⟩ := hp
    have hdk0 := hdk
    obtain ⟨⟨a, ha, rfl⟩, ⟨b, hb, rfl⟩, h1, h2⟩ := hdk
    obtain ⟨h3, h4⟩ := dOk_n ha hb h1 h2
    have hc := cl_date (a := a) (b := b) hd hK
    exact fr_gen hM hc.2 (fun _ _ => rfl) hv
  · exact fr_T hM hv
  · exact fr_T hM hv
theorem op_date (hW : lW n B nd no f la ph w ea lt le mo bu ev sd sv Y st Rw kp sp Ys ss Rs ks ps) (hK : lK n se nd no f la ph w ea lt le mo bu ev sd sv Y st Rw kp sp Ys ss Rs ks ps I L) (hM : lM n B se nd no f la ph w ea lt le mo bu ev sd sv Y st Rw kp sp Ys ss Rs ks ps I L) (hw : (r = 0 ∧ ∃ (r9 : Int32) (v : tI × tL), (fun (r : Int32) (u : tI × tL) => dOk p0 p1 ∧ nd < 8 ∧ r = nI nd ∧ u = (gAD (gF I) nd p0 p1, L)) r9 v ∧ v9 = (v.1, va_up v.2 220 (vp_updL (v.2 220) 0 r9.toInt64))) ∨ (r = 1 ∧ (fun E => (E = eI ∧ ¬ dOk p0 p1) ∨ (E = eS ∧ dOk p0 p1 ∧ ¬ nd < 8)) eI ∧ v9 = (I, L)) ∨ (r = 2 ∧ (fun E => (E = eI ∧ ¬ dOk p0 p1) ∨ (E = eS ∧ dOk p0 p1 ∧ ¬ nd < 8)) eS ∧ v9 = (I, L))) (hm : pM v9.1 v9.2 (¬ dOk p0 p1) (¬ nd < 8) False (fun r u => r = nI nd ∧ u = (gG (gMD (gT v9.1 0) nd p0 p1), v9.2)) r2 u2) : u2.1 200 0 = r ∧ (r = 0 → u2.2 220 0 = r2.toInt64) ∧ lJ n (B + 100) se u2.1 u2.2 := by
  rcases hw with ⟨rfl, r9, v, hp, hv⟩ | ⟨rfl, ht, hv⟩ | ⟨rfl, ht, hv⟩
  · try dsimp only at hp
    obtain ⟨hdk, hd, hr, rfl⟩ := hp
    have hdk0 := hdk
    obtain ⟨⟨a, ha, rfl⟩, ⟨b, hb, rfl⟩, h1, h2⟩ := hdk
    obtain ⟨h3, h4⟩ := dOk_n ha hb h1 h2
    have hc := cl_date (a := a) (b := b) hd hK
    have hM9 := fr_gen hM hc.2 (fun _ _ => rfl) hv
    obtain ⟨hr2, rfl⟩ := pM0 hm (fun q => q hdk0) (fun q => q hd) id
    have hm9 := mo_date (a := a) (b := b) hd hM9
    exact fin_n (lW_F (wf_date hd hW.1 h3 (by omega) h4)) hc.1 (hm9.1.up (by omega)) hm9.2.1 (fun _ _ => rfl) rfl hm9.2.2 hv (hr.trans hr2.symm)
  · subst hv
    try dsimp only at ht
    rcases ht with ⟨he, h⟩ | ⟨he, h⟩
    · obtain rfl := pM1 hm h
      exact ⟨gT_0 I 1, fun q => absurd q (by decide), lJ_T hW hK hM 1⟩
    · exact absurd he (by decide)
  · subst hv
    try dsimp only at ht
    rcases ht with ⟨he, h⟩ | ⟨he, h⟩
    · exact absurd he (by decide)
    · obtain rfl := pM2 hm (fun q => q h.1) h.2
      exact ⟨gT_0 I 2, fun q => absurd q (by decide), lJ_T hW hK hM 2⟩
theorem fr_weight (hW : lW n B nd no f la ph w ea lt le mo bu ev sd sv Y st Rw kp sp Ys ss Rs ks ps) (hK : lK n se nd no f la ph w ea lt le mo bu ev sd sv Y st Rw kp sp Ys ss Rs ks ps I L) (hM : lM n B se nd no f la ph w ea lt le mo bu ev sd sv Y st Rw kp sp Ys ss Rs ks ps I L) (hw : (r = 0 ∧ ∃ (r9 : Int32) (v : tI × tL), (fun (r : Int32) (u : tI × tL) => inR 1 1000 p2 ∧ ∃ d j, d < nd ∧ p0 = nI d ∧ p1 = nI (f d + j) ∧ f d + j ≤ la d ∧ r = nI (w d j) ∧ u = (va_up (gF I) (10 + d) (upd (gF I (10 + d)) j p2), L)) r9 v ∧ v9 = (v.1, va_up v.2 220 (vp_updL (v.2 220) 0 r9.toInt64))) ∨ (r = 1 ∧ (fun E => (E = eN ∧ ¬ yOk nd f la p0 p1) ∨ (E = eI ∧ yOk nd f la p0 p1 ∧ ¬ inR 1 1000 p2)) eN ∧ v9 = (I, L)) ∨ (r = 2 ∧ (fun E => (E = eN ∧ ¬ yOk nd f la p0 p1) ∨ (E = eI ∧ yOk nd f la p0 p1 ∧ ¬ inR 1 1000 p2)) eI ∧ v9 = (I, L))) : lM n B se nd no f la ph w ea lt le mo bu ev sd sv Y st Rw kp sp Ys ss Rs ks ps v9.1 v9.2 := by
  rcases hw with ⟨rfl, r9, v, hp, hv⟩ | ⟨rfl, ht, hv⟩ | ⟨rfl, ht, hv⟩
  · try dsimp only at hp
    obtain ⟨⟨x, hx1, hx2, rfl⟩, d, j, hd, rfl, rfl, hj, hr, rfl⟩ := hp
    obtain ⟨t1, t2, t3, _⟩ := hW.1.2.2.1 d hd
    have h8 := hW.d8
    have hc := cl_weight (d := d) (j := j) (x := x) h8 hd (by omega) hK
    exact fr_gen hM hc.2 (fun _ _ => rfl) hv
  · exact fr_T hM hv
  · exact fr_T hM hv
theorem op_weight (hW : lW n B nd no f la ph w ea lt le mo bu ev sd sv Y st Rw kp sp Ys ss Rs ks ps) (hK : lK n se nd no f la ph w ea lt le mo bu ev sd sv Y st Rw kp sp Ys ss Rs ks ps I L) (hM : lM n B se nd no f la ph w ea lt le mo bu ev sd sv Y st Rw kp sp Ys ss Rs ks ps I L) (hw : (r = 0 ∧ ∃ (r9 : Int32) (v : tI × tL), (fun (r : Int32) (u : tI × tL) => inR 1 1000 p2 ∧ ∃ d j, d < nd ∧ p0 = nI d ∧ p1 = nI (f d + j) ∧ f d + j ≤ la d ∧ r = nI (w d j) ∧ u = (va_up (gF I) (10 + d) (upd (gF I (10 + d)) j p2), L)) r9 v ∧ v9 = (v.1, va_up v.2 220 (vp_updL (v.2 220) 0 r9.toInt64))) ∨ (r = 1 ∧ (fun E => (E = eN ∧ ¬ yOk nd f la p0 p1) ∨ (E = eI ∧ yOk nd f la p0 p1 ∧ ¬ inR 1 1000 p2)) eN ∧ v9 = (I, L)) ∨ (r = 2 ∧ (fun E => (E = eN ∧ ¬ yOk nd f la p0 p1) ∨ (E = eI ∧ yOk nd f la p0 p1 ∧ ¬ inR 1 1000 p2)) eI ∧ v9 = (I, L))) (hm : pM v9.1 v9.2 (¬ yOk nd f la p0 p1) (¬ inR 1 1000 p2) False (fun r u => ∃ d j, d < nd ∧ p0 = nI d ∧ p1 = nI (f d + j) ∧ f d + j ≤ la d ∧ r = nI (w d j) ∧ u = (gG (va_up (gT v9.1 0) 203 (upd (gT v9.1 0 203) (64 * d + j) p2)), v9.2)) r2 u2) : u2.1 200 0 = r ∧ (r = 0 → u2.2 220 0 = r2.toInt64) ∧ lJ n (B + 100) se u2.1 u2.2 := by
  rcases hw with ⟨rfl, r9, v, hp, hv⟩ | ⟨rfl, ht, hv⟩ | ⟨rfl, ht, hv⟩
  · try dsimp only at hp
    obtain ⟨⟨x, hx1, hx2, rfl⟩, d, j, hd, rfl, rfl, hj, hr, rfl⟩ := hp
    obtain ⟨t1, t2, t3, _⟩ := hW.1.2.2.1 d hd
    have h8 := hW.d8
    have hc := cl_weight (d := d) (j := j) (x := x) h8 hd (by omega) hK
    have hM9 := fr_gen hM hc.2 (fun _ _ => rfl) hv
    obtain ⟨d', j', hd', e1, e2, hj', hr2, rfl⟩ := pM0 hm (fun q => q ⟨⟨d, hd, rfl⟩, d, j, hd, rfl, rfl, hj⟩) (fun q => q ⟨x, hx1, hx2, rfl⟩) id
    obtain rfl := (nI_eq (by omega) (by omega)).mp e1
    have ej := (nI_eq (by omega) (by omega)).mp e2
    obtain rfl : j = j' := by omega
    have hm9 := mo_weight (d := d) (j := j) (x := x) hd (by omega) hM9
    exact fin_n (lW_F (wf_weight hW.1 hx1 hx2)) hc.1 (hm9.1.up (by omega)) hm9.2.1 (fun _ _ => rfl) rfl hm9.2.2 hv (hr.trans hr2.symm)
  · subst hv
    try dsimp only at ht
    rcases ht with ⟨he, h⟩ | ⟨he, h⟩
    · obtain rfl := pM1 hm h
      exact ⟨gT_0 I 1, fun q => absurd q (by decide), lJ_T hW hK hM 1⟩
    · exact absurd he (by decide)
  · subst hv
    try dsimp only at ht
    rcases ht with ⟨he, h⟩ | ⟨he, h⟩
    · exact absurd he (by decide)
    · obtain rfl := pM2 hm (fun q => q h.1) h.2
      exact ⟨gT_0 I 2, fun q => absurd q (by decide), lJ_T hW hK hM 2⟩
theorem fr_before (hW : lW n B nd no f la ph w ea lt le mo bu ev sd sv Y st Rw kp sp Ys ss Rs ks ps) (hK : lK n se nd no f la ph w ea lt le mo bu ev sd sv Y st Rw kp sp Ys ss Rs ks ps I L) (hM : lM n B se nd no f la ph w ea lt le mo bu ev sd sv Y st Rw kp sp Ys ss Rs ks ps I L) (hw : (r = 0 ∧ ∃ (r9 : Int32) (v : tI × tL), (fun (r : Int32) (u : tI × tL) => bOk nd p0 p1 ∧ bOk2 p0 p1 p2 p3 ∧ no < 24 ∧ r = nI no ∧ u = (gAO (gF I) no p0 p1 p2 p3, L)) r9 v ∧ v9 = (v.1, va_up v.2 220 (vp_updL (v.2 220) 0 r9.toInt64))) ∨ (r = 1 ∧ (fun E => (E = eN ∧ ¬ bOk nd p0 p1) ∨ (E = eI ∧ bOk nd p0 p1 ∧ ¬ bOk2 p0 p1 p2 p3) ∨ (E = eS ∧ bOk nd p0 p1 ∧ bOk2 p0 p1 p2 p3 ∧ ¬ no < 24)) eN ∧ v9 = (I, L)) ∨ (r = 2 ∧ (fun E => (E = eN ∧ ¬ bOk nd p0 p1) ∨ (E = eI ∧ bOk nd p0 p1 ∧ ¬ bOk2 p0 p1 p2 p3) ∨ (E = eS ∧ bOk nd p0 p1 ∧ bOk2 p0 p1 p2 p3 ∧ ¬ no < 24)) eI ∧ v9 = (I, L)) ∨ (r = 3 ∧ (fun E => (E = eN ∧ ¬ bOk nd p0 p1) ∨ (E = eI ∧ bOk nd p0 p1 ∧ ¬ bOk2 p0 p1 p2 p3) ∨ (E = eS ∧ bOk nd p0 p1 ∧ bOk2 p0 p1 p2 p3 ∧ ¬ no < 24)) eS ∧ v9 = (I, L))) : lM n B se nd no f la ph w ea lt le mo bu ev sd sv Y st Rw kp sp Ys ss Rs ks ps v9.1 v9.2 := by
  rcases hw with ⟨rfl, r9, v, hp, hv⟩ | ⟨rfl, ht, hv⟩ | ⟨rfl, ht, hv⟩ | ⟨rfl, ht, hv⟩
  · try dsimp only at hp
    obtain ⟨hb1, hb2, hno, hr, rfl⟩ := hp
    have hb10 := hb1
    have hb20 := hb2
    obtain ⟨⟨x0, h0, rfl⟩, ⟨x1, h1, rfl⟩⟩ := hb1
    obtain ⟨⟨x2, h2, rfl⟩, ⟨x3, h3, rfl⟩, hne, hle⟩ := hb2
    have h8 := hW.d8
    have hc := cl_before (x0 := x0) (x1 := x1) (x2 := x2) (x3 := x3) h8 hK
    exact fr_gen hM hc.2 (fun _ _ => rfl) hv
  · exact fr_T hM hv
  · exact fr_T hM hv
  · exact fr_T hM hv
theorem op_before (hW : lW n B nd no f la ph w ea lt le mo bu ev sd sv Y st Rw kp sp Ys ss Rs ks ps) (hK : lK n se nd no f la ph w ea lt le mo bu ev sd sv Y st Rw kp sp Ys ss Rs ks ps I L) (hM : lM n B se nd no f la ph w ea lt le mo bu ev sd sv Y st Rw kp sp Ys ss Rs ks ps I L) (hw : (r = 0 ∧ ∃ (r9 : Int32) (v : tI × tL), (fun (r : Int32) (u : tI × tL) => bOk nd p0 p1 ∧ bOk2 p0 p1 p2 p3 ∧ no < 24 ∧ r = nI no ∧ u = (gAO (gF I) no p0 p1 p2 p3, L)) r9 v ∧ v9 = (v.1, va_up v.2 220 (vp_updL (v.2 220) 0 r9.toInt64))) ∨ (r = 1 ∧ (fun E => (E = eN ∧ ¬ bOk nd p0 p1) ∨ (E = eI ∧ bOk nd p0 p1 ∧ ¬ bOk2 p0 p1 p2 p3) ∨ (E = eS ∧ bOk nd p0 p1 ∧ bOk2 p0 p1 p2 p3 ∧ ¬ no < 24)) eN ∧ v9 = (I, L)) ∨ (r = 2 ∧ (fun E => (E = eN ∧ ¬ bOk nd p0 p1) ∨ (E = eI ∧ bOk nd p0 p1 ∧ ¬ bOk2 p0 p1 p2 p3) ∨ (E = eS ∧ bOk nd p0 p1 ∧ bOk2 p0 p1 p2 p3 ∧ ¬ no < 24)) eI ∧ v9 = (I, L)) ∨ (r = 3 ∧ (fun E => (E = eN ∧ ¬ bOk nd p0 p1) ∨ (E = eI ∧ bOk nd p0 p1 ∧ ¬ bOk2 p0 p1 p2 p3) ∨ (E = eS ∧ bOk nd p0 p1 ∧ bOk2 p0 p1 p2 p3 ∧ ¬ no < 24)) eS ∧ v9 = (I, L))) (hm : pM v9.1 v9.2 (¬ bOk nd p0 p1) (¬ bOk2 p0 p1 p2 p3) (¬ no < 24) (fun r u => r = nI no ∧ u = (gG (gMO (gT v9.1 0) no p0 p1 p2 p3), v9.2)) r2 u2) : u2.1 200 0 = r ∧ (r = 0 → u2.2 220 0 = r2.toInt64) ∧ lJ n (B + 100) se u2.1 u2.2 := by
  rcases hw with ⟨rfl, r9, v, hp, hv⟩ | ⟨rfl, ht, hv⟩ | ⟨rfl, ht, hv⟩ | ⟨rfl, ht, hv⟩
  · try dsimp only at hp
    obtain ⟨hb1, hb2, hno, hr, rfl⟩ := hp
    have hb10 := hb1
    have hb20 := hb2
    obtain ⟨⟨x0, h0, rfl⟩, ⟨x1, h1, rfl⟩⟩ := hb1
    obtain ⟨⟨x2, h2, rfl⟩, ⟨x3, h3, rfl⟩, hne, hle⟩ := hb2
    have h8 := hW.d8
    have hc := cl_before (x0 := x0) (x1 := x1) (x2 := x2) (x3 := x3) h8 hK
    have hM9 := fr_gen hM hc.2 (fun _ _ => rfl) hv
    obtain ⟨hr2, rfl⟩ := pM0 hm (fun q => q hb10) (fun q => q hb20) (fun q => q hno)
    have hm9 := mo_before (x0 := x0) (x1 := x1) (x2 := x2) (x3 := x3) hM9
    exact fin_n (lW_F (wf_before hW.1 hno h0 h1 (fun q => hne (by rw [q])) ((nI_leI (by omega) (by omega)).mp hle) (by omega))) hc.1 (hm9.1.up (by omega)) hm9.2.1 (fun _ _ => rfl) rfl hm9.2.2 hv (hr.trans hr2.symm)
  · subst hv
    try dsimp only at ht
    rcases ht with ⟨he, h⟩ | ⟨he, h⟩ | ⟨he, h⟩
    · obtain rfl := pM1 hm h
      exact ⟨gT_0 I 1, fun q => absurd q (by decide), lJ_T hW hK hM 1⟩
    · exact absurd he (by decide)
    · exact absurd he (by decide)
  · subst hv
    try dsimp only at ht
    rcases ht with ⟨he, h⟩ | ⟨he, h⟩ | ⟨he, h⟩
    · exact absurd he (by decide)
    · obtain rfl := pM2 hm (fun q => q h.1) h.2
      exact ⟨gT_0 I 2, fun q => absurd q (by decide), lJ_T hW hK hM 2⟩
    · exact absurd he (by decide)
  · subst hv
    try dsimp only at ht
    rcases ht with ⟨he, h⟩ | ⟨he, h⟩ | ⟨he, h⟩
    · exact absurd he (by decide)
    · exact absurd he (by decide)
    · obtain rfl := pM3 hm (fun q => q h.1) (fun q => q h.2.1) h.2.2
      exact ⟨gT_0 I 3, fun q => absurd q (by decide), lJ_T hW hK hM 3⟩
theorem fr_member (hW : lW n B nd no f la ph w ea lt le mo bu ev sd sv Y st Rw kp sp Ys ss Rs ks ps) (hK : lK n se nd no f la ph w ea lt le mo bu ev sd sv Y st Rw kp sp Ys ss Rs ks ps I L) (hM : lM n B se nd no f la ph w ea lt le mo bu ev sd sv Y st Rw kp sp Ys ss Rs ks ps I L) (hw : (r = 0 ∧ ∃ (r9 : Int32) (v : tI × tL), (fun (r : Int32) (u : tI × tL) => mOk nd p0 p1 ∧ ∃ d, d < nd ∧ p0 = nI d ∧ r = ph d ∧ u = (va_up I 4 (upd (I 4) d p1), L)) r9 v ∧ v9 = (v.1, va_up v.2 220 (vp_updL (v.2 220) 0 r9.toInt64))) ∨ (r = 1 ∧ (fun E => E = eN ∧ ¬ mOk nd p0 p1) eN ∧ v9 = (I, L))) : lM n B se nd no f la ph w ea lt le mo bu ev sd sv Y st Rw kp sp Ys ss Rs ks ps v9.1 v9.2 := by
  rcases hw with ⟨rfl, r9, v, hp, hv⟩ | ⟨rfl, ht, hv⟩
  · try dsimp only at hp
    obtain ⟨hmk, d, hd, rfl, hr, rfl⟩ := hp
    have h8 := hW.d8
    have hc := cl_member (d := d) (x := p1) hM.n4.1 hM.n4.2.1 h8 hd hK
    exact fr_gen hM hc.2 (fun _ _ => rfl) hv
  · exact fr_T hM hv
theorem op_member (hW : lW n B nd no f la ph w ea lt le mo bu ev sd sv Y st Rw kp sp Ys ss Rs ks ps) (hK : lK n se nd no f la ph w ea lt le mo bu ev sd sv Y st Rw kp sp Ys ss Rs ks ps I L) (hM : lM n B se nd no f la ph w ea lt le mo bu ev sd sv Y st Rw kp sp Ys ss Rs ks ps I L) (hw : (r = 0 ∧ ∃ (r9 : Int32) (v : tI × tL), (fun (r : Int32) (u : tI × tL) => mOk nd p0 p1 ∧ ∃ d, d < nd ∧ p0 = nI d ∧ r = ph d ∧ u = (va_up I 4 (upd (I 4) d p1), L)) r9 v ∧ v9 = (v.1, va_up v.2 220 (vp_updL (v.2 220) 0 r9.toInt64))) ∨ (r = 1 ∧ (fun E => E = eN ∧ ¬ mOk nd p0 p1) eN ∧ v9 = (I, L))) (hm : pM v9.1 v9.2 (¬ mOk nd p0 p1) False False (fun r u => ∃ d, d < nd ∧ p0 = nI d ∧ r = ph d ∧ u = (va_up (gT v9.1 0) 204 (upd (gT v9.1 0 204) d p1), v9.2)) r2 u2) : u2.1 200 0 = r ∧ (r = 0 → u2.2 220 0 = r2.toInt64) ∧ lJ n (B + 100) se u2.1 u2.2 := by
  rcases hw with ⟨rfl, r9, v, hp, hv⟩ | ⟨rfl, ht, hv⟩
  · try dsimp only at hp
    obtain ⟨hmk, d, hd, rfl, hr, rfl⟩ := hp
    have h8 := hW.d8
    have hc := cl_member (d := d) (x := p1) hM.n4.1 hM.n4.2.1 h8 hd hK
    have hM9 := fr_gen hM hc.2 (fun _ _ => rfl) hv
    obtain ⟨d', hd', e1, hr2, rfl⟩ := pM0 hm (fun q => q hmk) id id
    obtain rfl := (nI_eq (by omega) (by omega)).mp e1
    have hm9 := mo_member (d := d) (x := p1) hd hM9
    exact fin_n (lW_any (hW.up (B' := B + 100) (by omega))) hc.1 (hm9.1.up (by omega)) hm9.2.1 (fun _ _ => rfl) rfl hm9.2.2 hv (hr.trans hr2.symm)
  · subst hv
    try dsimp only at ht
    obtain ⟨he, h⟩ := ht
    obtain rfl := pM1 hm h
    exact ⟨gT_0 I 1, fun q => absurd q (by decide), lJ_T hW hK hM 1⟩
theorem fr_burn (hW : lW n B nd no f la ph w ea lt le mo bu ev sd sv Y st Rw kp sp Ys ss Rs ks ps) (hK : lK n se nd no f la ph w ea lt le mo bu ev sd sv Y st Rw kp sp Ys ss Rs ks ps I L) (hM : lM n B se nd no f la ph w ea lt le mo bu ev sd sv Y st Rw kp sp Ys ss Rs ks ps I L) (hw : (r = 0 ∧ ∃ (r9 : Int32) (v : tI × tL), (fun (r : Int32) (u : tI × tL) => inR 0 100 p0 ∧ r = I 0 7 ∧ u = (va_up I 0 (upd (I 0) 7 p0), L)) r9 v ∧ v9 = (v.1, va_up v.2 220 (vp_updL (v.2 220) 0 r9.toInt64))) ∨ (r = 1 ∧ (fun E => E = eI ∧ ¬ inR 0 100 p0) eI ∧ v9 = (I, L))) : lM n B se nd no f la ph w ea lt le mo bu ev sd sv Y st Rw kp sp Ys ss Rs ks ps v9.1 v9.2 := by
  rcases hw with ⟨rfl, r9, v, hp, hv⟩ | ⟨rfl, ht, hv⟩
  · try dsimp only at hp
    obtain ⟨⟨x, hx1, hx2, rfl⟩, hr, rfl⟩ := hp
    have hc := cl_burn hM.n4.1 hM.n4.2.1 hW.d8 (x := x) hx2 hK
    exact fr_gen hM hc.2 (fun _ _ => rfl) hv
  · exact fr_T hM hv
theorem op_burn (hW : lW n B nd no f la ph w ea lt le mo bu ev sd sv Y st Rw kp sp Ys ss Rs ks ps) (hK : lK n se nd no f la ph w ea lt le mo bu ev sd sv Y st Rw kp sp Ys ss Rs ks ps I L) (hM : lM n B se nd no f la ph w ea lt le mo bu ev sd sv Y st Rw kp sp Ys ss Rs ks ps I L) (hw : (r = 0 ∧ ∃ (r9 : Int32) (v : tI × tL), (fun (r : Int32) (u : tI × tL) => inR 0 100 p0 ∧ r = I 0 7 ∧ u = (va_up I 0 (upd (I 0) 7 p0), L)) r9 v ∧ v9 = (v.1, va_up v.2 220 (vp_updL (v.2 220) 0 r9.toInt64))) ∨ (r = 1 ∧ (fun E => E = eI ∧ ¬ inR 0 100 p0) eI ∧ v9 = (I, L))) (hm : pM v9.1 v9.2 (¬ inR 0 100 p0) False False (fun r u => r = v9.1 200 13 ∧ u = (va_up (gT v9.1 0) 200 (upd (gT v9.1 0 200) 13 p0), v9.2)) r2 u2) : u2.1 200 0 = r ∧ (r = 0 → u2.2 220 0 = r2.toInt64) ∧ lJ n (B + 100) se u2.1 u2.2 := by
  rcases hw with ⟨rfl, r9, v, hp, hv⟩ | ⟨rfl, ht, hv⟩
  · try dsimp only at hp
    obtain ⟨⟨x, hx1, hx2, rfl⟩, hr, rfl⟩ := hp
    have hc := cl_burn hM.n4.1 hM.n4.2.1 hW.d8 (x := x) hx2 hK
    have hM9 := fr_gen hM hc.2 (fun _ _ => rfl) hv
    obtain ⟨hr2, rfl⟩ := pM0 hm (fun q => q ⟨x, hx1, hx2, rfl⟩) id id
    have hm9 := mo_burn (x := x) hx2 hM9
    exact fin_n (lW_any (hW.up (B' := B + 100) (by omega))) hc.1 (hm9.1.up (by omega)) hm9.2.1 (fun _ _ => rfl) rfl hm9.2.2 hv ((hr.trans hK.2.1.2.1).trans (hr2.trans hM9.2.1.2.2.1).symm)
  · subst hv
    try dsimp only at ht
    obtain ⟨he, h⟩ := ht
    obtain rfl := pM1 hm h
    exact ⟨gT_0 I 1, fun q => absurd q (by decide), lJ_T hW hK hM 1⟩
theorem fr_thin (hW : lW n B nd no f la ph w ea lt le mo bu ev sd sv Y st Rw kp sp Ys ss Rs ks ps) (hK : lK n se nd no f la ph w ea lt le mo bu ev sd sv Y st Rw kp sp Ys ss Rs ks ps I L) (hM : lM n B se nd no f la ph w ea lt le mo bu ev sd sv Y st Rw kp sp Ys ss Rs ks ps I L) (hw : (r = 0 ∧ ∃ (r9 : Int32) (v : tI × tL), (fun (r : Int32) (u : tI × tL) => inR 1 20 p0 ∧ r = I 0 8 ∧ u = (va_up I 0 (upd (I 0) 8 p0), L)) r9 v ∧ v9 = (v.1, va_up v.2 220 (vp_updL (v.2 220) 0 r9.toInt64))) ∨ (r = 1 ∧ (fun E => E = eI ∧ ¬ inR 1 20 p0) eI ∧ v9 = (I, L))) : lM n B se nd no f la ph w ea lt le mo bu ev sd sv Y st Rw kp sp Ys ss Rs ks ps v9.1 v9.2 := by
  rcases hw with ⟨rfl, r9, v, hp, hv⟩ | ⟨rfl, ht, hv⟩
  · try dsimp only at hp
    obtain ⟨⟨x, hx1, hx2, rfl⟩, hr, rfl⟩ := hp
    have hc := cl_thin hM.n4.1 hM.n4.2.1 hW.d8 (x := x) hx1 hx2 hK
    exact fr_gen hM hc.2 (fun _ _ => rfl) hv
  · exact fr_T hM hv
theorem op_thin (hW : lW n B nd no f la ph w ea lt le mo bu ev sd sv Y st Rw kp sp Ys ss Rs ks ps) (hK : lK n se nd no f la ph w ea lt le mo bu ev sd sv Y st Rw kp sp Ys ss Rs ks ps I L) (hM : lM n B se nd no f la ph w ea lt le mo bu ev sd sv Y st Rw kp sp Ys ss Rs ks ps I L) (hw : (r = 0 ∧ ∃ (r9 : Int32) (v : tI × tL), (fun (r : Int32) (u : tI × tL) => inR 1 20 p0 ∧ r = I 0 8 ∧ u = (va_up I 0 (upd (I 0) 8 p0), L)) r9 v ∧ v9 = (v.1, va_up v.2 220 (vp_updL (v.2 220) 0 r9.toInt64))) ∨ (r = 1 ∧ (fun E => E = eI ∧ ¬ inR 1 20 p0) eI ∧ v9 = (I, L))) (hm : pM v9.1 v9.2 (¬ inR 1 20 p0) False False (fun r u => r = v9.1 200 14 ∧ u = (va_up (gT v9.1 0) 200 (upd (gT v9.1 0 200) 14 p0), v9.2)) r2 u2) : u2.1 200 0 = r ∧ (r = 0 → u2.2 220 0 = r2.toInt64) ∧ lJ n (B + 100) se u2.1 u2.2 := by
  rcases hw with ⟨rfl, r9, v, hp, hv⟩ | ⟨rfl, ht, hv⟩
  · try dsimp only at hp
    obtain ⟨⟨x, hx1, hx2, rfl⟩, hr, rfl⟩ := hp
    have hc := cl_thin hM.n4.1 hM.n4.2.1 hW.d8 (x := x) hx1 hx2 hK
    have hM9 := fr_gen hM hc.2 (fun _ _ => rfl) hv
    obtain ⟨hr2, rfl⟩ := pM0 hm (fun q => q ⟨x, hx1, hx2, rfl⟩) id id
    have hm9 := mo_thin (x := x) hx1 hx2 hM9
    exact fin_n (lW_any (hW.up (B' := B + 100) (by omega))) hc.1 (hm9.1.up (by omega)) hm9.2.1 (fun _ _ => rfl) rfl hm9.2.2 hv ((hr.trans hK.2.1.2.2.1).trans (hr2.trans hM9.2.1.2.2.2.1).symm)
  · subst hv
    try dsimp only at ht
    obtain ⟨he, h⟩ := ht
    obtain rfl := pM1 hm h
    exact ⟨gT_0 I 1, fun q => absurd q (by decide), lJ_T hW hK hM 1⟩
theorem fr_run (hW : lW n B nd no f la ph w ea lt le mo bu ev sd sv Y st Rw kp sp Ys ss Rs ks ps) (hK : lK n se nd no f la ph w ea lt le mo bu ev sd sv Y st Rw kp sp Ys ss Rs ks ps I L) (hM : lM n B se nd no f la ph w ea lt le mo bu ev sd sv Y st Rw kp sp Ys ss Rs ks ps I L) (hw : (r = 0 ∧ ∃ (r9 : Int32) (v : tI × tL), (fun (r : Int32) (u : tI × tL) => inN 101 p0 ∧ rOk sd kp bu ev sp p0 ∧ ∃ x, x ≤ 100 ∧ p0 = nI x ∧ r = nI (kp + cK bu ev sp x) ∧ cCo u.1 u.2 n nd 20 (iY nd no f la w ea lt le mo Y st x).1 (iY nd no f la w ea lt le mo Y st x).2 (iR nd no f la w ea lt le mo Y st Rw kp sp bu ev x) (kp + cK bu ev sp x) (sp + x) ∧ (∀ k, (k < 20 ∨ 40 ≤ k) → u.1 k = I k) ∧ ∀ k, k ≠ 22 → u.2 k = L k) r9 v ∧ v9 = (v.1, va_up v.2 220 (vp_updL (v.2 220) 0 r9.toInt64))) ∨ (r = 1 ∧ (fun E => (E = eI ∧ ¬ inN 101 p0) ∨ (E = eS ∧ inN 101 p0 ∧ ¬ rOk sd kp bu ev sp p0)) eI ∧ v9 = (I, L)) ∨ (r = 2 ∧ (fun E => (E = eI ∧ ¬ inN 101 p0) ∨ (E = eS ∧ inN 101 p0 ∧ ¬ rOk sd kp bu ev sp p0)) eS ∧ v9 = (I, L))) : lM n B se nd no f la ph w ea lt le mo bu ev sd sv Y st Rw kp sp Ys ss Rs ks ps v9.1 v9.2 := by
  rcases hw with ⟨rfl, r9, v, hp, hv⟩ | ⟨rfl, ht, hv⟩ | ⟨rfl, ht, hv⟩
  · try dsimp only at hp
    obtain ⟨hin, hrk, x, hx, rfl, hr, hco, hfI, hfL⟩ := hp
    have hrk0 := hrk
    obtain ⟨hsd, hk60⟩ := hrk
    have hc : lK n se nd no f la ph w ea lt le mo bu ev sd sv (iY nd no f la w ea lt le mo Y st x).1 (iY nd no f la w ea lt le mo Y st x).2 (iR nd no f la w ea lt le mo Y st Rw kp sp bu ev x) (kp + cK bu ev sp x) (sp + x) Ys ss Rs ks ps v.1 v.2 ∧ ∀ k, 200 ≤ k → v.1 k = I k := ⟨cl_new hM.n4.1 hM.n4.2.1 hW.d8 hK (fun k _ h => hfI k h) (fun i _ => by rw [hfI 0 (by omega)]) (by rw [hfI 0 (by omega)]; exact hK.2.2.2.1) hfL (fun _ => hco), fun k h => hfI k (by omega)⟩
    exact fr_gen hM hc.2 (fun k h => hfL k (by omega)) hv
  · exact fr_T hM hv
  · exact fr_T hM hv
theorem op_run (hW : lW n B nd no f la ph w ea lt le mo bu ev sd sv Y st Rw kp sp Ys ss Rs ks ps) (hK : lK n se nd no f la ph w ea lt le mo bu ev sd sv Y st Rw kp sp Ys ss Rs ks ps I L) (hM : lM n B se nd no f la ph w ea lt le mo bu ev sd sv Y st Rw kp sp Ys ss Rs ks ps I L) (hw : (r = 0 ∧ ∃ (r9 : Int32) (v : tI × tL), (fun (r : Int32) (u : tI × tL) => inN 101 p0 ∧ rOk sd kp bu ev sp p0 ∧ ∃ x, x ≤ 100 ∧ p0 = nI x ∧ r = nI (kp + cK bu ev sp x) ∧ cCo u.1 u.2 n nd 20 (iY nd no f la w ea lt le mo Y st x).1 (iY nd no f la w ea lt le mo Y st x).2 (iR nd no f la w ea lt le mo Y st Rw kp sp bu ev x) (kp + cK bu ev sp x) (sp + x) ∧ (∀ k, (k < 20 ∨ 40 ≤ k) → u.1 k = I k) ∧ ∀ k, k ≠ 22 → u.2 k = L k) r9 v ∧ v9 = (v.1, va_up v.2 220 (vp_updL (v.2 220) 0 r9.toInt64))) ∨ (r = 1 ∧ (fun E => (E = eI ∧ ¬ inN 101 p0) ∨ (E = eS ∧ inN 101 p0 ∧ ¬ rOk sd kp bu ev sp p0)) eI ∧ v9 = (I, L)) ∨ (r = 2 ∧ (fun E => (E = eI ∧ ¬ inN 101 p0) ∨ (E = eS ∧ inN 101 p0 ∧ ¬ rOk sd kp bu ev sp p0)) eS ∧ v9 = (I, L))) (hm : pM v9.1 v9.2 (¬ inN 101 p0) (¬ rOk sd kp bu ev sp p0) False (fun r u => ∃ x, x ≤ 100 ∧ p0 = nI x ∧ r = nI (kp + cK bu ev sp x) ∧ cMo u.1 u.2 n nd (iY nd no f la w ea lt le mo Y st x).1 (iY nd no f la w ea lt le mo Y st x).2 (iR nd no f la w ea lt le mo Y st Rw kp sp bu ev x) (kp + cK bu ev sp x) (sp + x) ∧ u.1 200 0 = 0 ∧ (∀ k, k ≠ 200 → k ≠ 209 → k ≠ 211 → u.1 k = v9.1 k) ∧ (∀ i, i ≠ 0 → i ≠ 16 → i ≠ 17 → u.1 200 i = v9.1 200 i) ∧ ∀ k, k ≠ 210 → u.2 k = v9.2 k) r2 u2) : u2.1 200 0 = r ∧ (r = 0 → u2.2 220 0 = r2.toInt64) ∧ lJ n (B + 100) se u2.1 u2.2 := by
  rcases hw with ⟨rfl, r9, v, hp, hv⟩ | ⟨rfl, ht, hv⟩ | ⟨rfl, ht, hv⟩
  · try dsimp only at hp
    obtain ⟨hin, hrk, x, hx, rfl, hr, hco, hfI, hfL⟩ := hp
    have hrk0 := hrk
    obtain ⟨hsd, hk60⟩ := hrk
    have hc : lK n se nd no f la ph w ea lt le mo bu ev sd sv (iY nd no f la w ea lt le mo Y st x).1 (iY nd no f la w ea lt le mo Y st x).2 (iR nd no f la w ea lt le mo Y st Rw kp sp bu ev x) (kp + cK bu ev sp x) (sp + x) Ys ss Rs ks ps v.1 v.2 ∧ ∀ k, 200 ≤ k → v.1 k = I k := ⟨cl_new hM.n4.1 hM.n4.2.1 hW.d8 hK (fun k _ h => hfI k h) (fun i _ => by rw [hfI 0 (by omega)]) (by rw [hfI 0 (by omega)]; exact hK.2.2.2.1) hfL (fun _ => hco), fun k h => hfI k (by omega)⟩
    have hM9 := fr_gen hM hc.2 (fun k h => hfL k (by omega)) hv
    obtain ⟨x', hx', e1, hr2, hmo, h0, gI, g9, gL⟩ := pM0 hm (fun q => q hin) (fun q => q hrk0) id
    obtain rfl := (nI_eq (by omega) (by omega)).mp e1
    have hwc := wCo_run (st := st) (bu := bu) (ev := ev) hW.1 (hW.2.1 hsd) hx (hk60 x hx rfl)
    have hm9 := mo_new (B2 := B + 100) (sd2 := sd) hM9 gI (fun i a _ b c => g9 i a b c) ((g9 15 (by omega) (by omega) (by omega)).trans hM9.2.1.2.2.2.2.1) hM9.n4.2.2.1 ⟨sp + x, hmo.2.1, hwc.2.2.1⟩ gL (fun _ => hmo)
    exact fin_n (lW_new hW (by omega) (fun _ => hwc)) hc.1 hm9 (fun k hk => gI k (by omega) (by omega) (by omega)) (fun k hk => gL k (by omega)) (gL 220 (by omega)) h0 hv (hr.trans hr2.symm)
  · subst hv
    try dsimp only at ht
    rcases ht with ⟨he, h⟩ | ⟨he, h⟩
    · obtain rfl := pM1 hm h
      exact ⟨gT_0 I 1, fun q => absurd q (by decide), lJ_T hW hK hM 1⟩
    · exact absurd he (by decide)
  · subst hv
    try dsimp only at ht
    rcases ht with ⟨he, h⟩ | ⟨he, h⟩
    · exact absurd he (by decide)
    · obtain rfl := pM2 hm (fun q => q h.1) h.2
      exact ⟨gT_0 I 2, fun q => absurd q (by decide), lJ_T hW hK hM 2⟩
theorem fr_at (hW : lW n B nd no f la ph w ea lt le mo bu ev sd sv Y st Rw kp sp Ys ss Rs ks ps) (hK : lK n se nd no f la ph w ea lt le mo bu ev sd sv Y st Rw kp sp Ys ss Rs ks ps I L) (hM : lM n B se nd no f la ph w ea lt le mo bu ev sd sv Y st Rw kp sp Ys ss Rs ks ps I L) (hw : (r = 0 ∧ ∃ (r9 : Int32) (v : tI × tL), (fun (r : Int32) (u : tI × tL) => aOk n nd sd kp p0 p1 p2 ∧ sd = 1 ∧ u = (I, L) ∧ ∃ c d, c < n ∧ d < nd ∧ p0 = nI c ∧ p2 = nI d ∧ ((p1 = -1 ∧ r = nI (Y c d)) ∨ ∃ k, k < kp ∧ p1 = nI k ∧ r = nI (Rw c k d))) r9 v ∧ v9 = (v.1, va_up v.2 220 (vp_updL (v.2 220) 0 r9.toInt64))) ∨ (r = 1 ∧ (fun E => (E = eN ∧ ¬ aOk n nd sd kp p0 p1 p2) ∨ (E = eS ∧ aOk n nd sd kp p0 p1 p2 ∧ ¬ sd = 1)) eN ∧ v9 = (I, L)) ∨ (r = 2 ∧ (fun E => (E = eN ∧ ¬ aOk n nd sd kp p0 p1 p2) ∨ (E = eS ∧ aOk n nd sd kp p0 p1 p2 ∧ ¬ sd = 1)) eS ∧ v9 = (I, L))) : lM n B se nd no f la ph w ea lt le mo bu ev sd sv Y st Rw kp sp Ys ss Rs ks ps v9.1 v9.2 := by
  rcases hw with ⟨rfl, r9, v, hp, hv⟩ | ⟨rfl, ht, hv⟩ | ⟨rfl, ht, hv⟩
  · try dsimp only at hp
    obtain ⟨hak, hsd, rfl, c, d, hc1, hd1, rfl, rfl, hcs⟩ := hp
    exact fr_gen hM (fun _ _ => rfl) (fun _ _ => rfl) hv
  · exact fr_T hM hv
  · exact fr_T hM hv
theorem op_at (hW : lW n B nd no f la ph w ea lt le mo bu ev sd sv Y st Rw kp sp Ys ss Rs ks ps) (hK : lK n se nd no f la ph w ea lt le mo bu ev sd sv Y st Rw kp sp Ys ss Rs ks ps I L) (hM : lM n B se nd no f la ph w ea lt le mo bu ev sd sv Y st Rw kp sp Ys ss Rs ks ps I L) (hw : (r = 0 ∧ ∃ (r9 : Int32) (v : tI × tL), (fun (r : Int32) (u : tI × tL) => aOk n nd sd kp p0 p1 p2 ∧ sd = 1 ∧ u = (I, L) ∧ ∃ c d, c < n ∧ d < nd ∧ p0 = nI c ∧ p2 = nI d ∧ ((p1 = -1 ∧ r = nI (Y c d)) ∨ ∃ k, k < kp ∧ p1 = nI k ∧ r = nI (Rw c k d))) r9 v ∧ v9 = (v.1, va_up v.2 220 (vp_updL (v.2 220) 0 r9.toInt64))) ∨ (r = 1 ∧ (fun E => (E = eN ∧ ¬ aOk n nd sd kp p0 p1 p2) ∨ (E = eS ∧ aOk n nd sd kp p0 p1 p2 ∧ ¬ sd = 1)) eN ∧ v9 = (I, L)) ∨ (r = 2 ∧ (fun E => (E = eN ∧ ¬ aOk n nd sd kp p0 p1 p2) ∨ (E = eS ∧ aOk n nd sd kp p0 p1 p2 ∧ ¬ sd = 1)) eS ∧ v9 = (I, L))) (hm : pM v9.1 v9.2 (¬ aOk n nd sd kp p0 p1 p2) (¬ sd = 1) False (fun r u => u = (gT v9.1 0, v9.2) ∧ ∃ c d, c < n ∧ d < nd ∧ p0 = nI c ∧ p2 = nI d ∧ ((p1 = -1 ∧ r = nI (Y c d)) ∨ ∃ k, k < kp ∧ p1 = nI k ∧ r = nI (Rw c k d))) r2 u2) : u2.1 200 0 = r ∧ (r = 0 → u2.2 220 0 = r2.toInt64) ∧ lJ n (B + 100) se u2.1 u2.2 := by
  rcases hw with ⟨rfl, r9, v, hp, hv⟩ | ⟨rfl, ht, hv⟩ | ⟨rfl, ht, hv⟩
  · try dsimp only at hp
    obtain ⟨hak, hsd, rfl, c, d, hc1, hd1, rfl, rfl, hcs⟩ := hp
    have hn4 := hM.n4.1
    have h8 := hW.d8
    have hk60 := (hW.2.1 hsd).2.1
    obtain ⟨hu, c', d', hc2, hd2, e1, e2, hcs2⟩ := pM0 hm (fun q => q hak) (fun q => q hsd) id
    obtain rfl := (nI_eq (by omega) (by omega)).mp e1
    obtain rfl := (nI_eq (by omega) (by omega)).mp e2
    refine fin_r hW hK hM hv ?_ hu
    rcases hcs with ⟨rfl, hr⟩ | ⟨k, hk, rfl, hr⟩
    · rcases hcs2 with ⟨_, hr2⟩ | ⟨k2, hk2, e3, _⟩
      · exact hr.trans hr2.symm
      · exact absurd e3 (nI_m1 (by omega))
    · rcases hcs2 with ⟨e3, _⟩ | ⟨k2, hk2, e3, hr2⟩
      · exact absurd e3.symm (nI_m1 (by omega))
      · obtain rfl := (nI_eq (by omega) (by omega)).mp e3
        exact hr.trans hr2.symm
  · subst hv
    try dsimp only at ht
    rcases ht with ⟨he, h⟩ | ⟨he, h⟩
    · obtain rfl := pM1 hm h
      exact ⟨gT_0 I 1, fun q => absurd q (by decide), lJ_T hW hK hM 1⟩
    · exact absurd he (by decide)
  · subst hv
    try dsimp only at ht
    rcases ht with ⟨he, h⟩ | ⟨he, h⟩
    · exact absurd he (by decide)
    · obtain rfl := pM2 hm (fun q => q h.1) h.2
      exact ⟨gT_0 I 2, fun q => absurd q (by decide), lJ_T hW hK hM 2⟩
theorem fr_counted (hW : lW n B nd no f la ph w ea lt le mo bu ev sd sv Y st Rw kp sp Ys ss Rs ks ps) (hK : lK n se nd no f la ph w ea lt le mo bu ev sd sv Y st Rw kp sp Ys ss Rs ks ps I L) (hM : lM n B se nd no f la ph w ea lt le mo bu ev sd sv Y st Rw kp sp Ys ss Rs ks ps I L) (hw : (r = 0 ∧ ∃ (r9 : Int32) (v : tI × tL), (fun (r : Int32) (u : tI × tL) => yOk nd f la p0 p1 ∧ sd = 1 ∧ u = (I, L) ∧ ∃ d i9, d < nd ∧ p0 = nI d ∧ p1 = nI (f d + i9) ∧ f d + i9 ≤ la d ∧ r = nI (s2 (fun c k => if Rw c k d = f d + i9 then 1 else 0) kp n)) r9 v ∧ v9 = (v.1, va_up v.2 220 (vp_updL (v.2 220) 0 r9.toInt64))) ∨ (r = 1 ∧ (fun E => (E = eN ∧ ¬ yOk nd f la p0 p1) ∨ (E = eS ∧ yOk nd f la p0 p1 ∧ ¬ sd = 1)) eN ∧ v9 = (I, L)) ∨ (r = 2 ∧ (fun E => (E = eN ∧ ¬ yOk nd f la p0 p1) ∨ (E = eS ∧ yOk nd f la p0 p1 ∧ ¬ sd = 1)) eS ∧ v9 = (I, L))) : lM n B se nd no f la ph w ea lt le mo bu ev sd sv Y st Rw kp sp Ys ss Rs ks ps v9.1 v9.2 := by
  rcases hw with ⟨rfl, r9, v, hp, hv⟩ | ⟨rfl, ht, hv⟩ | ⟨rfl, ht, hv⟩
  · try dsimp only at hp
    obtain ⟨hak, hsd, rfl, d, i9, hd, rfl, rfl, hj, hr⟩ := hp
    exact fr_gen hM (fun _ _ => rfl) (fun _ _ => rfl) hv
  · exact fr_T hM hv
  · exact fr_T hM hv
theorem op_counted (hW : lW n B nd no f la ph w ea lt le mo bu ev sd sv Y st Rw kp sp Ys ss Rs ks ps) (hK : lK n se nd no f la ph w ea lt le mo bu ev sd sv Y st Rw kp sp Ys ss Rs ks ps I L) (hM : lM n B se nd no f la ph w ea lt le mo bu ev sd sv Y st Rw kp sp Ys ss Rs ks ps I L) (hw : (r = 0 ∧ ∃ (r9 : Int32) (v : tI × tL), (fun (r : Int32) (u : tI × tL) => yOk nd f la p0 p1 ∧ sd = 1 ∧ u = (I, L) ∧ ∃ d i9, d < nd ∧ p0 = nI d ∧ p1 = nI (f d + i9) ∧ f d + i9 ≤ la d ∧ r = nI (s2 (fun c k => if Rw c k d = f d + i9 then 1 else 0) kp n)) r9 v ∧ v9 = (v.1, va_up v.2 220 (vp_updL (v.2 220) 0 r9.toInt64))) ∨ (r = 1 ∧ (fun E => (E = eN ∧ ¬ yOk nd f la p0 p1) ∨ (E = eS ∧ yOk nd f la p0 p1 ∧ ¬ sd = 1)) eN ∧ v9 = (I, L)) ∨ (r = 2 ∧ (fun E => (E = eN ∧ ¬ yOk nd f la p0 p1) ∨ (E = eS ∧ yOk nd f la p0 p1 ∧ ¬ sd = 1)) eS ∧ v9 = (I, L))) (hm : pM v9.1 v9.2 (¬ yOk nd f la p0 p1) (¬ sd = 1) False (fun r u => u = (gT v9.1 0, v9.2) ∧ ∃ d i9, d < nd ∧ p0 = nI d ∧ p1 = nI (f d + i9) ∧ f d + i9 ≤ la d ∧ r = nI (s2 (fun c k => if Rw c k d = f d + i9 then 1 else 0) kp n)) r2 u2) : u2.1 200 0 = r ∧ (r = 0 → u2.2 220 0 = r2.toInt64) ∧ lJ n (B + 100) se u2.1 u2.2 := by
  rcases hw with ⟨rfl, r9, v, hp, hv⟩ | ⟨rfl, ht, hv⟩ | ⟨rfl, ht, hv⟩
  · try dsimp only at hp
    obtain ⟨hak, hsd, rfl, d, i9, hd, rfl, rfl, hj, hr⟩ := hp
    have h8 := hW.d8
    obtain ⟨t1, t2, t3, _⟩ := hW.1.2.2.1 d hd
    obtain ⟨hu, d', i8, hd2, e1, e2, hj2, hr2⟩ := pM0 hm (fun q => q hak) (fun q => q hsd) id
    obtain rfl := (nI_eq (by omega) (by omega)).mp e1
    have ej := (nI_eq (by omega) (by omega)).mp e2
    obtain rfl : i9 = i8 := by omega
    exact fin_r hW hK hM hv (hr.trans hr2.symm) hu
  · subst hv
    try dsimp only at ht
    rcases ht with ⟨he, h⟩ | ⟨he, h⟩
    · obtain rfl := pM1 hm h
      exact ⟨gT_0 I 1, fun q => absurd q (by decide), lJ_T hW hK hM 1⟩
    · exact absurd he (by decide)
  · subst hv
    try dsimp only at ht
    rcases ht with ⟨he, h⟩ | ⟨he, h⟩
    · exact absurd he (by decide)
    · obtain rfl := pM2 hm (fun q => q h.1) h.2
      exact ⟨gT_0 I 2, fun q => absurd q (by decide), lJ_T hW hK hM 2⟩
theorem fr_apart (hW : lW n B nd no f la ph w ea lt le mo bu ev sd sv Y st Rw kp sp Ys ss Rs ks ps) (hK : lK n se nd no f la ph w ea lt le mo bu ev sd sv Y st Rw kp sp Ys ss Rs ks ps I L) (hM : lM n B se nd no f la ph w ea lt le mo bu ev sd sv Y st Rw kp sp Ys ss Rs ks ps I L) (hw : (r = 0 ∧ ∃ (r9 : Int32) (v : tI × tL), (fun (r : Int32) (u : tI × tL) => inN nd p0 ∧ sd = 1 ∧ u = (I, L) ∧ ∃ d, d < nd ∧ p0 = nI d ∧ r = nI (mxF (fun c => sS (fun k => Rw c k d) kp) (n - 1) - mnF (fun c => sS (fun k => Rw c k d) kp) (n - 1))) r9 v ∧ v9 = (v.1, va_up v.2 220 (vp_updL (v.2 220) 0 r9.toInt64))) ∨ (r = 1 ∧ (fun E => (E = eN ∧ ¬ inN nd p0) ∨ (E = eS ∧ inN nd p0 ∧ ¬ sd = 1)) eN ∧ v9 = (I, L)) ∨ (r = 2 ∧ (fun E => (E = eN ∧ ¬ inN nd p0) ∨ (E = eS ∧ inN nd p0 ∧ ¬ sd = 1)) eS ∧ v9 = (I, L))) : lM n B se nd no f la ph w ea lt le mo bu ev sd sv Y st Rw kp sp Ys ss Rs ks ps v9.1 v9.2 := by
  rcases hw with ⟨rfl, r9, v, hp, hv⟩ | ⟨rfl, ht, hv⟩ | ⟨rfl, ht, hv⟩
  · try dsimp only at hp
    obtain ⟨hak, hsd, rfl, d, hd, rfl, hr⟩ := hp
    exact fr_gen hM (fun _ _ => rfl) (fun _ _ => rfl) hv
  · exact fr_T hM hv
  · exact fr_T hM hv
theorem op_apart (hW : lW n B nd no f la ph w ea lt le mo bu ev sd sv Y st Rw kp sp Ys ss Rs ks ps) (hK : lK n se nd no f la ph w ea lt le mo bu ev sd sv Y st Rw kp sp Ys ss Rs ks ps I L) (hM : lM n B se nd no f la ph w ea lt le mo bu ev sd sv Y st Rw kp sp Ys ss Rs ks ps I L) (hw : (r = 0 ∧ ∃ (r9 : Int32) (v : tI × tL), (fun (r : Int32) (u : tI × tL) => inN nd p0 ∧ sd = 1 ∧ u = (I, L) ∧ ∃ d, d < nd ∧ p0 = nI d ∧ r = nI (mxF (fun c => sS (fun k => Rw c k d) kp) (n - 1) - mnF (fun c => sS (fun k => Rw c k d) kp) (n - 1))) r9 v ∧ v9 = (v.1, va_up v.2 220 (vp_updL (v.2 220) 0 r9.toInt64))) ∨ (r = 1 ∧ (fun E => (E = eN ∧ ¬ inN nd p0) ∨ (E = eS ∧ inN nd p0 ∧ ¬ sd = 1)) eN ∧ v9 = (I, L)) ∨ (r = 2 ∧ (fun E => (E = eN ∧ ¬ inN nd p0) ∨ (E = eS ∧ inN nd p0 ∧ ¬ sd = 1)) eS ∧ v9 = (I, L))) (hm : pM v9.1 v9.2 (¬ inN nd p0) (¬ sd = 1) False (fun r u => u = (gT v9.1 0, v9.2) ∧ ∃ d, d < nd ∧ p0 = nI d ∧ r = nI (mxF (fun c => sS (fun k => Rw c k d) kp) (n - 1) - mnF (fun c => sS (fun k => Rw c k d) kp) (n - 1))) r2 u2) : u2.1 200 0 = r ∧ (r = 0 → u2.2 220 0 = r2.toInt64) ∧ lJ n (B + 100) se u2.1 u2.2 := by
  rcases hw with ⟨rfl, r9, v, hp, hv⟩ | ⟨rfl, ht, hv⟩ | ⟨rfl, ht, hv⟩
  · try dsimp only at hp
    obtain ⟨hak, hsd, rfl, d, hd, rfl, hr⟩ := hp
    have h8 := hW.d8
    obtain ⟨hu, d', hd2, e1, hr2⟩ := pM0 hm (fun q => q hak) (fun q => q hsd) id
    obtain rfl := (nI_eq (by omega) (by omega)).mp e1
    exact fin_r hW hK hM hv (hr.trans hr2.symm) hu
  · subst hv
    try dsimp only at ht
    rcases ht with ⟨he, h⟩ | ⟨he, h⟩
    · obtain rfl := pM1 hm h
      exact ⟨gT_0 I 1, fun q => absurd q (by decide), lJ_T hW hK hM 1⟩
    · exact absurd he (by decide)
  · subst hv
    try dsimp only at ht
    rcases ht with ⟨he, h⟩ | ⟨he, h⟩
    · exact absurd he (by decide)
    · obtain rfl := pM2 hm (fun q => q h.1) h.2
      exact ⟨gT_0 I 2, fun q => absurd q (by decide), lJ_T hW hK hM 2⟩
theorem fr_agreement (hW : lW n B nd no f la ph w ea lt le mo bu ev sd sv Y st Rw kp sp Ys ss Rs ks ps) (hK : lK n se nd no f la ph w ea lt le mo bu ev sd sv Y st Rw kp sp Ys ss Rs ks ps I L) (hM : lM n B se nd no f la ph w ea lt le mo bu ev sd sv Y st Rw kp sp Ys ss Rs ks ps I L) (hw : (r = 0 ∧ ∃ (r9 : Int32) (v : tI × tL), (fun (r : Int32) (u : tI × tL) => inN nd p0 ∧ sd = 1 ∧ u = (I, L) ∧ ∃ d, d < nd ∧ p0 = nI d ∧ r = agV n kp (s2 (fun c k => w d (Rw c k d - f d)) kp n) (sMx (fun q => w d (q - f d)) (f d) (la d + 1 - f d))) r9 v ∧ v9 = (v.1, va_up v.2 220 (vp_updL (v.2 220) 0 r9.toInt64))) ∨ (r = 1 ∧ (fun E => (E = eN ∧ ¬ inN nd p0) ∨ (E = eS ∧ inN nd p0 ∧ ¬ sd = 1)) eN ∧ v9 = (I, L)) ∨ (r = 2 ∧ (fun E => (E = eN ∧ ¬ inN nd p0) ∨ (E = eS ∧ inN nd p0 ∧ ¬ sd = 1)) eS ∧ v9 = (I, L))) : lM n B se nd no f la ph w ea lt le mo bu ev sd sv Y st Rw kp sp Ys ss Rs ks ps v9.1 v9.2 := by
  rcases hw with ⟨rfl, r9, v, hp, hv⟩ | ⟨rfl, ht, hv⟩ | ⟨rfl, ht, hv⟩
  · try dsimp only at hp
    obtain ⟨hak, hsd, rfl, d, hd, rfl, hr⟩ := hp
    exact fr_gen hM (fun _ _ => rfl) (fun _ _ => rfl) hv
  · exact fr_T hM hv
  · exact fr_T hM hv
theorem op_agreement (hW : lW n B nd no f la ph w ea lt le mo bu ev sd sv Y st Rw kp sp Ys ss Rs ks ps) (hK : lK n se nd no f la ph w ea lt le mo bu ev sd sv Y st Rw kp sp Ys ss Rs ks ps I L) (hM : lM n B se nd no f la ph w ea lt le mo bu ev sd sv Y st Rw kp sp Ys ss Rs ks ps I L) (hw : (r = 0 ∧ ∃ (r9 : Int32) (v : tI × tL), (fun (r : Int32) (u : tI × tL) => inN nd p0 ∧ sd = 1 ∧ u = (I, L) ∧ ∃ d, d < nd ∧ p0 = nI d ∧ r = agV n kp (s2 (fun c k => w d (Rw c k d - f d)) kp n) (sMx (fun q => w d (q - f d)) (f d) (la d + 1 - f d))) r9 v ∧ v9 = (v.1, va_up v.2 220 (vp_updL (v.2 220) 0 r9.toInt64))) ∨ (r = 1 ∧ (fun E => (E = eN ∧ ¬ inN nd p0) ∨ (E = eS ∧ inN nd p0 ∧ ¬ sd = 1)) eN ∧ v9 = (I, L)) ∨ (r = 2 ∧ (fun E => (E = eN ∧ ¬ inN nd p0) ∨ (E = eS ∧ inN nd p0 ∧ ¬ sd = 1)) eS ∧ v9 = (I, L))) (hm : pM v9.1 v9.2 (¬ inN nd p0) (¬ sd = 1) False (fun r u => u = (gT v9.1 0, v9.2) ∧ ∃ d, d < nd ∧ p0 = nI d ∧ r = agV n kp (s2 (fun c k => w d (Rw c k d - f d)) kp n) (sMx (fun q => w d (q - f d)) (f d) (la d + 1 - f d))) r2 u2) : u2.1 200 0 = r ∧ (r = 0 → u2.2 220 0 = r2.toInt64) ∧ lJ n (B + 100) se u2.1 u2.2 := by
  rcases hw with ⟨rfl, r9, v, hp, hv⟩ | ⟨rfl, ht, hv⟩ | ⟨rfl, ht, hv⟩
  · try dsimp only at hp
    obtain ⟨hak, hsd, rfl, d, hd, rfl, hr⟩ := hp
    have h8 := hW.d8
    obtain ⟨hu, d', hd2, e1, hr2⟩ := pM0 hm (fun q => q hak) (fun q => q hsd) id
    obtain rfl := (nI_eq (by omega) (by omega)).mp e1
    exact fin_r hW hK hM hv (hr.trans hr2.symm) hu
  · subst hv
    try dsimp only at ht
    rcases ht with ⟨he, h⟩ | ⟨he, h⟩
    · obtain rfl := pM1 hm h
      exact ⟨gT_0 I 1, fun q => absurd q (by decide), lJ_T hW hK hM 1⟩
    · exact absurd he (by decide)
  · subst hv
    try dsimp only at ht
    rcases ht with ⟨he, h⟩ | ⟨he, h⟩
    · exact absurd he (by decide)
    · obtain rfl := pM2 hm (fun q => q h.1) h.2
      exact ⟨gT_0 I 2, fun q => absurd q (by decide), lJ_T hW hK hM 2⟩
theorem fr_spans (hW : lW n B nd no f la ph w ea lt le mo bu ev sd sv Y st Rw kp sp Ys ss Rs ks ps) (hK : lK n se nd no f la ph w ea lt le mo bu ev sd sv Y st Rw kp sp Ys ss Rs ks ps I L) (hM : lM n B se nd no f la ph w ea lt le mo bu ev sd sv Y st Rw kp sp Ys ss Rs ks ps I L) (hw : (r = 0 ∧ ∃ (r9 : Int32) (v : tI × tL), (fun (r : Int32) (u : tI × tL) => inN 4 p0 ∧ inN 256 p1 ∧ sd = 1 ∧ u = (I, L) ∧ r = nI (s2 (fun c k => if spV ph p0 (Rw c k) nd = p1 then 1 else 0) kp n)) r9 v ∧ v9 = (v.1, va_up v.2 220 (vp_updL (v.2 220) 0 r9.toInt64))) ∨ (r = 1 ∧ (fun E => (E = eN ∧ ¬ inN 4 p0) ∨ (E = eI ∧ inN 4 p0 ∧ ¬ inN 256 p1) ∨ (E = eS ∧ inN 4 p0 ∧ inN 256 p1 ∧ ¬ sd = 1)) eN ∧ v9 = (I, L)) ∨ (r = 2 ∧ (fun E => (E = eN ∧ ¬ inN 4 p0) ∨ (E = eI ∧ inN 4 p0 ∧ ¬ inN 256 p1) ∨ (E = eS ∧ inN 4 p0 ∧ inN 256 p1 ∧ ¬ sd = 1)) eI ∧ v9 = (I, L)) ∨ (r = 3 ∧ (fun E => (E = eN ∧ ¬ inN 4 p0) ∨ (E = eI ∧ inN 4 p0 ∧ ¬ inN 256 p1) ∨ (E = eS ∧ inN 4 p0 ∧ inN 256 p1 ∧ ¬ sd = 1)) eS ∧ v9 = (I, L))) : lM n B se nd no f la ph w ea lt le mo bu ev sd sv Y st Rw kp sp Ys ss Rs ks ps v9.1 v9.2 := by
  rcases hw with ⟨rfl, r9, v, hp, hv⟩ | ⟨rfl, ht, hv⟩ | ⟨rfl, ht, hv⟩ | ⟨rfl, ht, hv⟩
  · try dsimp only at hp
    obtain ⟨hak, hak2, hsd, rfl, hr⟩ := hp
    exact fr_gen hM (fun _ _ => rfl) (fun _ _ => rfl) hv
  · exact fr_T hM hv
  · exact fr_T hM hv
  · exact fr_T hM hv
theorem op_spans (hW : lW n B nd no f la ph w ea lt le mo bu ev sd sv Y st Rw kp sp Ys ss Rs ks ps) (hK : lK n se nd no f la ph w ea lt le mo bu ev sd sv Y st Rw kp sp Ys ss Rs ks ps I L) (hM : lM n B se nd no f la ph w ea lt le mo bu ev sd sv Y st Rw kp sp Ys ss Rs ks ps I L) (hw : (r = 0 ∧ ∃ (r9 : Int32) (v : tI × tL), (fun (r : Int32) (u : tI × tL) => inN 4 p0 ∧ inN 256 p1 ∧ sd = 1 ∧ u = (I, L) ∧ r = nI (s2 (fun c k => if spV ph p0 (Rw c k) nd = p1 then 1 else 0) kp n)) r9 v ∧ v9 = (v.1, va_up v.2 220 (vp_updL (v.2 220) 0 r9.toInt64))) ∨ (r = 1 ∧ (fun E => (E = eN ∧ ¬ inN 4 p0) ∨ (E = eI ∧ inN 4 p0 ∧ ¬ inN 256 p1) ∨ (E = eS ∧ inN 4 p0 ∧ inN 256 p1 ∧ ¬ sd = 1)) eN ∧ v9 = (I, L)) ∨ (r = 2 ∧ (fun E => (E = eN ∧ ¬ inN 4 p0) ∨ (E = eI ∧ inN 4 p0 ∧ ¬ inN 256 p1) ∨ (E = eS ∧ inN 4 p0 ∧ inN 256 p1 ∧ ¬ sd = 1)) eI ∧ v9 = (I, L)) ∨ (r = 3 ∧ (fun E => (E = eN ∧ ¬ inN 4 p0) ∨ (E = eI ∧ inN 4 p0 ∧ ¬ inN 256 p1) ∨ (E = eS ∧ inN 4 p0 ∧ inN 256 p1 ∧ ¬ sd = 1)) eS ∧ v9 = (I, L))) (hm : pM v9.1 v9.2 (¬ inN 4 p0) (¬ inN 256 p1) (¬ sd = 1) (fun r u => u = (gT v9.1 0, v9.2) ∧ r = nI (s2 (fun c k => if spV ph p0 (Rw c k) nd = p1 then 1 else 0) kp n)) r2 u2) : u2.1 200 0 = r ∧ (r = 0 → u2.2 220 0 = r2.toInt64) ∧ lJ n (B + 100) se u2.1 u2.2 := by
  rcases hw with ⟨rfl, r9, v, hp, hv⟩ | ⟨rfl, ht, hv⟩ | ⟨rfl, ht, hv⟩ | ⟨rfl, ht, hv⟩
  · try dsimp only at hp
    obtain ⟨hak, hak2, hsd, rfl, hr⟩ := hp
    obtain ⟨hu, hr2⟩ := pM0 hm (fun q => q hak) (fun q => q hak2) (fun q => q hsd)
    exact fin_r hW hK hM hv (hr.trans hr2.symm) hu
  · subst hv
    try dsimp only at ht
    rcases ht with ⟨he, h⟩ | ⟨he, h⟩ | ⟨he, h⟩
    · obtain rfl := pM1 hm h
      exact ⟨gT_0 I 1, fun q => absurd q (by decide), lJ_T hW hK hM 1⟩
    · exact absurd he (by decide)
    · exact absurd he (by decide)
  · subst hv
    try dsimp only at ht
    rcases ht with ⟨he, h⟩ | ⟨he, h⟩ | ⟨he, h⟩
    · exact absurd he (by decide)
    · obtain rfl := pM2 hm (fun q => q h.1) h.2
      exact ⟨gT_0 I 2, fun q => absurd q (by decide), lJ_T hW hK hM 2⟩
    · exact absurd he (by decide)
  · subst hv
    try dsimp only at ht
    rcases ht with ⟨he, h⟩ | ⟨he, h⟩ | ⟨he, h⟩
    · exact absurd he (by decide)
    · exact absurd he (by decide)
    · obtain rfl := pM3 hm (fun q => q h.1) (fun q => q h.2.1) h.2.2
      exact ⟨gT_0 I 3, fun q => absurd q (by decide), lJ_T hW hK hM 3⟩
theorem fr_save (hW : lW n B nd no f la ph w ea lt le mo bu ev sd sv Y st Rw kp sp Ys ss Rs ks ps) (hK : lK n se nd no f la ph w ea lt le mo bu ev sd sv Y st Rw kp sp Ys ss Rs ks ps I L) (hM : lM n B se nd no f la ph w ea lt le mo bu ev sd sv Y st Rw kp sp Ys ss Rs ks ps I L) (hw : (r = 0 ∧ ∃ (r9 : Int32) (v : tI × tL), (fun (r : Int32) (u : tI × tL) => sd = 1 ∧ sv < 4 ∧ r = nI sv ∧ u = (va_up (gTake I (40 + 20 * sv) 20 kp n) 0 (upd (I 0) 5 (nI (sv + 1))), gTl L (40 + 20 * sv) 20 n)) r9 v ∧ v9 = (v.1, va_up v.2 220 (vp_updL (v.2 220) 0 r9.toInt64))) ∨ (r = 1 ∧ (fun E => E = eS ∧ ¬ (sd = 1 ∧ sv < 4)) eS ∧ v9 = (I, L))) : lM n B se nd no f la ph w ea lt le mo bu ev sd sv Y st Rw kp sp Ys ss Rs ks ps v9.1 v9.2 := by
  rcases hw with ⟨rfl, r9, v, hp, hv⟩ | ⟨rfl, ht, hv⟩
  · try dsimp only at hp
    obtain ⟨hsd, hv4, hr, rfl⟩ := hp
    have hc := cl_save hM.n4.1 hv4 hW.d8 hsd hK
    exact fr_gen hM hc.2.1 hc.2.2 hv
  · exact fr_T hM hv
theorem op_save (hW : lW n B nd no f la ph w ea lt le mo bu ev sd sv Y st Rw kp sp Ys ss Rs ks ps) (hK : lK n se nd no f la ph w ea lt le mo bu ev sd sv Y st Rw kp sp Ys ss Rs ks ps I L) (hM : lM n B se nd no f la ph w ea lt le mo bu ev sd sv Y st Rw kp sp Ys ss Rs ks ps I L) (hw : (r = 0 ∧ ∃ (r9 : Int32) (v : tI × tL), (fun (r : Int32) (u : tI × tL) => sd = 1 ∧ sv < 4 ∧ r = nI sv ∧ u = (va_up (gTake I (40 + 20 * sv) 20 kp n) 0 (upd (I 0) 5 (nI (sv + 1))), gTl L (40 + 20 * sv) 20 n)) r9 v ∧ v9 = (v.1, va_up v.2 220 (vp_updL (v.2 220) 0 r9.toInt64))) ∨ (r = 1 ∧ (fun E => E = eS ∧ ¬ (sd = 1 ∧ sv < 4)) eS ∧ v9 = (I, L))) (hm : pM v9.1 v9.2 (¬ (sd = 1 ∧ sv < 4)) False False (fun r u => r = nI sv ∧ u = (gMv (gT v9.1 0) sv, va_up v9.2 213 (va_cpy (v9.2 210) (v9.2 213) 0 (4 * sv) 4))) r2 u2) : u2.1 200 0 = r ∧ (r = 0 → u2.2 220 0 = r2.toInt64) ∧ lJ n (B + 100) se u2.1 u2.2 := by
  rcases hw with ⟨rfl, r9, v, hp, hv⟩ | ⟨rfl, ht, hv⟩
  · try dsimp only at hp
    obtain ⟨hsd, hv4, hr, rfl⟩ := hp
    have hc := cl_save hM.n4.1 hv4 hW.d8 hsd hK
    have hM9 := fr_gen hM hc.2.1 hc.2.2 hv
    obtain ⟨hr2, rfl⟩ := pM0 hm (fun q => q ⟨hsd, hv4⟩) id id
    have hm9 := mo_save hM.n4.1 hv4 hW.d8 (hW.2.1 hsd).2.1 (fun i hi k hk => by have := (hW.2.2 i hi).2.1; omega) hsd hM9
    exact fin_n ((lW_save hsd hW).up (by omega)) hc.1 (hm9.1.up (by omega)) hm9.2.1 (fun k hk => hm9.2.2.1 k (by omega)) (hm9.2.2.1 220 (by omega)) hm9.2.2.2 hv (hr.trans hr2.symm)
  · subst hv
    try dsimp only at ht
    obtain ⟨he, h⟩ := ht
    obtain rfl := pM1 hm h
    exact ⟨gT_0 I 1, fun q => absurd q (by decide), lJ_T hW hK hM 1⟩
theorem fr_back (hW : lW n B nd no f la ph w ea lt le mo bu ev sd sv Y st Rw kp sp Ys ss Rs ks ps) (hK : lK n se nd no f la ph w ea lt le mo bu ev sd sv Y st Rw kp sp Ys ss Rs ks ps I L) (hM : lM n B se nd no f la ph w ea lt le mo bu ev sd sv Y st Rw kp sp Ys ss Rs ks ps I L) (hw : (r = 0 ∧ ∃ (r9 : Int32) (v : tI × tL), (fun (r : Int32) (u : tI × tL) => inN sv p0 ∧ ∃ i9, i9 < sv ∧ p0 = nI i9 ∧ r = nI (ks i9) ∧ u = (va_up (gTake I 20 (40 + 20 * i9) (ks i9) n) 0 (upd (I 0) 6 1), gTl L 20 (40 + 20 * i9) n)) r9 v ∧ v9 = (v.1, va_up v.2 220 (vp_updL (v.2 220) 0 r9.toInt64))) ∨ (r = 1 ∧ (fun E => E = eN ∧ ¬ inN sv p0) eN ∧ v9 = (I, L))) : lM n B se nd no f la ph w ea lt le mo bu ev sd sv Y st Rw kp sp Ys ss Rs ks ps v9.1 v9.2 := by
  rcases hw with ⟨rfl, r9, v, hp, hv⟩ | ⟨rfl, ht, hv⟩
  · try dsimp only at hp
    obtain ⟨hin, i9, hi9, rfl, hr, rfl⟩ := hp
    have hv4 := hM.n4.2.1
    have hc := cl_back hM.n4.1 hv4 hW.d8 hi9 hK
    exact fr_gen hM hc.2.1 hc.2.2 hv
  · exact fr_T hM hv
theorem op_back (hW : lW n B nd no f la ph w ea lt le mo bu ev sd sv Y st Rw kp sp Ys ss Rs ks ps) (hK : lK n se nd no f la ph w ea lt le mo bu ev sd sv Y st Rw kp sp Ys ss Rs ks ps I L) (hM : lM n B se nd no f la ph w ea lt le mo bu ev sd sv Y st Rw kp sp Ys ss Rs ks ps I L) (hw : (r = 0 ∧ ∃ (r9 : Int32) (v : tI × tL), (fun (r : Int32) (u : tI × tL) => inN sv p0 ∧ ∃ i9, i9 < sv ∧ p0 = nI i9 ∧ r = nI (ks i9) ∧ u = (va_up (gTake I 20 (40 + 20 * i9) (ks i9) n) 0 (upd (I 0) 6 1), gTl L 20 (40 + 20 * i9) n)) r9 v ∧ v9 = (v.1, va_up v.2 220 (vp_updL (v.2 220) 0 r9.toInt64))) ∨ (r = 1 ∧ (fun E => E = eN ∧ ¬ inN sv p0) eN ∧ v9 = (I, L))) (hm : pM v9.1 v9.2 (¬ inN sv p0) False False (fun r u => ∃ i9, i9 < sv ∧ p0 = nI i9 ∧ r = v9.1 215 i9 ∧ u = (gMb (gT v9.1 0) i9, va_up v9.2 210 (va_cpy (v9.2 213) (v9.2 210) (4 * i9) 0 4))) r2 u2) : u2.1 200 0 = r ∧ (r = 0 → u2.2 220 0 = r2.toInt64) ∧ lJ n (B + 100) se u2.1 u2.2 := by
  rcases hw with ⟨rfl, r9, v, hp, hv⟩ | ⟨rfl, ht, hv⟩
  · try dsimp only at hp
    obtain ⟨hin, i9, hi9, rfl, hr, rfl⟩ := hp
    have hv4 := hM.n4.2.1
    have hc := cl_back hM.n4.1 hv4 hW.d8 hi9 hK
    have hM9 := fr_gen hM hc.2.1 hc.2.2 hv
    obtain ⟨i8, hi8, e1, hr2, rfl⟩ := pM0 hm (fun q => q hin) id id
    obtain rfl := (nI_eq (by omega) (by omega)).mp e1
    have hm9 := mo_back hM.n4.1 hW.d8 hi9 (hW.2.2 i9 hi9).2.1 (hW.2.2 i9 hi9).2.2.1 hM9
    exact fin_n ((lW_back hi9 hW).up (by omega)) hc.1 (hm9.1.up (by omega)) hm9.2.1 (fun k hk => hm9.2.2.1 k (by omega)) (hm9.2.2.1 220 (by omega)) hm9.2.2.2 hv (hr.trans (hr2.trans (hM9.2.2.2.2 i9 hi9).1).symm)
  · subst hv
    try dsimp only at ht
    obtain ⟨he, h⟩ := ht
    obtain rfl := pM1 hm h
    exact ⟨gT_0 I 1, fun q => absurd q (by decide), lJ_T hW hK hM 1⟩
theorem fr_count (hW : lW n B nd no f la ph w ea lt le mo bu ev sd sv Y st Rw kp sp Ys ss Rs ks ps) (hK : lK n se nd no f la ph w ea lt le mo bu ev sd sv Y st Rw kp sp Ys ss Rs ks ps I L) (hM : lM n B se nd no f la ph w ea lt le mo bu ev sd sv Y st Rw kp sp Ys ss Rs ks ps I L) (hw : (r = 0 ∧ ∃ (r9 : Int32) (v : tI × tL), (fun (r : Int32) (u : tI × tL) => inN 6 p0 ∧ u = (I, L) ∧ r = cnV nd no n sd kp sp sv p0) r9 v ∧ v9 = (v.1, va_up v.2 220 (vp_updL (v.2 220) 0 r9.toInt64))) ∨ (r = 1 ∧ (fun E => E = eN ∧ ¬ inN 6 p0) eN ∧ v9 = (I, L))) : lM n B se nd no f la ph w ea lt le mo bu ev sd sv Y st Rw kp sp Ys ss Rs ks ps v9.1 v9.2 := by
  rcases hw with ⟨rfl, r9, v, hp, hv⟩ | ⟨rfl, ht, hv⟩
  · try dsimp only at hp
    obtain ⟨hak, rfl, hr⟩ := hp
    exact fr_gen hM (fun _ _ => rfl) (fun _ _ => rfl) hv
  · exact fr_T hM hv
theorem op_count (hW : lW n B nd no f la ph w ea lt le mo bu ev sd sv Y st Rw kp sp Ys ss Rs ks ps) (hK : lK n se nd no f la ph w ea lt le mo bu ev sd sv Y st Rw kp sp Ys ss Rs ks ps I L) (hM : lM n B se nd no f la ph w ea lt le mo bu ev sd sv Y st Rw kp sp Ys ss Rs ks ps I L) (hw : (r = 0 ∧ ∃ (r9 : Int32) (v : tI × tL), (fun (r : Int32) (u : tI × tL) => inN 6 p0 ∧ u = (I, L) ∧ r = cnV nd no n sd kp sp sv p0) r9 v ∧ v9 = (v.1, va_up v.2 220 (vp_updL (v.2 220) 0 r9.toInt64))) ∨ (r = 1 ∧ (fun E => E = eN ∧ ¬ inN 6 p0) eN ∧ v9 = (I, L))) (hm : pM v9.1 v9.2 (¬ inN 6 p0) False False (fun r u => u = (gT v9.1 0, v9.2) ∧ r = cnV nd no n sd kp sp sv p0) r2 u2) : u2.1 200 0 = r ∧ (r = 0 → u2.2 220 0 = r2.toInt64) ∧ lJ n (B + 100) se u2.1 u2.2 := by
  rcases hw with ⟨rfl, r9, v, hp, hv⟩ | ⟨rfl, ht, hv⟩
  · try dsimp only at hp
    obtain ⟨hak, rfl, hr⟩ := hp
    obtain ⟨hu, hr2⟩ := pM0 hm (fun q => q hak) id id
    exact fin_r hW hK hM hv (hr.trans hr2.symm) hu
  · subst hv
    try dsimp only at ht
    obtain ⟨he, h⟩ := ht
    obtain rfl := pM1 hm h
    exact ⟨gT_0 I 1, fun q => absurd q (by decide), lJ_T hW hK hM 1⟩
theorem fr_start (hM : lM n B se nd no f la ph w ea lt le mo bu ev sd sv Y st Rw kp sp Ys ss Rs ks ps I L) (hw : ((r = 0 ∧ v9.1 0 6 = 1 ∧ ∃ z : Nat → Nat, yM nd no f la ea lt le mo z ∧ cCo v9.1 v9.2 n nd 20 (fun _ => z) (stS se) (fun _ _ _ => 0) 0 0) ∨ (r = 1 ∧ v9.1 0 6 = 0 ∧ ¬ ∃ z, yS nd no f la ea lt le mo z)) ∧ (∀ k, k ≠ 0 → (k < 20 ∨ 40 ≤ k) → v9.1 k = I k) ∧ (∀ i, i ≠ 6 → v9.1 0 i = I 0 i) ∧ ∀ k, k ≠ 22 → v9.2 k = L k) : lM n B se nd no f la ph w ea lt le mo bu ev sd sv Y st Rw kp sp Ys ss Rs ks ps v9.1 v9.2 := hM.of (fun k h => hw.2.1 k (by omega) (by omega)) (fun k h _ => hw.2.2.2 k (by omega))
theorem op_start (hW : lW n B nd no f la ph w ea lt le mo bu ev sd sv Y st Rw kp sp Ys ss Rs ks ps) (hK : lK n se nd no f la ph w ea lt le mo bu ev sd sv Y st Rw kp sp Ys ss Rs ks ps I L) (hM : lM n B se nd no f la ph w ea lt le mo bu ev sd sv Y st Rw kp sp Ys ss Rs ks ps I L) (hw : ((r = 0 ∧ v9.1 0 6 = 1 ∧ ∃ z : Nat → Nat, yM nd no f la ea lt le mo z ∧ cCo v9.1 v9.2 n nd 20 (fun _ => z) (stS se) (fun _ _ _ => 0) 0 0) ∨ (r = 1 ∧ v9.1 0 6 = 0 ∧ ¬ ∃ z, yS nd no f la ea lt le mo z)) ∧ (∀ k, k ≠ 0 → (k < 20 ∨ 40 ≤ k) → v9.1 k = I k) ∧ (∀ i, i ≠ 6 → v9.1 0 i = I 0 i) ∧ ∀ k, k ≠ 22 → v9.2 k = L k) (hm : ((r2 = 0 ∧ u2.1 200 15 = 1 ∧ ∃ z : Nat → Nat, yM nd no f la ea lt le mo z ∧ cMo u2.1 u2.2 n nd (fun _ => z) (stS se) (fun _ _ _ => 0) 0 0) ∨ (r2 = 1 ∧ u2.1 200 15 = 0 ∧ (∀ i, i ≠ 0 → i ≠ 15 → u2.1 200 i = v9.1 200 i) ∧ ¬ ∃ z, yS nd no f la ea lt le mo z)) ∧ u2.1 200 0 = 0 ∧ (∀ k, k ≠ 200 → k ≠ 209 → u2.1 k = v9.1 k) ∧ (∀ i, i ≠ 0 → i ≠ 15 → i ≠ 16 → i ≠ 17 → u2.1 200 i = v9.1 200 i) ∧ ∀ k, k ≠ 210 → u2.2 k = v9.2 k) : r = r2 ∧ lJ n (B + 100) se u2.1 u2.2 := by
  have hM9 := fr_start hM hw
  obtain ⟨hw, gI, g0, gL⟩ := hw
  obtain ⟨hm, m0, mI, m9, mL⟩ := hm
  have h8 := hW.d8
  have hn := hM.n4.1
  have hv := hM.n4.2.1
  rcases hw with ⟨rfl, h6, z, hz, hco⟩ | ⟨rfl, h6, hno⟩
  · rcases hm with ⟨rfl, h15, z2, hz2, hmo⟩ | ⟨rfl, h15, _, hno⟩
    · have hk := cl_new (sd2 := 1) hn hv h8 hK gI g0 h6 gL (fun _ => hco)
      have hmo2 := hmo.cg (Z := fun _ => z) (fun c _ d hd => yM_unique hz2 hz d hd)
      have hm2 := mo_new (B2 := B + 100) (sd2 := 1) hM9 (fun k a b _ => mI k a b) m9 h15 (by omega) ⟨0, hmo.2.1, by omega⟩ mL (fun _ => hmo2)
      exact ⟨rfl, _, _, _, _, _, _, _, _, _, _, _, _, _, _, _, _, _, _, _, _, _, _, _, _, lW_new hW (by omega) (fun _ => ⟨fun _ _ => yM_wf hz, by omega, by omega, fun c _ k hk => absurd hk (by omega)⟩), hk.of h8 hn hv (fun k h => mI k (by omega) (by omega)) (fun k h => mL k (by omega)), hm2⟩
    · exact absurd ⟨_, hz.1⟩ hno
  · rcases hm with ⟨rfl, h15, z2, hz2, hmo⟩ | ⟨rfl, h15, m16, _⟩
    · exact absurd ⟨_, hz2.1⟩ hno
    · have hk := cl_new (sd2 := 0) (Y2 := Y) (st2 := st) (Rw2 := Rw) (kp2 := kp) (sp2 := sp) hn hv h8 hK gI g0 h6 gL (fun q => absurd q (by omega))
      obtain ⟨s0, hs, hsB⟩ := hM9.2.2.1
      have hm2 := mo_new (B2 := B + 100) (sd2 := 0) (Y2 := Y) (st2 := st) (Rw2 := Rw) (kp2 := kp) (sp2 := sp) hM9 (fun k a b _ => mI k a b) m9 h15 (by omega) ⟨s0, (m16 16 (by omega) (by omega)).trans hs, by omega⟩ mL (fun q => absurd q (by omega))
      exact ⟨rfl, _, _, _, _, _, _, _, _, _, _, _, _, _, _, _, _, _, _, _, _, _, _, _, _, lW_new hW (by omega) (fun q => absurd q (by omega)), hk.of h8 hn hv (fun k h => mI k (by omega) (by omega)) (fun k h => mL k (by omega)), hm2⟩
theorem lJ_0 (p0 : Int32) (h1 : 1 ≤ n) (h4 : n ≤ 4) : lJ n 0 p0 (i0 p0 n) (fun _ _ => 0) := by
  refine ⟨0, 0, fun _ => 0, fun _ => 0, fun _ => 0, fun _ _ => 0, fun _ => 0, fun _ => 0, fun _ => 0, fun _ => 0, 0, 1, 0, 0, fun _ _ => 0, fun _ => 0, fun _ _ _ => 0, 0, 0, fun _ _ _ => 0, fun _ _ => 0, fun _ _ _ _ => 0, fun _ => 0, fun _ => 0, ?_, ?_, ?_⟩
  · exact ⟨⟨by omega, by omega, fun d hd => absurd hd (by omega), fun d hd => absurd hd (by omega)⟩, fun q => absurd q (by omega), fun i hi => absurd hi (by omega)⟩
  · exact ⟨⟨rfl, rfl, fun d hd => absurd hd (by omega), fun d hd => absurd hd (by omega)⟩, ⟨rfl, rfl, rfl, h1, h4, by omega, by omega, by omega⟩, rfl, rfl, rfl, fun q => absurd q (by omega), fun i hi => absurd hi (by omega)⟩
  · exact ⟨⟨rfl, rfl, fun d hd => absurd hd (by omega), fun d hd => absurd hd (by omega)⟩, ⟨rfl, rfl, rfl, rfl, rfl, rfl, h1, h4, by omega, by omega, by omega, by omega, by omega⟩, ⟨0, rfl, by omega⟩, fun q => absurd q (by omega), fun i hi => absurd hi (by omega)⟩
end LQ
