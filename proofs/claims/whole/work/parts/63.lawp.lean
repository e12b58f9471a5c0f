/-! WHAT THE LAW'S LOOP KEEPS: the same site, settings and courses on both sides -/
def cMv (I : tI) (L : tL) (n nd i : Nat) (Y : Nat → Nat → Nat) (st : Nat → Int64) (R : Nat → Nat → Nat → Nat) (kp sp : Nat) : Prop := I 215 i = nI kp ∧ I 216 i = nI sp ∧ ∀ c, c < n → L 213 (4 * i + c) = st c ∧ (∀ d, d < nd → I 212 (32 * i + (8 * c + d)) = nI (Y c d)) ∧ ∀ k, k < kp → ∀ d, d < nd → I 214 (1920 * i + (8 * (60 * c + k) + d)) = nI (R c k d)
def lW (n B : Nat) (nd no : Nat) (f la : Nat → Nat) (ph : Nat → Int32) (w : Nat → Nat → Nat) (ea lt le mo : Nat → Nat) (bu ev sd sv : Nat) (Y : Nat → Nat → Nat) (st : Nat → Int64) (Rw : Nat → Nat → Nat → Nat) (kp sp : Nat) (Ys : Nat → Nat → Nat → Nat) (ss : Nat → Nat → Int64) (Rs : Nat → Nat → Nat → Nat → Nat) (ks ps : Nat → Nat) : Prop := wfS nd no f la w ea lt le mo ∧ (sd = 1 → wCo n nd no f la ea lt le mo B Y Rw kp sp) ∧ ∀ i, i < sv → wCo n nd no f la ea lt le mo B (Ys i) (Rs i) (ks i) (ps i)
def lK (n : Nat) (se : Int32) (nd no : Nat) (f la : Nat → Nat) (ph : Nat → Int32) (w : Nat → Nat → Nat) (ea lt le mo : Nat → Nat) (bu ev sd sv : Nat) (Y : Nat → Nat → Nat) (st : Nat → Int64) (Rw : Nat → Nat → Nat → Nat) (kp sp : Nat) (Ys : Nat → Nat → Nat → Nat) (ss : Nat → Nat → Int64) (Rs : Nat → Nat → Nat → Nat → Nat) (ks ps : Nat → Nat) (I : tI) (L : tL) : Prop := cSi I nd no f la ph w ea lt le mo ∧ cCf I n bu ev ∧ I 0 0 = se ∧ I 0 6 = nI sd ∧ I 0 5 = nI sv ∧ (sd = 1 → cCo I L n nd 20 Y st Rw kp sp) ∧ ∀ i, i < sv → cCo I L n nd (40 + 20 * i) (Ys i) (ss i) (Rs i) (ks i) (ps i)
def lM (n B : Nat) (se : Int32) (nd no : Nat) (f la : Nat → Nat) (ph : Nat → Int32) (w : Nat → Nat → Nat) (ea lt le mo : Nat → Nat) (bu ev sd sv : Nat) (Y : Nat → Nat → Nat) (st : Nat → Int64) (Rw : Nat → Nat → Nat → Nat) (kp sp : Nat) (Ys : Nat → Nat → Nat → Nat) (ss : Nat → Nat → Int64) (Rs : Nat → Nat → Nat → Nat → Nat) (ks ps : Nat → Nat) (I : tI) (L : tL) : Prop := cMs I nd no f la ph w ea lt le mo ∧ cMf I n bu ev sd sv se ∧ (∃ s0, I 200 16 = nI s0 ∧ s0 ≤ B) ∧ (sd = 1 → cMo I L n nd Y st Rw kp sp) ∧ ∀ i, i < sv → cMv I L n nd i (Ys i) (ss i) (Rs i) (ks i) (ps i)
def lJ (n B : Nat) (se : Int32) (I : tI) (L : tL) : Prop := ∃ (nd no : Nat) (f la : Nat → Nat) (ph : Nat → Int32) (w : Nat → Nat → Nat) (ea lt le mo : Nat → Nat) (bu ev sd sv : Nat) (Y : Nat → Nat → Nat) (st : Nat → Int64) (Rw : Nat → Nat → Nat → Nat) (kp sp : Nat) (Ys : Nat → Nat → Nat → Nat) (ss : Nat → Nat → Int64) (Rs : Nat → Nat → Nat → Nat → Nat) (ks ps : Nat → Nat), lW n B nd no f la ph w ea lt le mo bu ev sd sv Y st Rw kp sp Ys ss Rs ks ps ∧ lK n se nd no f la ph w ea lt le mo bu ev sd sv Y st Rw kp sp Ys ss Rs ks ps I L ∧ lM n B se nd no f la ph w ea lt le mo bu ev sd sv Y st Rw kp sp Ys ss Rs ks ps I L
theorem cCo.of {I J : tI} {L K : tL} {n nd b : Nat} {Y : Nat → Nat → Nat} {st : Nat → Int64} {R : Nat → Nat → Nat → Nat} {kp sp : Nat} (h : cCo I L n nd b Y st R kp sp) (hn : n ≤ 4) (hI : ∀ k, b ≤ k → k < b + 12 → J k = I k) (hL : K (b + 2) = L (b + 2)) : cCo J K n nd b Y st R kp sp := by
  obtain ⟨h1, h2, h3⟩ := h
  refine ⟨by rw [hI b (by omega) (by omega)]; exact h1, by rw [hI b (by omega) (by omega)]; exact h2, fun c hc => ?_⟩
  rw [hL, hI (b + 4 + c) (by omega) (by omega), hI (b + 8 + c) (by omega) (by omega)]
  exact h3 c hc
theorem cMv.of {I J : tI} {L K : tL} {n nd i : Nat} {Y : Nat → Nat → Nat} {st : Nat → Int64} {R : Nat → Nat → Nat → Nat} {kp sp : Nat} (h : cMv I L n nd i Y st R kp sp) (h2 : J 212 = I 212) (h4 : J 214 = I 214) (h5 : J 215 = I 215) (h6 : J 216 = I 216) (hL : K 213 = L 213) : cMv J K n nd i Y st R kp sp := by
  unfold cMv
  rw [h2, h4, h5, h6, hL]
  exact h
theorem cMo.of {I J : tI} {L K : tL} {n nd : Nat} {Y : Nat → Nat → Nat} {st : Nat → Int64} {R : Nat → Nat → Nat → Nat} {kp sp : Nat} (h : cMo I L n nd Y st R kp sp) (h7 : J 200 17 = I 200 17) (h6 : J 200 16 = I 200 16) (h9 : J 209 = I 209) (h11 : J 211 = I 211) (hL : K 210 = L 210) : cMo J K n nd Y st R kp sp := by
  unfold cMo
  rw [h7, h6, h9, h11, hL]
  exact h
theorem wCo.up {n nd no : Nat} {f la ea lt le mo : Nat → Nat} {B B' : Nat} {Y : Nat → Nat → Nat} {Rw : Nat → Nat → Nat → Nat} {kp sp : Nat} (h : wCo n nd no f la ea lt le mo B Y Rw kp sp) (hB : B ≤ B') : wCo n nd no f la ea lt le mo B' Y Rw kp sp := ⟨h.1, h.2.1, Nat.le_trans h.2.2.1 hB, h.2.2.2⟩
section LP
variable {n B : Nat} {se : Int32} {nd no : Nat} {f la : Nat → Nat} {ph : Nat → Int32} {w : Nat → Nat → Nat} {ea lt le mo : Nat → Nat} {bu ev sd sv : Nat} {Y : Nat → Nat → Nat} {st : Nat → Int64} {Rw : Nat → Nat → Nat → Nat} {kp sp : Nat} {Ys : Nat → Nat → Nat → Nat} {ss : Nat → Nat → Int64} {Rs : Nat → Nat → Nat → Nat → Nat} {ks ps : Nat → Nat} {I J : tI} {L K : tL} {p0 p1 p2 p3 : Int32}
theorem lW.up {B' : Nat} (h : lW n B nd no f la ph w ea lt le mo bu ev sd sv Y st Rw kp sp Ys ss Rs ks ps) (hB : B ≤ B') : lW n B' nd no f la ph w ea lt le mo bu ev sd sv Y st Rw kp sp Ys ss Rs ks ps := ⟨h.1, fun q => (h.2.1 q).up hB, fun i hi => (h.2.2 i hi).up hB⟩
theorem lM.up {B' : Nat} (h : lM n B se nd no f la ph w ea lt le mo bu ev sd sv Y st Rw kp sp Ys ss Rs ks ps I L) (hB : B ≤ B') : lM n B' se nd no f la ph w ea lt le mo bu ev sd sv Y st Rw kp sp Ys ss Rs ks ps I L := by
  obtain ⟨h1, h2, ⟨s0, h3, h4⟩, h5⟩ := h
  exact ⟨h1, h2, ⟨s0, h3, Nat.le_trans h4 hB⟩, h5⟩
theorem lK.of (h : lK n se nd no f la ph w ea lt le mo bu ev sd sv Y st Rw kp sp Ys ss Rs ks ps I L) (h8 : nd ≤ 8) (hn : n ≤ 4) (hv : sv ≤ 4) (hI : ∀ k, k < 200 → J k = I k) (hL : ∀ k, k < 200 → K k = L k) : lK n se nd no f la ph w ea lt le mo bu ev sd sv Y st Rw kp sp Ys ss Rs ks ps J K := by
  obtain ⟨h1, h2, h3, h4, h5, h6, h7⟩ := h
  exact ⟨h1.of h8 (fun k _ q => hI k (by omega)), h2.of (hI 0 (by omega)), by rw [hI 0 (by omega)]; exact h3, by rw [hI 0 (by omega)]; exact h4, by rw [hI 0 (by omega)]; exact h5, fun q => (h6 q).of hn (fun k _ _ => hI k (by omega)) (hL _ (by omega)), fun i hi => (h7 i hi).of hn (fun k _ _ => hI k (by omega)) (hL _ (by omega))⟩
theorem lM.of (h : lM n B se nd no f la ph w ea lt le mo bu ev sd sv Y st Rw kp sp Ys ss Rs ks ps I L) (hI : ∀ k, 200 ≤ k → J k = I k) (hL : ∀ k, 200 ≤ k → k ≠ 220 → K k = L k) : lM n B se nd no f la ph w ea lt le mo bu ev sd sv Y st Rw kp sp Ys ss Rs ks ps J K := by
  obtain ⟨h1, h2, ⟨s0, h3, h4⟩, h5, h6⟩ := h
  have e := hI 200 (Nat.le_refl _)
  exact ⟨h1.of (by rw [e]) (by rw [e]) (fun k q _ => hI k (by omega)), h2.of (fun i _ => by rw [e]), ⟨s0, by rw [e]; exact h3, h4⟩, fun q => (h5 q).of (by rw [e]) (by rw [e]) (hI _ (by omega)) (hI _ (by omega)) (hL _ (by omega) (by omega)), fun i hi => (h6 i hi).of (hI _ (by omega)) (hI _ (by omega)) (hI _ (by omega)) (hI _ (by omega)) (hL _ (by omega) (by omega))⟩
theorem lM.gT (h : lM n B se nd no f la ph w ea lt le mo bu ev sd sv Y st Rw kp sp Ys ss Rs ks ps I L) (t : Int32) : lM n B se nd no f la ph w ea lt le mo bu ev sd sv Y st Rw kp sp Ys ss Rs ks ps (gT I t) L := by
  obtain ⟨h1, h2, ⟨s0, h3, h4⟩, h5, h6⟩ := h
  exact ⟨h1.gT t, h2.gT t, ⟨s0, by rw [gT_i I t (by omega)]; exact h3, h4⟩, fun q => (h5 q).gT t, fun i hi => (h6 i hi).of (gT_ne I t (by omega)) (gT_ne I t (by omega)) (gT_ne I t (by omega)) (gT_ne I t (by omega)) rfl⟩
theorem lW.d8 (h : lW n B nd no f la ph w ea lt le mo bu ev sd sv Y st Rw kp sp Ys ss Rs ks ps) : nd ≤ 8 := h.1.1
theorem lM.n4 (h : lM n B se nd no f la ph w ea lt le mo bu ev sd sv Y st Rw kp sp Ys ss Rs ks ps I L) : n ≤ 4 ∧ sv ≤ 4 ∧ sd ≤ 1 ∧ 1 ≤ n := by
  obtain ⟨_, ⟨_, _, _, _, _, _, h1, h2, _, _, _, h3, h4⟩, _⟩ := h
  exact ⟨h2, h4, h3, h1⟩
/-- nothing but the reference's word of what was thrown has changed -/
theorem lJ_T (hW : lW n B nd no f la ph w ea lt le mo bu ev sd sv Y st Rw kp sp Ys ss Rs ks ps) (hK : lK n se nd no f la ph w ea lt le mo bu ev sd sv Y st Rw kp sp Ys ss Rs ks ps I L) (hM : lM n B se nd no f la ph w ea lt le mo bu ev sd sv Y st Rw kp sp Ys ss Rs ks ps I L) (t : Int32) : lJ n (B + 100) se (gT I t) L :=
  ⟨_, _, _, _, _, _, _, _, _, _, _, _, _, _, _, _, _, _, _, _, _, _, _, _, hW.up (by omega), hK.of hW.d8 hM.n4.1 hM.n4.2.1 (fun k hk => gT_ne I t (by omega)) (fun _ _ => rfl), (hM.gT t).up (by omega)⟩
/-- forgetting: settings stay, nothing is started, nothing is saved -/
theorem lK_F {nd' no' : Nat} {f' la' : Nat → Nat} {ph' : Nat → Int32} {w' : Nat → Nat → Nat} {ea' lt' le' mo' : Nat → Nat} (h : lK n se nd no f la ph w ea lt le mo bu ev sd sv Y st Rw kp sp Ys ss Rs ks ps I L) (hS : cSi J nd' no' f' la' ph' w' ea' lt' le' mo') (hJ : J 0 = gF I 0) : lK n se nd' no' f' la' ph' w' ea' lt' le' mo' bu ev 0 0 Y st Rw kp sp Ys ss Rs ks ps J K := by
  obtain ⟨h1, ⟨a1, a2, a3, a4⟩, h3, h4, h5, h6, h7⟩ := h
  have e : gF I 0 = upd (upd (I 0) 6 0) 5 0 := va_up_self _ _ _
  rw [e] at hJ
  refine ⟨hS, ⟨?_, ?_, ?_, a4⟩, ?_, ?_, ?_, fun q => absurd q (by omega), fun i hi => absurd hi (by omega)⟩
  · rw [hJ, pk_un (by omega), pk_un (by omega)]; exact a1
  · rw [hJ, pk_un (by omega), pk_un (by omega)]; exact a2
  · rw [hJ, pk_un (by omega), pk_un (by omega)]; exact a3
  · rw [hJ, pk_un (by omega), pk_un (by omega)]; exact h3
  · rw [hJ, pk_un (by omega), pk_us]; rfl
  · rw [hJ, pk_us]; rfl
theorem lM_F {nd' no' : Nat} {f' la' : Nat → Nat} {ph' : Nat → Int32} {w' : Nat → Nat → Nat} {ea' lt' le' mo' : Nat → Nat} (h : lM n B se nd no f la ph w ea lt le mo bu ev sd sv Y st Rw kp sp Ys ss Rs ks ps I L) (hS : cMs J nd' no' f' la' ph' w' ea' lt' le' mo') (hJ : ∀ i, i = 1 ∨ i = 2 ∨ i = 13 ∨ i = 14 ∨ i = 16 → J 200 i = I 200 i) (h15 : J 200 15 = 0) (h21 : J 200 21 = 0) : lM n B se nd' no' f' la' ph' w' ea' lt' le' mo' bu ev 0 0 Y st Rw kp sp Ys ss Rs ks ps J K := by
  obtain ⟨h1, ⟨a1, a2, a3, a4, a5, a6, a7, a8, a9, a10, a11, a12, a13⟩, ⟨s0, h3, h4⟩, h5, h6⟩ := h
  exact ⟨hS, ⟨by rw [hJ 1 (by omega)]; exact a1, by rw [hJ 2 (by omega)]; exact a2, by rw [hJ 13 (by omega)]; exact a3, by rw [hJ 14 (by omega)]; exact a4, h15, h21, a7, a8, a9, a10, a11, by omega, by omega⟩, ⟨s0, by rw [hJ 16 (by omega)]; exact h3, h4⟩, fun q => absurd q (by omega), fun i hi => absurd hi (by omega)⟩
theorem lW_F {nd' no' : Nat} {f' la' : Nat → Nat} {w' : Nat → Nat → Nat} {ea' lt' le' mo' : Nat → Nat} {ph' : Nat → Int32} (hS : wfS nd' no' f' la' w' ea' lt' le' mo') : lW n B nd' no' f' la' ph' w' ea' lt' le' mo' bu ev 0 0 Y st Rw kp sp Ys ss Rs ks ps := ⟨hS, fun q => absurd q (by omega), fun i hi => absurd hi (by omega)⟩
theorem gG_15 (J : tI) : gG J 200 15 = 0 := by unfold gG; rw [va_up_self, pk_un (by omega), pk_us]
theorem gG_21 (J : tI) : gG J 200 21 = 0 := by unfold gG; rw [va_up_self, pk_us]
theorem gG_i (J : tI) {i : Nat} (h : i ≠ 15) (h2 : i ≠ 21) : gG J 200 i = J 200 i := by unfold gG; rw [va_up_self, pk_un h2, pk_un h]
theorem gG_ne (J : tI) {k : Nat} (h : k ≠ 200) : gG J k = J k := va_up_ne _ _ h
theorem dOk_n {a b : Nat} (ha : a < 256) (hb : b < 256) (h : nI a ≤ nI b) (h2 : nI b - nI a ≤ 63) : a ≤ b ∧ b ≤ a + 63 := by
  have h1 := (nI_leI (by omega) (by omega)).mp h
  rw [pk_sub h1, show (63 : Int32) = nI 63 from rfl] at h2
  have h3 := (nI_leI (by omega) (by omega)).mp h2
  omega
theorem cl_date {a b : Nat} (hd : nd < 8) (h : lK n se nd no f la ph w ea lt le mo bu ev sd sv Y st Rw kp sp Ys ss Rs ks ps I L) : lK n se (nd + 1) no (va_up f nd a) (va_up la nd b) (va_up ph nd (-1)) (va_up w nd (fun _ => 1)) ea lt le mo bu ev 0 0 Y st Rw kp sp Ys ss Rs ks ps (gAD (gF I) nd (nI a) (nI b)) L ∧ ∀ k, 200 ≤ k → gAD (gF I) nd (nI a) (nI b) k = I k := by
  have e0 : ∀ k, k ≠ 0 → k ≠ 1 → k ≠ 2 → k ≠ 3 → k ≠ 4 → k ≠ 10 + nd → gAD (gF I) nd (nI a) (nI b) k = I k := fun k a0 a1 a2 a3 a4 a5 => by
    unfold gAD
    rw [va_up_ne _ _ a1, va_up_ne _ _ a5, va_up_ne _ _ a4, va_up_ne _ _ a3, va_up_ne _ _ a2, gF_ne I a0]
  have e1 : gAD (gF I) nd (nI a) (nI b) 1 = upd (I 1) 8 (nI (nd + 1)) := by unfold gAD; rw [va_up_self, gF_ne I (by omega)]
  have e2 : gAD (gF I) nd (nI a) (nI b) 2 = upd (I 2) nd (nI a) := by unfold gAD; rw [va_up_ne _ _ (by omega), va_up_ne _ _ (by omega), va_up_ne _ _ (by omega), va_up_ne _ _ (by omega), va_up_self, gF_ne I (by omega)]
  have e3 : gAD (gF I) nd (nI a) (nI b) 3 = upd (I 3) nd (nI b) := by unfold gAD; rw [va_up_ne _ _ (by omega), va_up_ne _ _ (by omega), va_up_ne _ _ (by omega), va_up_self, gF_ne I (by omega)]
  have e4 : gAD (gF I) nd (nI a) (nI b) 4 = upd (I 4) nd (-1) := by unfold gAD; rw [va_up_ne _ _ (by omega), va_up_ne _ _ (by omega), va_up_self, gF_ne I (by omega)]
  have e5 : gAD (gF I) nd (nI a) (nI b) (10 + nd) = rOn (I (10 + nd)) 64 := by unfold gAD; rw [va_up_ne _ _ (by omega), va_up_self, gF_ne I (by omega)]
  refine ⟨lK_F h ?_ ?_, fun k hk => e0 k (by omega) (by omega) (by omega) (by omega) (by omega) (by omega)⟩
  · obtain ⟨⟨s1, s2, s3, s4⟩, _⟩ := h
    refine ⟨by rw [e1, pk_us], by rw [e1, pk_un (by omega)]; exact s2, fun d hd2 => ?_, fun j hj => ?_⟩
    · rw [e2, e3, e4]
      by_cases q : d = nd
      · subst q
        refine ⟨by rw [pk_us, va_up_self], by rw [pk_us, va_up_self], by rw [pk_us, va_up_self], fun i hi => ?_⟩
        rw [e5, va_up_self]
        unfold rOn
        rw [if_pos hi]
        rfl
      · obtain ⟨t1, t2, t3, t4⟩ := s3 d (by omega)
        refine ⟨by rw [pk_un q, va_up_ne _ _ q]; exact t1, by rw [pk_un q, va_up_ne _ _ q]; exact t2, by rw [pk_un q, va_up_ne _ _ q]; exact t3, fun i hi => ?_⟩
        rw [e0 (10 + d) (by omega) (by omega) (by omega) (by omega) (by omega) (by omega), va_up_ne _ _ q]
        exact t4 i hi
    · rw [e0 6 (by omega) (by omega) (by omega) (by omega) (by omega) (by omega), e0 7 (by omega) (by omega) (by omega) (by omega) (by omega) (by omega), e0 8 (by omega) (by omega) (by omega) (by omega) (by omega) (by omega), e0 9 (by omega) (by omega) (by omega) (by omega) (by omega) (by omega)]
      exact s4 j hj
  · unfold gAD
    rw [va_up_ne _ _ (by omega), va_up_ne _ _ (by omega), va_up_ne _ _ (by omega), va_up_ne _ _ (by omega), va_up_ne _ _ (by omega)]
theorem mo_date {a b : Nat} (hd : nd < 8) (h : lM n B se nd no f la ph w ea lt le mo bu ev sd sv Y st Rw kp sp Ys ss Rs ks ps I L) : lM n B se (nd + 1) no (va_up f nd a) (va_up la nd b) (va_up ph nd (-1)) (va_up w nd (fun _ => 1)) ea lt le mo bu ev 0 0 Y st Rw kp sp Ys ss Rs ks ps (gG (gMD (gT I 0) nd (nI a) (nI b))) L ∧ (∀ k, k < 200 → gG (gMD (gT I 0) nd (nI a) (nI b)) k = I k) ∧ gG (gMD (gT I 0) nd (nI a) (nI b)) 200 0 = 0 := by
  have e0 : ∀ k, k ≠ 200 → k ≠ 201 → k ≠ 202 → k ≠ 203 → k ≠ 204 → gG (gMD (gT I 0) nd (nI a) (nI b)) k = I k := fun k a0 a1 a2 a3 a4 => by
    rw [gG_ne _ a0]
    unfold gMD gM1
    rw [va_up_ne _ _ a0, va_up_ne _ _ a3, va_up_ne _ _ a4, va_up_ne _ _ a2, va_up_ne _ _ a1, gT_ne I 0 a0]
  have e9 : gMD (gT I 0) nd (nI a) (nI b) 200 = upd (gT I 0 200) 3 (nI (nd + 1)) := by unfold gMD; rw [va_up_self]
  have e1 : gG (gMD (gT I 0) nd (nI a) (nI b)) 201 = upd (I 201) nd (nI a) := by rw [gG_ne _ (by omega)]; unfold gMD gM1; rw [va_up_ne _ _ (by omega), va_up_ne _ _ (by omega), va_up_ne _ _ (by omega), va_up_ne _ _ (by omega), va_up_self, gT_ne I 0 (by omega)]
  have e2 : gG (gMD (gT I 0) nd (nI a) (nI b)) 202 = upd (I 202) nd (nI b) := by rw [gG_ne _ (by omega)]; unfold gMD gM1; rw [va_up_ne _ _ (by omega), va_up_ne _ _ (by omega), va_up_ne _ _ (by omega), va_up_self, gT_ne I 0 (by omega)]
  have e4 : gG (gMD (gT I 0) nd (nI a) (nI b)) 204 = upd (I 204) nd (-1) := by rw [gG_ne _ (by omega)]; unfold gMD gM1; rw [va_up_ne _ _ (by omega), va_up_ne _ _ (by omega), va_up_self, gT_ne I 0 (by omega)]
  have e3 : gG (gMD (gT I 0) nd (nI a) (nI b)) 203 = rOnM (I 203) (64 * nd) 64 := by rw [gG_ne _ (by omega)]; unfold gMD; rw [va_up_ne _ _ (by omega), va_up_self, gT_ne I 0 (by omega)]
  refine ⟨lM_F h ?_ (fun i hi => ?_) (gG_15 _) (gG_21 _), fun k hk => e0 k (by omega) (by omega) (by omega) (by omega) (by omega), by rw [gG_i _ (by omega) (by omega), e9, pk_un (by omega), gT_0]⟩
  · obtain ⟨⟨s1, s2, s3, s4⟩, _⟩ := h
    refine ⟨by rw [gG_i _ (by omega) (by omega), e9, pk_us], by rw [gG_i _ (by omega) (by omega), e9, pk_un (by omega), gT_i I 0 (by omega)]; exact s2, fun d hd2 => ?_, fun j hj => ?_⟩
    · rw [e1, e2, e3, e4]
      by_cases q : d = nd
      · subst q
        refine ⟨by rw [pk_us, va_up_self], by rw [pk_us, va_up_self], by rw [pk_us, va_up_self], fun i hi => ?_⟩
        rw [va_up_self]
        unfold rOnM
        rw [if_pos (by omega)]
        rfl
      · obtain ⟨t1, t2, t3, t4⟩ := s3 d (by omega)
        refine ⟨by rw [pk_un q, va_up_ne _ _ q]; exact t1, by rw [pk_un q, va_up_ne _ _ q]; exact t2, by rw [pk_un q, va_up_ne _ _ q]; exact t3, fun i hi => ?_⟩
        unfold rOnM
        rw [if_neg (by omega), va_up_ne _ _ q]
        exact t4 i hi
    · rw [e0 205 (by omega) (by omega) (by omega) (by omega) (by omega), e0 206 (by omega) (by omega) (by omega) (by omega) (by omega), e0 207 (by omega) (by omega) (by omega) (by omega) (by omega), e0 208 (by omega) (by omega) (by omega) (by omega) (by omega)]
      exact s4 j hj
  · rw [gG_i _ (by omega) (by omega), e9, pk_un (by omega), gT_i I 0 (by omega)]
theorem wf_date {a b : Nat} (hd : nd < 8) (h : wfS nd no f la w ea lt le mo) (h1 : a ≤ b) (h2 : b ≤ 255) (h3 : b ≤ a + 63) : wfS (nd + 1) no (va_up f nd a) (va_up la nd b) (va_up w nd (fun _ => 1)) ea lt le mo := by
  obtain ⟨s1, s2, s3, s4⟩ := h
  refine ⟨by omega, s2, fun d hd2 => ?_, fun j hj => ?_⟩
  · by_cases q : d = nd
    · subst q
      rw [va_up_self, va_up_self, va_up_self]
      exact ⟨h1, h2, h3, fun i _ => by omega⟩
    · rw [va_up_ne _ _ q, va_up_ne _ _ q, va_up_ne _ _ q]
      exact s3 d (by omega)
  · obtain ⟨t1, t2, t3⟩ := s4 j hj
    exact ⟨by omega, by omega, t3⟩
theorem cl_weight {d j x : Nat} (h8 : nd ≤ 8) (hd : d < nd) (hj : j < 64) (h : lK n se nd no f la ph w ea lt le mo bu ev sd sv Y st Rw kp sp Ys ss Rs ks ps I L) : lK n se nd no f la ph (va_up w d (va_up (w d) j x)) ea lt le mo bu ev 0 0 Y st Rw kp sp Ys ss Rs ks ps (va_up (gF I) (10 + d) (upd (gF I (10 + d)) j (nI x))) L ∧ ∀ k, 200 ≤ k → va_up (gF I) (10 + d) (upd (gF I (10 + d)) j (nI x)) k = I k := by
  have e0 : ∀ k, k ≠ 0 → k ≠ 10 + d → va_up (gF I) (10 + d) (upd (gF I (10 + d)) j (nI x)) k = I k := fun k a0 a1 => by rw [va_up_ne _ _ a1, gF_ne I a0]
  refine ⟨lK_F h ?_ (va_up_ne _ _ (by omega)), fun k hk => e0 k (by omega) (by omega)⟩
  obtain ⟨⟨s1, s2, s3, s4⟩, _⟩ := h
  refine ⟨by rw [e0 1 (by omega) (by omega)]; exact s1, by rw [e0 1 (by omega) (by omega)]; exact s2, fun d2 hd2 => ?_, fun j2 hj2 => ?_⟩
  · obtain ⟨t1, t2, t3, t4⟩ := s3 d2 hd2
    rw [e0 2 (by omega) (by omega), e0 3 (by omega) (by omega), e0 4 (by omega) (by omega)]
    refine ⟨t1, t2, t3, fun i hi => ?_⟩
    by_cases q : d2 = d
    · subst q
      rw [va_up_self, va_up_self, gF_ne I (by omega)]
      by_cases q2 : i = j
      · subst q2; rw [pk_us, va_up_self]
      · rw [pk_un q2, va_up_ne _ _ q2]; exact t4 i hi
    · rw [e0 (10 + d2) (by omega) (by omega), va_up_ne _ _ q]; exact t4 i hi
  · rw [e0 6 (by omega) (by omega), e0 7 (by omega) (by omega), e0 8 (by omega) (by omega), e0 9 (by omega) (by omega)]
    exact s4 j2 hj2
theorem mo_weight {d j x : Nat} (hd : d < nd) (hj : j < 64) (h : lM n B se nd no f la ph w ea lt le mo bu ev sd sv Y st Rw kp sp Ys ss Rs ks ps I L) : lM n B se nd no f la ph (va_up w d (va_up (w d) j x)) ea lt le mo bu ev 0 0 Y st Rw kp sp Ys ss Rs ks ps (gG (va_up (gT I 0) 203 (upd (gT I 0 203) (64 * d + j) (nI x)))) L ∧ (∀ k, k < 200 → gG (va_up (gT I 0) 203 (upd (gT I 0 203) (64 * d + j) (nI x))) k = I k) ∧ gG (va_up (gT I 0) 203 (upd (gT I 0 203) (64 * d + j) (nI x))) 200 0 = 0 := by
  have e0 : ∀ k, k ≠ 200 → k ≠ 203 → gG (va_up (gT I 0) 203 (upd (gT I 0 203) (64 * d + j) (nI x))) k = I k := fun k a0 a1 => by rw [gG_ne _ a0, va_up_ne _ _ a1, gT_ne I 0 a0]
  have e9 : ∀ i, i ≠ 15 → i ≠ 21 → i ≠ 0 → gG (va_up (gT I 0) 203 (upd (gT I 0 203) (64 * d + j) (nI x))) 200 i = I 200 i := fun i a1 a2 a3 => by rw [gG_i _ a1 a2, va_up_ne _ _ (by omega), gT_i I 0 a3]
  refine ⟨lM_F h ?_ (fun i hi => e9 i (by omega) (by omega) (by omega)) (gG_15 _) (gG_21 _), fun k hk => e0 k (by omega) (by omega), by rw [gG_i _ (by omega) (by omega), va_up_ne _ _ (by omega), gT_0]⟩
  obtain ⟨⟨s1, s2, s3, s4⟩, _⟩ := h
  refine ⟨by rw [e9 3 (by omega) (by omega) (by omega)]; exact s1, by rw [e9 8 (by omega) (by omega) (by omega)]; exact s2, fun d2 hd2 => ?_, fun j2 hj2 => ?_⟩
  · obtain ⟨t1, t2, t3, t4⟩ := s3 d2 hd2
    rw [e0 201 (by omega) (by omega), e0 202 (by omega) (by omega), e0 204 (by omega) (by omega)]
    refine ⟨t1, t2, t3, fun i hi => ?_⟩
    rw [gG_ne _ (by omega), va_up_self, gT_ne I 0 (by omega)]
    by_cases q : d2 = d
    · subst q
      rw [va_up_self]
      by_cases q2 : i = j
      · subst q2; rw [pk_us, va_up_self]
      · rw [pk_un (by omega), va_up_ne _ _ q2]; exact t4 i hi
    · rw [pk_un (by omega), va_up_ne _ _ q]; exact t4 i hi
  · rw [e0 205 (by omega) (by omega), e0 206 (by omega) (by omega), e0 207 (by omega) (by omega), e0 208 (by omega) (by omega)]
    exact s4 j2 hj2
theorem wf_weight {d j x : Nat} (h : wfS nd no f la w ea lt le mo) (h1 : 1 ≤ x) (h2 : x ≤ 1000) : wfS nd no f la (va_up w d (va_up (w d) j x)) ea lt le mo := by
  obtain ⟨s1, s2, s3, s4⟩ := h
  refine ⟨s1, s2, fun d2 hd2 => ?_, s4⟩
  obtain ⟨t1, t2, t3, t4⟩ := s3 d2 hd2
  refine ⟨t1, t2, t3, fun i hi => ?_⟩
  by_cases q : d2 = d
  · subst q
    rw [va_up_self]
    by_cases q2 : i = j
    · subst q2; rw [va_up_self]; exact ⟨h1, h2⟩
    · rw [va_up_ne _ _ q2]; exact t4 i hi
  · rw [va_up_ne _ _ q]; exact t4 i hi
theorem cl_before {x0 x1 x2 x3 : Nat} (h8 : nd ≤ 8) (h : lK n se nd no f la ph w ea lt le mo bu ev sd sv Y st Rw kp sp Ys ss Rs ks ps I L) : lK n se nd (no + 1) f la ph w (va_up ea no x0) (va_up lt no x1) (va_up le no x2) (va_up mo no x3) bu ev 0 0 Y st Rw kp sp Ys ss Rs ks ps (gAO (gF I) no (nI x0) (nI x1) (nI x2) (nI x3)) L ∧ ∀ k, 200 ≤ k → gAO (gF I) no (nI x0) (nI x1) (nI x2) (nI x3) k = I k := by
  have e0 : ∀ k, k ≠ 0 → k ≠ 1 → k ≠ 6 → k ≠ 7 → k ≠ 8 → k ≠ 9 → gAO (gF I) no (nI x0) (nI x1) (nI x2) (nI x3) k = I k := fun k a0 a1 a2 a3 a4 a5 => by
    unfold gAO
    rw [va_up_ne _ _ a1, va_up_ne _ _ a5, va_up_ne _ _ a4, va_up_ne _ _ a3, va_up_ne _ _ a2, gF_ne I a0]
  have e1 : gAO (gF I) no (nI x0) (nI x1) (nI x2) (nI x3) 1 = upd (I 1) 9 (nI (no + 1)) := by unfold gAO; rw [va_up_self, gF_ne I (by omega)]
  have e6 : gAO (gF I) no (nI x0) (nI x1) (nI x2) (nI x3) 6 = upd (I 6) no (nI x0) := by unfold gAO; rw [va_up_ne _ _ (by omega), va_up_ne _ _ (by omega), va_up_ne _ _ (by omega), va_up_ne _ _ (by omega), va_up_self, gF_ne I (by omega)]
  have e7 : gAO (gF I) no (nI x0) (nI x1) (nI x2) (nI x3) 7 = upd (I 7) no (nI x1) := by unfold gAO; rw [va_up_ne _ _ (by omega), va_up_ne _ _ (by omega), va_up_ne _ _ (by omega), va_up_self, gF_ne I (by omega)]
  have e8 : gAO (gF I) no (nI x0) (nI x1) (nI x2) (nI x3) 8 = upd (I 8) no (nI x2) := by unfold gAO; rw [va_up_ne _ _ (by omega), va_up_ne _ _ (by omega), va_up_self, gF_ne I (by omega)]
  have e9 : gAO (gF I) no (nI x0) (nI x1) (nI x2) (nI x3) 9 = upd (I 9) no (nI x3) := by unfold gAO; rw [va_up_ne _ _ (by omega), va_up_self, gF_ne I (by omega)]
  refine ⟨lK_F h ?_ ?_, fun k hk => e0 k (by omega) (by omega) (by omega) (by omega) (by omega) (by omega)⟩
  · obtain ⟨⟨s1, s2, s3, s4⟩, _⟩ := h
    refine ⟨by rw [e1, pk_un (by omega)]; exact s1, by rw [e1, pk_us], fun d hd => ?_, fun j hj => ?_⟩
    · rw [e0 2 (by omega) (by omega) (by omega) (by omega) (by omega) (by omega), e0 3 (by omega) (by omega) (by omega) (by omega) (by omega) (by omega), e0 4 (by omega) (by omega) (by omega) (by omega) (by omega) (by omega), e0 (10 + d) (by omega) (by omega) (by omega) (by omega) (by omega) (by omega)]
      exact s3 d hd
    · rw [e6, e7, e8, e9]
      by_cases q : j = no
      · subst q
        rw [pk_us, pk_us, pk_us, pk_us, va_up_self, va_up_self, va_up_self, va_up_self]
        exact ⟨rfl, rfl, rfl, rfl⟩
      · rw [pk_un q, pk_un q, pk_un q, pk_un q, va_up_ne _ _ q, va_up_ne _ _ q, va_up_ne _ _ q, va_up_ne _ _ q]
        exact s4 j (by omega)
  · unfold gAO
    rw [va_up_ne _ _ (by omega), va_up_ne _ _ (by omega), va_up_ne _ _ (by omega), va_up_ne _ _ (by omega), va_up_ne _ _ (by omega)]
theorem mo_before {x0 x1 x2 x3 : Nat} (h : lM n B se nd no f la ph w ea lt le mo bu ev sd sv Y st Rw kp sp Ys ss Rs ks ps I L) : lM n B se nd (no + 1) f la ph w (va_up ea no x0) (va_up lt no x1) (va_up le no x2) (va_up mo no x3) bu ev 0 0 Y st Rw kp sp Ys ss Rs ks ps (gG (gMO (gT I 0) no (nI x0) (nI x1) (nI x2) (nI x3))) L ∧ (∀ k, k < 200 → gG (gMO (gT I 0) no (nI x0) (nI x1) (nI x2) (nI x3)) k = I k) ∧ gG (gMO (gT I 0) no (nI x0) (nI x1) (nI x2) (nI x3)) 200 0 = 0 := by
  have e0 : ∀ k, k ≠ 200 → k ≠ 205 → k ≠ 206 → k ≠ 207 → k ≠ 208 → gG (gMO (gT I 0) no (nI x0) (nI x1) (nI x2) (nI x3)) k = I k := fun k a0 a1 a2 a3 a4 => by
    rw [gG_ne _ a0]
    unfold gMO
    rw [va_up_ne _ _ a0, va_up_ne _ _ a4, va_up_ne _ _ a3, va_up_ne _ _ a2, va_up_ne _ _ a1, gT_ne I 0 a0]
  have e9 : gMO (gT I 0) no (nI x0) (nI x1) (nI x2) (nI x3) 200 = upd (gT I 0 200) 8 (nI (no + 1)) := by unfold gMO; rw [va_up_self]
  have e5 : gG (gMO (gT I 0) no (nI x0) (nI x1) (nI x2) (nI x3)) 205 = upd (I 205) no (nI x0) := by rw [gG_ne _ (by omega)]; unfold gMO; rw [va_up_ne _ _ (by omega), va_up_ne _ _ (by omega), va_up_ne _ _ (by omega), va_up_ne _ _ (by omega), va_up_self, gT_ne I 0 (by omega)]
  have e6 : gG (gMO (gT I 0) no (nI x0) (nI x1) (nI x2) (nI x3)) 206 = upd (I 206) no (nI x1) := by rw [gG_ne _ (by omega)]; unfold gMO; rw [va_up_ne _ _ (by omega), va_up_ne _ _ (by omega), va_up_ne _ _ (by omega), va_up_self, gT_ne I 0 (by omega)]
  have e7 : gG (gMO (gT I 0) no (nI x0) (nI x1) (nI x2) (nI x3)) 207 = upd (I 207) no (nI x2) := by rw [gG_ne _ (by omega)]; unfold gMO; rw [va_up_ne _ _ (by omega), va_up_ne _ _ (by omega), va_up_self, gT_ne I 0 (by omega)]
  have e8 : gG (gMO (gT I 0) no (nI x0) (nI x1) (nI x2) (nI x3)) 208 = upd (I 208) no (nI x3) := by rw [gG_ne _ (by omega)]; unfold gMO; rw [va_up_ne _ _ (by omega), va_up_self, gT_ne I 0 (by omega)]
  refine ⟨lM_F h ?_ (fun i hi => ?_) (gG_15 _) (gG_21 _), fun k hk => e0 k (by omega) (by omega) (by omega) (by omega) (by omega), by rw [gG_i _ (by omega) (by omega), e9, pk_un (by omega), gT_0]⟩
  · obtain ⟨⟨s1, s2, s3, s4⟩, _⟩ := h
    refine ⟨by rw [gG_i _ (by omega) (by omega), e9, pk_un (by omega), gT_i I 0 (by omega)]; exact s1, by rw [gG_i _ (by omega) (by omega), e9, pk_us], fun d hd => ?_, fun j hj => ?_⟩
    · rw [e0 201 (by omega) (by omega) (by omega) (by omega) (by omega), e0 202 (by omega) (by omega) (by omega) (by omega) (by omega), e0 203 (by omega) (by omega) (by omega) (by omega) (by omega), e0 204 (by omega) (by omega) (by omega) (by omega) (by omega)]
      exact s3 d hd
    · rw [e5, e6, e7, e8]
      by_cases q : j = no
      · subst q
        rw [pk_us, pk_us, pk_us, pk_us, va_up_self, va_up_self, va_up_self, va_up_self]
        exact ⟨rfl, rfl, rfl, rfl⟩
      · rw [pk_un q, pk_un q, pk_un q, pk_un q, va_up_ne _ _ q, va_up_ne _ _ q, va_up_ne _ _ q, va_up_ne _ _ q]
        exact s4 j (by omega)
  · rw [gG_i _ (by omega) (by omega), e9, pk_un (by omega), gT_i I 0 (by omega)]
theorem wf_before {x0 x1 x2 x3 : Nat} (h : wfS nd no f la w ea lt le mo) (hn : no < 24) (h0 : x0 < nd) (h1 : x1 < nd) (h01 : x0 ≠ x1) (h2 : x2 ≤ x3) (h3 : x3 ≤ 255) : wfS nd (no + 1) f la w (va_up ea no x0) (va_up lt no x1) (va_up le no x2) (va_up mo no x3) := by
  obtain ⟨s1, s2, s3, s4⟩ := h
  refine ⟨s1, by omega, s3, fun j hj => ?_⟩
  by_cases q : j = no
  · subst q
    rw [va_up_self, va_up_self, va_up_self, va_up_self]
    exact ⟨h0, h1, h01, h2, h3⟩
  · rw [va_up_ne _ _ q, va_up_ne _ _ q, va_up_ne _ _ q, va_up_ne _ _ q]
    exact s4 j (by omega)
theorem cl_member {d : Nat} {x : Int32} (hn : n ≤ 4) (hv : sv ≤ 4) (h8 : nd ≤ 8) (hd : d < nd) (h : lK n se nd no f la ph w ea lt le mo bu ev sd sv Y st Rw kp sp Ys ss Rs ks ps I L) : lK n se nd no f la (va_up ph d x) w ea lt le mo bu ev sd sv Y st Rw kp sp Ys ss Rs ks ps (va_up I 4 (upd (I 4) d x)) L ∧ ∀ k, 200 ≤ k → va_up I 4 (upd (I 4) d x) k = I k := by
  have e0 : ∀ k, k ≠ 4 → va_up I 4 (upd (I 4) d x) k = I k := fun k a => va_up_ne _ _ a
  obtain ⟨⟨s1, s2, s3, s4⟩, h2, h3, h4, h5, h6, h7⟩ := h
  refine ⟨⟨⟨by rw [e0 1 (by omega)]; exact s1, by rw [e0 1 (by omega)]; exact s2, fun d2 hd2 => ?_, fun j hj => ?_⟩, h2.of (e0 0 (by omega)), by rw [e0 0 (by omega)]; exact h3, by rw [e0 0 (by omega)]; exact h4, by rw [e0 0 (by omega)]; exact h5, fun q => (h6 q).of hn (fun k _ _ => e0 k (by omega)) rfl, fun i hi => (h7 i hi).of hn (fun k _ _ => e0 k (by omega)) rfl⟩, fun k hk => e0 k (by omega)⟩
  · rw [e0 2 (by omega), e0 3 (by omega), va_up_self, e0 (10 + d2) (by omega)]
    obtain ⟨t1, t2, t3, t4⟩ := s3 d2 hd2
    refine ⟨t1, t2, ?_, t4⟩
    by_cases q : d2 = d
    · subst q; rw [pk_us, va_up_self]
    · rw [pk_un q, va_up_ne _ _ q]; exact t3
  · rw [e0 6 (by omega), e0 7 (by omega), e0 8 (by omega), e0 9 (by omega)]
    exact s4 j hj
theorem mo_member {d : Nat} {x : Int32} (hd : d < nd) (h : lM n B se nd no f la ph w ea lt le mo bu ev sd sv Y st Rw kp sp Ys ss Rs ks ps I L) : lM n B se nd no f la (va_up ph d x) w ea lt le mo bu ev sd sv Y st Rw kp sp Ys ss Rs ks ps (va_up (gT I 0) 204 (upd (gT I 0 204) d x)) L ∧ (∀ k, k < 200 → va_up (gT I 0) 204 (upd (gT I 0 204) d x) k = I k) ∧ va_up (gT I 0) 204 (upd (gT I 0 204) d x) 200 0 = 0 := by
  have e0 : ∀ k, k ≠ 200 → k ≠ 204 → va_up (gT I 0) 204 (upd (gT I 0 204) d x) k = I k := fun k a a2 => by rw [va_up_ne _ _ a2, gT_ne I 0 a]
  have e9 : ∀ i, i ≠ 0 → va_up (gT I 0) 204 (upd (gT I 0 204) d x) 200 i = I 200 i := fun i a => by rw [va_up_ne _ _ (by omega), gT_i I 0 a]
  obtain ⟨⟨s1, s2, s3, s4⟩, h2, ⟨s0, h3, h4⟩, h5, h6⟩ := h
  refine ⟨⟨⟨by rw [e9 3 (by omega)]; exact s1, by rw [e9 8 (by omega)]; exact s2, fun d2 hd2 => ?_, fun j hj => ?_⟩, h2.of (fun i hi => e9 i (by omega)), ⟨s0, by rw [e9 16 (by omega)]; exact h3, h4⟩, fun q => (h5 q).of (e9 17 (by omega)) (e9 16 (by omega)) (e0 209 (by omega) (by omega)) (e0 211 (by omega) (by omega)) rfl, fun i hi => (h6 i hi).of (e0 212 (by omega) (by omega)) (e0 214 (by omega) (by omega)) (e0 215 (by omega) (by omega)) (e0 216 (by omega) (by omega)) rfl⟩, fun k hk => e0 k (by omega) (by omega), by rw [va_up_ne _ _ (by omega), gT_0]⟩
  · rw [e0 201 (by omega) (by omega), e0 202 (by omega) (by omega), e0 203 (by omega) (by omega), va_up_self, gT_ne I 0 (by omega)]
    obtain ⟨t1, t2, t3, t4⟩ := s3 d2 hd2
    refine ⟨t1, t2, ?_, t4⟩
    by_cases q : d2 = d
    · subst q; rw [pk_us, va_up_self]
    · rw [pk_un q, va_up_ne _ _ q]; exact t3
  · rw [e0 205 (by omega) (by omega), e0 206 (by omega) (by omega), e0 207 (by omega) (by omega), e0 208 (by omega) (by omega)]
    exact s4 j hj
theorem cl_burn {x : Nat} (hn : n ≤ 4) (hv : sv ≤ 4) (h8 : nd ≤ 8) (hx : x ≤ 100) (h : lK n se nd no f la ph w ea lt le mo bu ev sd sv Y st Rw kp sp Ys ss Rs ks ps I L) : lK n se nd no f la ph w ea lt le mo x ev sd sv Y st Rw kp sp Ys ss Rs ks ps (va_up I 0 (upd (I 0) 7 (nI x))) L ∧ ∀ k, 200 ≤ k → va_up I 0 (upd (I 0) 7 (nI x)) k = I k := by
  have e0 : ∀ k, k ≠ 0 → va_up I 0 (upd (I 0) 7 (nI x)) k = I k := fun k a => va_up_ne _ _ a
  have e9 : ∀ i, i ≠ 7 → va_up I 0 (upd (I 0) 7 (nI x)) 0 i = I 0 i := fun i a => by rw [va_up_self, pk_un a]
  have e7 : va_up I 0 (upd (I 0) 7 (nI x)) 0 7 = nI x := by rw [va_up_self, pk_us]
  obtain ⟨h1, ⟨a1, a2, a3, a4, a5, a6, a7, a8⟩, h3, h4, h5, h6, h7⟩ := h
  exact ⟨⟨h1.of h8 (fun k _ _ => e0 k (by omega)), ⟨by rw [e9 1 (by omega)]; exact a1, e7, by rw [e9 8 (by omega)]; exact a3, a4, a5, by omega, by omega, by omega⟩, by rw [e9 0 (by omega)]; exact h3, by rw [e9 6 (by omega)]; exact h4, by rw [e9 5 (by omega)]; exact h5, fun q => (h6 q).of hn (fun k _ _ => e0 k (by omega)) rfl, fun i hi => (h7 i hi).of hn (fun k _ _ => e0 k (by omega)) rfl⟩, fun k hk => e0 k (by omega)⟩
theorem mo_burn {x : Nat} (hx : x ≤ 100) (h : lM n B se nd no f la ph w ea lt le mo bu ev sd sv Y st Rw kp sp Ys ss Rs ks ps I L) : lM n B se nd no f la ph w ea lt le mo x ev sd sv Y st Rw kp sp Ys ss Rs ks ps (va_up (gT I 0) 200 (upd (gT I 0 200) 13 (nI x))) L ∧ (∀ k, k < 200 → va_up (gT I 0) 200 (upd (gT I 0 200) 13 (nI x)) k = I k) ∧ va_up (gT I 0) 200 (upd (gT I 0 200) 13 (nI x)) 200 0 = 0 := by
  have e0 : ∀ k, k ≠ 200 → va_up (gT I 0) 200 (upd (gT I 0 200) 13 (nI x)) k = I k := fun k a => by rw [va_up_ne _ _ a, gT_ne I 0 a]
  have e9 : ∀ i, i ≠ 0 → i ≠ 13 → va_up (gT I 0) 200 (upd (gT I 0 200) 13 (nI x)) 200 i = I 200 i := fun i a b => by rw [va_up_self, pk_un b, gT_i I 0 a]
  have e7 : va_up (gT I 0) 200 (upd (gT I 0 200) 13 (nI x)) 200 13 = nI x := by rw [va_up_self, pk_us]
  obtain ⟨h1, ⟨a1, a2, a3, a4, a5, a6, a7, a8, a9, a10, a11, a12, a13⟩, ⟨s0, h3, h4⟩, h5, h6⟩ := h
  exact ⟨⟨h1.of (e9 3 (by omega) (by omega)) (e9 8 (by omega) (by omega)) (fun k _ _ => e0 k (by omega)), ⟨by rw [e9 1 (by omega) (by omega)]; exact a1, by rw [e9 2 (by omega) (by omega)]; exact a2, e7, by rw [e9 14 (by omega) (by omega)]; exact a4, by rw [e9 15 (by omega) (by omega)]; exact a5, by rw [e9 21 (by omega) (by omega)]; exact a6, a7, a8, by omega, by omega, by omega, a12, a13⟩, ⟨s0, by rw [e9 16 (by omega) (by omega)]; exact h3, h4⟩, fun q => (h5 q).of (e9 17 (by omega) (by omega)) (e9 16 (by omega) (by omega)) (e0 209 (by omega)) (e0 211 (by omega)) rfl, fun i hi => (h6 i hi).of (e0 212 (by omega)) (e0 214 (by omega)) (e0 215 (by omega)) (e0 216 (by omega)) rfl⟩, fun k hk => e0 k (by omega), by rw [va_up_self, pk_un (by omega), gT_0]⟩
theorem cl_thin {x : Nat} (hn : n ≤ 4) (hv : sv ≤ 4) (h8 : nd ≤ 8) (hx1 : 1 ≤ x) (hx : x ≤ 20) (h : lK n se nd no f la ph w ea lt le mo bu ev sd sv Y st Rw kp sp Ys ss Rs ks ps I L) : lK n se nd no f la ph w ea lt le mo bu x sd sv Y st Rw kp sp Ys ss Rs ks ps (va_up I 0 (upd (I 0) 8 (nI x))) L ∧ ∀ k, 200 ≤ k → va_up I 0 (upd (I 0) 8 (nI x)) k = I k := by
  have e0 : ∀ k, k ≠ 0 → va_up I 0 (upd (I 0) 8 (nI x)) k = I k := fun k a => va_up_ne _ _ a
  have e9 : ∀ i, i ≠ 8 → va_up I 0 (upd (I 0) 8 (nI x)) 0 i = I 0 i := fun i a => by rw [va_up_self, pk_un a]
  have e7 : va_up I 0 (upd (I 0) 8 (nI x)) 0 8 = nI x := by rw [va_up_self, pk_us]
  obtain ⟨h1, ⟨a1, a2, a3, a4, a5, a6, a7, a8⟩, h3, h4, h5, h6, h7⟩ := h
  exact ⟨⟨h1.of h8 (fun k _ _ => e0 k (by omega)), ⟨by rw [e9 1 (by omega)]; exact a1, by rw [e9 7 (by omega)]; exact a2, e7, a4, a5, by omega, by omega, by omega⟩, by rw [e9 0 (by omega)]; exact h3, by rw [e9 6 (by omega)]; exact h4, by rw [e9 5 (by omega)]; exact h5, fun q => (h6 q).of hn (fun k _ _ => e0 k (by omega)) rfl, fun i hi => (h7 i hi).of hn (fun k _ _ => e0 k (by omega)) rfl⟩, fun k hk => e0 k (by omega)⟩
theorem mo_thin {x : Nat} (hx1 : 1 ≤ x) (hx : x ≤ 20) (h : lM n B se nd no f la ph w ea lt le mo bu ev sd sv Y st Rw kp sp Ys ss Rs ks ps I L) : lM n B se nd no f la ph w ea lt le mo bu x sd sv Y st Rw kp sp Ys ss Rs ks ps (va_up (gT I 0) 200 (upd (gT I 0 200) 14 (nI x))) L ∧ (∀ k, k < 200 → va_up (gT I 0) 200 (upd (gT I 0 200) 14 (nI x)) k = I k) ∧ va_up (gT I 0) 200 (upd (gT I 0 200) 14 (nI x)) 200 0 = 0 := by
  have e0 : ∀ k, k ≠ 200 → va_up (gT I 0) 200 (upd (gT I 0 200) 14 (nI x)) k = I k := fun k a => by rw [va_up_ne _ _ a, gT_ne I 0 a]
  have e9 : ∀ i, i ≠ 0 → i ≠ 14 → va_up (gT I 0) 200 (upd (gT I 0 200) 14 (nI x)) 200 i = I 200 i := fun i a b => by rw [va_up_self, pk_un b, gT_i I 0 a]
  have e7 : va_up (gT I 0) 200 (upd (gT I 0 200) 14 (nI x)) 200 14 = nI x := by rw [va_up_self, pk_us]
  obtain ⟨h1, ⟨a1, a2, a3, a4, a5, a6, a7, a8, a9, a10, a11, a12, a13⟩, ⟨s0, h3, h4⟩, h5, h6⟩ := h
  exact ⟨⟨h1.of (e9 3 (by omega) (by omega)) (e9 8 (by omega) (by omega)) (fun k _ _ => e0 k (by omega)), ⟨by rw [e9 1 (by omega) (by omega)]; exact a1, by rw [e9 2 (by omega) (by omega)]; exact a2, by rw [e9 13 (by omega) (by omega)]; exact a3, e7, by rw [e9 15 (by omega) (by omega)]; exact a5, by rw [e9 21 (by omega) (by omega)]; exact a6, a7, a8, by omega, by omega, by omega, a12, a13⟩, ⟨s0, by rw [e9 16 (by omega) (by omega)]; exact h3, h4⟩, fun q => (h5 q).of (e9 17 (by omega) (by omega)) (e9 16 (by omega) (by omega)) (e0 209 (by omega)) (e0 211 (by omega)) rfl, fun i hi => (h6 i hi).of (e0 212 (by omega)) (e0 214 (by omega)) (e0 215 (by omega)) (e0 216 (by omega)) rfl⟩, fun k hk => e0 k (by omega), by rw [va_up_self, pk_un (by omega), gT_0]⟩
theorem cl_new {sd2 : Nat} {Y2 : Nat → Nat → Nat} {st2 : Nat → Int64} {Rw2 : Nat → Nat → Nat → Nat} {kp2 sp2 : Nat} (hn : n ≤ 4) (hv : sv ≤ 4) (h8 : nd ≤ 8) (h : lK n se nd no f la ph w ea lt le mo bu ev sd sv Y st Rw kp sp Ys ss Rs ks ps I L) (hI : ∀ k, k ≠ 0 → (k < 20 ∨ 40 ≤ k) → J k = I k) (h0 : ∀ i, i ≠ 6 → J 0 i = I 0 i) (h6 : J 0 6 = nI sd2) (hL : ∀ k, k ≠ 22 → K k = L k) (hC : sd2 = 1 → cCo J K n nd 20 Y2 st2 Rw2 kp2 sp2) : lK n se nd no f la ph w ea lt le mo bu ev sd2 sv Y2 st2 Rw2 kp2 sp2 Ys ss Rs ks ps J K := by
  obtain ⟨h1, ⟨a1, a2, a3, a4⟩, h3, h4, h5, _, h7⟩ := h
  exact ⟨h1.of h8 (fun k _ _ => hI k (by omega) (by omega)), ⟨by rw [h0 1 (by omega)]; exact a1, by rw [h0 7 (by omega)]; exact a2, by rw [h0 8 (by omega)]; exact a3, a4⟩, by rw [h0 0 (by omega)]; exact h3, h6, by rw [h0 5 (by omega)]; exact h5, hC, fun i hi => (h7 i hi).of hn (fun k _ _ => hI k (by omega) (by omega)) (hL _ (by omega))⟩
theorem mo_new {B2 sd2 : Nat} {Y2 : Nat → Nat → Nat} {st2 : Nat → Int64} {Rw2 : Nat → Nat → Nat → Nat} {kp2 sp2 : Nat} (h : lM n B se nd no f la ph w ea lt le mo bu ev sd sv Y st Rw kp sp Ys ss Rs ks ps I L) (hI : ∀ k, k ≠ 200 → k ≠ 209 → k ≠ 211 → J k = I k) (h0 : ∀ i, i ≠ 0 → i ≠ 15 → i ≠ 16 → i ≠ 17 → J 200 i = I 200 i) (h15 : J 200 15 = nI sd2) (hs1 : sd2 ≤ 1) (h16 : ∃ s0, J 200 16 = nI s0 ∧ s0 ≤ B2) (hL : ∀ k, k ≠ 210 → K k = L k) (hC : sd2 = 1 → cMo J K n nd Y2 st2 Rw2 kp2 sp2) : lM n B2 se nd no f la ph w ea lt le mo bu ev sd2 sv Y2 st2 Rw2 kp2 sp2 Ys ss Rs ks ps J K := by
  obtain ⟨h1, ⟨a1, a2, a3, a4, a5, a6, a7, a8, a9, a10, a11, a12, a13⟩, _, _, h6⟩ := h
  exact ⟨h1.of (h0 3 (by omega) (by omega) (by omega) (by omega)) (h0 8 (by omega) (by omega) (by omega) (by omega)) (fun k _ _ => hI k (by omega) (by omega) (by omega)), ⟨by rw [h0 1 (by omega) (by omega) (by omega) (by omega)]; exact a1, by rw [h0 2 (by omega) (by omega) (by omega) (by omega)]; exact a2, by rw [h0 13 (by omega) (by omega) (by omega) (by omega)]; exact a3, by rw [h0 14 (by omega) (by omega) (by omega) (by omega)]; exact a4, h15, by rw [h0 21 (by omega) (by omega) (by omega) (by omega)]; exact a6, a7, a8, a9, a10, a11, hs1, a13⟩, h16, hC, fun i hi => (h6 i hi).of (hI 212 (by omega) (by omega) (by omega)) (hI 214 (by omega) (by omega) (by omega)) (hI 215 (by omega) (by omega) (by omega)) (hI 216 (by omega) (by omega) (by omega)) (hL 213 (by omega))⟩
theorem lW_new {B2 sd2 : Nat} {Y2 : Nat → Nat → Nat} {st2 : Nat → Int64} {Rw2 : Nat → Nat → Nat → Nat} {kp2 sp2 : Nat} (h : lW n B nd no f la ph w ea lt le mo bu ev sd sv Y st Rw kp sp Ys ss Rs ks ps) (hB : B ≤ B2) (hC : sd2 = 1 → wCo n nd no f la ea lt le mo B2 Y2 Rw2 kp2 sp2) : lW n B2 nd no f la ph w ea lt le mo bu ev sd2 sv Y2 st2 Rw2 kp2 sp2 Ys ss Rs ks ps := ⟨h.1, hC, fun i hi => (h.2.2 i hi).up hB⟩
theorem yM_wf {z : Nat → Nat} (h : yM nd no f la ea lt le mo z) : wfY nd no f la ea lt le mo z := by
  obtain ⟨⟨h1, h2⟩, _⟩ := h
  refine ⟨fun d hd => ?_, fun k hk => ?_⟩
  · have := h1 d hd
    dsimp only at this
    omega
  · have := h2 k hk
    dsimp only at this
    omega
theorem cMo.cg {J : tI} {K : tL} {n nd : Nat} {Y Z : Nat → Nat → Nat} {st : Nat → Int64} {R : Nat → Nat → Nat → Nat} {kp sp : Nat} (h : cMo J K n nd Y st R kp sp) (e : ∀ c, c < n → ∀ d, d < nd → Y c d = Z c d) : cMo J K n nd Z st R kp sp := by
  obtain ⟨h1, h2, h3⟩ := h
  refine ⟨h1, h2, fun c hc => ?_⟩
  obtain ⟨t1, t2, t3⟩ := h3 c hc
  exact ⟨t1, fun d hd => by rw [← e c hc d hd]; exact t2 d hd, t3⟩
theorem iR_wf (hwf : wfS nd no f la w ea lt le mo) (h : wCo n nd no f la ea lt le mo B Y Rw kp sp) (x : Nat) : ∀ c, c < n → ∀ k, k < kp + cK bu ev sp x → ∀ d, d < nd → f d ≤ iR nd no f la w ea lt le mo Y st Rw kp sp bu ev x c k d ∧ iR nd no f la w ea lt le mo Y st Rw kp sp bu ev x c k d ≤ la d := by
  induction x with
  | zero => exact fun c hc k hk d hd => h.2.2.2 c hc k hk d hd
  | succ x ih =>
    intro c hc k hk d hd
    show f d ≤ nR _ _ _ c k d ∧ nR _ _ _ c k d ≤ la d
    unfold nR
    by_cases q : k = kp + cK bu ev sp x
    · rw [if_pos q]
      exact (iY_wf hwf h.1 (x + 1) c hc).1 d hd
    · rw [if_neg q]
      have h1 : cK bu ev sp (x + 1) = cK bu ev sp x + kN bu ev (sp + (x + 1)) := rfl
      have h2 := kN_le bu ev (sp + (x + 1))
      exact ih c hc k (by omega) d hd
theorem wCo_run (hwf : wfS nd no f la w ea lt le mo) (h : wCo n nd no f la ea lt le mo B Y Rw kp sp) {x : Nat} (hx : x ≤ 100) (hk : kp + cK bu ev sp x ≤ 60) : wCo n nd no f la ea lt le mo (B + 100) (iY nd no f la w ea lt le mo Y st x).1 (iR nd no f la w ea lt le mo Y st Rw kp sp bu ev x) (kp + cK bu ev sp x) (sp + x) := ⟨iY_wf hwf h.1 x, hk, by have := h.2.2.1; omega, iR_wf hwf h x⟩
theorem cCo_take {b b2 : Nat} (hB : isB b) (hB2 : isB b2) (hne : b ≠ b2) (hn : n ≤ 4) (h8 : nd ≤ 8) (h : cCo I L n nd b2 Y st Rw kp sp) : cCo (gTake I b b2 kp n) (gTl L b b2 n) n nd b Y st Rw kp sp := by
  obtain ⟨h1, h2, h3⟩ := h
  unfold isB at hB hB2
  have e0 : gTake I b b2 kp n b = upd (upd (I b) 3 (I b2 3)) 4 (I b2 4) := by unfold gTake; rw [va_up_self]
  refine ⟨by rw [e0, pk_un (by omega), pk_us]; exact h1, by rw [e0, pk_us]; exact h2, fun c hc => ?_⟩
  obtain ⟨t1, t2, t3⟩ := h3 c hc
  refine ⟨?_, fun d hd => ?_, fun k hk d hd => ?_⟩
  · unfold gTl
    rw [va_up_self, if_pos hc]
    exact t1
  · unfold gTake
    rw [va_up_ne _ _ (by omega)]
    unfold gTk
    rw [if_pos (by omega)]
    unfold va_cpy
    rw [if_pos (by omega), show b2 + (b + 4 + c - b) = b2 + 4 + c by omega, show 0 + (d - 0) = d by omega]
    exact t2 d hd
  · unfold gTake
    rw [va_up_ne _ _ (by omega)]
    unfold gTk
    rw [if_neg (by omega), if_pos (by omega)]
    unfold va_cpy
    have : k * 8 + d < kp * 8 := by omega
    rw [if_pos (by omega), show b2 + (b + 8 + c - b) = b2 + 8 + c by omega, show 0 + (k * 8 + d - 0) = k * 8 + d by omega]
    exact t3 k hk d hd
theorem gTake_ne {b b2 k : Nat} (hn : n ≤ 4) (h : k < b ∨ b + 12 ≤ k) : gTake I b b2 kp n k = I k := by
  unfold gTake
  rw [va_up_ne _ _ (by omega), gTk_n I (by omega) (by omega)]
theorem gTl_ne {b b2 j k : Nat} (h : k ≠ b + 2) : gTl L b b2 j k = L k := by unfold gTl; rw [va_up_ne _ _ h]
theorem cl_save (hn : n ≤ 4) (hv : sv < 4) (h8 : nd ≤ 8) (hsd : sd = 1) (h : lK n se nd no f la ph w ea lt le mo bu ev sd sv Y st Rw kp sp Ys ss Rs ks ps I L) : lK n se nd no f la ph w ea lt le mo bu ev sd (sv + 1) Y st Rw kp sp (va_up Ys sv Y) (va_up ss sv st) (va_up Rs sv Rw) (va_up ks sv kp) (va_up ps sv sp) (va_up (gTake I (40 + 20 * sv) 20 kp n) 0 (upd (I 0) 5 (nI (sv + 1)))) (gTl L (40 + 20 * sv) 20 n) ∧ (∀ k, 200 ≤ k → va_up (gTake I (40 + 20 * sv) 20 kp n) 0 (upd (I 0) 5 (nI (sv + 1))) k = I k) ∧ ∀ k, 200 ≤ k → gTl L (40 + 20 * sv) 20 n k = L k := by
  obtain ⟨h1, ⟨a1, a2, a3, a4⟩, h3, h4, h5, h6, h7⟩ := h
  have e0 : ∀ k, k ≠ 0 → (k < 40 + 20 * sv ∨ 40 + 20 * sv + 12 ≤ k) → va_up (gTake I (40 + 20 * sv) 20 kp n) 0 (upd (I 0) 5 (nI (sv + 1))) k = I k := fun k a b => by rw [va_up_ne _ _ a, gTake_ne hn b]
  have e9 : ∀ i, i ≠ 5 → va_up (gTake I (40 + 20 * sv) 20 kp n) 0 (upd (I 0) 5 (nI (sv + 1))) 0 i = I 0 i := fun i a => by rw [va_up_self, pk_un a]
  have eL : ∀ k, k ≠ 40 + 20 * sv + 2 → gTl L (40 + 20 * sv) 20 n k = L k := fun k a => gTl_ne a
  refine ⟨⟨h1.of h8 (fun k _ _ => e0 k (by omega) (by omega)), ⟨by rw [e9 1 (by omega)]; exact a1, by rw [e9 7 (by omega)]; exact a2, by rw [e9 8 (by omega)]; exact a3, a4⟩, by rw [e9 0 (by omega)]; exact h3, by rw [e9 6 (by omega)]; exact h4, by rw [va_up_self, pk_us], fun q => (h6 q).of hn (fun k _ _ => e0 k (by omega) (by omega)) (eL _ (by omega)), fun i hi => ?_⟩, fun k hk => e0 k (by omega) (by omega), fun k hk => eL k (by omega)⟩
  by_cases q : i = sv
  · subst q
    rw [va_up_self, va_up_self, va_up_self, va_up_self, va_up_self]
    exact (cCo_take (isB_sv hv) (Or.inl rfl) (by omega) hn h8 (h6 hsd)).of hn (fun k _ _ => va_up_ne _ _ (by omega)) rfl
  · rw [va_up_ne _ _ q, va_up_ne _ _ q, va_up_ne _ _ q, va_up_ne _ _ q, va_up_ne _ _ q]
    exact (h7 i (by omega)).of hn (fun k _ _ => e0 k (by omega) (by omega)) (eL _ (by omega))
theorem mo_save (hn : n ≤ 4) (hv : sv < 4) (h8 : nd ≤ 8) (hk60 : kp ≤ 60) (hk6 : ∀ i, i < sv → ∀ k, k < ks i → k < 60) (hsd : sd = 1) (h : lM n B se nd no f la ph w ea lt le mo bu ev sd sv Y st Rw kp sp Ys ss Rs ks ps I L) : lM n B se nd no f la ph w ea lt le mo bu ev sd (sv + 1) Y st Rw kp sp (va_up Ys sv Y) (va_up ss sv st) (va_up Rs sv Rw) (va_up ks sv kp) (va_up ps sv sp) (gMv (gT I 0) sv) (va_up L 213 (va_cpy (L 210) (L 213) 0 (4 * sv) 4)) ∧ (∀ k, k < 200 → gMv (gT I 0) sv k = I k) ∧ (∀ k, k ≠ 213 → va_up L 213 (va_cpy (L 210) (L 213) 0 (4 * sv) 4) k = L k) ∧ gMv (gT I 0) sv 200 0 = 0 := by
  obtain ⟨h1, ⟨a1, a2, a3, a4, a5, a6, a7, a8, a9, a10, a11, a12, a13⟩, ⟨s0, h3, h4⟩, h5, h6⟩ := h
  have e0 : ∀ k, k ≠ 200 → k ≠ 212 → k ≠ 214 → k ≠ 215 → k ≠ 216 → gMv (gT I 0) sv k = I k := fun k b0 b2 b4 b5 b6 => by
    unfold gMv
    rw [va_up_ne _ _ b0, va_up_ne _ _ b6, va_up_ne _ _ b5, gV1_ne _ _ ⟨b2, b4⟩, gT_ne I 0 b0]
  have e2 : gMv (gT I 0) sv 212 = va_cpy (I 209) (I 212) 0 (32 * sv) 32 := by unfold gMv gV1; rw [va_up_ne _ _ (by omega), va_up_ne _ _ (by omega), va_up_ne _ _ (by omega), va_up_ne _ _ (by omega), va_up_self, gT_ne I 0 (by omega), gT_ne I 0 (by omega)]
  have e4 : gMv (gT I 0) sv 214 = va_cpy (I 211) (I 214) 0 (1920 * sv) 1920 := by unfold gMv gV1; rw [va_up_ne _ _ (by omega), va_up_ne _ _ (by omega), va_up_ne _ _ (by omega), va_up_self, gT_ne I 0 (by omega), gT_ne I 0 (by omega)]
  have e5 : gMv (gT I 0) sv 215 = upd (I 215) sv (I 200 17) := by unfold gMv; rw [va_up_ne _ _ (by omega), va_up_ne _ _ (by omega), va_up_self, gT_ne I 0 (by omega), gT_i I 0 (by omega)]
  have e6 : gMv (gT I 0) sv 216 = upd (I 216) sv (I 200 16) := by unfold gMv; rw [va_up_ne _ _ (by omega), va_up_self, gT_ne I 0 (by omega), gT_i I 0 (by omega)]
  have e9 : ∀ i, i ≠ 0 → i ≠ 21 → gMv (gT I 0) sv 200 i = I 200 i := fun i b b2 => by unfold gMv; rw [va_up_self, pk_un b2, gT_i I 0 b]
  obtain ⟨c1, c2, c3⟩ := h5 hsd
  refine ⟨⟨h1.of (e9 3 (by omega) (by omega)) (e9 8 (by omega) (by omega)) (fun k _ _ => e0 k (by omega) (by omega) (by omega) (by omega) (by omega)), ⟨by rw [e9 1 (by omega) (by omega)]; exact a1, by rw [e9 2 (by omega) (by omega)]; exact a2, by rw [e9 13 (by omega) (by omega)]; exact a3, by rw [e9 14 (by omega) (by omega)]; exact a4, by rw [e9 15 (by omega) (by omega)]; exact a5, by unfold gMv; rw [va_up_self, pk_us], a7, a8, a9, a10, a11, a12, by omega⟩, ⟨s0, by rw [e9 16 (by omega) (by omega)]; exact h3, h4⟩, fun q => (h5 q).of (e9 17 (by omega) (by omega)) (e9 16 (by omega) (by omega)) (e0 209 (by omega) (by omega) (by omega) (by omega) (by omega)) (e0 211 (by omega) (by omega) (by omega) (by omega) (by omega)) (va_up_ne _ _ (by omega)), fun i hi => ?_⟩, fun k hk => e0 k (by omega) (by omega) (by omega) (by omega) (by omega), fun k hk => va_up_ne _ _ hk, by unfold gMv; rw [va_up_self, pk_un (by omega), gT_0]⟩
  unfold cMv
  rw [e2, e4, e5, e6, va_up_self]
  by_cases q : i = sv
  · subst q
    rw [va_up_self, va_up_self, va_up_self, va_up_self, va_up_self, pk_us, pk_us]
    refine ⟨c1, c2, fun c hc => ?_⟩
    obtain ⟨t1, t2, t3⟩ := c3 c hc
    unfold va_cpy
    refine ⟨by rw [if_pos (by omega), show 0 + (4 * i + c - 4 * i) = c by omega]; exact t1, fun d hd => ?_, fun k hk d hd => ?_⟩
    · rw [if_pos (by omega), show 0 + (32 * i + (8 * c + d) - 32 * i) = 8 * c + d by omega]; exact t2 d hd
    · rw [if_pos (by omega), show 0 + (1920 * i + (8 * (60 * c + k) + d) - 1920 * i) = 8 * (60 * c + k) + d by omega]; exact t3 k hk d hd
  · rw [va_up_ne _ _ q, va_up_ne _ _ q, va_up_ne _ _ q, va_up_ne _ _ q, va_up_ne _ _ q, pk_un q, pk_un q]
    obtain ⟨g1, g2, g3⟩ := h6 i (by omega)
    refine ⟨g1, g2, fun c hc => ?_⟩
    obtain ⟨t1, t2, t3⟩ := g3 c hc
    unfold va_cpy
    refine ⟨by rw [if_neg (by omega)]; exact t1, fun d hd => ?_, fun k hk d hd => ?_⟩
    · rw [if_neg (by omega)]; exact t2 d hd
    · have hk9 : k < 60 := hk6 i (by omega) k hk
      rw [if_neg (by omega)]; exact t3 k hk d hd
theorem lW_save (hsd : sd = 1) (h : lW n B nd no f la ph w ea lt le mo bu ev sd sv Y st Rw kp sp Ys ss Rs ks ps) : lW n B nd no f la ph w ea lt le mo bu ev sd (sv + 1) Y st Rw kp sp (va_up Ys sv Y) (va_up ss sv st) (va_up Rs sv Rw) (va_up ks sv kp) (va_up ps sv sp) := by
  refine ⟨h.1, h.2.1, fun i hi => ?_⟩
  by_cases q : i = sv
  · subst q
    rw [va_up_self, va_up_self, va_up_self, va_up_self]
    exact h.2.1 hsd
  · rw [va_up_ne _ _ q, va_up_ne _ _ q, va_up_ne _ _ q, va_up_ne _ _ q]
    exact h.2.2 i (by omega)
theorem cl_back {i9 : Nat} (hn : n ≤ 4) (hv : sv ≤ 4) (h8 : nd ≤ 8) (hi : i9 < sv) (h : lK n se nd no f la ph w ea lt le mo bu ev sd sv Y st Rw kp sp Ys ss Rs ks ps I L) : lK n se nd no f la ph w ea lt le mo bu ev 1 sv (Ys i9) (ss i9) (Rs i9) (ks i9) (ps i9) Ys ss Rs ks ps (va_up (gTake I 20 (40 + 20 * i9) (ks i9) n) 0 (upd (I 0) 6 1)) (gTl L 20 (40 + 20 * i9) n) ∧ (∀ k, 200 ≤ k → va_up (gTake I 20 (40 + 20 * i9) (ks i9) n) 0 (upd (I 0) 6 1) k = I k) ∧ ∀ k, 200 ≤ k → gTl L 20 (40 + 20 * i9) n k = L k := by
  obtain ⟨h1, ⟨a1, a2, a3, a4⟩, h3, h4, h5, h6, h7⟩ := h
  have e0 : ∀ k, k ≠ 0 → (k < 20 ∨ 32 ≤ k) → va_up (gTake I 20 (40 + 20 * i9) (ks i9) n) 0 (upd (I 0) 6 1) k = I k := fun k a b => by rw [va_up_ne _ _ a, gTake_ne hn (by omega)]
  have e9 : ∀ i, i ≠ 6 → va_up (gTake I 20 (40 + 20 * i9) (ks i9) n) 0 (upd (I 0) 6 1) 0 i = I 0 i := fun i a => by rw [va_up_self, pk_un a]
  have eL : ∀ k, k ≠ 22 → gTl L 20 (40 + 20 * i9) n k = L k := fun k a => gTl_ne a
  exact ⟨⟨h1.of h8 (fun k _ _ => e0 k (by omega) (by omega)), ⟨by rw [e9 1 (by omega)]; exact a1, by rw [e9 7 (by omega)]; exact a2, by rw [e9 8 (by omega)]; exact a3, a4⟩, by rw [e9 0 (by omega)]; exact h3, by rw [va_up_self, pk_us]; rfl, by rw [e9 5 (by omega)]; exact h5, fun _ => (cCo_take (Or.inl rfl) (isB_sv (by omega)) (by omega) hn h8 (h7 i9 hi)).of hn (fun k _ _ => va_up_ne _ _ (by omega)) rfl, fun i hi => (h7 i hi).of hn (fun k _ _ => e0 k (by omega) (by omega)) (eL _ (by omega))⟩, fun k hk => e0 k (by omega) (by omega), fun k hk => eL k (by omega)⟩
theorem mo_back {i9 : Nat} (hn : n ≤ 4) (h8 : nd ≤ 8) (hi : i9 < sv) (hk60 : ks i9 ≤ 60) (hpB : ps i9 ≤ B) (h : lM n B se nd no f la ph w ea lt le mo bu ev sd sv Y st Rw kp sp Ys ss Rs ks ps I L) : lM n B se nd no f la ph w ea lt le mo bu ev 1 sv (Ys i9) (ss i9) (Rs i9) (ks i9) (ps i9) Ys ss Rs ks ps (gMb (gT I 0) i9) (va_up L 210 (va_cpy (L 213) (L 210) (4 * i9) 0 4)) ∧ (∀ k, k < 200 → gMb (gT I 0) i9 k = I k) ∧ (∀ k, k ≠ 210 → va_up L 210 (va_cpy (L 213) (L 210) (4 * i9) 0 4) k = L k) ∧ gMb (gT I 0) i9 200 0 = 0 := by
  obtain ⟨h1, ⟨a1, a2, a3, a4, a5, a6, a7, a8, a9, a10, a11, a12, a13⟩, ⟨s0, h3, h4⟩, h5, h6⟩ := h
  have e0 : ∀ k, k ≠ 200 → k ≠ 209 → k ≠ 211 → gMb (gT I 0) i9 k = I k := fun k b0 b2 b4 => by
    unfold gMb
    rw [va_up_ne _ _ b0, gB1_ne _ _ ⟨b2, b4⟩, gT_ne I 0 b0]
  have e2 : gMb (gT I 0) i9 209 = va_cpy (I 212) (I 209) (32 * i9) 0 32 := by unfold gMb gB1; rw [va_up_ne _ _ (by omega), va_up_ne _ _ (by omega), va_up_self, gT_ne I 0 (by omega), gT_ne I 0 (by omega)]
  have e4 : gMb (gT I 0) i9 211 = va_cpy (I 214) (I 211) (1920 * i9) 0 1920 := by unfold gMb gB1; rw [va_up_ne _ _ (by omega), va_up_self, gT_ne I 0 (by omega), gT_ne I 0 (by omega)]
  have e9 : ∀ i, i ≠ 0 → i ≠ 15 → i ≠ 16 → i ≠ 17 → gMb (gT I 0) i9 200 i = I 200 i := fun i b b2 b3 b4 => by unfold gMb; rw [va_up_self, pk_un b2, pk_un b3, pk_un b4, gT_i I 0 b]
  obtain ⟨c1, c2, c3⟩ := h6 i9 hi
  have e17 : gMb (gT I 0) i9 200 17 = nI (ks i9) := by unfold gMb; rw [va_up_self, pk_un (by omega), pk_un (by omega), pk_us, gT_ne I 0 (by omega)]; exact c1
  have e16 : gMb (gT I 0) i9 200 16 = nI (ps i9) := by unfold gMb; rw [va_up_self, pk_un (by omega), pk_us, gT_ne I 0 (by omega)]; exact c2
  refine ⟨⟨h1.of (e9 3 (by omega) (by omega) (by omega) (by omega)) (e9 8 (by omega) (by omega) (by omega) (by omega)) (fun k _ _ => e0 k (by omega) (by omega) (by omega)), ⟨by rw [e9 1 (by omega) (by omega) (by omega) (by omega)]; exact a1, by rw [e9 2 (by omega) (by omega) (by omega) (by omega)]; exact a2, by rw [e9 13 (by omega) (by omega) (by omega) (by omega)]; exact a3, by rw [e9 14 (by omega) (by omega) (by omega) (by omega)]; exact a4, by unfold gMb; rw [va_up_self, pk_us]; rfl, by rw [e9 21 (by omega) (by omega) (by omega) (by omega)]; exact a6, a7, a8, a9, a10, a11, by omega, a13⟩, ⟨ps i9, e16, hpB⟩, fun _ => ⟨e17, e16, fun c hc => ?_⟩, fun i hi => (h6 i hi).of (e0 212 (by omega) (by omega) (by omega)) (e0 214 (by omega) (by omega) (by omega)) (e0 215 (by omega) (by omega) (by omega)) (e0 216 (by omega) (by omega) (by omega)) (va_up_ne _ _ (by omega))⟩, fun k hk => e0 k (by omega) (by omega) (by omega), fun k hk => va_up_ne _ _ hk, by unfold gMb; rw [va_up_self, pk_un (by omega), pk_un (by omega), pk_un (by omega), gT_0]⟩
  obtain ⟨t1, t2, t3⟩ := c3 c hc
  rw [e2, e4, va_up_self]
  unfold va_cpy
  refine ⟨by rw [if_pos (by omega), show 4 * i9 + (c - 0) = 4 * i9 + c by omega]; exact t1, fun d hd => ?_, fun k hk d hd => ?_⟩
  · rw [if_pos (by omega), show 32 * i9 + (8 * c + d - 0) = 32 * i9 + (8 * c + d) by omega]; exact t2 d hd
  · rw [if_pos (by omega), show 1920 * i9 + (8 * (60 * c + k) + d - 0) = 1920 * i9 + (8 * (60 * c + k) + d) by omega]; exact t3 k hk d hd
theorem lW_back {i9 : Nat} (hi : i9 < sv) (h : lW n B nd no f la ph w ea lt le mo bu ev sd sv Y st Rw kp sp Ys ss Rs ks ps) : lW n B nd no f la ph w ea lt le mo bu ev 1 sv (Ys i9) (ss i9) (Rs i9) (ks i9) (ps i9) Ys ss Rs ks ps := ⟨h.1, fun _ => h.2.2 i9 hi, h.2.2⟩
end LP
