/-- the minute goes on -/
theorem RW_time {m : mz_M} {N : Nat} {V : Nat → Int} {x : Int} (h : RW m 18 V N) (hx : 0 ≤ m 18 3 + x ∧ m 18 3 + x ≤ 10079) : RW (mz_up m 18 3 (m 18 3 + x)) 18 (vU V 2 (V 2 + x)) N := by
  obtain ⟨g1, g2, g3, g4, ⟨⟨g5, g6, g7⟩, g8⟩⟩ := h
  have c : ∀ a, a ≠ 18 → mz_up m 18 3 (m 18 3 + x) a = m a := fun a ha => by funext j; exact up_o ha
  have v : ∀ j, j ≠ 2 → vU V 2 (V 2 + x) j = V j := fun j hj => vU_n hj
  have em : ∀ i w, me (vU V 2 (V 2 + x)) i w = me V i w := fun i w => v _ (by omega)
  have ec : ∀ c w, mc (vU V 2 (V 2 + x)) c w = mc V c w := fun c w => v _ (by omega)
  have eT : ∀ n c, mTc (vU V 2 (V 2 + x)) n c = mTc V n c := fun n c => sm_congr fun i _ => by rw [em, em]
  have eU : ∀ c, sm (mUA (vU V 2 (V 2 + x)) c) N = sm (mUA V c) N := fun c => sm_congr fun i _ => by unfold mUA; rw [em, em, em, em]
  refine ⟨?_, ?_, fun p hp => ?_, fun d hd => ?_, ⟨⟨?_, ?_, g7⟩, fun i hi => ?_⟩⟩
  · obtain ⟨t1, ⟨b1, b2, b3, b4⟩, t3⟩ := twnR_congr1 (m' := mz_up m 18 3 (m 18 3 + x)) (fun a q1 q2 => c a (by omega)) g1
    exact ⟨t1, ⟨(v 0 (by omega)).trans b1, fun p hp => ⟨(v _ (by omega)).trans (b2 p hp).1, (v _ (by omega)).trans (b2 p hp).2.1, (v _ (by omega)).trans (b2 p hp).2.2⟩, fun j hj => (v _ (by omega)).trans (b3 j hj), fun z hz => ⟨(v _ (by omega)).trans (b4 z hz).1, fun h hh => (v _ (by omega)).trans ((b4 z hz).2 h hh)⟩⟩, fun j hj => ⟨(t3 j hj).1, (v _ (by omega)).trans (t3 j hj).2⟩⟩
  · unfold timR at g2 ⊢
    rw [v 1 (by omega), vU_e rfl, up_s, up_k (by omega), c (18 + 1) (by omega), c (18 + 4) (by omega)]
    exact ⟨⟨by rw [g2.1.1], hx⟩, g2.2⟩
  · rw [c (18 + 4) (by omega)]
    have : sm (pnd (mz_up m 18 3 (m 18 3 + x)) 18 p) 16 = sm (pnd m 18 p) 16 := sm_congr fun i hi => by unfold pnd; rw [c _ (by omega)]
    rw [this]
    exact g3 p hp
  · have a := carR_congr (m' := mz_up m 18 3 (m 18 3 + x)) (by rw [c (18 + 1) (by omega)]) (c _ (by omega)) (g4 d hd)
    unfold carR at a ⊢
    rw [ec, ec, ec, ec, ec, ec, eT, eU]
    simp only [em]
    exact a
  · rw [c (18 + 17) (by omega)]; exact g5
  · rw [v 429 (by omega)]; exact g6
  · have a := entR_congr (m' := mz_up m 18 3 (m 18 3 + x)) (by rw [c (18 + 1) (by omega)]) (fun a q1 q2 => by rw [c a (by omega)]) (fun d hd => by rw [c _ (by omega)]) (g8 i hi)
    unfold entR at a ⊢
    simp only [em, eT]
    exact a
/-! Both objects: the calls that throw. -/
def botX (k : Nat) (E0 : String) (fm : Nat) (as : List mz_V) (m : mz_M) : Prop := ∃ (res : Option Int) (M1 : mz_M) (w : Int) (M2 : mz_M), (∀ (l : Launch) (D : va_G) (cy : Nat → ClassId) (sK sV : Nat → Nat) (vF : Value) (β : Nat → Prop) (ad : Nat → Nat), l.stackTraces = false → xw_Met l D cy sK sV vF β k E0 ad (mz_r 8 0 0 :: as) m res M1) ∧ sp fm (mz_r 9 0 153 :: as) M1 (some (mz_i w)) M2 ∧ M2 153 4 = (if res = none then 1 else 0) ∧ (∀ v, res = some v → v = w) ∧ Rel M2
theorem tke_congr {P Q : Nat → Prop} [DecidablePred P] [DecidablePred Q] : ∀ (r j : Nat) (q : Int), (∀ i, j ≤ i → i < j + r → (P i ↔ Q i)) → tke P r j q = tke Q r j q := by
  intro r
  induction r with
  | zero => intros; rfl
  | succ r ih =>
    intro j q h
    unfold tke
    rw [ih (j + 1) (q - 1) (fun i h1 h2 => h i (by omega) (by omega)), ih (j + 1) q (fun i h1 h2 => h i (by omega) (by omega))]
    have := h j (Nat.le_refl _) (by omega)
    by_cases p : P j
    · rw [if_pos p, if_pos (this.mp p)]
    · rw [if_neg p, if_neg (fun y => p (this.mpr y))]
theorem bx_advance {m : mz_M} (h : Rel m) (hS : mz_wS (mz_fu m)) {x : Int} (hx : mz_w x) : botX 300 xw_IAE 97 [mz_i x] m := by
  obtain ⟨N, hw⟩ := h.1
  have tm := hw.2.1
  have e2 : m 154 2 = m 18 3 := tm.1.1
  have h3 : 0 ≤ m 18 3 ∧ m 18 3 ≤ 10079 := tm.1.2
  have h2 := fun M1 (e : rM M1 (m 154) = M1) => by
    have := sp_rAdvance M1 (m 154) x (by omega)
    rw [e] at this
    exact this
  by_cases h1 : 0 ≤ x ∧ x ≤ 1440
  · by_cases h9 : 10079 < m 18 3 + x
    · refine ⟨some (-4), m, _, _, fun l D cy sK sV vF β ad hl => xw_adv1 hl hS hx h1 (by omega) h9, h2 m (rM_self m), ?_, fun v hv => ?_, ?_⟩
      · rw [rM_o (by omega), up_s, if_pos h1]; simp
      · rw [if_pos h1, if_pos (by omega)]; cases hv; rfl
      · rw [if_neg (show ¬ ((0 ≤ x ∧ x ≤ 1440) ∧ ¬ 10079 < m 154 2 + x) from fun q => q.2 (by omega))]
        have e : rM (mz_up m 153 4 (if 0 ≤ x ∧ x ≤ 1440 then 0 else 1)) (m 154) = mz_up m 153 4 (if 0 ≤ x ∧ x ≤ 1440 then 0 else 1) := by
          have := rM_self (mz_up m 153 4 (if 0 ≤ x ∧ x ≤ 1440 then 0 else 1))
          rw [show mz_up m 153 4 (if 0 ≤ x ∧ x ≤ 1440 then 0 else 1) 154 = m 154 by funext j; exact up_o (by omega)] at this
          exact this
        rw [e]
        exact Rel_thr h
    · have em : rM (mz_up m 18 3 (m 18 3 + x)) (m 154) = mz_up m 18 3 (m 18 3 + x) := by
        have := rM_self (mz_up m 18 3 (m 18 3 + x))
        rw [show mz_up m 18 3 (m 18 3 + x) 154 = m 154 by funext j; exact up_o (by omega)] at this
        exact this
      refine ⟨some (mz_up m 18 3 (m 18 3 + x) 18 3), mz_up m 18 3 (m 18 3 + x), _, _, fun l D cy sK sV vF β ad hl => xw_adv2 hl hS hx h1 (by omega) h9, h2 _ em, ?_, fun v hv => ?_, ?_⟩
      · rw [rM_o (by omega), up_s, if_pos h1]; simp
      · rw [if_pos h1, if_neg (by omega), e2]; cases hv; exact up_s
      · rw [if_pos (show (0 ≤ x ∧ x ≤ 1440) ∧ ¬ 10079 < m 154 2 + x from ⟨h1, by omega⟩), if_pos h1]
        refine Rel_move (N := N) h (fun a ha => by funext j; exact up_o (by omega)) ?_ ?_
        · obtain ⟨g1, g2, g3, g4, g5⟩ := hw
          have c18 : ∀ a, a ≠ 18 → mz_up m 18 3 (m 18 3 + x) a = m a := fun a ha => by funext j; exact up_o ha
          have w : RW (mz_up m 18 3 (m 18 3 + x)) 18 (m 154) N ∨ True := Or.inr trivial
          refine RW_time ⟨g1, g2, g3, g4, g5⟩ (by omega)
        · exact spR_congr (fun a q1 q2 q3 q4 => by funext j; exact up_o (by omega)) h.2.2.2.2.1
  · refine ⟨none, m, _, _, fun l D cy sK sV vF β ad hl => xw_adv0 hl hS hx h1, h2 m (rM_self m), ?_, fun v hv => (by cases hv), ?_⟩
    · rw [rM_o (by omega), up_s, if_neg h1]; simp
    · rw [if_neg (show ¬ ((0 ≤ x ∧ x ≤ 1440) ∧ ¬ 10079 < m 154 2 + x) from fun q => h1 q.1)]
      have e : rM (mz_up m 153 4 (if 0 ≤ x ∧ x ≤ 1440 then 0 else 1)) (m 154) = mz_up m 153 4 (if 0 ≤ x ∧ x ≤ 1440 then 0 else 1) := by
        have := rM_self (mz_up m 153 4 (if 0 ≤ x ∧ x ≤ 1440 then 0 else 1))
        rw [show mz_up m 153 4 (if 0 ≤ x ∧ x ≤ 1440 then 0 else 1) 154 = m 154 by funext j; exact up_o (by omega)] at this
        exact this
      rw [e]
      exact Rel_thr h
theorem sp_X9_logMinute (m : mz_M) (i : Int) {n : Nat} (h0 : m 154 429 = n) (hn : n ≤ 400) : sp 165 [mz_r 9 0 153, mz_i i] m (some (mz_i (if 0 ≤ i ∧ i < n then me (m 154) i.toNat 0 else 0))) (mz_up m 153 4 (if 0 ≤ i ∧ i < n then 0 else 1)) := by
  refine mz_cl_vc 30 (fun _ => false) [some (mz_r 9 0 153), some (mz_i i)] rfl ?_
  simp only [vcS0, vcS1, vcS2, vcS3, vcS4, vcS5, vcS6, vc_n0, vc_lk, vc_pop, vc_rc, vc_tsw, vc_fr, vc_ar, vc_tb, mz_nx, List.set_cons_zero, List.set_cons_succ, Nat.reduceAdd, Nat.reduceBEq, Nat.reduceEqDiff, Nat.reduceLeDiff, Nat.reduceLT, Nat.reduceMul, Int.reduceToNat, Bool.false_eq_true, Bool.or_self, Bool.or_true, Bool.true_or, Bool.or_false, reduceIte, Option.toList_some, Option.toList_none, List.nil_append, List.cons_append, List.length_cons, List.length_nil, true_and, and_true, Int.cast_ofNat_Int, Int.reduceEq, Int.reduceLT, Int.reduceLE, Nat.zero_le, and_self, or_true, true_or, cdS_165]
  refine ⟨_, _, sp_ofLog m i (w := 0) (by omega) h0 hn, ?_⟩
  simp only [vcS0, vcS1, vcS2, vcS3, vcS4, vcS5, vcS6, vc_n0, vc_lk, vc_pop, vc_rc, vc_tsw, vc_fr, vc_ar, vc_tb, mz_nx, List.set_cons_zero, List.set_cons_succ, Nat.reduceAdd, Nat.reduceBEq, Nat.reduceEqDiff, Nat.reduceLeDiff, Nat.reduceLT, Nat.reduceMul, Int.reduceToNat, Bool.false_eq_true, Bool.or_self, Bool.or_true, Bool.true_or, Bool.or_false, reduceIte, Option.toList_some, Option.toList_none, List.nil_append, List.cons_append, List.length_cons, List.length_nil, true_and, and_true, Int.cast_ofNat_Int, Int.reduceEq, Int.reduceLT, Int.reduceLE, Nat.zero_le, and_self, or_true, true_or, cdS_165]
theorem bx_logMinute {m : mz_M} (h : Rel m) (hS : mz_wS (mz_fu m)) {x : Int} (hx : mz_w x) : botX 306 xw_IOB 165 [mz_i x] m := by
  obtain ⟨N, hw⟩ := h.1
  have hN := hw.2.2.2.2.1
  have e35 : m 35 0 = N := hN.1
  have h2 := sp_X9_logMinute m x (n := N) hN.2.1 (by omega)
  by_cases h1 : 0 ≤ x ∧ x < N
  · refine ⟨_, m, _, _, fun l D cy sK sV vF β ad hl => xw_lgM hl hS hx (fun _ ad => xw_log1 hl hS hx (q := 36) rfl (by omega) (by omega) (by omega)), h2, ?_, fun v hv => ?_, Rel_thr h⟩
    · rw [up_s, if_pos h1]; simp
    · have a := (hw.2.2.2.2.2 x.toNat (by omega)).1
      rw [if_pos (show 0 ≤ x ∧ x < (400 : Nat) by omega)] at hv
      rw [if_pos h1]
      cases hv
      exact a.1.symm
  · refine ⟨none, m, _, _, fun l D cy sK sV vF β ad hl => xw_lgM hl hS hx (fun _ ad => xw_log0 hl hS hx (q := 36) rfl (by omega) (by omega)), h2, ?_, fun v hv => (by cases hv), Rel_thr h⟩
    rw [up_s, if_neg h1]; simp
theorem sp_X9_logKind (m : mz_M) (i : Int) {n : Nat} (h0 : m 154 429 = n) (hn : n ≤ 400) : sp 164 [mz_r 9 0 153, mz_i i] m (some (mz_i (if 0 ≤ i ∧ i < n then me (m 154) i.toNat 1 else 0))) (mz_up m 153 4 (if 0 ≤ i ∧ i < n then 0 else 1)) := by
  refine mz_cl_vc 30 (fun _ => false) [some (mz_r 9 0 153), some (mz_i i)] rfl ?_
  simp only [vcS0, vcS1, vcS2, vcS3, vcS4, vcS5, vcS6, vc_n0, vc_lk, vc_pop, vc_rc, vc_tsw, vc_fr, vc_ar, vc_tb, mz_nx, List.set_cons_zero, List.set_cons_succ, Nat.reduceAdd, Nat.reduceBEq, Nat.reduceEqDiff, Nat.reduceLeDiff, Nat.reduceLT, Nat.reduceMul, Int.reduceToNat, Bool.false_eq_true, Bool.or_self, Bool.or_true, Bool.true_or, Bool.or_false, reduceIte, Option.toList_some, Option.toList_none, List.nil_append, List.cons_append, List.length_cons, List.length_nil, true_and, and_true, Int.cast_ofNat_Int, Int.reduceEq, Int.reduceLT, Int.reduceLE, Nat.zero_le, and_self, or_true, true_or, cdS_164]
  refine ⟨_, _, sp_ofLog m i (w := 1) (by omega) h0 hn, ?_⟩
  simp only [vcS0, vcS1, vcS2, vcS3, vcS4, vcS5, vcS6, vc_n0, vc_lk, vc_pop, vc_rc, vc_tsw, vc_fr, vc_ar, vc_tb, mz_nx, List.set_cons_zero, List.set_cons_succ, Nat.reduceAdd, Nat.reduceBEq, Nat.reduceEqDiff, Nat.reduceLeDiff, Nat.reduceLT, Nat.reduceMul, Int.reduceToNat, Bool.false_eq_true, Bool.or_self, Bool.or_true, Bool.true_or, Bool.or_false, reduceIte, Option.toList_some, Option.toList_none, List.nil_append, List.cons_append, List.length_cons, List.length_nil, true_and, and_true, Int.cast_ofNat_Int, Int.reduceEq, Int.reduceLT, Int.reduceLE, Nat.zero_le, and_self, or_true, true_or, cdS_164]
theorem bx_logKind {m : mz_M} (h : Rel m) (hS : mz_wS (mz_fu m)) {x : Int} (hx : mz_w x) : botX 307 xw_IOB 164 [mz_i x] m := by
  obtain ⟨N, hw⟩ := h.1
  have hN := hw.2.2.2.2.1
  have e35 : m 35 0 = N := hN.1
  have h2 := sp_X9_logKind m x (n := N) hN.2.1 (by omega)
  by_cases h1 : 0 ≤ x ∧ x < N
  · refine ⟨_, m, _, _, fun l D cy sK sV vF β ad hl => xw_lgK hl hS hx (fun _ ad => xw_log1 hl hS hx (q := 37) rfl (by omega) (by omega) (by omega)), h2, ?_, fun v hv => ?_, Rel_thr h⟩
    · rw [up_s, if_pos h1]; simp
    · have a := (hw.2.2.2.2.2 x.toNat (by omega)).1
      rw [if_pos (show 0 ≤ x ∧ x < (400 : Nat) by omega)] at hv
      rw [if_pos h1]
      cases hv
      exact a.2.1.symm
  · refine ⟨none, m, _, _, fun l D cy sK sV vF β ad hl => xw_lgK hl hS hx (fun _ ad => xw_log0 hl hS hx (q := 37) rfl (by omega) (by omega)), h2, ?_, fun v hv => (by cases hv), Rel_thr h⟩
    rw [up_s, if_neg h1]; simp
theorem sp_X9_logCar (m : mz_M) (i : Int) {n : Nat} (h0 : m 154 429 = n) (hn : n ≤ 400) : sp 163 [mz_r 9 0 153, mz_i i] m (some (mz_i (if 0 ≤ i ∧ i < n then me (m 154) i.toNat 2 else 0))) (mz_up m 153 4 (if 0 ≤ i ∧ i < n then 0 else 1)) := by
  refine mz_cl_vc 30 (fun _ => false) [some (mz_r 9 0 153), some (mz_i i)] rfl ?_
  simp only [vcS0, vcS1, vcS2, vcS3, vcS4, vcS5, vcS6, vc_n0, vc_lk, vc_pop, vc_rc, vc_tsw, vc_fr, vc_ar, vc_tb, mz_nx, List.set_cons_zero, List.set_cons_succ, Nat.reduceAdd, Nat.reduceBEq, Nat.reduceEqDiff, Nat.reduceLeDiff, Nat.reduceLT, Nat.reduceMul, Int.reduceToNat, Bool.false_eq_true, Bool.or_self, Bool.or_true, Bool.true_or, Bool.or_false, reduceIte, Option.toList_some, Option.toList_none, List.nil_append, List.cons_append, List.length_cons, List.length_nil, true_and, and_true, Int.cast_ofNat_Int, Int.reduceEq, Int.reduceLT, Int.reduceLE, Nat.zero_le, and_self, or_true, true_or, cdS_163]
  refine ⟨_, _, sp_ofLog m i (w := 2) (by omega) h0 hn, ?_⟩
  simp only [vcS0, vcS1, vcS2, vcS3, vcS4, vcS5, vcS6, vc_n0, vc_lk, vc_pop, vc_rc, vc_tsw, vc_fr, vc_ar, vc_tb, mz_nx, List.set_cons_zero, List.set_cons_succ, Nat.reduceAdd, Nat.reduceBEq, Nat.reduceEqDiff, Nat.reduceLeDiff, Nat.reduceLT, Nat.reduceMul, Int.reduceToNat, Bool.false_eq_true, Bool.or_self, Bool.or_true, Bool.true_or, Bool.or_false, reduceIte, Option.toList_some, Option.toList_none, List.nil_append, List.cons_append, List.length_cons, List.length_nil, true_and, and_true, Int.cast_ofNat_Int, Int.reduceEq, Int.reduceLT, Int.reduceLE, Nat.zero_le, and_self, or_true, true_or, cdS_163]
theorem bx_logCar {m : mz_M} (h : Rel m) (hS : mz_wS (mz_fu m)) {x : Int} (hx : mz_w x) : botX 308 xw_IOB 163 [mz_i x] m := by
  obtain ⟨N, hw⟩ := h.1
  have hN := hw.2.2.2.2.1
  have e35 : m 35 0 = N := hN.1
  have h2 := sp_X9_logCar m x (n := N) hN.2.1 (by omega)
  by_cases h1 : 0 ≤ x ∧ x < N
  · refine ⟨_, m, _, _, fun l D cy sK sV vF β ad hl => xw_lgC hl hS hx (fun _ ad => xw_log1 hl hS hx (q := 38) rfl (by omega) (by omega) (by omega)), h2, ?_, fun v hv => ?_, Rel_thr h⟩
    · rw [up_s, if_pos h1]; simp
    · have a := (hw.2.2.2.2.2 x.toNat (by omega)).1
      rw [if_pos (show 0 ≤ x ∧ x < (400 : Nat) by omega)] at hv
      rw [if_pos h1]
      cases hv
      exact a.2.2.1.symm
  · refine ⟨none, m, _, _, fun l D cy sK sV vF β ad hl => xw_lgC hl hS hx (fun _ ad => xw_log0 hl hS hx (q := 38) rfl (by omega) (by omega)), h2, ?_, fun v hv => (by cases hv), Rel_thr h⟩
    rw [up_s, if_neg h1]; simp
theorem sp_X9_logAmount (m : mz_M) (i : Int) {n : Nat} (h0 : m 154 429 = n) (hn : n ≤ 400) : sp 162 [mz_r 9 0 153, mz_i i] m (some (mz_i (if 0 ≤ i ∧ i < n then me (m 154) i.toNat 3 else 0))) (mz_up m 153 4 (if 0 ≤ i ∧ i < n then 0 else 1)) := by
  refine mz_cl_vc 30 (fun _ => false) [some (mz_r 9 0 153), some (mz_i i)] rfl ?_
  simp only [vcS0, vcS1, vcS2, vcS3, vcS4, vcS5, vcS6, vc_n0, vc_lk, vc_pop, vc_rc, vc_tsw, vc_fr, vc_ar, vc_tb, mz_nx, List.set_cons_zero, List.set_cons_succ, Nat.reduceAdd, Nat.reduceBEq, Nat.reduceEqDiff, Nat.reduceLeDiff, Nat.reduceLT, Nat.reduceMul, Int.reduceToNat, Bool.false_eq_true, Bool.or_self, Bool.or_true, Bool.true_or, Bool.or_false, reduceIte, Option.toList_some, Option.toList_none, List.nil_append, List.cons_append, List.length_cons, List.length_nil, true_and, and_true, Int.cast_ofNat_Int, Int.reduceEq, Int.reduceLT, Int.reduceLE, Nat.zero_le, and_self, or_true, true_or, cdS_162]
  refine ⟨_, _, sp_ofLog m i (w := 3) (by omega) h0 hn, ?_⟩
  simp only [vcS0, vcS1, vcS2, vcS3, vcS4, vcS5, vcS6, vc_n0, vc_lk, vc_pop, vc_rc, vc_tsw, vc_fr, vc_ar, vc_tb, mz_nx, List.set_cons_zero, List.set_cons_succ, Nat.reduceAdd, Nat.reduceBEq, Nat.reduceEqDiff, Nat.reduceLeDiff, Nat.reduceLT, Nat.reduceMul, Int.reduceToNat, Bool.false_eq_true, Bool.or_self, Bool.or_true, Bool.true_or, Bool.or_false, reduceIte, Option.toList_some, Option.toList_none, List.nil_append, List.cons_append, List.length_cons, List.length_nil, true_and, and_true, Int.cast_ofNat_Int, Int.reduceEq, Int.reduceLT, Int.reduceLE, Nat.zero_le, and_self, or_true, true_or, cdS_162]
theorem bx_logAmount {m : mz_M} (h : Rel m) (hS : mz_wS (mz_fu m)) {x : Int} (hx : mz_w x) : botX 309 xw_IOB 162 [mz_i x] m := by
  obtain ⟨N, hw⟩ := h.1
  have hN := hw.2.2.2.2.1
  have e35 : m 35 0 = N := hN.1
  have h2 := sp_X9_logAmount m x (n := N) hN.2.1 (by omega)
  by_cases h1 : 0 ≤ x ∧ x < N
  · refine ⟨_, m, _, _, fun l D cy sK sV vF β ad hl => xw_lgA hl hS hx (fun _ ad => xw_log1 hl hS hx (q := 39) rfl (by omega) (by omega) (by omega)), h2, ?_, fun v hv => ?_, Rel_thr h⟩
    · rw [up_s, if_pos h1]; simp
    · have a := (hw.2.2.2.2.2 x.toNat (by omega)).1
      rw [if_pos (show 0 ≤ x ∧ x < (400 : Nat) by omega)] at hv
      rw [if_pos h1]
      cases hv
      exact a.2.2.2.symm
  · refine ⟨none, m, _, _, fun l D cy sK sV vF β ad hl => xw_lgA hl hS hx (fun _ ad => xw_log0 hl hS hx (q := 39) rfl (by omega) (by omega)), h2, ?_, fun v hv => (by cases hv), Rel_thr h⟩
    rw [up_s, if_neg h1]; simp
theorem bx_ticketAmount {m : mz_M} (h : Rel m) (hS : mz_wS (mz_fu m)) {x y : Int} (hx : mz_w x) (hy : mz_w y) : botX 304 xw_NSE 228 [mz_i x, mz_i y] m := by
  obtain ⟨N, hw⟩ := h.1
  have hN := hw.2.2.2.2.1
  have e35 : m 35 0 = N := hN.1
  have h2 := sp_X9_ticketAmount m x y (n := N) hN.2.1 (by omega) (by unfold mz_w at hy; omega)
  have eO : tke (fun i => m (35 + 2) i = 4 ∧ m (35 + 3) i = x) N 0 y = mOt (m 154) N x y := by
    have e1 : tke (fun i => m (35 + 2) i = 4 ∧ m (35 + 3) i = x) N 0 y = tke (fun k => me (m 154) k 1 = 4 ∧ me (m 154) k 2 = x) N 0 y := tke_congr N 0 y fun i _ hi => by
      have a := (hw.2.2.2.2.2 i (by omega)).1
      rw [a.2.1, a.2.2.1]
    rw [e1]
    unfold mOt
    by_cases q : (0 ≤ x ∧ x < 16) ∧ 0 ≤ y
    · rw [if_pos q]
    · rw [if_neg q]
      cases hk : tke (fun k => me (m 154) k 1 = 4 ∧ me (m 154) k 2 = x) N 0 y with
      | none => rfl
      | some e =>
        exfalso
        have lt := tke_lt _ _ _ _ hk
        have a := (hw.2.2.2.2.2 e (by omega)).2.1.2.2.1
        rw [lt.2.2.2] at a
        by_cases z : y < 0
        · rw [tke_neg _ _ _ z] at hk; cases hk
        · exact q ⟨a, by omega⟩
  cases hk : mOt (m 154) N x y with
  | none =>
    rw [hk] at eO h2
    refine ⟨none, m, _, _, fun l D cy sK sV vF β ad hl => xw_tkA hl hS hx hy (fun _ ad => xw_tik0 hl hS hx hy (q := 39) (n := N) rfl (by omega) e35 (by omega) (by rw [eO]; show ¬ (0 ≤ (-1 : Int) ∧ _); omega)), h2, ?_, fun v hv => (by cases hv), Rel_thr h⟩
    rw [up_s]; simp
  | some e =>
    have lt : e < N := by
      unfold mOt at hk
      split at hk
      · have := tke_lt _ _ _ _ hk; omega
      · cases hk
    rw [hk] at eO h2
    refine ⟨_, m, _, _, fun l D cy sK sV vF β ad hl => xw_tkA hl hS hx hy (fun _ ad => xw_tik1 hl hS hx hy (q := 39) (n := N) rfl (by omega) e35 (by omega) (by rw [eO]; show 0 ≤ ((e : Nat) : Int) ∧ ((e : Nat) : Int) < m 35 0; omega)), h2, ?_, fun v hv => ?_, Rel_thr h⟩
    · rw [up_s]; simp
    · have a := (hw.2.2.2.2.2 e lt).1
      rw [eO] at hv
      have hv : some (if 0 ≤ ((e : Nat) : Int) ∧ ((e : Nat) : Int) < (400 : Nat) then m 39 ((e : Nat) : Int).toNat else 0) = some v := hv
      rw [if_pos (by omega), Int.toNat_natCast] at hv
      cases hv
      exact a.2.2.2.symm
theorem bx_ticketMinute {m : mz_M} (h : Rel m) (hS : mz_wS (mz_fu m)) {x y : Int} (hx : mz_w x) (hy : mz_w y) : botX 305 xw_NSE 229 [mz_i x, mz_i y] m := by
  obtain ⟨N, hw⟩ := h.1
  have hN := hw.2.2.2.2.1
  have e35 : m 35 0 = N := hN.1
  have h2 := sp_X9_ticketMinute m x y (n := N) hN.2.1 (by omega) (by unfold mz_w at hy; omega)
  have eO : tke (fun i => m (35 + 2) i = 4 ∧ m (35 + 3) i = x) N 0 y = mOt (m 154) N x y := by
    have e1 : tke (fun i => m (35 + 2) i = 4 ∧ m (35 + 3) i = x) N 0 y = tke (fun k => me (m 154) k 1 = 4 ∧ me (m 154) k 2 = x) N 0 y := tke_congr N 0 y fun i _ hi => by
      have a := (hw.2.2.2.2.2 i (by omega)).1
      rw [a.2.1, a.2.2.1]
    rw [e1]
    unfold mOt
    by_cases q : (0 ≤ x ∧ x < 16) ∧ 0 ≤ y
    · rw [if_pos q]
    · rw [if_neg q]
      cases hk : tke (fun k => me (m 154) k 1 = 4 ∧ me (m 154) k 2 = x) N 0 y with
      | none => rfl
      | some e =>
        exfalso
        have lt := tke_lt _ _ _ _ hk
        have a := (hw.2.2.2.2.2 e (by omega)).2.1.2.2.1
        rw [lt.2.2.2] at a
        by_cases z : y < 0
        · rw [tke_neg _ _ _ z] at hk; cases hk
        · exact q ⟨a, by omega⟩
  cases hk : mOt (m 154) N x y with
  | none =>
    rw [hk] at eO h2
    refine ⟨none, m, _, _, fun l D cy sK sV vF β ad hl => xw_tkM hl hS hx hy (fun _ ad => xw_tik0 hl hS hx hy (q := 36) (n := N) rfl (by omega) e35 (by omega) (by rw [eO]; show ¬ (0 ≤ (-1 : Int) ∧ _); omega)), h2, ?_, fun v hv => (by cases hv), Rel_thr h⟩
    rw [up_s]; simp
  | some e =>
    have lt : e < N := by
      unfold mOt at hk
      split at hk
      · have := tke_lt _ _ _ _ hk; omega
      · cases hk
    rw [hk] at eO h2
    refine ⟨_, m, _, _, fun l D cy sK sV vF β ad hl => xw_tkM hl hS hx hy (fun _ ad => xw_tik1 hl hS hx hy (q := 36) (n := N) rfl (by omega) e35 (by omega) (by rw [eO]; show 0 ≤ ((e : Nat) : Int) ∧ ((e : Nat) : Int) < m 35 0; omega)), h2, ?_, fun v hv => ?_, Rel_thr h⟩
    · rw [up_s]; simp
    · have a := (hw.2.2.2.2.2 e lt).1
      rw [eO] at hv
      have hv : some (if 0 ≤ ((e : Nat) : Int) ∧ ((e : Nat) : Int) < (400 : Nat) then m 36 ((e : Nat) : Int).toNat else 0) = some v := hv
      rw [if_pos (by omega), Int.toNat_natCast] at hv
      cases hv
      exact a.1.symm
theorem ar_tb {m : mz_M} {q : Nat} {c : Nat → Int} {cd pp : Nat → Nat} {Ln : Nat → Int} {f0 : Nat} : ∀ {R : tR}, tbO m q cd pp Ln f0 R → (arO c (fun x => cd x.1) R → ∀ i, i < R.length → m (q + 7) i = c i) ∧ (arO c (fun x => pp x.2) R → ∀ i, i < R.length → m (q + 8) i = c i) := by
  intro R
  induction R with
  | nil => intro _; exact ⟨fun _ i hi => absurd hi (Nat.not_lt_zero i), fun _ i hi => absurd hi (Nat.not_lt_zero i)⟩
  | cons x R ih =>
    intro h
    have k := ih h.2
    refine ⟨fun a i hi => ?_, fun a i hi => ?_⟩
    · simp only [List.length_cons] at hi
      rcases Nat.lt_or_ge i R.length with w | w
      · exact k.1 a.2 i w
      · obtain rfl : i = R.length := by omega
        rw [h.1.1, a.1]
    · simp only [List.length_cons] at hi
      rcases Nat.lt_or_ge i R.length with w | w
      · exact k.2 a.2 i w
      · obtain rfl : i = R.length := by omega
        rw [h.1.2.1, a.1]
theorem bx_tourCar {m : mz_M} (h : Rel m) (hS : mz_wS (mz_fu m)) {x : Int} (hx : mz_w x) : botX 310 xw_IOB 298 [mz_i x] m := by
  obtain ⟨M1, Q, cd, pp, Ln, f0, hk, f1, r1, ⟨t1, t2, t3, t4⟩, _, hm⟩ := tour_all h
  obtain ⟨M2, k1, k2, k3, k4, k5, k6, k7⟩ := hm M1 (f1 154 (by omega)) (f1 159 (by omega))
  have h2 := sp_X9_tourCar M1 M2 x k1 k2 t2
  have hR : Rel M2 := Rel_tour h f1 r1 k6 (fun j hj => k7 j (by omega) (by omega) (by omega))
  by_cases h1 : 0 ≤ x ∧ x < Q.length
  · refine ⟨_, M1, _, _, fun l D cy sK sV vF β ad hl => xw_trC hl hS hx hk (fun hS2 ad => xw_trp1 hl hS2 hx (q := 147) rfl (by omega) (by omega) (by omega)), h2, ?_, fun v hv => ?_, Rel_thr hR⟩
    · rw [up_s, if_pos h1]; simp
    · rw [if_pos (show 0 ≤ x ∧ x < (6 : Nat) by omega)] at hv
      rw [if_pos h1]
      cases hv
      exact (ar_tb t3).1 k4 x.toNat (by omega)
  · refine ⟨none, M1, _, _, fun l D cy sK sV vF β ad hl => xw_trC hl hS hx hk (fun hS2 ad => xw_trp0 hl hS2 hx (q := 147) rfl (by omega) (by omega) (by omega)), h2, ?_, fun v hv => (by cases hv), Rel_thr hR⟩
    rw [up_s, if_neg h1]; simp
theorem bx_tourPound {m : mz_M} (h : Rel m) (hS : mz_wS (mz_fu m)) {x : Int} (hx : mz_w x) : botX 311 xw_IOB 299 [mz_i x] m := by
  obtain ⟨M1, Q, cd, pp, Ln, f0, hk, f1, r1, ⟨t1, t2, t3, t4⟩, _, hm⟩ := tour_all h
  obtain ⟨M2, k1, k2, k3, k4, k5, k6, k7⟩ := hm M1 (f1 154 (by omega)) (f1 159 (by omega))
  have h2 := sp_X9_tourPound M1 M2 x k1 k2 t2
  have hR : Rel M2 := Rel_tour h f1 r1 k6 (fun j hj => k7 j (by omega) (by omega) (by omega))
  by_cases h1 : 0 ≤ x ∧ x < Q.length
  · refine ⟨_, M1, _, _, fun l D cy sK sV vF β ad hl => xw_trP hl hS hx hk (fun hS2 ad => xw_trp1 hl hS2 hx (q := 148) rfl (by omega) (by omega) (by omega)), h2, ?_, fun v hv => ?_, Rel_thr hR⟩
    · rw [up_s, if_pos h1]; simp
    · rw [if_pos (show 0 ≤ x ∧ x < (6 : Nat) by omega)] at hv
      rw [if_pos h1]
      cases hv
      exact (ar_tb t3).2 k5 x.toNat (by omega)
  · refine ⟨none, M1, _, _, fun l D cy sK sV vF β ad hl => xw_trP hl hS hx hk (fun hS2 ad => xw_trp0 hl hS2 hx (q := 148) rfl (by omega) (by omega) (by omega)), h2, ?_, fun v hv => (by cases hv), Rel_thr hR⟩
    rw [up_s, if_neg h1]; simp
