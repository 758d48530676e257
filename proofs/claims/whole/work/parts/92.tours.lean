/-! The model's tours, whole. -/
def mcP (V : Nat → Int) (j : Nat) : Bool := decide (mTw V j = true ∧ sm (mAh V j) 16 < 6)
def mcN (V : Nat → Int) : Nat → Nat
  | 0 => 0
  | j + 1 => if mcP V j = true then mcN V j + 1 else mcN V j
def mcX (V X : Nat → Int) : Nat → Nat → Int
  | 0 => X
  | j + 1 => if mcP V j = true then vU (mcX V X j) (mcN V j) j else mcX V X j
theorem mcN_le (V : Nat → Int) : ∀ j, mcN V j ≤ mcN V (j + 1) := fun j => by show mcN V j ≤ if mcP V j = true then mcN V j + 1 else mcN V j; split <;> omega
theorem mcN_mono (V : Nat → Int) : ∀ r j, mcN V j ≤ mcN V (j + r) := by
  intro r
  induction r with
  | zero => intro j; exact Nat.le_refl _
  | succ r ih => intro j; exact Nat.le_trans (ih j) (mcN_le V (j + r))
abbrev cdM (m : mz_M) (X : Nat → Int) (k : Int) : mz_M := fun a j => if a = 159 then X j else if a = 153 ∧ j = 18 then k else m a j
theorem cdM_154 (m : mz_M) (X : Nat → Int) (k : Int) : (fun a j => if a = 159 then X j else if a = 153 ∧ j = 18 then k else m a j : mz_M) 154 = m 154 := by funext j; simp
theorem cdM_up (m : mz_M) (X : Nat → Int) (k : Int) (j : Nat) (v x : Int) : mz_up (mz_up (fun a j => if a = 159 then X j else if a = 153 ∧ j = 18 then k else m a j) 159 j v) 153 18 x = fun a i => if a = 159 then vU X j v i else if a = 153 ∧ i = 18 then x else m a i := by funext a i; unfold mz_up vU; grind
theorem to_l1 (m : mz_M) (m' : mz_M) (X : Nat → Int) (hS : mSi (m 154)) (hN : mcN (m 154) 16 ≤ 6) (hc : sx 293 5 [some (mz_r 9 0 153), some (mz_i 16)] [] (fun a j => if a = 159 then mcX (m 154) X 16 j else if a = 153 ∧ j = 18 then (mcN (m 154) 16 : Int) else m a j) none m') : ∀ (r j : Nat), j + r = 16 → sx 293 5 [some (mz_r 9 0 153), some (mz_i j)] [] (fun a i => if a = 159 then mcX (m 154) X j i else if a = 153 ∧ i = 18 then (mcN (m 154) j : Int) else m a i) none m' := by
  intro r
  induction r with
  | zero =>
    intro j hj
    obtain rfl : j = 16 := by omega
    exact hc
  | succ r ih =>
    intro j hj
    have hk := ih (j + 1) (by omega)
    have hmono : (if mcP (m 154) j = true then mcN (m 154) j + 1 else mcN (m 154) j) ≤ 6 := by
      have := mcN_mono (m 154) r (j + 1)
      rw [show j + 1 + r = 16 by omega] at this
      exact Nat.le_trans this hN
    have e154 := cdM_154 m (mcX (m 154) X j) (mcN (m 154) j)
    have e18 : (fun a i => if a = 159 then mcX (m 154) X j i else if a = 153 ∧ i = 18 then (mcN (m 154) j : Int) else m a i : mz_M) 153 18 = mcN (m 154) j := by simp
    have eup := cdM_up m (mcX (m 154) X j) (mcN (m 154) j) (mcN (m 154) j) j ((mcN (m 154) j : Int) + 1)
    simp only [mcX, mcN] at hk
    generalize hM : (fun a i => if a = 159 then mcX (m 154) X j i else if a = 153 ∧ i = 18 then (mcN (m 154) j : Int) else m a i : mz_M) = M at e154 e18 eup ⊢
    refine mz_vc_ok 40 (ct := fun i => i == 5 || i == 31) ?_
    simp only [vcS0, vcS1, vcS2, vcS3, vcS4, vcS5, vcS6, vc_n0, vc_lk, vc_pop, vc_rc, vc_tsw, vc_fr, vc_ar, vc_tb, mz_nx, List.set_cons_zero, List.set_cons_succ, Nat.reduceAdd, Nat.reduceBEq, Nat.reduceEqDiff, Nat.reduceLeDiff, Nat.reduceLT, Nat.reduceMul, Int.reduceToNat, Bool.false_eq_true, Bool.or_self, Bool.or_true, Bool.true_or, Bool.or_false, reduceIte, Option.toList_some, Option.toList_none, List.nil_append, List.cons_append, List.length_cons, List.length_nil, true_and, and_true, Int.cast_ofNat_Int, Int.reduceEq, Int.reduceLT, Int.reduceLE, Nat.zero_le, and_self, or_true, true_or, cdS_293]
    rw [if_pos (by omega)]
    have ht := sp_mTw M (c := j) (by omega) (by rw [e154]; exact hS)
    rw [e154] at ht
    refine ⟨_, _, ht, ?_⟩
    by_cases h1 : mTw (m 154) j = true
    · rw [if_pos h1]
      simp only [vcS0, vcS1, vcS2, vcS3, vcS4, vcS5, vcS6, vc_n0, vc_lk, vc_pop, vc_rc, vc_tsw, vc_fr, vc_ar, vc_tb, mz_nx, List.set_cons_zero, List.set_cons_succ, Nat.reduceAdd, Nat.reduceBEq, Nat.reduceEqDiff, Nat.reduceLeDiff, Nat.reduceLT, Nat.reduceMul, Int.reduceToNat, Bool.false_eq_true, Bool.or_self, Bool.or_true, Bool.true_or, Bool.or_false, reduceIte, Option.toList_some, Option.toList_none, List.nil_append, List.cons_append, List.length_cons, List.length_nil, true_and, and_true, Int.cast_ofNat_Int, Int.reduceEq, Int.reduceLT, Int.reduceLE, Nat.zero_le, and_self, or_true, true_or, cdS_293]
      have ha := sp_ahead M (c := j) (by omega) (by rw [e154]; exact hS)
      rw [e154] at ha
      refine ⟨_, _, ha, ?_⟩
      simp only [vcS0, vcS1, vcS2, vcS3, vcS4, vcS5, vcS6, vc_n0, vc_lk, vc_pop, vc_rc, vc_tsw, vc_fr, vc_ar, vc_tb, mz_nx, List.set_cons_zero, List.set_cons_succ, Nat.reduceAdd, Nat.reduceBEq, Nat.reduceEqDiff, Nat.reduceLeDiff, Nat.reduceLT, Nat.reduceMul, Int.reduceToNat, Bool.false_eq_true, Bool.or_self, Bool.or_true, Bool.true_or, Bool.or_false, reduceIte, Option.toList_some, Option.toList_none, List.nil_append, List.cons_append, List.length_cons, List.length_nil, true_and, and_true, Int.cast_ofNat_Int, Int.reduceEq, Int.reduceLT, Int.reduceLE, Nat.zero_le, and_self, or_true, true_or, cdS_293]
      by_cases h2 : sm (mAh (m 154) j) 16 < 6
      · have hP : mcP (m 154) j = true := by unfold mcP; rw [decide_eq_true_eq]; exact ⟨h1, h2⟩
        rw [if_pos hP] at hmono
        rw [if_pos hP, if_pos hP] at hk
        rw [if_pos h2, e18, Int.toNat_natCast]
        have e18b : mz_up M 159 (mcN (m 154) j) j 153 18 = mcN (m 154) j := by rw [up_o (by omega)]; exact e18
        rw [e18b, eup]
        refine ⟨by omega, (by unfold mz_w; omega), (by unfold mz_w; omega), ?_⟩
        rw [show ((mcN (m 154) j : Int) + 1) = ((mcN (m 154) j + 1 : Nat) : Int) by omega]
        exact hk
      · have hP : ¬ mcP (m 154) j = true := by unfold mcP; rw [decide_eq_true_eq]; exact fun q => h2 q.2
        rw [if_neg hP, if_neg hP, hM] at hk
        rw [if_neg h2]
        exact ⟨(by unfold mz_w; omega), hk⟩
    · have hP : ¬ mcP (m 154) j = true := by unfold mcP; rw [decide_eq_true_eq]; exact fun q => h1 q.1
      rw [if_neg hP, if_neg hP, hM] at hk
      rw [if_neg h1]
      simp only [vcS0, vcS1, vcS2, vcS3, vcS4, vcS5, vcS6, vc_n0, vc_lk, vc_pop, vc_rc, vc_tsw, vc_fr, vc_ar, vc_tb, mz_nx, List.set_cons_zero, List.set_cons_succ, Nat.reduceAdd, Nat.reduceBEq, Nat.reduceEqDiff, Nat.reduceLeDiff, Nat.reduceLT, Nat.reduceMul, Int.reduceToNat, Bool.false_eq_true, Bool.or_self, Bool.or_true, Bool.true_or, Bool.or_false, reduceIte, Option.toList_some, Option.toList_none, List.nil_append, List.cons_append, List.length_cons, List.length_nil, true_and, and_true, Int.cast_ofNat_Int, Int.reduceEq, Int.reduceLT, Int.reduceLE, Nat.zero_le, and_self, or_true, true_or, cdS_293]
      exact ⟨(by unfold mz_w; omega), hk⟩
def mRoom (V : Nat → Int) (p : Nat) : Int := if 0 < V (223 + p) then V (223 + p) - sm (mPn V p) 16 else 0
def rmK (V X : Nat → Int) (k : Nat) : Nat → Int := fun i => if i < k then mRoom V i else X i
theorem rmK_s (V X : Nat → Int) (k : Nat) : vU (rmK V X k) k (mRoom V k) = rmK V X (k + 1) := by
  funext i
  unfold vU rmK
  by_cases q : i = k
  · subst q; rw [if_pos rfl, if_pos (by omega)]
  · rw [if_neg q]
    by_cases q2 : i < k
    · rw [if_pos q2, if_pos (by omega)]
    · rw [if_neg q2, if_neg (by omega)]
theorem to_l2 (m : mz_M) (m' : mz_M) (X : Nat → Int) (hP : ∀ p, p < 10 → 0 ≤ m 154 (223 + p) ∧ m 154 (223 + p) ≤ 1000) (hc : sx 293 33 [some (mz_r 9 0 153), some (mz_i 10)] [] (rO m 164 (rmK (m 154) X 10)) none m') : ∀ (r j : Nat), j + r = 10 → sx 293 33 [some (mz_r 9 0 153), some (mz_i j)] [] (rO m 164 (rmK (m 154) X j)) none m' := by
  have e154 : ∀ V, rO m 164 V 154 = m 154 := fun V => by funext i; unfold rO; rw [if_neg (by omega)]
  intro r
  induction r with
  | zero =>
    intro j hj
    obtain rfl : j = 10 := by omega
    exact hc
  | succ r ih =>
    intro j hj
    have hk := ih (j + 1) (by omega)
    have hPj := hP j (by omega)
    rw [← rmK_s] at hk
    refine mz_vc_ok 40 (ct := fun i => i == 33 || i == 54) ?_
    simp only [vcS0, vcS1, vcS2, vcS3, vcS4, vcS5, vcS6, vc_n0, vc_lk, vc_pop, vc_rc, vc_tsw, vc_fr, vc_ar, vc_tb, mz_nx, List.set_cons_zero, List.set_cons_succ, Nat.reduceAdd, Nat.reduceBEq, Nat.reduceEqDiff, Nat.reduceLeDiff, Nat.reduceLT, Nat.reduceMul, Int.reduceToNat, Bool.false_eq_true, Bool.or_self, Bool.or_true, Bool.true_or, Bool.or_false, reduceIte, Option.toList_some, Option.toList_none, List.nil_append, List.cons_append, List.length_cons, List.length_nil, true_and, and_true, Int.cast_ofNat_Int, Int.reduceEq, Int.reduceLT, Int.reduceLE, Nat.zero_le, and_self, or_true, true_or, cdS_293]
    rw [if_pos (by omega), e154, show (223 + (j : Int)).toNat = 223 + j by omega]
    refine ⟨(by unfold mz_w; omega), by omega, ?_⟩
    by_cases h1 : 0 < m 154 (223 + j)
    · rw [if_neg (by omega)]
      have hr := sp_roomOf (rO m 164 (rmK (m 154) X j)) (p := j) (by omega) (by rw [e154]; exact hPj)
      rw [e154] at hr
      refine ⟨_, _, hr, ?_⟩
      simp only [vcS0, vcS1, vcS2, vcS3, vcS4, vcS5, vcS6, vc_n0, vc_lk, vc_pop, vc_rc, vc_tsw, vc_fr, vc_ar, vc_tb, mz_nx, List.set_cons_zero, List.set_cons_succ, Nat.reduceAdd, Nat.reduceBEq, Nat.reduceEqDiff, Nat.reduceLeDiff, Nat.reduceLT, Nat.reduceMul, Int.reduceToNat, Bool.false_eq_true, Bool.or_self, Bool.or_true, Bool.true_or, Bool.or_false, reduceIte, Option.toList_some, Option.toList_none, List.nil_append, List.cons_append, List.length_cons, List.length_nil, true_and, and_true, Int.cast_ofNat_Int, Int.reduceEq, Int.reduceLT, Int.reduceLE, Nat.zero_le, and_self, or_true, true_or, cdS_293]
      rw [Int.toNat_natCast, rO_up]
      rw [show mRoom (m 154) j = m 154 (223 + j) - sm (mPn (m 154) j) 16 from if_pos h1] at hk
      exact ⟨by omega, (by unfold mz_w; omega), hk⟩
    · rw [if_pos (by omega), Int.toNat_natCast, rO_up]
      rw [show mRoom (m 154) j = 0 from if_neg h1] at hk
      exact ⟨by omega, (by unfold mz_w; omega), hk⟩
/-- where the search begins -/
def toB (m : mz_M) : mz_M := fun a j => if a = 159 then mcX (m 154) (m 159) 16 j else if a = 153 ∧ j = 18 then (mcN (m 154) 16 : Int) else m a j
def toT (m : mz_M) : tT := (m 160, m 161, m 162, m 163, rmK (m 154) (m 164) 10, 0, 0)
theorem to_beg (m : mz_M) (m' : mz_M) (hS : mSi (m 154)) (hN : mcN (m 154) 16 ≤ 6) (hP : ∀ p, p < 10 → 0 ≤ m 154 (223 + p) ∧ m 154 (223 + p) ≤ 1000) (hc : if m 154 1 < 0 then m' = tMT (toB m) (toT m) else sp 291 [mz_r 9 0 153, mz_i 0, mz_i (m 154 1), mz_i 0, mz_i 0] (tMT (toB m) (toT m)) none m') : sp 293 [mz_r 9 0 153] m none m' := by
  have e154 : toB m 154 = m 154 := cdM_154 m _ _
  have h2 := to_l2 (toB m) m' (m 164) (by rw [e154]; exact hP) (by
    rw [e154]
    refine mz_vc_ok 40 (ct := fun i => i == 33) ?_
    simp only [vcS0, vcS1, vcS2, vcS3, vcS4, vcS5, vcS6, vc_n0, vc_lk, vc_pop, vc_rc, vc_tsw, vc_fr, vc_ar, vc_tb, mz_nx, List.set_cons_zero, List.set_cons_succ, Nat.reduceAdd, Nat.reduceBEq, Nat.reduceEqDiff, Nat.reduceLeDiff, Nat.reduceLT, Nat.reduceMul, Int.reduceToNat, Bool.false_eq_true, Bool.or_self, Bool.or_true, Bool.true_or, Bool.or_false, reduceIte, Option.toList_some, Option.toList_none, List.nil_append, List.cons_append, List.length_cons, List.length_nil, true_and, and_true, Int.cast_ofNat_Int, Int.reduceEq, Int.reduceLT, Int.reduceLE, Nat.zero_le, and_self, or_true, true_or, cdS_293]
    have e1 : mz_up (mz_up (rO (toB m) 164 (rmK (m 154) (m 164) 10)) 153 19 0) 153 20 0 = tMT (toB m) (toT m) := by
      funext a i
      unfold mz_up rO tMT tM toT toB
      grind
    rw [e1]
    have e2 : tMT (toB m) (toT m) 154 = m 154 := (tM_154 _ _ _ _ _ _ _ _).trans e154
    rw [e2]
    by_cases h1 : m 154 1 < 0
    · rw [if_pos h1] at hc ⊢
      rw [hc]
    · rw [if_neg h1] at hc ⊢
      refine ⟨_, _, hc, ?_⟩
      simp only [vcS0, vcS1, vcS2, vcS3, vcS4, vcS5, vcS6, vc_n0, vc_lk, vc_pop, vc_rc, vc_tsw, vc_fr, vc_ar, vc_tb, mz_nx, List.set_cons_zero, List.set_cons_succ, Nat.reduceAdd, Nat.reduceBEq, Nat.reduceEqDiff, Nat.reduceLeDiff, Nat.reduceLT, Nat.reduceMul, Int.reduceToNat, Bool.false_eq_true, Bool.or_self, Bool.or_true, Bool.true_or, Bool.or_false, reduceIte, Option.toList_some, Option.toList_none, List.nil_append, List.cons_append, List.length_cons, List.length_nil, true_and, and_true, Int.cast_ofNat_Int, Int.reduceEq, Int.reduceLT, Int.reduceLE, Nat.zero_le, and_self, or_true, true_or, cdS_293]) 10 0 rfl
  rw [e154, show rO (toB m) 164 (rmK (m 154) (m 164) 0) = toB m by
    funext a i
    unfold rO rmK toB
    by_cases q : a = 164
    · subst q; rfl
    · rw [if_neg q]] at h2
  have h1 := to_l1 m m' (m 159) hS hN (by
    refine mz_vc_ok 40 (ct := fun i => i == 33) ?_
    simp only [vcS0, vcS1, vcS2, vcS3, vcS4, vcS5, vcS6, vc_n0, vc_lk, vc_pop, vc_rc, vc_tsw, vc_fr, vc_ar, vc_tb, mz_nx, List.set_cons_zero, List.set_cons_succ, Nat.reduceAdd, Nat.reduceBEq, Nat.reduceEqDiff, Nat.reduceLeDiff, Nat.reduceLT, Nat.reduceMul, Int.reduceToNat, Bool.false_eq_true, Bool.or_self, Bool.or_true, Bool.true_or, Bool.or_false, reduceIte, Option.toList_some, Option.toList_none, List.nil_append, List.cons_append, List.length_cons, List.length_nil, true_and, and_true, Int.cast_ofNat_Int, Int.reduceEq, Int.reduceLT, Int.reduceLE, Nat.zero_le, and_self, or_true, true_or, cdS_293]
    exact h2) 16 0 rfl
  rw [show (fun a i => if a = 159 then mcX (m 154) (m 159) 0 i else if a = 153 ∧ i = 18 then (mcN (m 154) 0 : Int) else m a i : mz_M) = mz_up m 153 18 0 by
    funext a i
    unfold mz_up mcX mcN
    grind] at h1
  refine mz_cl_vc 40 (fun i => i == 5) [some (mz_r 9 0 153), none] rfl ?_
  simp only [vcS0, vcS1, vcS2, vcS3, vcS4, vcS5, vcS6, vc_n0, vc_lk, vc_pop, vc_rc, vc_tsw, vc_fr, vc_ar, vc_tb, mz_nx, List.set_cons_zero, List.set_cons_succ, Nat.reduceAdd, Nat.reduceBEq, Nat.reduceEqDiff, Nat.reduceLeDiff, Nat.reduceLT, Nat.reduceMul, Int.reduceToNat, Bool.false_eq_true, Bool.or_self, Bool.or_true, Bool.true_or, Bool.or_false, reduceIte, Option.toList_some, Option.toList_none, List.nil_append, List.cons_append, List.length_cons, List.length_nil, true_and, and_true, Int.cast_ofNat_Int, Int.reduceEq, Int.reduceLT, Int.reduceLE, Nat.zero_le, and_self, or_true, true_or, cdS_293]
  exact h1
