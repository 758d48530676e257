/-! The model: loops over cars, minutes, entries. -/
theorem ca_loop (m : mz_M) {p : Int} : ∀ (r j : Nat), j + r = 16 → sx 153 13 [some (mz_r 9 0 153), some (mz_i p), some (mz_i (bs (mAt (m 154) p) j)), some (mz_i j)] [] m (some (mz_i (bs (mAt (m 154) p) 16))) m := by
  intro r
  induction r with
  | zero =>
    intro j hj
    obtain rfl : j = 16 := by omega
    refine mz_vc_ok 60 (ct := fun i => i == 13) ?_
    simp only [vcS0, vcS1, vcS2, vcS3, vcS4, vcS5, vcS6, vc_n0, vc_lk, vc_pop, vc_rc, vc_tsw, vc_fr, vc_ar, vc_tb, mz_nx, List.set_cons_zero, List.set_cons_succ, Nat.reduceAdd, Nat.reduceBEq, Nat.reduceEqDiff, Nat.reduceLeDiff, Nat.reduceLT, Nat.reduceMul, Int.reduceToNat, Bool.false_eq_true, Bool.or_self, Bool.or_true, Bool.true_or, Bool.or_false, reduceIte, Option.toList_some, Option.toList_none, List.nil_append, List.cons_append, List.length_cons, List.length_nil, true_and, and_true, Int.cast_ofNat_Int, Int.reduceEq, Int.reduceLT, Int.reduceLE, Nat.zero_le, and_self, or_true, true_or, cdS_153]
  | succ r ih =>
    intro j hj
    have hk := ih (j + 1) (by omega)
    refine mz_vc_ok 60 (ct := fun i => i == 13) ?_
    simp only [vcS0, vcS1, vcS2, vcS3, vcS4, vcS5, vcS6, vc_n0, vc_lk, vc_pop, vc_rc, vc_tsw, vc_fr, vc_ar, vc_tb, mz_nx, List.set_cons_zero, List.set_cons_succ, Nat.reduceAdd, Nat.reduceBEq, Nat.reduceEqDiff, Nat.reduceLeDiff, Nat.reduceLT, Nat.reduceMul, Int.reduceToNat, Bool.false_eq_true, Bool.or_self, Bool.or_true, Bool.true_or, Bool.or_false, reduceIte, Option.toList_some, Option.toList_none, List.nil_append, List.cons_append, List.length_cons, List.length_nil, true_and, and_true, Int.cast_ofNat_Int, Int.reduceEq, Int.reduceLT, Int.reduceLE, Nat.zero_le, and_self, or_true, true_or, cdS_153]
    rw [if_pos (by omega)]
    refine ⟨_, _, sp_mAt m p (by omega), ?_⟩
    simp only [bs] at hk
    have hlt := bs_lt (mAt (m 154) p) j
    have hp := Nat.pow_lt_pow_right (a := 2) (by omega) (show j < 16 by omega)
    by_cases h2 : mAt (m 154) p j = true
    · rw [if_pos h2] at hk ⊢
      simp only [vcS0, vcS1, vcS2, vcS3, vcS4, vcS5, vcS6, vc_n0, vc_lk, vc_pop, vc_rc, vc_tsw, vc_fr, vc_ar, vc_tb, mz_nx, List.set_cons_zero, List.set_cons_succ, Nat.reduceAdd, Nat.reduceBEq, Nat.reduceEqDiff, Nat.reduceLeDiff, Nat.reduceLT, Nat.reduceMul, Int.reduceToNat, Bool.false_eq_true, Bool.or_self, Bool.or_true, Bool.true_or, Bool.or_false, reduceIte, Option.toList_some, Option.toList_none, List.nil_append, List.cons_append, List.length_cons, List.length_nil, true_and, and_true, Int.cast_ofNat_Int, Int.reduceEq, Int.reduceLT, Int.reduceLE, Nat.zero_le, and_self, or_true, true_or, cdS_153]
      rw [← bs_or _ (by omega)] at hk
      exact ⟨(by unfold mz_w; omega), hk⟩
    · rw [if_neg h2] at hk ⊢
      simp only [vcS0, vcS1, vcS2, vcS3, vcS4, vcS5, vcS6, vc_n0, vc_lk, vc_pop, vc_rc, vc_tsw, vc_fr, vc_ar, vc_tb, mz_nx, List.set_cons_zero, List.set_cons_succ, Nat.reduceAdd, Nat.reduceBEq, Nat.reduceEqDiff, Nat.reduceLeDiff, Nat.reduceLT, Nat.reduceMul, Int.reduceToNat, Bool.false_eq_true, Bool.or_self, Bool.or_true, Bool.true_or, Bool.or_false, reduceIte, Option.toList_some, Option.toList_none, List.nil_append, List.cons_append, List.length_cons, List.length_nil, true_and, and_true, Int.cast_ofNat_Int, Int.reduceEq, Int.reduceLT, Int.reduceLE, Nat.zero_le, and_self, or_true, true_or, cdS_153]
      rw [show (0 : Int) = ((0 : Nat) : Int) from rfl, or_n (by omega) (by omega), Nat.or_zero]
      exact ⟨(by unfold mz_w; omega), hk⟩
theorem cm_s (R : Nat → Int) (a n : Nat) : cm R a (n + 1) = cm R a n + if 0 < rt R (a + n) then 1 else 0 := rfl
theorem ov_loop (m : mz_M) {c p z f T : Nat} (hc : c < 16) (hp : mc (m 154) c 1 = p) (hp2 : p < 10) (hz : m 154 (203 + p) = z) (hz4 : z < 4) (hT : m 154 2 = T) (hT2 : T < 100000) (hf : f < 100000) : ∀ (r j : Nat), j + r = T - f → sx 112 7 [some (mz_r 9 0 153), some (mz_i c), some (mz_i (cm (mR (m 154) z) f j)), some (mz_i ((f + j : Nat) : Int))] [] m (some (mz_i (cm (mR (m 154) z) f (T - f)))) m := by
  intro r
  induction r with
  | zero =>
    intro j hj
    refine mz_vc_ok 60 (ct := fun i => i == 7) ?_
    simp only [vcS0, vcS1, vcS2, vcS3, vcS4, vcS5, vcS6, vc_n0, vc_lk, vc_pop, vc_rc, vc_tsw, vc_fr, vc_ar, vc_tb, mz_nx, List.set_cons_zero, List.set_cons_succ, Nat.reduceAdd, Nat.reduceBEq, Nat.reduceEqDiff, Nat.reduceLeDiff, Nat.reduceLT, Nat.reduceMul, Int.reduceToNat, Bool.false_eq_true, Bool.or_self, Bool.or_true, Bool.true_or, Bool.or_false, reduceIte, Option.toList_some, Option.toList_none, List.nil_append, List.cons_append, List.length_cons, List.length_nil, true_and, and_true, Int.cast_ofNat_Int, Int.reduceEq, Int.reduceLT, Int.reduceLE, Nat.zero_le, and_self, or_true, true_or, cdS_112]
    rw [hT, if_neg (by omega), show j = T - f by omega]
    all_goals ((repeat' refine And.intro ?_ ?_) <;> first | trivial | rfl | (unfold mz_w; omega) | omega)
  | succ r ih =>
    intro j hj
    have hk := ih (j + 1) (by omega)
    have hb := cm_ok (mR (m 154) z) f j
    refine mz_vc_ok 60 (ct := fun i => i == 7) ?_
    simp only [vcS0, vcS1, vcS2, vcS3, vcS4, vcS5, vcS6, vc_n0, vc_lk, vc_pop, vc_rc, vc_tsw, vc_fr, vc_ar, vc_tb, mz_nx, List.set_cons_zero, List.set_cons_succ, Nat.reduceAdd, Nat.reduceBEq, Nat.reduceEqDiff, Nat.reduceLeDiff, Nat.reduceLT, Nat.reduceMul, Int.reduceToNat, Bool.false_eq_true, Bool.or_self, Bool.or_true, Bool.true_or, Bool.or_false, reduceIte, Option.toList_some, Option.toList_none, List.nil_append, List.cons_append, List.length_cons, List.length_nil, true_and, and_true, Int.cast_ofNat_Int, Int.reduceEq, Int.reduceLT, Int.reduceLE, Nat.zero_le, and_self, or_true, true_or, cdS_112]
    rw [hT, if_pos (by omega)]
    refine ⟨_, _, sp_of1 m hc, ?_⟩
    simp only [vcS0, vcS1, vcS2, vcS3, vcS4, vcS5, vcS6, vc_n0, vc_lk, vc_pop, vc_rc, vc_tsw, vc_fr, vc_ar, vc_tb, mz_nx, List.set_cons_zero, List.set_cons_succ, Nat.reduceAdd, Nat.reduceBEq, Nat.reduceEqDiff, Nat.reduceLeDiff, Nat.reduceLT, Nat.reduceMul, Int.reduceToNat, Bool.false_eq_true, Bool.or_self, Bool.or_true, Bool.true_or, Bool.or_false, reduceIte, Option.toList_some, Option.toList_none, List.nil_append, List.cons_append, List.length_cons, List.length_nil, true_and, and_true, Int.cast_ofNat_Int, Int.reduceEq, Int.reduceLT, Int.reduceLE, Nat.zero_le, and_self, or_true, true_or, cdS_112]
    rw [hp]
    refine ⟨_, _, sp_cents m hp2 hz hz4, ?_⟩
    simp only [vcS0, vcS1, vcS2, vcS3, vcS4, vcS5, vcS6, vc_n0, vc_lk, vc_pop, vc_rc, vc_tsw, vc_fr, vc_ar, vc_tb, mz_nx, List.set_cons_zero, List.set_cons_succ, Nat.reduceAdd, Nat.reduceBEq, Nat.reduceEqDiff, Nat.reduceLeDiff, Nat.reduceLT, Nat.reduceMul, Int.reduceToNat, Bool.false_eq_true, Bool.or_self, Bool.or_true, Bool.true_or, Bool.or_false, reduceIte, Option.toList_some, Option.toList_none, List.nil_append, List.cons_append, List.length_cons, List.length_nil, true_and, and_true, Int.cast_ofNat_Int, Int.reduceEq, Int.reduceLT, Int.reduceLE, Nat.zero_le, and_self, or_true, true_or, cdS_112]
    rw [cm_s] at hk
    by_cases h2 : 0 < rt (mR (m 154) z) (f + j)
    · rw [if_pos h2] at hk
      rw [if_neg (by omega)]
      exact ⟨(by unfold mz_w; omega), (by unfold mz_w; omega), hk⟩
    · rw [if_neg h2] at hk
      rw [if_pos (by omega)]
      exact ⟨(by unfold mz_w; omega), (by unfold mz_w; omega), hk⟩
theorem sp_over (m : mz_M) {c p z f T : Nat} (hc : c < 16) (hp : mc (m 154) c 1 = p) (hp2 : p < 10) (hz : m 154 (203 + p) = z) (hz4 : z < 4) (hT : m 154 2 = T) (hT2 : T < 100000) (hf : mc (m 154) c 2 = f) (hf2 : f < 100000) : sp 112 [mz_r 9 0 153, mz_i c] m (some (mz_i (cm (mR (m 154) z) f (T - f)))) m := by
  refine mz_cl_vc 60 (fun i => i == 7) [some (mz_r 9 0 153), some (mz_i c), none, none] rfl ?_
  simp only [vcS0, vcS1, vcS2, vcS3, vcS4, vcS5, vcS6, vc_n0, vc_lk, vc_pop, vc_rc, vc_tsw, vc_fr, vc_ar, vc_tb, mz_nx, List.set_cons_zero, List.set_cons_succ, Nat.reduceAdd, Nat.reduceBEq, Nat.reduceEqDiff, Nat.reduceLeDiff, Nat.reduceLT, Nat.reduceMul, Int.reduceToNat, Bool.false_eq_true, Bool.or_self, Bool.or_true, Bool.true_or, Bool.or_false, reduceIte, Option.toList_some, Option.toList_none, List.nil_append, List.cons_append, List.length_cons, List.length_nil, true_and, and_true, Int.cast_ofNat_Int, Int.reduceEq, Int.reduceLT, Int.reduceLE, Nat.zero_le, and_self, or_true, true_or, cdS_112]
  refine ⟨_, _, sp_of2 m hc, ?_⟩
  simp only [vcS0, vcS1, vcS2, vcS3, vcS4, vcS5, vcS6, vc_n0, vc_lk, vc_pop, vc_rc, vc_tsw, vc_fr, vc_ar, vc_tb, mz_nx, List.set_cons_zero, List.set_cons_succ, Nat.reduceAdd, Nat.reduceBEq, Nat.reduceEqDiff, Nat.reduceLeDiff, Nat.reduceLT, Nat.reduceMul, Int.reduceToNat, Bool.false_eq_true, Bool.or_self, Bool.or_true, Bool.true_or, Bool.or_false, reduceIte, Option.toList_some, Option.toList_none, List.nil_append, List.cons_append, List.length_cons, List.length_nil, true_and, and_true, Int.cast_ofNat_Int, Int.reduceEq, Int.reduceLT, Int.reduceLE, Nat.zero_le, and_self, or_true, true_or, cdS_112]
  rw [hf]
  exact ov_loop m hc hp hp2 hz hz4 hT hT2 hf2 (T - f) 0 (by omega)
/-- an entry that is a ticket of a car -/
def isT (V : Nat → Int) (c : Int) (i : Nat) : Prop := me V i 1 = 4 ∧ me V i 2 = c
theorem tc_loop (m : mz_M) {c : Int} {n : Nat} (h0 : m 154 429 = n) (hn : n ≤ 400) : ∀ (r j : Nat), j + r = n → sx 121 4 [some (mz_r 9 0 153), some (mz_i c), some (mz_i (sm (fun i => if me (m 154) i 1 = 4 ∧ me (m 154) i 2 = c then 1 else 0) j)), some (mz_i j)] [] m (some (mz_i (sm (fun i => if me (m 154) i 1 = 4 ∧ me (m 154) i 2 = c then 1 else 0) n))) m := by
  intro r
  induction r with
  | zero =>
    intro j hj
    obtain rfl : j = n := by omega
    refine mz_vc_ok 60 (ct := fun i => i == 4) ?_
    simp only [vcS0, vcS1, vcS2, vcS3, vcS4, vcS5, vcS6, vc_n0, vc_lk, vc_pop, vc_rc, vc_tsw, vc_fr, vc_ar, vc_tb, mz_nx, List.set_cons_zero, List.set_cons_succ, Nat.reduceAdd, Nat.reduceBEq, Nat.reduceEqDiff, Nat.reduceLeDiff, Nat.reduceLT, Nat.reduceMul, Int.reduceToNat, Bool.false_eq_true, Bool.or_self, Bool.or_true, Bool.true_or, Bool.or_false, reduceIte, Option.toList_some, Option.toList_none, List.nil_append, List.cons_append, List.length_cons, List.length_nil, true_and, and_true, Int.cast_ofNat_Int, Int.reduceEq, Int.reduceLT, Int.reduceLE, Nat.zero_le, and_self, or_true, true_or, cdS_121]
    rw [h0, if_neg (by omega)]
    all_goals ((repeat' refine And.intro ?_ ?_) <;> first | trivial | rfl | (unfold mz_w; omega) | omega)
  | succ r ih =>
    intro j hj
    have hk := ih (j + 1) (by omega)
    have b0 : 0 ≤ sm (fun i => if me (m 154) i 1 = 4 ∧ me (m 154) i 2 = c then 1 else 0) j := sm_0 fun i hi => by split <;> omega
    have b1 : sm (fun i => if me (m 154) i 1 = 4 ∧ me (m 154) i 2 = c then 1 else 0) j ≤ 1 * j := sm_ub fun i hi => by split <;> omega
    refine mz_vc_ok 60 (ct := fun i => i == 4) ?_
    simp only [vcS0, vcS1, vcS2, vcS3, vcS4, vcS5, vcS6, vc_n0, vc_lk, vc_pop, vc_rc, vc_tsw, vc_fr, vc_ar, vc_tb, mz_nx, List.set_cons_zero, List.set_cons_succ, Nat.reduceAdd, Nat.reduceBEq, Nat.reduceEqDiff, Nat.reduceLeDiff, Nat.reduceLT, Nat.reduceMul, Int.reduceToNat, Bool.false_eq_true, Bool.or_self, Bool.or_true, Bool.true_or, Bool.or_false, reduceIte, Option.toList_some, Option.toList_none, List.nil_append, List.cons_append, List.length_cons, List.length_nil, true_and, and_true, Int.cast_ofNat_Int, Int.reduceEq, Int.reduceLT, Int.reduceLE, Nat.zero_le, and_self, or_true, true_or, cdS_121]
    rw [h0, if_pos (by omega)]
    refine ⟨_, _, sp_e1 m (by omega), ?_⟩
    simp only [vcS0, vcS1, vcS2, vcS3, vcS4, vcS5, vcS6, vc_n0, vc_lk, vc_pop, vc_rc, vc_tsw, vc_fr, vc_ar, vc_tb, mz_nx, List.set_cons_zero, List.set_cons_succ, Nat.reduceAdd, Nat.reduceBEq, Nat.reduceEqDiff, Nat.reduceLeDiff, Nat.reduceLT, Nat.reduceMul, Int.reduceToNat, Bool.false_eq_true, Bool.or_self, Bool.or_true, Bool.true_or, Bool.or_false, reduceIte, Option.toList_some, Option.toList_none, List.nil_append, List.cons_append, List.length_cons, List.length_nil, true_and, and_true, Int.cast_ofNat_Int, Int.reduceEq, Int.reduceLT, Int.reduceLE, Nat.zero_le, and_self, or_true, true_or, cdS_121]
    rw [sm] at hk
    by_cases h2 : me (m 154) j 1 = 4
    · rw [if_pos h2]
      refine ⟨_, _, sp_e2 m (by omega), ?_⟩
      simp only [vcS0, vcS1, vcS2, vcS3, vcS4, vcS5, vcS6, vc_n0, vc_lk, vc_pop, vc_rc, vc_tsw, vc_fr, vc_ar, vc_tb, mz_nx, List.set_cons_zero, List.set_cons_succ, Nat.reduceAdd, Nat.reduceBEq, Nat.reduceEqDiff, Nat.reduceLeDiff, Nat.reduceLT, Nat.reduceMul, Int.reduceToNat, Bool.false_eq_true, Bool.or_self, Bool.or_true, Bool.true_or, Bool.or_false, reduceIte, Option.toList_some, Option.toList_none, List.nil_append, List.cons_append, List.length_cons, List.length_nil, true_and, and_true, Int.cast_ofNat_Int, Int.reduceEq, Int.reduceLT, Int.reduceLE, Nat.zero_le, and_self, or_true, true_or, cdS_121]
      by_cases h3 : me (m 154) j 2 = c
      · rw [if_pos h3]
        rw [if_pos ⟨h2, h3⟩] at hk
        exact ⟨(by unfold mz_w; omega), (by unfold mz_w; omega), hk⟩
      · rw [if_neg h3]
        rw [if_neg (fun q => h3 q.2)] at hk
        exact ⟨(by unfold mz_w; omega), (by unfold mz_w; omega), hk⟩
    · rw [if_neg h2]
      rw [if_neg (fun q => h2 q.1)] at hk
      exact ⟨(by unfold mz_w; omega), (by unfold mz_w; omega), hk⟩
theorem sp_tickets (m : mz_M) (c : Int) {n : Nat} (h0 : m 154 429 = n) (hn : n ≤ 400) : sp 121 [mz_r 9 0 153, mz_i c] m (some (mz_i (sm (fun i => if me (m 154) i 1 = 4 ∧ me (m 154) i 2 = c then 1 else 0) n))) m := by
  refine mz_cl_vc 60 (fun i => i == 4) [some (mz_r 9 0 153), some (mz_i c), none, none] rfl ?_
  simp only [vcS0, vcS1, vcS2, vcS3, vcS4, vcS5, vcS6, vc_n0, vc_lk, vc_pop, vc_rc, vc_tsw, vc_fr, vc_ar, vc_tb, mz_nx, List.set_cons_zero, List.set_cons_succ, Nat.reduceAdd, Nat.reduceBEq, Nat.reduceEqDiff, Nat.reduceLeDiff, Nat.reduceLT, Nat.reduceMul, Int.reduceToNat, Bool.false_eq_true, Bool.or_self, Bool.or_true, Bool.true_or, Bool.or_false, reduceIte, Option.toList_some, Option.toList_none, List.nil_append, List.cons_append, List.length_cons, List.length_nil, true_and, and_true, Int.cast_ofNat_Int, Int.reduceEq, Int.reduceLT, Int.reduceLE, Nat.zero_le, and_self, or_true, true_or, cdS_121]
  exact tc_loop m h0 hn n 0 (by omega)
theorem up_loop (m : mz_M) {c : Int} {n : Nat} (h0 : m 154 429 = n) (hn : n ≤ 400) : ∀ (r j : Nat), j + r = n → sx 123 4 [some (mz_r 9 0 153), some (mz_i c), some (mz_i (sm (fun i => if me (m 154) i 1 = 4 ∧ me (m 154) i 2 = c ∧ me (m 154) i 4 = 0 then 1 else 0) j)), some (mz_i j)] [] m (some (mz_i (sm (fun i => if me (m 154) i 1 = 4 ∧ me (m 154) i 2 = c ∧ me (m 154) i 4 = 0 then 1 else 0) n))) m := by
  intro r
  induction r with
  | zero =>
    intro j hj
    obtain rfl : j = n := by omega
    refine mz_vc_ok 60 (ct := fun i => i == 4) ?_
    simp only [vcS0, vcS1, vcS2, vcS3, vcS4, vcS5, vcS6, vc_n0, vc_lk, vc_pop, vc_rc, vc_tsw, vc_fr, vc_ar, vc_tb, mz_nx, List.set_cons_zero, List.set_cons_succ, Nat.reduceAdd, Nat.reduceBEq, Nat.reduceEqDiff, Nat.reduceLeDiff, Nat.reduceLT, Nat.reduceMul, Int.reduceToNat, Bool.false_eq_true, Bool.or_self, Bool.or_true, Bool.true_or, Bool.or_false, reduceIte, Option.toList_some, Option.toList_none, List.nil_append, List.cons_append, List.length_cons, List.length_nil, true_and, and_true, Int.cast_ofNat_Int, Int.reduceEq, Int.reduceLT, Int.reduceLE, Nat.zero_le, and_self, or_true, true_or, cdS_123]
    rw [h0, if_neg (by omega)]
    all_goals ((repeat' refine And.intro ?_ ?_) <;> first | trivial | rfl | (unfold mz_w; omega) | omega)
  | succ r ih =>
    intro j hj
    have hk := ih (j + 1) (by omega)
    have b0 : 0 ≤ sm (fun i => if me (m 154) i 1 = 4 ∧ me (m 154) i 2 = c ∧ me (m 154) i 4 = 0 then 1 else 0) j := sm_0 fun i hi => by split <;> omega
    have b1 : sm (fun i => if me (m 154) i 1 = 4 ∧ me (m 154) i 2 = c ∧ me (m 154) i 4 = 0 then 1 else 0) j ≤ 1 * j := sm_ub fun i hi => by split <;> omega
    refine mz_vc_ok 60 (ct := fun i => i == 4) ?_
    simp only [vcS0, vcS1, vcS2, vcS3, vcS4, vcS5, vcS6, vc_n0, vc_lk, vc_pop, vc_rc, vc_tsw, vc_fr, vc_ar, vc_tb, mz_nx, List.set_cons_zero, List.set_cons_succ, Nat.reduceAdd, Nat.reduceBEq, Nat.reduceEqDiff, Nat.reduceLeDiff, Nat.reduceLT, Nat.reduceMul, Int.reduceToNat, Bool.false_eq_true, Bool.or_self, Bool.or_true, Bool.true_or, Bool.or_false, reduceIte, Option.toList_some, Option.toList_none, List.nil_append, List.cons_append, List.length_cons, List.length_nil, true_and, and_true, Int.cast_ofNat_Int, Int.reduceEq, Int.reduceLT, Int.reduceLE, Nat.zero_le, and_self, or_true, true_or, cdS_123]
    rw [h0, if_pos (by omega)]
    refine ⟨_, _, sp_e1 m (by omega), ?_⟩
    simp only [vcS0, vcS1, vcS2, vcS3, vcS4, vcS5, vcS6, vc_n0, vc_lk, vc_pop, vc_rc, vc_tsw, vc_fr, vc_ar, vc_tb, mz_nx, List.set_cons_zero, List.set_cons_succ, Nat.reduceAdd, Nat.reduceBEq, Nat.reduceEqDiff, Nat.reduceLeDiff, Nat.reduceLT, Nat.reduceMul, Int.reduceToNat, Bool.false_eq_true, Bool.or_self, Bool.or_true, Bool.true_or, Bool.or_false, reduceIte, Option.toList_some, Option.toList_none, List.nil_append, List.cons_append, List.length_cons, List.length_nil, true_and, and_true, Int.cast_ofNat_Int, Int.reduceEq, Int.reduceLT, Int.reduceLE, Nat.zero_le, and_self, or_true, true_or, cdS_123]
    rw [sm] at hk
    by_cases h2 : me (m 154) j 1 = 4
    · rw [if_pos h2]
      refine ⟨_, _, sp_e2 m (by omega), ?_⟩
      simp only [vcS0, vcS1, vcS2, vcS3, vcS4, vcS5, vcS6, vc_n0, vc_lk, vc_pop, vc_rc, vc_tsw, vc_fr, vc_ar, vc_tb, mz_nx, List.set_cons_zero, List.set_cons_succ, Nat.reduceAdd, Nat.reduceBEq, Nat.reduceEqDiff, Nat.reduceLeDiff, Nat.reduceLT, Nat.reduceMul, Int.reduceToNat, Bool.false_eq_true, Bool.or_self, Bool.or_true, Bool.true_or, Bool.or_false, reduceIte, Option.toList_some, Option.toList_none, List.nil_append, List.cons_append, List.length_cons, List.length_nil, true_and, and_true, Int.cast_ofNat_Int, Int.reduceEq, Int.reduceLT, Int.reduceLE, Nat.zero_le, and_self, or_true, true_or, cdS_123]
      by_cases h3 : me (m 154) j 2 = c
      · rw [if_pos h3]
        refine ⟨_, _, sp_e4 m (by omega), ?_⟩
        simp only [vcS0, vcS1, vcS2, vcS3, vcS4, vcS5, vcS6, vc_n0, vc_lk, vc_pop, vc_rc, vc_tsw, vc_fr, vc_ar, vc_tb, mz_nx, List.set_cons_zero, List.set_cons_succ, Nat.reduceAdd, Nat.reduceBEq, Nat.reduceEqDiff, Nat.reduceLeDiff, Nat.reduceLT, Nat.reduceMul, Int.reduceToNat, Bool.false_eq_true, Bool.or_self, Bool.or_true, Bool.true_or, Bool.or_false, reduceIte, Option.toList_some, Option.toList_none, List.nil_append, List.cons_append, List.length_cons, List.length_nil, true_and, and_true, Int.cast_ofNat_Int, Int.reduceEq, Int.reduceLT, Int.reduceLE, Nat.zero_le, and_self, or_true, true_or, cdS_123]
        by_cases h4 : me (m 154) j 4 = 0
        · rw [if_pos h4]
          rw [if_pos ⟨h2, h3, h4⟩] at hk
          exact ⟨(by unfold mz_w; omega), (by unfold mz_w; omega), hk⟩
        · rw [if_neg h4]
          rw [if_neg (fun q => h4 q.2.2)] at hk
          exact ⟨(by unfold mz_w; omega), (by unfold mz_w; omega), hk⟩
      · rw [if_neg h3]
        rw [if_neg (fun q => h3 q.2.1)] at hk
        exact ⟨(by unfold mz_w; omega), (by unfold mz_w; omega), hk⟩
    · rw [if_neg h2]
      rw [if_neg (fun q => h2 q.1)] at hk
      exact ⟨(by unfold mz_w; omega), (by unfold mz_w; omega), hk⟩
theorem sp_unpaid (m : mz_M) (c : Int) {n : Nat} (h0 : m 154 429 = n) (hn : n ≤ 400) : sp 123 [mz_r 9 0 153, mz_i c] m (some (mz_i (sm (fun i => if me (m 154) i 1 = 4 ∧ me (m 154) i 2 = c ∧ me (m 154) i 4 = 0 then 1 else 0) n))) m := by
  refine mz_cl_vc 60 (fun i => i == 4) [some (mz_r 9 0 153), some (mz_i c), none, none] rfl ?_
  simp only [vcS0, vcS1, vcS2, vcS3, vcS4, vcS5, vcS6, vc_n0, vc_lk, vc_pop, vc_rc, vc_tsw, vc_fr, vc_ar, vc_tb, mz_nx, List.set_cons_zero, List.set_cons_succ, Nat.reduceAdd, Nat.reduceBEq, Nat.reduceEqDiff, Nat.reduceLeDiff, Nat.reduceLT, Nat.reduceMul, Int.reduceToNat, Bool.false_eq_true, Bool.or_self, Bool.or_true, Bool.true_or, Bool.or_false, reduceIte, Option.toList_some, Option.toList_none, List.nil_append, List.cons_append, List.length_cons, List.length_nil, true_and, and_true, Int.cast_ofNat_Int, Int.reduceEq, Int.reduceLT, Int.reduceLE, Nat.zero_le, and_self, or_true, true_or, cdS_123]
  exact up_loop m h0 hn n 0 (by omega)
theorem ol_loop (m : mz_M) {c : Int} {n : Nat} (h0 : m 154 429 = n) (hn : n ≤ 400) : ∀ (r j : Nat), j + r = n → sx 111 2 [some (mz_r 9 0 153), some (mz_i c), some (mz_i j)] [] m (some (mz_i (opI (-1) (fst1 (fun i => me (m 154) i 1 = 4 ∧ me (m 154) i 2 = c ∧ me (m 154) i 4 = 0) r j)))) m := by
  intro r
  induction r with
  | zero =>
    intro j hj
    obtain rfl : j = n := by omega
    refine mz_vc_ok 60 (ct := fun i => i == 2) ?_
    simp only [vcS0, vcS1, vcS2, vcS3, vcS4, vcS5, vcS6, vc_n0, vc_lk, vc_pop, vc_rc, vc_tsw, vc_fr, vc_ar, vc_tb, mz_nx, List.set_cons_zero, List.set_cons_succ, Nat.reduceAdd, Nat.reduceBEq, Nat.reduceEqDiff, Nat.reduceLeDiff, Nat.reduceLT, Nat.reduceMul, Int.reduceToNat, Bool.false_eq_true, Bool.or_self, Bool.or_true, Bool.true_or, Bool.or_false, reduceIte, Option.toList_some, Option.toList_none, List.nil_append, List.cons_append, List.length_cons, List.length_nil, true_and, and_true, Int.cast_ofNat_Int, Int.reduceEq, Int.reduceLT, Int.reduceLE, Nat.zero_le, and_self, or_true, true_or, cdS_111]
    rw [h0, if_neg (by omega)]
    all_goals ((repeat' refine And.intro ?_ ?_) <;> first | trivial | rfl | (unfold mz_w; omega) | omega)
  | succ r ih =>
    intro j hj
    have hk := ih (j + 1) (by omega)
    refine mz_vc_ok 60 (ct := fun i => i == 2) ?_
    simp only [vcS0, vcS1, vcS2, vcS3, vcS4, vcS5, vcS6, vc_n0, vc_lk, vc_pop, vc_rc, vc_tsw, vc_fr, vc_ar, vc_tb, mz_nx, List.set_cons_zero, List.set_cons_succ, Nat.reduceAdd, Nat.reduceBEq, Nat.reduceEqDiff, Nat.reduceLeDiff, Nat.reduceLT, Nat.reduceMul, Int.reduceToNat, Bool.false_eq_true, Bool.or_self, Bool.or_true, Bool.true_or, Bool.or_false, reduceIte, Option.toList_some, Option.toList_none, List.nil_append, List.cons_append, List.length_cons, List.length_nil, true_and, and_true, Int.cast_ofNat_Int, Int.reduceEq, Int.reduceLT, Int.reduceLE, Nat.zero_le, and_self, or_true, true_or, cdS_111]
    rw [h0, if_pos (by omega)]
    refine ⟨_, _, sp_e1 m (by omega), ?_⟩
    simp only [vcS0, vcS1, vcS2, vcS3, vcS4, vcS5, vcS6, vc_n0, vc_lk, vc_pop, vc_rc, vc_tsw, vc_fr, vc_ar, vc_tb, mz_nx, List.set_cons_zero, List.set_cons_succ, Nat.reduceAdd, Nat.reduceBEq, Nat.reduceEqDiff, Nat.reduceLeDiff, Nat.reduceLT, Nat.reduceMul, Int.reduceToNat, Bool.false_eq_true, Bool.or_self, Bool.or_true, Bool.true_or, Bool.or_false, reduceIte, Option.toList_some, Option.toList_none, List.nil_append, List.cons_append, List.length_cons, List.length_nil, true_and, and_true, Int.cast_ofNat_Int, Int.reduceEq, Int.reduceLT, Int.reduceLE, Nat.zero_le, and_self, or_true, true_or, cdS_111]
    unfold fst1
    by_cases h2 : me (m 154) j 1 = 4
    · rw [if_pos h2]
      refine ⟨_, _, sp_e2 m (by omega), ?_⟩
      simp only [vcS0, vcS1, vcS2, vcS3, vcS4, vcS5, vcS6, vc_n0, vc_lk, vc_pop, vc_rc, vc_tsw, vc_fr, vc_ar, vc_tb, mz_nx, List.set_cons_zero, List.set_cons_succ, Nat.reduceAdd, Nat.reduceBEq, Nat.reduceEqDiff, Nat.reduceLeDiff, Nat.reduceLT, Nat.reduceMul, Int.reduceToNat, Bool.false_eq_true, Bool.or_self, Bool.or_true, Bool.true_or, Bool.or_false, reduceIte, Option.toList_some, Option.toList_none, List.nil_append, List.cons_append, List.length_cons, List.length_nil, true_and, and_true, Int.cast_ofNat_Int, Int.reduceEq, Int.reduceLT, Int.reduceLE, Nat.zero_le, and_self, or_true, true_or, cdS_111]
      by_cases h3 : me (m 154) j 2 = c
      · rw [if_pos h3]
        refine ⟨_, _, sp_e4 m (by omega), ?_⟩
        simp only [vcS0, vcS1, vcS2, vcS3, vcS4, vcS5, vcS6, vc_n0, vc_lk, vc_pop, vc_rc, vc_tsw, vc_fr, vc_ar, vc_tb, mz_nx, List.set_cons_zero, List.set_cons_succ, Nat.reduceAdd, Nat.reduceBEq, Nat.reduceEqDiff, Nat.reduceLeDiff, Nat.reduceLT, Nat.reduceMul, Int.reduceToNat, Bool.false_eq_true, Bool.or_self, Bool.or_true, Bool.true_or, Bool.or_false, reduceIte, Option.toList_some, Option.toList_none, List.nil_append, List.cons_append, List.length_cons, List.length_nil, true_and, and_true, Int.cast_ofNat_Int, Int.reduceEq, Int.reduceLT, Int.reduceLE, Nat.zero_le, and_self, or_true, true_or, cdS_111]
        by_cases h4 : me (m 154) j 4 = 0
        · rw [if_pos h4, if_pos ⟨h2, h3, h4⟩]
          all_goals ((repeat' refine And.intro ?_ ?_) <;> first | trivial | rfl | (unfold mz_w; omega) | omega)
        · rw [if_neg h4, if_neg (fun q => h4 q.2.2)]
          exact ⟨(by unfold mz_w; omega), hk⟩
      · rw [if_neg h3, if_neg (fun q => h3 q.2.1)]
        exact ⟨(by unfold mz_w; omega), hk⟩
    · rw [if_neg h2, if_neg (fun q => h2 q.1)]
      exact ⟨(by unfold mz_w; omega), hk⟩
theorem sp_oldest (m : mz_M) (c : Int) {n : Nat} (h0 : m 154 429 = n) (hn : n ≤ 400) : sp 111 [mz_r 9 0 153, mz_i c] m (some (mz_i (opI (-1) (fst1 (fun i => me (m 154) i 1 = 4 ∧ me (m 154) i 2 = c ∧ me (m 154) i 4 = 0) n 0)))) m := by
  refine mz_cl_vc 60 (fun i => i == 2) [some (mz_r 9 0 153), some (mz_i c), none] rfl ?_
  simp only [vcS0, vcS1, vcS2, vcS3, vcS4, vcS5, vcS6, vc_n0, vc_lk, vc_pop, vc_rc, vc_tsw, vc_fr, vc_ar, vc_tb, mz_nx, List.set_cons_zero, List.set_cons_succ, Nat.reduceAdd, Nat.reduceBEq, Nat.reduceEqDiff, Nat.reduceLeDiff, Nat.reduceLT, Nat.reduceMul, Int.reduceToNat, Bool.false_eq_true, Bool.or_self, Bool.or_true, Bool.true_or, Bool.or_false, reduceIte, Option.toList_some, Option.toList_none, List.nil_append, List.cons_append, List.length_cons, List.length_nil, true_and, and_true, Int.cast_ofNat_Int, Int.reduceEq, Int.reduceLT, Int.reduceLE, Nat.zero_le, and_self, or_true, true_or, cdS_111]
  exact ol_loop m h0 hn n 0 (by omega)
theorem tke_neg {P : Nat → Prop} [DecidablePred P] : ∀ (r j : Nat) (l : Int), l < 0 → tke P r j l = none := by
  intro r
  induction r with
  | zero => intros; rfl
  | succ r ih =>
    intro j l h
    unfold tke
    split
    · rw [if_neg (by omega)]; exact ih _ _ (by omega)
    · exact ih _ _ h
theorem ti_loop (m : mz_M) {c x : Int} {n : Nat} (h0 : m 154 429 = n) (hn : n ≤ 400) : ∀ (r j : Nat) (l : Int), j + r = n → -10 ≤ l → l ≤ 2147483647 → sx 120 4 [some (mz_r 9 0 153), some (mz_i c), some (mz_i x), some (mz_i l), some (mz_i j)] [] m (some (mz_i (opI (-1) (tke (fun i => me (m 154) i 1 = 4 ∧ me (m 154) i 2 = c) r j l)))) m := by
  intro r
  induction r with
  | zero =>
    intro j l hj hl hl2
    obtain rfl : j = n := by omega
    refine mz_vc_ok 60 (ct := fun i => i == 4) ?_
    simp only [vcS0, vcS1, vcS2, vcS3, vcS4, vcS5, vcS6, vc_n0, vc_lk, vc_pop, vc_rc, vc_tsw, vc_fr, vc_ar, vc_tb, mz_nx, List.set_cons_zero, List.set_cons_succ, Nat.reduceAdd, Nat.reduceBEq, Nat.reduceEqDiff, Nat.reduceLeDiff, Nat.reduceLT, Nat.reduceMul, Int.reduceToNat, Bool.false_eq_true, Bool.or_self, Bool.or_true, Bool.true_or, Bool.or_false, reduceIte, Option.toList_some, Option.toList_none, List.nil_append, List.cons_append, List.length_cons, List.length_nil, true_and, and_true, Int.cast_ofNat_Int, Int.reduceEq, Int.reduceLT, Int.reduceLE, Nat.zero_le, and_self, or_true, true_or, cdS_120]
    rw [h0, if_neg (by omega)]
    all_goals ((repeat' refine And.intro ?_ ?_) <;> first | trivial | rfl | (unfold mz_w; omega) | omega)
  | succ r ih =>
    intro j l hj hl hl2
    refine mz_vc_ok 60 (ct := fun i => i == 4) ?_
    simp only [vcS0, vcS1, vcS2, vcS3, vcS4, vcS5, vcS6, vc_n0, vc_lk, vc_pop, vc_rc, vc_tsw, vc_fr, vc_ar, vc_tb, mz_nx, List.set_cons_zero, List.set_cons_succ, Nat.reduceAdd, Nat.reduceBEq, Nat.reduceEqDiff, Nat.reduceLeDiff, Nat.reduceLT, Nat.reduceMul, Int.reduceToNat, Bool.false_eq_true, Bool.or_self, Bool.or_true, Bool.true_or, Bool.or_false, reduceIte, Option.toList_some, Option.toList_none, List.nil_append, List.cons_append, List.length_cons, List.length_nil, true_and, and_true, Int.cast_ofNat_Int, Int.reduceEq, Int.reduceLT, Int.reduceLE, Nat.zero_le, and_self, or_true, true_or, cdS_120]
    rw [h0, if_pos (by omega)]
    by_cases h9 : l < 0
    · rw [if_pos h9, tke_neg _ _ _ h9]
      all_goals ((repeat' refine And.intro ?_ ?_) <;> first | trivial | rfl | (unfold mz_w; omega) | omega)
    · rw [if_neg h9]
      refine ⟨_, _, sp_e1 m (by omega), ?_⟩
      simp only [vcS0, vcS1, vcS2, vcS3, vcS4, vcS5, vcS6, vc_n0, vc_lk, vc_pop, vc_rc, vc_tsw, vc_fr, vc_ar, vc_tb, mz_nx, List.set_cons_zero, List.set_cons_succ, Nat.reduceAdd, Nat.reduceBEq, Nat.reduceEqDiff, Nat.reduceLeDiff, Nat.reduceLT, Nat.reduceMul, Int.reduceToNat, Bool.false_eq_true, Bool.or_self, Bool.or_true, Bool.true_or, Bool.or_false, reduceIte, Option.toList_some, Option.toList_none, List.nil_append, List.cons_append, List.length_cons, List.length_nil, true_and, and_true, Int.cast_ofNat_Int, Int.reduceEq, Int.reduceLT, Int.reduceLE, Nat.zero_le, and_self, or_true, true_or, cdS_120]
      unfold tke
      by_cases h2 : me (m 154) j 1 = 4
      · rw [if_pos h2]
        refine ⟨_, _, sp_e2 m (by omega), ?_⟩
        simp only [vcS0, vcS1, vcS2, vcS3, vcS4, vcS5, vcS6, vc_n0, vc_lk, vc_pop, vc_rc, vc_tsw, vc_fr, vc_ar, vc_tb, mz_nx, List.set_cons_zero, List.set_cons_succ, Nat.reduceAdd, Nat.reduceBEq, Nat.reduceEqDiff, Nat.reduceLeDiff, Nat.reduceLT, Nat.reduceMul, Int.reduceToNat, Bool.false_eq_true, Bool.or_self, Bool.or_true, Bool.true_or, Bool.or_false, reduceIte, Option.toList_some, Option.toList_none, List.nil_append, List.cons_append, List.length_cons, List.length_nil, true_and, and_true, Int.cast_ofNat_Int, Int.reduceEq, Int.reduceLT, Int.reduceLE, Nat.zero_le, and_self, or_true, true_or, cdS_120]
        by_cases h3 : me (m 154) j 2 = c
        · rw [if_pos h3, if_pos (show me (m 154) j 1 = 4 ∧ me (m 154) j 2 = c from ⟨h2, h3⟩)]
          by_cases h4 : l = 0
          · rw [if_pos h4, if_pos h4]
            all_goals ((repeat' refine And.intro ?_ ?_) <;> first | trivial | rfl | (unfold mz_w; omega) | omega)
          · rw [if_neg h4, if_neg h4]
            refine ⟨(by unfold mz_w; omega), (by unfold mz_w; omega), ?_⟩
            have hk := ih (j + 1) (l - 1) (by omega) (by omega) (by omega)
            exact hk
        · rw [if_neg h3, if_neg (fun q => h3 q.2)]
          exact ⟨(by unfold mz_w; omega), ih (j + 1) l (by omega) hl hl2⟩
      · rw [if_neg h2, if_neg (fun q => h2 q.1)]
        exact ⟨(by unfold mz_w; omega), ih (j + 1) l (by omega) hl hl2⟩
theorem sp_ticket (m : mz_M) (c x : Int) {n : Nat} (h0 : m 154 429 = n) (hn : n ≤ 400) (hx : -10 ≤ x ∧ x ≤ 2147483647) : sp 120 [mz_r 9 0 153, mz_i c, mz_i x] m (some (mz_i (opI (-1) (tke (fun i => me (m 154) i 1 = 4 ∧ me (m 154) i 2 = c) n 0 x)))) m := by
  refine mz_cl_vc 60 (fun i => i == 4) [some (mz_r 9 0 153), some (mz_i c), some (mz_i x), none, none] rfl ?_
  simp only [vcS0, vcS1, vcS2, vcS3, vcS4, vcS5, vcS6, vc_n0, vc_lk, vc_pop, vc_rc, vc_tsw, vc_fr, vc_ar, vc_tb, mz_nx, List.set_cons_zero, List.set_cons_succ, Nat.reduceAdd, Nat.reduceBEq, Nat.reduceEqDiff, Nat.reduceLeDiff, Nat.reduceLT, Nat.reduceMul, Int.reduceToNat, Bool.false_eq_true, Bool.or_self, Bool.or_true, Bool.true_or, Bool.or_false, reduceIte, Option.toList_some, Option.toList_none, List.nil_append, List.cons_append, List.length_cons, List.length_nil, true_and, and_true, Int.cast_ofNat_Int, Int.reduceEq, Int.reduceLT, Int.reduceLE, Nat.zero_le, and_self, or_true, true_or, cdS_120]
  exact ti_loop m h0 hn n 0 x (by omega) hx.1 hx.2
