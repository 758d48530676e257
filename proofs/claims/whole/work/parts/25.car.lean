/-! Cars. -/
theorem sp_canBeTowedAt (m : mz_M) (k : Nat) (t : Int) (h : 0 ≤ t ∧ t ≤ 100000) : sp 5 [mz_r 0 0 k, mz_i t] m (some (mz_i (if m k 1 = 2 ∧ m k 4 ≤ t - 180 then 1 else 0))) m := by
  refine mz_cl_vc 40 (fun _ => false) [some (mz_r 0 0 k), some (mz_i t)] rfl ?_
  simp only [vcS0, vcS1, vcS2, vcS3, vcS4, vcS5, vcS6, vc_n0, vc_lk, vc_pop, vc_rc, vc_tsw, vc_fr, vc_ar, vc_tb, mz_nx, List.set_cons_zero, List.set_cons_succ, Nat.reduceAdd, Nat.reduceBEq, Nat.reduceEqDiff, Nat.reduceLeDiff, Nat.reduceLT, Nat.reduceMul, Int.reduceToNat, Bool.false_eq_true, Bool.or_self, Bool.or_true, Bool.true_or, Bool.or_false, reduceIte, Option.toList_some, Option.toList_none, List.nil_append, List.cons_append, List.length_cons, List.length_nil, true_and, and_true, Int.cast_ofNat_Int, Int.reduceEq, Int.reduceLT, Int.reduceLE, Nat.zero_le, and_self, or_true, true_or, cdS_5]
  have : mz_w (t - 180) := (by unfold mz_w; omega)
  grind
def crC (k : Nat) (m : mz_M) : mz_M := fun a j => if a = k ∧ 1 ≤ j ∧ j < 11 then 0 else m a j
theorem sp_cclear (m : mz_M) (k : Nat) : sp 6 [mz_r 0 0 k] m none (crC k m) := by
  refine mz_cl_vc 60 (fun _ => false) [some (mz_r 0 0 k)] rfl ?_
  simp only [vcS0, vcS1, vcS2, vcS3, vcS4, vcS5, vcS6, vc_n0, vc_lk, vc_pop, vc_rc, vc_tsw, vc_fr, vc_ar, vc_tb, mz_nx, List.set_cons_zero, List.set_cons_succ, Nat.reduceAdd, Nat.reduceBEq, Nat.reduceEqDiff, Nat.reduceLeDiff, Nat.reduceLT, Nat.reduceMul, Int.reduceToNat, Bool.false_eq_true, Bool.or_self, Bool.or_true, Bool.true_or, Bool.or_false, reduceIte, Option.toList_some, Option.toList_none, List.nil_append, List.cons_append, List.length_cons, List.length_nil, true_and, and_true, Int.cast_ofNat_Int, Int.reduceEq, Int.reduceLT, Int.reduceLE, Nat.zero_le, and_self, or_true, true_or, cdS_6]
  refine congrArg mz_fu ?_
  funext a j
  unfold crC mz_up
  grind (splits := 40)
def crCp (v k : Nat) (m : mz_M) : mz_M := fun a j => if a = k ∧ 1 ≤ j ∧ j < 11 then m v j else m a j
theorem sp_ccopy (m : mz_M) {v k : Nat} (h : v ≠ k) : sp 7 [mz_r 0 0 k, mz_r 0 0 v] m none (crCp v k m) := by
  refine mz_cl_vc 60 (fun _ => false) [some (mz_r 0 0 k), some (mz_r 0 0 v)] rfl ?_
  simp only [vcS0, vcS1, vcS2, vcS3, vcS4, vcS5, vcS6, vc_n0, vc_lk, vc_pop, vc_rc, vc_tsw, vc_fr, vc_ar, vc_tb, mz_nx, List.set_cons_zero, List.set_cons_succ, Nat.reduceAdd, Nat.reduceBEq, Nat.reduceEqDiff, Nat.reduceLeDiff, Nat.reduceLT, Nat.reduceMul, Int.reduceToNat, Bool.false_eq_true, Bool.or_self, Bool.or_true, Bool.true_or, Bool.or_false, reduceIte, Option.toList_some, Option.toList_none, List.nil_append, List.cons_append, List.length_cons, List.length_nil, true_and, and_true, Int.cast_ofNat_Int, Int.reduceEq, Int.reduceLT, Int.reduceLE, Nat.zero_le, and_self, or_true, true_or, cdS_7]
  simp only [up_o h]
  refine congrArg mz_fu ?_
  funext a j
  unfold crCp mz_up
  grind (splits := 40)
theorem sp_hadShortly (m : mz_M) (k : Nat) (t : Int) (h : 0 ≤ t ∧ t ≤ 100000) : sp 8 [mz_r 0 0 k, mz_i t] m (some (mz_i (if 0 < m k 5 ∧ t - 120 < m k 7 then 1 else 0))) m := by
  refine mz_cl_vc 40 (fun _ => false) [some (mz_r 0 0 k), some (mz_i t)] rfl ?_
  simp only [vcS0, vcS1, vcS2, vcS3, vcS4, vcS5, vcS6, vc_n0, vc_lk, vc_pop, vc_rc, vc_tsw, vc_fr, vc_ar, vc_tb, mz_nx, List.set_cons_zero, List.set_cons_succ, Nat.reduceAdd, Nat.reduceBEq, Nat.reduceEqDiff, Nat.reduceLeDiff, Nat.reduceLT, Nat.reduceMul, Int.reduceToNat, Bool.false_eq_true, Bool.or_self, Bool.or_true, Bool.true_or, Bool.or_false, reduceIte, Option.toList_some, Option.toList_none, List.nil_append, List.cons_append, List.length_cons, List.length_nil, true_and, and_true, Int.cast_ofNat_Int, Int.reduceEq, Int.reduceLT, Int.reduceLE, Nat.zero_le, and_self, or_true, true_or, cdS_8]
  have : mz_w (t - 120) := (by unfold mz_w; omega)
  grind
theorem sp_isAt (m : mz_M) (k : Nat) (p s : Int) : sp 9 [mz_r 0 0 k, mz_i p, mz_i s] m (some (mz_i (if m k 1 = s ∧ m k 2 = p then 1 else 0))) m := by
  refine mz_cl_vc 40 (fun _ => false) [some (mz_r 0 0 k), some (mz_i p), some (mz_i s)] rfl ?_
  simp only [vcS0, vcS1, vcS2, vcS3, vcS4, vcS5, vcS6, vc_n0, vc_lk, vc_pop, vc_rc, vc_tsw, vc_fr, vc_ar, vc_tb, mz_nx, List.set_cons_zero, List.set_cons_succ, Nat.reduceAdd, Nat.reduceBEq, Nat.reduceEqDiff, Nat.reduceLeDiff, Nat.reduceLT, Nat.reduceMul, Int.reduceToNat, Bool.false_eq_true, Bool.or_self, Bool.or_true, Bool.true_or, Bool.or_false, reduceIte, Option.toList_some, Option.toList_none, List.nil_append, List.cons_append, List.length_cons, List.length_nil, true_and, and_true, Int.cast_ofNat_Int, Int.reduceEq, Int.reduceLT, Int.reduceLE, Nat.zero_le, and_self, or_true, true_or, cdS_9]
  grind
theorem sp_unpaidTickets (m : mz_M) (k : Nat) (h : 0 ≤ m k 5 ∧ m k 5 ≤ 1000 ∧ 0 ≤ m k 6 ∧ m k 6 ≤ 1000) : sp 10 [mz_r 0 0 k] m (some (mz_i (m k 5 - m k 6))) m := by
  refine mz_cl_vc 40 (fun _ => false) [some (mz_r 0 0 k)] rfl ?_
  simp only [vcS0, vcS1, vcS2, vcS3, vcS4, vcS5, vcS6, vc_n0, vc_lk, vc_pop, vc_rc, vc_tsw, vc_fr, vc_ar, vc_tb, mz_nx, List.set_cons_zero, List.set_cons_succ, Nat.reduceAdd, Nat.reduceBEq, Nat.reduceEqDiff, Nat.reduceLeDiff, Nat.reduceLT, Nat.reduceMul, Int.reduceToNat, Bool.false_eq_true, Bool.or_self, Bool.or_true, Bool.true_or, Bool.or_false, reduceIte, Option.toList_some, Option.toList_none, List.nil_append, List.cons_append, List.length_cons, List.length_nil, true_and, and_true, Int.cast_ofNat_Int, Int.reduceEq, Int.reduceLT, Int.reduceLE, Nat.zero_le, and_self, or_true, true_or, cdS_10]
  exact (by unfold mz_w; omega)
theorem sp_lhas (m : mz_M) (l : Nat) (p : Int) : sp 11 [mz_r 1 0 l, mz_i p] m (some (mz_i (if 0 ≤ p ∧ p < m l 0 then 1 else 0))) m := by
  refine mz_cl_vc 20 (fun _ => false) [some (mz_r 1 0 l), some (mz_i p)] rfl ?_
  simp only [vcS0, vcS1, vcS2, vcS3, vcS4, vcS5, vcS6, vc_n0, vc_lk, vc_pop, vc_rc, vc_tsw, vc_fr, vc_ar, vc_tb, mz_nx, List.set_cons_zero, List.set_cons_succ, Nat.reduceAdd, Nat.reduceBEq, Nat.reduceEqDiff, Nat.reduceLeDiff, Nat.reduceLT, Nat.reduceMul, Int.reduceToNat, Bool.false_eq_true, Bool.or_self, Bool.or_true, Bool.true_or, Bool.or_false, reduceIte, Option.toList_some, Option.toList_none, List.nil_append, List.cons_append, List.length_cons, List.length_nil, true_and, and_true, Int.cast_ofNat_Int, Int.reduceEq, Int.reduceLT, Int.reduceLE, Nat.zero_le, and_self, or_true, true_or, cdS_11]
  grind
theorem sp_lfull (m : mz_M) (l : Nat) : sp 12 [mz_r 1 0 l] m (some (mz_i (if 340 ≤ m l 0 then 1 else 0))) m := by
  refine mz_cl_vc 20 (fun _ => false) [some (mz_r 1 0 l)] rfl ?_
  simp only [vcS0, vcS1, vcS2, vcS3, vcS4, vcS5, vcS6, vc_n0, vc_lk, vc_pop, vc_rc, vc_tsw, vc_fr, vc_ar, vc_tb, mz_nx, List.set_cons_zero, List.set_cons_succ, Nat.reduceAdd, Nat.reduceBEq, Nat.reduceEqDiff, Nat.reduceLeDiff, Nat.reduceLT, Nat.reduceMul, Int.reduceToNat, Bool.false_eq_true, Bool.or_self, Bool.or_true, Bool.true_or, Bool.or_false, reduceIte, Option.toList_some, Option.toList_none, List.nil_append, List.cons_append, List.length_cons, List.length_nil, true_and, and_true, Int.cast_ofNat_Int, Int.reduceEq, Int.reduceLT, Int.reduceLE, Nat.zero_le, and_self, or_true, true_or, cdS_12]
  grind
def fnB (o : Int) : Int := if o ≤ 30 then 1500 else if o ≤ 120 then 3000 else 6000
theorem sp_fineFor (m : mz_M) (k : Nat) (o : Int) (h : 0 ≤ m k 5 ∧ m k 5 ≤ 1000 ∧ 0 ≤ m k 6 ∧ m k 6 ≤ 1000) : sp 54 [mz_r 0 0 k, mz_i o] m (some (mz_i (fnB o + 500 * min 5 (m k 5 - m k 6)))) m := by
  unfold fnB
  refine mz_cl_vc 60 (fun _ => false) [some (mz_r 0 0 k), some (mz_i o), none] rfl ?_
  simp only [vcS0, vcS1, vcS2, vcS3, vcS4, vcS5, vcS6, vc_n0, vc_lk, vc_pop, vc_rc, vc_tsw, vc_fr, vc_ar, vc_tb, mz_nx, List.set_cons_zero, List.set_cons_succ, Nat.reduceAdd, Nat.reduceBEq, Nat.reduceEqDiff, Nat.reduceLeDiff, Nat.reduceLT, Nat.reduceMul, Int.reduceToNat, Bool.false_eq_true, Bool.or_self, Bool.or_true, Bool.true_or, Bool.or_false, reduceIte, Option.toList_some, Option.toList_none, List.nil_append, List.cons_append, List.length_cons, List.length_nil, true_and, and_true, Int.cast_ofNat_Int, Int.reduceEq, Int.reduceLT, Int.reduceLE, Nat.zero_le, and_self, or_true, true_or, cdS_54]
  split
  · refine ⟨_, _, sp_unpaidTickets m k h, ?_⟩
    simp only [vcS0, vcS1, vcS2, vcS3, vcS4, vcS5, vcS6, vc_n0, vc_lk, vc_pop, vc_rc, vc_tsw, vc_fr, vc_ar, vc_tb, mz_nx, List.set_cons_zero, List.set_cons_succ, Nat.reduceAdd, Nat.reduceBEq, Nat.reduceEqDiff, Nat.reduceLeDiff, Nat.reduceLT, Nat.reduceMul, Int.reduceToNat, Bool.false_eq_true, Bool.or_self, Bool.or_true, Bool.true_or, Bool.or_false, reduceIte, Option.toList_some, Option.toList_none, List.nil_append, List.cons_append, List.length_cons, List.length_nil, true_and, and_true, Int.cast_ofNat_Int, Int.reduceEq, Int.reduceLT, Int.reduceLE, Nat.zero_le, and_self, or_true, true_or, cdS_54]
    exact ⟨(by unfold mz_w; omega), (by unfold mz_w; omega)⟩
  · split
    · refine ⟨_, _, sp_unpaidTickets m k h, ?_⟩
      simp only [vcS0, vcS1, vcS2, vcS3, vcS4, vcS5, vcS6, vc_n0, vc_lk, vc_pop, vc_rc, vc_tsw, vc_fr, vc_ar, vc_tb, mz_nx, List.set_cons_zero, List.set_cons_succ, Nat.reduceAdd, Nat.reduceBEq, Nat.reduceEqDiff, Nat.reduceLeDiff, Nat.reduceLT, Nat.reduceMul, Int.reduceToNat, Bool.false_eq_true, Bool.or_self, Bool.or_true, Bool.true_or, Bool.or_false, reduceIte, Option.toList_some, Option.toList_none, List.nil_append, List.cons_append, List.length_cons, List.length_nil, true_and, and_true, Int.cast_ofNat_Int, Int.reduceEq, Int.reduceLT, Int.reduceLE, Nat.zero_le, and_self, or_true, true_or, cdS_54]
      exact ⟨(by unfold mz_w; omega), (by unfold mz_w; omega)⟩
    · refine ⟨_, _, sp_unpaidTickets m k h, ?_⟩
      simp only [vcS0, vcS1, vcS2, vcS3, vcS4, vcS5, vcS6, vc_n0, vc_lk, vc_pop, vc_rc, vc_tsw, vc_fr, vc_ar, vc_tb, mz_nx, List.set_cons_zero, List.set_cons_succ, Nat.reduceAdd, Nat.reduceBEq, Nat.reduceEqDiff, Nat.reduceLeDiff, Nat.reduceLT, Nat.reduceMul, Int.reduceToNat, Bool.false_eq_true, Bool.or_self, Bool.or_true, Bool.true_or, Bool.or_false, reduceIte, Option.toList_some, Option.toList_none, List.nil_append, List.cons_append, List.length_cons, List.length_nil, true_and, and_true, Int.cast_ofNat_Int, Int.reduceEq, Int.reduceLT, Int.reduceLE, Nat.zero_le, and_self, or_true, true_or, cdS_54]
      exact ⟨(by unfold mz_w; omega), (by unfold mz_w; omega)⟩
theorem sp_owed (m : mz_M) (k : Nat) (h : 0 ≤ m k 8 ∧ m k 8 ≤ 100000000 ∧ 0 ≤ m k 9 ∧ m k 9 ≤ 100000000 ∧ 0 ≤ m k 10 ∧ m k 10 ≤ 100000000) : sp 56 [mz_r 0 0 k] m (some (mz_i (max 0 (m k 8 + m k 9 - m k 10)))) m := by
  refine mz_cl_vc 40 (fun _ => false) [some (mz_r 0 0 k)] rfl ?_
  simp only [vcS0, vcS1, vcS2, vcS3, vcS4, vcS5, vcS6, vc_n0, vc_lk, vc_pop, vc_rc, vc_tsw, vc_fr, vc_ar, vc_tb, mz_nx, List.set_cons_zero, List.set_cons_succ, Nat.reduceAdd, Nat.reduceBEq, Nat.reduceEqDiff, Nat.reduceLeDiff, Nat.reduceLT, Nat.reduceMul, Int.reduceToNat, Bool.false_eq_true, Bool.or_self, Bool.or_true, Bool.true_or, Bool.or_false, reduceIte, Option.toList_some, Option.toList_none, List.nil_append, List.cons_append, List.length_cons, List.length_nil, true_and, and_true, Int.cast_ofNat_Int, Int.reduceEq, Int.reduceLT, Int.reduceLE, Nat.zero_le, and_self, or_true, true_or, cdS_56]
  exact ⟨(by unfold mz_w; omega), (by unfold mz_w; omega)⟩
theorem sp_owesNothing (m : mz_M) (k : Nat) (h : 0 ≤ m k 5 ∧ m k 5 ≤ 1000 ∧ 0 ≤ m k 6 ∧ m k 6 ≤ 1000) : sp 57 [mz_r 0 0 k] m (some (mz_i (if m k 5 = m k 6 ∧ m k 9 = 0 then 1 else 0))) m := by
  refine mz_cl_vc 40 (fun _ => false) [some (mz_r 0 0 k)] rfl ?_
  simp only [vcS0, vcS1, vcS2, vcS3, vcS4, vcS5, vcS6, vc_n0, vc_lk, vc_pop, vc_rc, vc_tsw, vc_fr, vc_ar, vc_tb, mz_nx, List.set_cons_zero, List.set_cons_succ, Nat.reduceAdd, Nat.reduceBEq, Nat.reduceEqDiff, Nat.reduceLeDiff, Nat.reduceLT, Nat.reduceMul, Int.reduceToNat, Bool.false_eq_true, Bool.or_self, Bool.or_true, Bool.true_or, Bool.or_false, reduceIte, Option.toList_some, Option.toList_none, List.nil_append, List.cons_append, List.length_cons, List.length_nil, true_and, and_true, Int.cast_ofNat_Int, Int.reduceEq, Int.reduceLT, Int.reduceLE, Nat.zero_le, and_self, or_true, true_or, cdS_57]
  refine ⟨_, _, sp_unpaidTickets m k h, ?_⟩
  simp only [vcS0, vcS1, vcS2, vcS3, vcS4, vcS5, vcS6, vc_n0, vc_lk, vc_pop, vc_rc, vc_tsw, vc_fr, vc_ar, vc_tb, mz_nx, List.set_cons_zero, List.set_cons_succ, Nat.reduceAdd, Nat.reduceBEq, Nat.reduceEqDiff, Nat.reduceLeDiff, Nat.reduceLT, Nat.reduceMul, Int.reduceToNat, Bool.false_eq_true, Bool.or_self, Bool.or_true, Bool.true_or, Bool.or_false, reduceIte, Option.toList_some, Option.toList_none, List.nil_append, List.cons_append, List.length_cons, List.length_nil, true_and, and_true, Int.cast_ofNat_Int, Int.reduceEq, Int.reduceLT, Int.reduceLE, Nat.zero_le, and_self, or_true, true_or, cdS_57]
  grind
theorem sp_takesSpaceAt (m : mz_M) (k : Nat) (p : Int) : sp 58 [mz_r 0 0 k, mz_i p] m (some (mz_i (if (m k 1 = 1 ∨ m k 1 = 2) ∧ m k 2 = p then 1 else 0))) m := by
  refine mz_cl_vc 40 (fun _ => false) [some (mz_r 0 0 k), some (mz_i p)] rfl ?_
  simp only [vcS0, vcS1, vcS2, vcS3, vcS4, vcS5, vcS6, vc_n0, vc_lk, vc_pop, vc_rc, vc_tsw, vc_fr, vc_ar, vc_tb, mz_nx, List.set_cons_zero, List.set_cons_succ, Nat.reduceAdd, Nat.reduceBEq, Nat.reduceEqDiff, Nat.reduceLeDiff, Nat.reduceLT, Nat.reduceMul, Int.reduceToNat, Bool.false_eq_true, Bool.or_self, Bool.or_true, Bool.true_or, Bool.or_false, reduceIte, Option.toList_some, Option.toList_none, List.nil_append, List.cons_append, List.length_cons, List.length_nil, true_and, and_true, Int.cast_ofNat_Int, Int.reduceEq, Int.reduceLT, Int.reduceLE, Nat.zero_le, and_self, or_true, true_or, cdS_58]
  refine ⟨_, _, sp_isAt m k p 1, ?_⟩
  by_cases h1 : m k 1 = 1 ∧ m k 2 = p
  · rw [if_pos h1, if_pos (by omega)]
    simp only [vcS0, vcS1, vcS2, vcS3, vcS4, vcS5, vcS6, vc_n0, vc_lk, vc_pop, vc_rc, vc_tsw, vc_fr, vc_ar, vc_tb, mz_nx, List.set_cons_zero, List.set_cons_succ, Nat.reduceAdd, Nat.reduceBEq, Nat.reduceEqDiff, Nat.reduceLeDiff, Nat.reduceLT, Nat.reduceMul, Int.reduceToNat, Bool.false_eq_true, Bool.or_self, Bool.or_true, Bool.true_or, Bool.or_false, reduceIte, Option.toList_some, Option.toList_none, List.nil_append, List.cons_append, List.length_cons, List.length_nil, true_and, and_true, Int.cast_ofNat_Int, Int.reduceEq, Int.reduceLT, Int.reduceLE, Nat.zero_le, and_self, or_true, true_or, cdS_58]
  · rw [if_neg h1]
    simp only [vcS0, vcS1, vcS2, vcS3, vcS4, vcS5, vcS6, vc_n0, vc_lk, vc_pop, vc_rc, vc_tsw, vc_fr, vc_ar, vc_tb, mz_nx, List.set_cons_zero, List.set_cons_succ, Nat.reduceAdd, Nat.reduceBEq, Nat.reduceEqDiff, Nat.reduceLeDiff, Nat.reduceLT, Nat.reduceMul, Int.reduceToNat, Bool.false_eq_true, Bool.or_self, Bool.or_true, Bool.true_or, Bool.or_false, reduceIte, Option.toList_some, Option.toList_none, List.nil_append, List.cons_append, List.length_cons, List.length_nil, true_and, and_true, Int.cast_ofNat_Int, Int.reduceEq, Int.reduceLT, Int.reduceLE, Nat.zero_le, and_self, or_true, true_or, cdS_58]
    refine ⟨_, _, sp_isAt m k p 2, ?_⟩
    by_cases h2 : m k 1 = 2 ∧ m k 2 = p
    · rw [if_pos h2, if_pos (by omega)]
      simp only [vcS0, vcS1, vcS2, vcS3, vcS4, vcS5, vcS6, vc_n0, vc_lk, vc_pop, vc_rc, vc_tsw, vc_fr, vc_ar, vc_tb, mz_nx, List.set_cons_zero, List.set_cons_succ, Nat.reduceAdd, Nat.reduceBEq, Nat.reduceEqDiff, Nat.reduceLeDiff, Nat.reduceLT, Nat.reduceMul, Int.reduceToNat, Bool.false_eq_true, Bool.or_self, Bool.or_true, Bool.true_or, Bool.or_false, reduceIte, Option.toList_some, Option.toList_none, List.nil_append, List.cons_append, List.length_cons, List.length_nil, true_and, and_true, Int.cast_ofNat_Int, Int.reduceEq, Int.reduceLT, Int.reduceLE, Nat.zero_le, and_self, or_true, true_or, cdS_58]
    · rw [if_neg h2, if_neg (by omega)]
      simp only [vcS0, vcS1, vcS2, vcS3, vcS4, vcS5, vcS6, vc_n0, vc_lk, vc_pop, vc_rc, vc_tsw, vc_fr, vc_ar, vc_tb, mz_nx, List.set_cons_zero, List.set_cons_succ, Nat.reduceAdd, Nat.reduceBEq, Nat.reduceEqDiff, Nat.reduceLeDiff, Nat.reduceLT, Nat.reduceMul, Int.reduceToNat, Bool.false_eq_true, Bool.or_self, Bool.or_true, Bool.true_or, Bool.or_false, reduceIte, Option.toList_some, Option.toList_none, List.nil_append, List.cons_append, List.length_cons, List.length_nil, true_and, and_true, Int.cast_ofNat_Int, Int.reduceEq, Int.reduceLT, Int.reduceLE, Nat.zero_le, and_self, or_true, true_or, cdS_58]
/-! The log. -/
def lgA (l : Nat) (t k c x : Int) (m : mz_M) : mz_M := if m l 0 < 400 then mz_up (mz_up (mz_up (mz_up (mz_up m (l + 1) (m l 0).toNat t) (l + 2) (m l 0).toNat k) (l + 3) (m l 0).toNat c) (l + 4) (m l 0).toNat x) l 0 (m l 0 + 1) else m
theorem sp_ladd (m : mz_M) {l : Nat} {t k c x : Int} (h : 0 ≤ m l 0) : sp 59 [mz_r 1 0 l, mz_i t, mz_i k, mz_i c, mz_i x] m none (lgA l t k c x m) := by
  unfold lgA
  refine mz_cl_vc 60 (fun _ => false) [some (mz_r 1 0 l), some (mz_i t), some (mz_i k), some (mz_i c), some (mz_i x)] rfl ?_
  simp only [vcS0, vcS1, vcS2, vcS3, vcS4, vcS5, vcS6, vc_n0, vc_lk, vc_pop, vc_rc, vc_tsw, vc_fr, vc_ar, vc_tb, mz_nx, List.set_cons_zero, List.set_cons_succ, Nat.reduceAdd, Nat.reduceBEq, Nat.reduceEqDiff, Nat.reduceLeDiff, Nat.reduceLT, Nat.reduceMul, Int.reduceToNat, Bool.false_eq_true, Bool.or_self, Bool.or_true, Bool.true_or, Bool.or_false, reduceIte, Option.toList_some, Option.toList_none, List.nil_append, List.cons_append, List.length_cons, List.length_nil, true_and, and_true, Int.cast_ofNat_Int, Int.reduceEq, Int.reduceLT, Int.reduceLE, Nat.zero_le, and_self, or_true, true_or, cdS_59]
  by_cases hlt : m l 0 < 400
  · rw [if_pos hlt, if_pos hlt]
    obtain ⟨n, hn⟩ := Int.eq_ofNat_of_zero_le h
    rw [hn, Int.toNat_natCast]
    refine ⟨_, _, sp_putN _ _ (by omega), ?_⟩
    simp only [vcS0, vcS1, vcS2, vcS3, vcS4, vcS5, vcS6, vc_n0, vc_lk, vc_pop, vc_rc, vc_tsw, vc_fr, vc_ar, vc_tb, mz_nx, List.set_cons_zero, List.set_cons_succ, Nat.reduceAdd, Nat.reduceBEq, Nat.reduceEqDiff, Nat.reduceLeDiff, Nat.reduceLT, Nat.reduceMul, Int.reduceToNat, Bool.false_eq_true, Bool.or_self, Bool.or_true, Bool.true_or, Bool.or_false, reduceIte, Option.toList_some, Option.toList_none, List.nil_append, List.cons_append, List.length_cons, List.length_nil, true_and, and_true, Int.cast_ofNat_Int, Int.reduceEq, Int.reduceLT, Int.reduceLE, Nat.zero_le, and_self, or_true, true_or, cdS_59]
    rw [up_o (by omega), hn]
    refine ⟨_, _, sp_putN _ _ (by omega), ?_⟩
    simp only [vcS0, vcS1, vcS2, vcS3, vcS4, vcS5, vcS6, vc_n0, vc_lk, vc_pop, vc_rc, vc_tsw, vc_fr, vc_ar, vc_tb, mz_nx, List.set_cons_zero, List.set_cons_succ, Nat.reduceAdd, Nat.reduceBEq, Nat.reduceEqDiff, Nat.reduceLeDiff, Nat.reduceLT, Nat.reduceMul, Int.reduceToNat, Bool.false_eq_true, Bool.or_self, Bool.or_true, Bool.true_or, Bool.or_false, reduceIte, Option.toList_some, Option.toList_none, List.nil_append, List.cons_append, List.length_cons, List.length_nil, true_and, and_true, Int.cast_ofNat_Int, Int.reduceEq, Int.reduceLT, Int.reduceLE, Nat.zero_le, and_self, or_true, true_or, cdS_59]
    rw [up_o (by omega), up_o (by omega), hn]
    refine ⟨_, _, sp_putN _ _ (by omega), ?_⟩
    simp only [vcS0, vcS1, vcS2, vcS3, vcS4, vcS5, vcS6, vc_n0, vc_lk, vc_pop, vc_rc, vc_tsw, vc_fr, vc_ar, vc_tb, mz_nx, List.set_cons_zero, List.set_cons_succ, Nat.reduceAdd, Nat.reduceBEq, Nat.reduceEqDiff, Nat.reduceLeDiff, Nat.reduceLT, Nat.reduceMul, Int.reduceToNat, Bool.false_eq_true, Bool.or_self, Bool.or_true, Bool.true_or, Bool.or_false, reduceIte, Option.toList_some, Option.toList_none, List.nil_append, List.cons_append, List.length_cons, List.length_nil, true_and, and_true, Int.cast_ofNat_Int, Int.reduceEq, Int.reduceLT, Int.reduceLE, Nat.zero_le, and_self, or_true, true_or, cdS_59]
    rw [up_o (by omega), up_o (by omega), up_o (by omega), hn]
    refine ⟨_, _, sp_putN _ _ (by omega), ?_⟩
    simp only [vcS0, vcS1, vcS2, vcS3, vcS4, vcS5, vcS6, vc_n0, vc_lk, vc_pop, vc_rc, vc_tsw, vc_fr, vc_ar, vc_tb, mz_nx, List.set_cons_zero, List.set_cons_succ, Nat.reduceAdd, Nat.reduceBEq, Nat.reduceEqDiff, Nat.reduceLeDiff, Nat.reduceLT, Nat.reduceMul, Int.reduceToNat, Bool.false_eq_true, Bool.or_self, Bool.or_true, Bool.true_or, Bool.or_false, reduceIte, Option.toList_some, Option.toList_none, List.nil_append, List.cons_append, List.length_cons, List.length_nil, true_and, and_true, Int.cast_ofNat_Int, Int.reduceEq, Int.reduceLT, Int.reduceLE, Nat.zero_le, and_self, or_true, true_or, cdS_59]
    rw [up_o (by omega), up_o (by omega), up_o (by omega), up_o (by omega), hn]
    exact ⟨(by unfold mz_w; omega), rfl⟩
  · rw [if_neg hlt, if_neg hlt]
theorem sp_isOn (m : mz_M) {l e : Nat} {d k : Int} (h : e < 400) (h2 : 0 ≤ m (l + 1) e) : sp 61 [mz_r 1 0 l, mz_i e, mz_i d, mz_i k] m (some (mz_i (if m (l + 2) e = k ∧ m (l + 1) e / 1440 = d then 1 else 0))) m := by
  refine mz_cl_vc 60 (fun _ => false) [some (mz_r 1 0 l), some (mz_i e), some (mz_i d), some (mz_i k)] rfl ?_
  simp only [vcS0, vcS1, vcS2, vcS3, vcS4, vcS5, vcS6, vc_n0, vc_lk, vc_pop, vc_rc, vc_tsw, vc_fr, vc_ar, vc_tb, mz_nx, List.set_cons_zero, List.set_cons_succ, Nat.reduceAdd, Nat.reduceBEq, Nat.reduceEqDiff, Nat.reduceLeDiff, Nat.reduceLT, Nat.reduceMul, Int.reduceToNat, Bool.false_eq_true, Bool.or_self, Bool.or_true, Bool.true_or, Bool.or_false, reduceIte, Option.toList_some, Option.toList_none, List.nil_append, List.cons_append, List.length_cons, List.length_nil, true_and, and_true, Int.cast_ofNat_Int, Int.reduceEq, Int.reduceLT, Int.reduceLE, Nat.zero_le, and_self, or_true, true_or, cdS_61]
  refine ⟨_, _, sp_atN m h, ?_⟩
  simp only [vcS0, vcS1, vcS2, vcS3, vcS4, vcS5, vcS6, vc_n0, vc_lk, vc_pop, vc_rc, vc_tsw, vc_fr, vc_ar, vc_tb, mz_nx, List.set_cons_zero, List.set_cons_succ, Nat.reduceAdd, Nat.reduceBEq, Nat.reduceEqDiff, Nat.reduceLeDiff, Nat.reduceLT, Nat.reduceMul, Int.reduceToNat, Bool.false_eq_true, Bool.or_self, Bool.or_true, Bool.true_or, Bool.or_false, reduceIte, Option.toList_some, Option.toList_none, List.nil_append, List.cons_append, List.length_cons, List.length_nil, true_and, and_true, Int.cast_ofNat_Int, Int.reduceEq, Int.reduceLT, Int.reduceLE, Nat.zero_le, and_self, or_true, true_or, cdS_61]
  by_cases hk : m (l + 2) e = k
  · simp only [hk, true_and, if_true]
    refine ⟨_, _, sp_atN m h, ?_⟩
    simp only [vcS0, vcS1, vcS2, vcS3, vcS4, vcS5, vcS6, vc_n0, vc_lk, vc_pop, vc_rc, vc_tsw, vc_fr, vc_ar, vc_tb, mz_nx, List.set_cons_zero, List.set_cons_succ, Nat.reduceAdd, Nat.reduceBEq, Nat.reduceEqDiff, Nat.reduceLeDiff, Nat.reduceLT, Nat.reduceMul, Int.reduceToNat, Bool.false_eq_true, Bool.or_self, Bool.or_true, Bool.true_or, Bool.or_false, reduceIte, Option.toList_some, Option.toList_none, List.nil_append, List.cons_append, List.length_cons, List.length_nil, true_and, and_true, Int.cast_ofNat_Int, Int.reduceEq, Int.reduceLT, Int.reduceLE, Nat.zero_le, and_self, or_true, true_or, cdS_61]
    grind
  · simp only [hk, false_and, if_false]
def tke (P : Nat → Prop) [DecidablePred P] : Nat → Nat → Int → Option Nat
  | 0, _, _ => none
  | r + 1, j, l => if P j then (if l = 0 then some j else tke P r (j + 1) (l - 1)) else tke P r (j + 1) l
theorem te_loop (m : mz_M) {l n : Nat} {c x : Int} (h0 : m l 0 = n) (hn : n ≤ 400) : ∀ (r j b : Nat), j + r = n → b ≤ j → sx 62 4 [some (mz_r 1 0 l), some (mz_i c), some (mz_i x), some (mz_i b), some (mz_i j)] [] m (some (mz_i (opI (-1) (tke (fun i => m (l + 2) i = 4 ∧ m (l + 3) i = c) r j (x - b))))) m := by
  intro r
  induction r with
  | zero =>
    intro j b hj hb
    refine mz_vc_ok 60 (ct := fun i => i == 4) ?_
    simp only [vcS0, vcS1, vcS2, vcS3, vcS4, vcS5, vcS6, vc_n0, vc_lk, vc_pop, vc_rc, vc_tsw, vc_fr, vc_ar, vc_tb, mz_nx, List.set_cons_zero, List.set_cons_succ, Nat.reduceAdd, Nat.reduceBEq, Nat.reduceEqDiff, Nat.reduceLeDiff, Nat.reduceLT, Nat.reduceMul, Int.reduceToNat, Bool.false_eq_true, Bool.or_self, Bool.or_true, Bool.true_or, Bool.or_false, reduceIte, Option.toList_some, Option.toList_none, List.nil_append, List.cons_append, List.length_cons, List.length_nil, true_and, and_true, Int.cast_ofNat_Int, Int.reduceEq, Int.reduceLT, Int.reduceLE, Nat.zero_le, and_self, or_true, true_or, cdS_62]
    rw [if_neg (by omega)]
    rfl
  | succ r ih =>
    intro j b hj hb
    have hk := ih (j + 1) b (by omega) (by omega)
    have hk2 := ih (j + 1) (b + 1) (by omega) (by omega)
    refine mz_vc_ok 60 (ct := fun i => i == 4) ?_
    simp only [vcS0, vcS1, vcS2, vcS3, vcS4, vcS5, vcS6, vc_n0, vc_lk, vc_pop, vc_rc, vc_tsw, vc_fr, vc_ar, vc_tb, mz_nx, List.set_cons_zero, List.set_cons_succ, Nat.reduceAdd, Nat.reduceBEq, Nat.reduceEqDiff, Nat.reduceLeDiff, Nat.reduceLT, Nat.reduceMul, Int.reduceToNat, Bool.false_eq_true, Bool.or_self, Bool.or_true, Bool.true_or, Bool.or_false, reduceIte, Option.toList_some, Option.toList_none, List.nil_append, List.cons_append, List.length_cons, List.length_nil, true_and, and_true, Int.cast_ofNat_Int, Int.reduceEq, Int.reduceLT, Int.reduceLE, Nat.zero_le, and_self, or_true, true_or, cdS_62]
    rw [if_pos (by omega)]
    refine ⟨_, _, sp_atN m (by omega), ?_⟩
    simp only [vcS0, vcS1, vcS2, vcS3, vcS4, vcS5, vcS6, vc_n0, vc_lk, vc_pop, vc_rc, vc_tsw, vc_fr, vc_ar, vc_tb, mz_nx, List.set_cons_zero, List.set_cons_succ, Nat.reduceAdd, Nat.reduceBEq, Nat.reduceEqDiff, Nat.reduceLeDiff, Nat.reduceLT, Nat.reduceMul, Int.reduceToNat, Bool.false_eq_true, Bool.or_self, Bool.or_true, Bool.true_or, Bool.or_false, reduceIte, Option.toList_some, Option.toList_none, List.nil_append, List.cons_append, List.length_cons, List.length_nil, true_and, and_true, Int.cast_ofNat_Int, Int.reduceEq, Int.reduceLT, Int.reduceLE, Nat.zero_le, and_self, or_true, true_or, cdS_62]
    unfold tke
    by_cases h1 : m (l + 2) j = 4
    · simp only [h1, true_and, if_true]
      refine ⟨_, _, sp_atN m (by omega), ?_⟩
      simp only [vcS0, vcS1, vcS2, vcS3, vcS4, vcS5, vcS6, vc_n0, vc_lk, vc_pop, vc_rc, vc_tsw, vc_fr, vc_ar, vc_tb, mz_nx, List.set_cons_zero, List.set_cons_succ, Nat.reduceAdd, Nat.reduceBEq, Nat.reduceEqDiff, Nat.reduceLeDiff, Nat.reduceLT, Nat.reduceMul, Int.reduceToNat, Bool.false_eq_true, Bool.or_self, Bool.or_true, Bool.true_or, Bool.or_false, reduceIte, Option.toList_some, Option.toList_none, List.nil_append, List.cons_append, List.length_cons, List.length_nil, true_and, and_true, Int.cast_ofNat_Int, Int.reduceEq, Int.reduceLT, Int.reduceLE, Nat.zero_le, and_self, or_true, true_or, cdS_62]
      by_cases h2 : m (l + 3) j = c
      · simp only [h2, if_true]
        by_cases h3 : (b : Int) = x
        · rw [if_pos (by omega), if_pos (by omega)]
          rfl
        · rw [if_neg (by omega), if_neg (by omega)]
          refine ⟨(by unfold mz_w; omega), (by unfold mz_w; omega), ?_⟩
          rw [show x - b - 1 = x - ((b + 1 : Nat) : Int) by omega]
          exact hk2
      · simp only [h2, if_false]
        exact ⟨(by unfold mz_w; omega), hk⟩
    · simp only [h1, false_and, if_false]
      exact ⟨(by unfold mz_w; omega), hk⟩
theorem sp_ticketEntry (m : mz_M) {l n : Nat} {c x : Int} (h0 : m l 0 = n) (hn : n ≤ 400) : sp 62 [mz_r 1 0 l, mz_i c, mz_i x] m (some (mz_i (opI (-1) (tke (fun i => m (l + 2) i = 4 ∧ m (l + 3) i = c) n 0 x)))) m := by
  refine mz_cl_vc 60 (fun i => i == 4) [some (mz_r 1 0 l), some (mz_i c), some (mz_i x), none, none] rfl ?_
  simp only [vcS0, vcS1, vcS2, vcS3, vcS4, vcS5, vcS6, vc_n0, vc_lk, vc_pop, vc_rc, vc_tsw, vc_fr, vc_ar, vc_tb, mz_nx, List.set_cons_zero, List.set_cons_succ, Nat.reduceAdd, Nat.reduceBEq, Nat.reduceEqDiff, Nat.reduceLeDiff, Nat.reduceLT, Nat.reduceMul, Int.reduceToNat, Bool.false_eq_true, Bool.or_self, Bool.or_true, Bool.true_or, Bool.or_false, reduceIte, Option.toList_some, Option.toList_none, List.nil_append, List.cons_append, List.length_cons, List.length_nil, true_and, and_true, Int.cast_ofNat_Int, Int.reduceEq, Int.reduceLT, Int.reduceLE, Nat.zero_le, and_self, or_true, true_or, cdS_62]
  have := te_loop m (c := c) (x := x) h0 hn n 0 0 (by omega) (by omega)
  rw [show x - ((0 : Nat) : Int) = x by omega] at this
  exact this
def onD (m : mz_M) (l : Nat) (d k : Int) (i : Nat) : Prop := m (l + 2) i = k ∧ m (l + 1) i / 1440 = d
def lgO (m : mz_M) (l n : Nat) : Prop := m l 0 = n ∧ n ≤ 400 ∧ ∀ i, i < n → (0 ≤ m (l + 1) i ∧ m (l + 1) i ≤ 20000) ∧ (0 ≤ m (l + 3) i ∧ m (l + 3) i < 16) ∧ (0 ≤ m (l + 4) i ∧ m (l + 4) i ≤ 100000)
theorem ls_loop (m : mz_M) {l n : Nat} {d k : Int} (h : lgO m l n) : ∀ (r j : Nat), j + r = n → sx 128 4 [some (mz_r 1 0 l), some (mz_i d), some (mz_i k), some (mz_i (sm (fun i => if m (l + 2) i = k ∧ m (l + 1) i / 1440 = d then m (l + 4) i else 0) j)), some (mz_i j)] [] m (some (mz_i (sm (fun i => if m (l + 2) i = k ∧ m (l + 1) i / 1440 = d then m (l + 4) i else 0) n))) m := by
  intro r
  induction r with
  | zero =>
    intro j hj
    obtain rfl : j = n := by omega
    refine mz_vc_ok 60 (ct := fun i => i == 4) ?_
    simp only [vcS0, vcS1, vcS2, vcS3, vcS4, vcS5, vcS6, vc_n0, vc_lk, vc_pop, vc_rc, vc_tsw, vc_fr, vc_ar, vc_tb, mz_nx, List.set_cons_zero, List.set_cons_succ, Nat.reduceAdd, Nat.reduceBEq, Nat.reduceEqDiff, Nat.reduceLeDiff, Nat.reduceLT, Nat.reduceMul, Int.reduceToNat, Bool.false_eq_true, Bool.or_self, Bool.or_true, Bool.true_or, Bool.or_false, reduceIte, Option.toList_some, Option.toList_none, List.nil_append, List.cons_append, List.length_cons, List.length_nil, true_and, and_true, Int.cast_ofNat_Int, Int.reduceEq, Int.reduceLT, Int.reduceLE, Nat.zero_le, and_self, or_true, true_or, cdS_128]
    rw [if_neg (by have := h.1; omega)]
    trivial
  | succ r ih =>
    intro j hj
    have hk := ih (j + 1) (by omega)
    have hj2 := h.2.2 j (by omega)
    have hn := h.2.1
    have hs0 : 0 ≤ sm (fun i => if m (l + 2) i = k ∧ m (l + 1) i / 1440 = d then m (l + 4) i else 0) j := sm_0 fun i hi => by have := h.2.2 i (by omega); split <;> omega
    have hs1 : sm (fun i => if m (l + 2) i = k ∧ m (l + 1) i / 1440 = d then m (l + 4) i else 0) j ≤ 100000 * j := sm_ub fun i hi => by have := h.2.2 i (by omega); split <;> omega
    refine mz_vc_ok 60 (ct := fun i => i == 4) ?_
    simp only [vcS0, vcS1, vcS2, vcS3, vcS4, vcS5, vcS6, vc_n0, vc_lk, vc_pop, vc_rc, vc_tsw, vc_fr, vc_ar, vc_tb, mz_nx, List.set_cons_zero, List.set_cons_succ, Nat.reduceAdd, Nat.reduceBEq, Nat.reduceEqDiff, Nat.reduceLeDiff, Nat.reduceLT, Nat.reduceMul, Int.reduceToNat, Bool.false_eq_true, Bool.or_self, Bool.or_true, Bool.true_or, Bool.or_false, reduceIte, Option.toList_some, Option.toList_none, List.nil_append, List.cons_append, List.length_cons, List.length_nil, true_and, and_true, Int.cast_ofNat_Int, Int.reduceEq, Int.reduceLT, Int.reduceLE, Nat.zero_le, and_self, or_true, true_or, cdS_128]
    rw [if_pos (by have := h.1; omega)]
    refine ⟨_, _, sp_isOn m (by omega) hj2.1.1, ?_⟩
    by_cases h1 : m (l + 2) j = k ∧ m (l + 1) j / 1440 = d
    · rw [if_pos h1]
      simp only [vcS0, vcS1, vcS2, vcS3, vcS4, vcS5, vcS6, vc_n0, vc_lk, vc_pop, vc_rc, vc_tsw, vc_fr, vc_ar, vc_tb, mz_nx, List.set_cons_zero, List.set_cons_succ, Nat.reduceAdd, Nat.reduceBEq, Nat.reduceEqDiff, Nat.reduceLeDiff, Nat.reduceLT, Nat.reduceMul, Int.reduceToNat, Bool.false_eq_true, Bool.or_self, Bool.or_true, Bool.true_or, Bool.or_false, reduceIte, Option.toList_some, Option.toList_none, List.nil_append, List.cons_append, List.length_cons, List.length_nil, true_and, and_true, Int.cast_ofNat_Int, Int.reduceEq, Int.reduceLT, Int.reduceLE, Nat.zero_le, and_self, or_true, true_or, cdS_128]
      refine ⟨_, _, sp_atN m (by omega), ?_⟩
      simp only [vcS0, vcS1, vcS2, vcS3, vcS4, vcS5, vcS6, vc_n0, vc_lk, vc_pop, vc_rc, vc_tsw, vc_fr, vc_ar, vc_tb, mz_nx, List.set_cons_zero, List.set_cons_succ, Nat.reduceAdd, Nat.reduceBEq, Nat.reduceEqDiff, Nat.reduceLeDiff, Nat.reduceLT, Nat.reduceMul, Int.reduceToNat, Bool.false_eq_true, Bool.or_self, Bool.or_true, Bool.true_or, Bool.or_false, reduceIte, Option.toList_some, Option.toList_none, List.nil_append, List.cons_append, List.length_cons, List.length_nil, true_and, and_true, Int.cast_ofNat_Int, Int.reduceEq, Int.reduceLT, Int.reduceLE, Nat.zero_le, and_self, or_true, true_or, cdS_128]
      refine ⟨(by unfold mz_w; omega), (by unfold mz_w; omega), ?_⟩
      rw [sm, if_pos h1] at hk
      exact hk
    · rw [if_neg h1]
      simp only [vcS0, vcS1, vcS2, vcS3, vcS4, vcS5, vcS6, vc_n0, vc_lk, vc_pop, vc_rc, vc_tsw, vc_fr, vc_ar, vc_tb, mz_nx, List.set_cons_zero, List.set_cons_succ, Nat.reduceAdd, Nat.reduceBEq, Nat.reduceEqDiff, Nat.reduceLeDiff, Nat.reduceLT, Nat.reduceMul, Int.reduceToNat, Bool.false_eq_true, Bool.or_self, Bool.or_true, Bool.true_or, Bool.or_false, reduceIte, Option.toList_some, Option.toList_none, List.nil_append, List.cons_append, List.length_cons, List.length_nil, true_and, and_true, Int.cast_ofNat_Int, Int.reduceEq, Int.reduceLT, Int.reduceLE, Nat.zero_le, and_self, or_true, true_or, cdS_128]
      refine ⟨(by unfold mz_w; omega), ?_⟩
      rw [sm, if_neg h1, Int.add_zero] at hk
      exact hk
theorem sp_lsum (m : mz_M) {l n : Nat} {d k : Int} (h : lgO m l n) : sp 128 [mz_r 1 0 l, mz_i d, mz_i k] m (some (mz_i (sm (fun i => if m (l + 2) i = k ∧ m (l + 1) i / 1440 = d then m (l + 4) i else 0) n))) m := by
  refine mz_cl_vc 60 (fun i => i == 4) [some (mz_r 1 0 l), some (mz_i d), some (mz_i k), none, none] rfl ?_
  simp only [vcS0, vcS1, vcS2, vcS3, vcS4, vcS5, vcS6, vc_n0, vc_lk, vc_pop, vc_rc, vc_tsw, vc_fr, vc_ar, vc_tb, mz_nx, List.set_cons_zero, List.set_cons_succ, Nat.reduceAdd, Nat.reduceBEq, Nat.reduceEqDiff, Nat.reduceLeDiff, Nat.reduceLT, Nat.reduceMul, Int.reduceToNat, Bool.false_eq_true, Bool.or_self, Bool.or_true, Bool.true_or, Bool.or_false, reduceIte, Option.toList_some, Option.toList_none, List.nil_append, List.cons_append, List.length_cons, List.length_nil, true_and, and_true, Int.cast_ofNat_Int, Int.reduceEq, Int.reduceLT, Int.reduceLE, Nat.zero_le, and_self, or_true, true_or, cdS_128]
  exact ls_loop m h n 0 (by omega)
theorem sp_lcopy (m : mz_M) {v l : Nat} (h : v + 5 ≤ l ∨ l + 5 ≤ v) : sp 125 [mz_r 1 0 l, mz_r 1 0 v] m none (mz_cp (mz_cp (mz_cp (mz_cp (mz_up m l 0 (m v 0)) (v + 1) (l + 1) 400) (v + 2) (l + 2) 400) (v + 3) (l + 3) 400) (v + 4) (l + 4) 400) := by
  refine mz_cl_vc 60 (fun _ => false) [some (mz_r 1 0 l), some (mz_r 1 0 v)] rfl ?_
  simp only [vcS0, vcS1, vcS2, vcS3, vcS4, vcS5, vcS6, vc_n0, vc_lk, vc_pop, vc_rc, vc_tsw, vc_fr, vc_ar, vc_tb, mz_nx, List.set_cons_zero, List.set_cons_succ, Nat.reduceAdd, Nat.reduceBEq, Nat.reduceEqDiff, Nat.reduceLeDiff, Nat.reduceLT, Nat.reduceMul, Int.reduceToNat, Bool.false_eq_true, Bool.or_self, Bool.or_true, Bool.true_or, Bool.or_false, reduceIte, Option.toList_some, Option.toList_none, List.nil_append, List.cons_append, List.length_cons, List.length_nil, true_and, and_true, Int.cast_ofNat_Int, Int.reduceEq, Int.reduceLT, Int.reduceLE, Nat.zero_le, and_self, or_true, true_or, cdS_125]
  refine ⟨_, _, sp_copyRow _ 400 (v + 1) (l + 1), ?_⟩
  simp only [vcS0, vcS1, vcS2, vcS3, vcS4, vcS5, vcS6, vc_n0, vc_lk, vc_pop, vc_rc, vc_tsw, vc_fr, vc_ar, vc_tb, mz_nx, List.set_cons_zero, List.set_cons_succ, Nat.reduceAdd, Nat.reduceBEq, Nat.reduceEqDiff, Nat.reduceLeDiff, Nat.reduceLT, Nat.reduceMul, Int.reduceToNat, Bool.false_eq_true, Bool.or_self, Bool.or_true, Bool.true_or, Bool.or_false, reduceIte, Option.toList_some, Option.toList_none, List.nil_append, List.cons_append, List.length_cons, List.length_nil, true_and, and_true, Int.cast_ofNat_Int, Int.reduceEq, Int.reduceLT, Int.reduceLE, Nat.zero_le, and_self, or_true, true_or, cdS_125]
  refine ⟨_, _, sp_copyRow _ 400 (v + 2) (l + 2), ?_⟩
  simp only [vcS0, vcS1, vcS2, vcS3, vcS4, vcS5, vcS6, vc_n0, vc_lk, vc_pop, vc_rc, vc_tsw, vc_fr, vc_ar, vc_tb, mz_nx, List.set_cons_zero, List.set_cons_succ, Nat.reduceAdd, Nat.reduceBEq, Nat.reduceEqDiff, Nat.reduceLeDiff, Nat.reduceLT, Nat.reduceMul, Int.reduceToNat, Bool.false_eq_true, Bool.or_self, Bool.or_true, Bool.true_or, Bool.or_false, reduceIte, Option.toList_some, Option.toList_none, List.nil_append, List.cons_append, List.length_cons, List.length_nil, true_and, and_true, Int.cast_ofNat_Int, Int.reduceEq, Int.reduceLT, Int.reduceLE, Nat.zero_le, and_self, or_true, true_or, cdS_125]
  refine ⟨_, _, sp_copyRow _ 400 (v + 3) (l + 3), ?_⟩
  simp only [vcS0, vcS1, vcS2, vcS3, vcS4, vcS5, vcS6, vc_n0, vc_lk, vc_pop, vc_rc, vc_tsw, vc_fr, vc_ar, vc_tb, mz_nx, List.set_cons_zero, List.set_cons_succ, Nat.reduceAdd, Nat.reduceBEq, Nat.reduceEqDiff, Nat.reduceLeDiff, Nat.reduceLT, Nat.reduceMul, Int.reduceToNat, Bool.false_eq_true, Bool.or_self, Bool.or_true, Bool.true_or, Bool.or_false, reduceIte, Option.toList_some, Option.toList_none, List.nil_append, List.cons_append, List.length_cons, List.length_nil, true_and, and_true, Int.cast_ofNat_Int, Int.reduceEq, Int.reduceLT, Int.reduceLE, Nat.zero_le, and_self, or_true, true_or, cdS_125]
  refine ⟨_, _, sp_copyRow _ 400 (v + 4) (l + 4), ?_⟩
  simp only [vcS0, vcS1, vcS2, vcS3, vcS4, vcS5, vcS6, vc_n0, vc_lk, vc_pop, vc_rc, vc_tsw, vc_fr, vc_ar, vc_tb, mz_nx, List.set_cons_zero, List.set_cons_succ, Nat.reduceAdd, Nat.reduceBEq, Nat.reduceEqDiff, Nat.reduceLeDiff, Nat.reduceLT, Nat.reduceMul, Int.reduceToNat, Bool.false_eq_true, Bool.or_self, Bool.or_true, Bool.true_or, Bool.or_false, reduceIte, Option.toList_some, Option.toList_none, List.nil_append, List.cons_append, List.length_cons, List.length_nil, true_and, and_true, Int.cast_ofNat_Int, Int.reduceEq, Int.reduceLT, Int.reduceLE, Nat.zero_le, and_self, or_true, true_or, cdS_125]
def pkF (m : mz_M) (l : Nat) : Nat → Nat → Int
  | 0, c => m (l + 5) c
  | j + 1, c => if m (l + 2) j = 1 ∧ m (l + 3) j = (c : Int) then m (l + 4) j else pkF m l j c
def msT (m : mz_M) (l w : Nat) (z d : Int) (i : Nat) : Int :=
  if (m (l + 2) i = 2 ∧ m (l + 1) i / 1440 = d) ∧ (if 0 ≤ pkF m l (i + 1) (m (l + 3) i).toNat ∧ pkF m l (i + 1) (m (l + 3) i).toNat < 10 then m (w + 1) (pkF m l (i + 1) (m (l + 3) i).toNat).toNat else 0) = z then m (l + 4) i else 0
theorem ms_loop (m : mz_M) {l w n : Nat} {z d : Int} (h : lgO m l n) (hw : w + 1 < l ∨ l + 6 < w) : ∀ (r j : Nat) (x : Option mz_V), j + r = n → sx 126 4 [some (mz_r 1 0 l), some (mz_i z), some (mz_i d), some (mz_r 4 0 w), some (mz_i (sm (msT m l w z d) j)), some (mz_i j), x] [] (rowS m (l + 5) 16 (pkF m l j)) (some (mz_i (sm (msT m l w z d) n))) (rowS m (l + 5) 16 (pkF m l n)) := by
  intro r
  induction r with
  | zero =>
    intro j x hj
    obtain rfl : j = n := by omega
    refine mz_vc_ok 80 (ct := fun i => i == 4) ?_
    simp only [vcS0, vcS1, vcS2, vcS3, vcS4, vcS5, vcS6, vc_n0, vc_lk, vc_pop, vc_rc, vc_tsw, vc_fr, vc_ar, vc_tb, mz_nx, List.set_cons_zero, List.set_cons_succ, Nat.reduceAdd, Nat.reduceBEq, Nat.reduceEqDiff, Nat.reduceLeDiff, Nat.reduceLT, Nat.reduceMul, Int.reduceToNat, Bool.false_eq_true, Bool.or_self, Bool.or_true, Bool.true_or, Bool.or_false, reduceIte, Option.toList_some, Option.toList_none, List.nil_append, List.cons_append, List.length_cons, List.length_nil, true_and, and_true, Int.cast_ofNat_Int, Int.reduceEq, Int.reduceLT, Int.reduceLE, Nat.zero_le, and_self, or_true, true_or, cdS_126]
    rw [rowS_o (by omega), if_neg (by have := h.1; omega)]
    trivial
  | succ r ih =>
    intro j x hj
    have hk := fun x => ih (j + 1) x (by omega)
    have hj2 := h.2.2 j (by omega)
    have hn := h.2.1
    have hs0 : 0 ≤ sm (msT m l w z d) j := sm_0 fun i hi => by have := h.2.2 i (by omega); unfold msT; split <;> omega
    have hs1 : sm (msT m l w z d) j ≤ 100000 * j := sm_ub fun i hi => by have := h.2.2 i (by omega); unfold msT; split <;> omega
    obtain ⟨c, hc⟩ := Int.eq_ofNat_of_zero_le hj2.2.1.1
    have tail : sx 126 27 [some (mz_r 1 0 l), some (mz_i z), some (mz_i d), some (mz_r 4 0 w), some (mz_i (sm (msT m l w z d) j)), some (mz_i j), some (mz_i c)] [] (rowS m (l + 5) 16 (pkF m l (j + 1))) (some (mz_i (sm (msT m l w z d) n))) (rowS m (l + 5) 16 (pkF m l n)) := by
      refine mz_vc_ok 80 (ct := fun i => i == 4) ?_
      simp only [vcS0, vcS1, vcS2, vcS3, vcS4, vcS5, vcS6, vc_n0, vc_lk, vc_pop, vc_rc, vc_tsw, vc_fr, vc_ar, vc_tb, mz_nx, List.set_cons_zero, List.set_cons_succ, Nat.reduceAdd, Nat.reduceBEq, Nat.reduceEqDiff, Nat.reduceLeDiff, Nat.reduceLT, Nat.reduceMul, Int.reduceToNat, Bool.false_eq_true, Bool.or_self, Bool.or_true, Bool.true_or, Bool.or_false, reduceIte, Option.toList_some, Option.toList_none, List.nil_append, List.cons_append, List.length_cons, List.length_nil, true_and, and_true, Int.cast_ofNat_Int, Int.reduceEq, Int.reduceLT, Int.reduceLE, Nat.zero_le, and_self, or_true, true_or, cdS_126]
      have hon := sp_isOn (rowS m (l + 5) 16 (pkF m l (j + 1))) (l := l) (e := j) (d := d) (k := 2) (by omega) (by rw [rowS_o (by omega)]; exact hj2.1.1)
      rw [rowS_o (by omega), rowS_o (by omega)] at hon
      refine ⟨_, _, hon, ?_⟩
      have e : sm (msT m l w z d) (j + 1) = sm (msT m l w z d) j + msT m l w z d j := rfl
      have em : msT m l w z d j = msT m l w z d j := rfl
      conv at em => rhs; unfold msT
      rw [hc, Int.toNat_natCast] at em
      by_cases h1 : m (l + 2) j = 2 ∧ m (l + 1) j / 1440 = d
      · rw [if_pos h1]
        simp only [h1, true_and, and_self] at em
        simp only [vcS0, vcS1, vcS2, vcS3, vcS4, vcS5, vcS6, vc_n0, vc_lk, vc_pop, vc_rc, vc_tsw, vc_fr, vc_ar, vc_tb, mz_nx, List.set_cons_zero, List.set_cons_succ, Nat.reduceAdd, Nat.reduceBEq, Nat.reduceEqDiff, Nat.reduceLeDiff, Nat.reduceLT, Nat.reduceMul, Int.reduceToNat, Bool.false_eq_true, Bool.or_self, Bool.or_true, Bool.true_or, Bool.or_false, reduceIte, Option.toList_some, Option.toList_none, List.nil_append, List.cons_append, List.length_cons, List.length_nil, true_and, and_true, Int.cast_ofNat_Int, Int.reduceEq, Int.reduceLT, Int.reduceLE, Nat.zero_le, and_self, or_true, true_or, cdS_126]
        refine ⟨_, _, sp_atN _ (show c < 16 by omega), ?_⟩
        simp only [vcS0, vcS1, vcS2, vcS3, vcS4, vcS5, vcS6, vc_n0, vc_lk, vc_pop, vc_rc, vc_tsw, vc_fr, vc_ar, vc_tb, mz_nx, List.set_cons_zero, List.set_cons_succ, Nat.reduceAdd, Nat.reduceBEq, Nat.reduceEqDiff, Nat.reduceLeDiff, Nat.reduceLT, Nat.reduceMul, Int.reduceToNat, Bool.false_eq_true, Bool.or_self, Bool.or_true, Bool.true_or, Bool.or_false, reduceIte, Option.toList_some, Option.toList_none, List.nil_append, List.cons_append, List.length_cons, List.length_nil, true_and, and_true, Int.cast_ofNat_Int, Int.reduceEq, Int.reduceLT, Int.reduceLE, Nat.zero_le, and_self, or_true, true_or, cdS_126]
        rw [rowS_at (by omega)]
        refine ⟨_, _, sp_at _ _ _ _, ?_⟩
        simp only [vcS0, vcS1, vcS2, vcS3, vcS4, vcS5, vcS6, vc_n0, vc_lk, vc_pop, vc_rc, vc_tsw, vc_fr, vc_ar, vc_tb, mz_nx, List.set_cons_zero, List.set_cons_succ, Nat.reduceAdd, Nat.reduceBEq, Nat.reduceEqDiff, Nat.reduceLeDiff, Nat.reduceLT, Nat.reduceMul, Int.reduceToNat, Bool.false_eq_true, Bool.or_self, Bool.or_true, Bool.true_or, Bool.or_false, reduceIte, Option.toList_some, Option.toList_none, List.nil_append, List.cons_append, List.length_cons, List.length_nil, true_and, and_true, Int.cast_ofNat_Int, Int.reduceEq, Int.reduceLT, Int.reduceLE, Nat.zero_le, and_self, or_true, true_or, cdS_126]
        rw [rowS_o (by omega)]
        generalize (if 0 ≤ pkF m l (j + 1) c ∧ pkF m l (j + 1) c < 10 then m (w + 1) (pkF m l (j + 1) c).toNat else 0) = q at em ⊢
        by_cases h2 : q = z
        · rw [if_pos h2]
          rw [if_pos h2] at em
          refine ⟨_, _, sp_atN _ (show j < 400 by omega), ?_⟩
          simp only [vcS0, vcS1, vcS2, vcS3, vcS4, vcS5, vcS6, vc_n0, vc_lk, vc_pop, vc_rc, vc_tsw, vc_fr, vc_ar, vc_tb, mz_nx, List.set_cons_zero, List.set_cons_succ, Nat.reduceAdd, Nat.reduceBEq, Nat.reduceEqDiff, Nat.reduceLeDiff, Nat.reduceLT, Nat.reduceMul, Int.reduceToNat, Bool.false_eq_true, Bool.or_self, Bool.or_true, Bool.true_or, Bool.or_false, reduceIte, Option.toList_some, Option.toList_none, List.nil_append, List.cons_append, List.length_cons, List.length_nil, true_and, and_true, Int.cast_ofNat_Int, Int.reduceEq, Int.reduceLT, Int.reduceLE, Nat.zero_le, and_self, or_true, true_or, cdS_126]
          rw [rowS_o (by omega)]
          refine ⟨(by unfold mz_w; omega), (by unfold mz_w; omega), ?_⟩
          rw [e, em] at hk
          exact hk _
        · rw [if_neg h2]
          rw [if_neg h2] at em
          refine ⟨(by unfold mz_w; omega), ?_⟩
          rw [e, em, Int.add_zero] at hk
          exact hk _
      · rw [if_neg h1]
        rw [if_neg (fun x => h1 x.1)] at em
        simp only [vcS0, vcS1, vcS2, vcS3, vcS4, vcS5, vcS6, vc_n0, vc_lk, vc_pop, vc_rc, vc_tsw, vc_fr, vc_ar, vc_tb, mz_nx, List.set_cons_zero, List.set_cons_succ, Nat.reduceAdd, Nat.reduceBEq, Nat.reduceEqDiff, Nat.reduceLeDiff, Nat.reduceLT, Nat.reduceMul, Int.reduceToNat, Bool.false_eq_true, Bool.or_self, Bool.or_true, Bool.true_or, Bool.or_false, reduceIte, Option.toList_some, Option.toList_none, List.nil_append, List.cons_append, List.length_cons, List.length_nil, true_and, and_true, Int.cast_ofNat_Int, Int.reduceEq, Int.reduceLT, Int.reduceLE, Nat.zero_le, and_self, or_true, true_or, cdS_126]
        refine ⟨(by unfold mz_w; omega), ?_⟩
        rw [e, em, Int.add_zero] at hk
        exact hk _
    refine mz_vc_ok 80 (ct := fun i => i == 4 || i == 27) ?_
    simp only [vcS0, vcS1, vcS2, vcS3, vcS4, vcS5, vcS6, vc_n0, vc_lk, vc_pop, vc_rc, vc_tsw, vc_fr, vc_ar, vc_tb, mz_nx, List.set_cons_zero, List.set_cons_succ, Nat.reduceAdd, Nat.reduceBEq, Nat.reduceEqDiff, Nat.reduceLeDiff, Nat.reduceLT, Nat.reduceMul, Int.reduceToNat, Bool.false_eq_true, Bool.or_self, Bool.or_true, Bool.true_or, Bool.or_false, reduceIte, Option.toList_some, Option.toList_none, List.nil_append, List.cons_append, List.length_cons, List.length_nil, true_and, and_true, Int.cast_ofNat_Int, Int.reduceEq, Int.reduceLT, Int.reduceLE, Nat.zero_le, and_self, or_true, true_or, cdS_126]
    rw [rowS_o (by omega), if_pos (by have := h.1; omega)]
    refine ⟨_, _, sp_atN _ (by omega), ?_⟩
    simp only [vcS0, vcS1, vcS2, vcS3, vcS4, vcS5, vcS6, vc_n0, vc_lk, vc_pop, vc_rc, vc_tsw, vc_fr, vc_ar, vc_tb, mz_nx, List.set_cons_zero, List.set_cons_succ, Nat.reduceAdd, Nat.reduceBEq, Nat.reduceEqDiff, Nat.reduceLeDiff, Nat.reduceLT, Nat.reduceMul, Int.reduceToNat, Bool.false_eq_true, Bool.or_self, Bool.or_true, Bool.true_or, Bool.or_false, reduceIte, Option.toList_some, Option.toList_none, List.nil_append, List.cons_append, List.length_cons, List.length_nil, true_and, and_true, Int.cast_ofNat_Int, Int.reduceEq, Int.reduceLT, Int.reduceLE, Nat.zero_le, and_self, or_true, true_or, cdS_126]
    refine ⟨_, _, sp_atN _ (by omega), ?_⟩
    simp only [vcS0, vcS1, vcS2, vcS3, vcS4, vcS5, vcS6, vc_n0, vc_lk, vc_pop, vc_rc, vc_tsw, vc_fr, vc_ar, vc_tb, mz_nx, List.set_cons_zero, List.set_cons_succ, Nat.reduceAdd, Nat.reduceBEq, Nat.reduceEqDiff, Nat.reduceLeDiff, Nat.reduceLT, Nat.reduceMul, Int.reduceToNat, Bool.false_eq_true, Bool.or_self, Bool.or_true, Bool.true_or, Bool.or_false, reduceIte, Option.toList_some, Option.toList_none, List.nil_append, List.cons_append, List.length_cons, List.length_nil, true_and, and_true, Int.cast_ofNat_Int, Int.reduceEq, Int.reduceLT, Int.reduceLE, Nat.zero_le, and_self, or_true, true_or, cdS_126]
    rw [rowS_o (by omega), rowS_o (by omega), hc]
    by_cases h1 : m (l + 2) j = 1
    · rw [if_pos h1]
      refine ⟨_, _, sp_atN _ (show j < 400 by omega), ?_⟩
      simp only [vcS0, vcS1, vcS2, vcS3, vcS4, vcS5, vcS6, vc_n0, vc_lk, vc_pop, vc_rc, vc_tsw, vc_fr, vc_ar, vc_tb, mz_nx, List.set_cons_zero, List.set_cons_succ, Nat.reduceAdd, Nat.reduceBEq, Nat.reduceEqDiff, Nat.reduceLeDiff, Nat.reduceLT, Nat.reduceMul, Int.reduceToNat, Bool.false_eq_true, Bool.or_self, Bool.or_true, Bool.true_or, Bool.or_false, reduceIte, Option.toList_some, Option.toList_none, List.nil_append, List.cons_append, List.length_cons, List.length_nil, true_and, and_true, Int.cast_ofNat_Int, Int.reduceEq, Int.reduceLT, Int.reduceLE, Nat.zero_le, and_self, or_true, true_or, cdS_126]
      rw [rowS_o (by omega)]
      refine ⟨_, _, sp_putN _ _ (show c < 16 by omega), ?_⟩
      simp only [vcS0, vcS1, vcS2, vcS3, vcS4, vcS5, vcS6, vc_n0, vc_lk, vc_pop, vc_rc, vc_tsw, vc_fr, vc_ar, vc_tb, mz_nx, List.set_cons_zero, List.set_cons_succ, Nat.reduceAdd, Nat.reduceBEq, Nat.reduceEqDiff, Nat.reduceLeDiff, Nat.reduceLT, Nat.reduceMul, Int.reduceToNat, Bool.false_eq_true, Bool.or_self, Bool.or_true, Bool.true_or, Bool.or_false, reduceIte, Option.toList_some, Option.toList_none, List.nil_append, List.cons_append, List.length_cons, List.length_nil, true_and, and_true, Int.cast_ofNat_Int, Int.reduceEq, Int.reduceLT, Int.reduceLE, Nat.zero_le, and_self, or_true, true_or, cdS_126]
      rw [rowS_up (by omega)]
      have e : pkF m l (j + 1) = fun i => if i = c then m (l + 4) j else pkF m l j i := by
        funext i
        show (if m (l + 2) j = 1 ∧ m (l + 3) j = (i : Int) then m (l + 4) j else pkF m l j i) = _
        rw [hc]
        by_cases hi : i = c
        · rw [if_pos hi, if_pos ⟨h1, by omega⟩]
        · rw [if_neg hi, if_neg (by omega)]
      rw [e] at tail
      exact tail
    · rw [if_neg h1]
      have e : pkF m l (j + 1) = pkF m l j := by
        funext i
        conv => lhs; unfold pkF
        rw [if_neg (fun x => h1 x.1)]
      rw [e] at tail
      exact tail
theorem sp_meterSum (m : mz_M) {l w n : Nat} {z d : Int} (h : lgO m l n) (hw : w + 1 < l ∨ l + 6 < w) : sp 126 [mz_r 1 0 l, mz_i z, mz_i d, mz_r 4 0 w] m (some (mz_i (sm (msT m l w z d) n))) (rowS m (l + 5) 16 (pkF m l n)) := by
  refine mz_cl_vc 60 (fun i => i == 4) [some (mz_r 1 0 l), some (mz_i z), some (mz_i d), some (mz_r 4 0 w), none, none, none] rfl ?_
  simp only [vcS0, vcS1, vcS2, vcS3, vcS4, vcS5, vcS6, vc_n0, vc_lk, vc_pop, vc_rc, vc_tsw, vc_fr, vc_ar, vc_tb, mz_nx, List.set_cons_zero, List.set_cons_succ, Nat.reduceAdd, Nat.reduceBEq, Nat.reduceEqDiff, Nat.reduceLeDiff, Nat.reduceLT, Nat.reduceMul, Int.reduceToNat, Bool.false_eq_true, Bool.or_self, Bool.or_true, Bool.true_or, Bool.or_false, reduceIte, Option.toList_some, Option.toList_none, List.nil_append, List.cons_append, List.length_cons, List.length_nil, true_and, and_true, Int.cast_ofNat_Int, Int.reduceEq, Int.reduceLT, Int.reduceLE, Nat.zero_le, and_self, or_true, true_or, cdS_126]
  have := ms_loop m (z := z) (d := d) h hw n 0 none (by omega)
  rw [show pkF m l 0 = m (l + 5) from rfl, rowS_self] at this
  exact this
