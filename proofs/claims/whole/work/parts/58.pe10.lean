theorem sp_X8_restoreSnapshot (m : mz_M) (x : Int) : sp 269 [mz_r 8 0 0, mz_i x] m (some (mz_i (if 0 ≤ x ∧ x ≤ 1 then (if m 139 x.toNat = 0 then -3 else wcS 18 (59 + 40 * x.toNat) m 18 3) else -1))) (if (0 ≤ x ∧ x ≤ 1) ∧ ¬ m 139 x.toNat = 0 then wcS 18 (59 + 40 * x.toNat) m else m) := by
  refine mz_cl_vc 40 (fun _ => false) [some (mz_r 8 0 0), some (mz_i x)] rfl ?_
  simp only [vcS0, vcS1, vcS2, vcS3, vcS4, vcS5, vcS6, vc_n0, vc_lk, vc_pop, vc_rc, vc_tsw, vc_fr, vc_ar, vc_tb, mz_nx, List.set_cons_zero, List.set_cons_succ, Nat.reduceAdd, Nat.reduceBEq, Nat.reduceEqDiff, Nat.reduceLeDiff, Nat.reduceLT, Nat.reduceMul, Int.reduceToNat, Bool.false_eq_true, Bool.or_self, Bool.or_true, Bool.true_or, Bool.or_false, reduceIte, Option.toList_some, Option.toList_none, List.nil_append, List.cons_append, List.length_cons, List.length_nil, true_and, and_true, Int.cast_ofNat_Int, Int.reduceEq, Int.reduceLT, Int.reduceLE, Nat.zero_le, and_self, or_true, true_or, cdS_269]
  refine ⟨_, _, sp_within m x 0 1, ?_⟩
  by_cases h : 0 ≤ x ∧ x ≤ 1
  · rw [if_pos h, if_pos h]
    obtain ⟨k, rfl⟩ := nat_i h.1
    rw [Int.toNat_natCast]
    simp only [vcS0, vcS1, vcS2, vcS3, vcS4, vcS5, vcS6, vc_n0, vc_lk, vc_pop, vc_rc, vc_tsw, vc_fr, vc_ar, vc_tb, mz_nx, List.set_cons_zero, List.set_cons_succ, Nat.reduceAdd, Nat.reduceBEq, Nat.reduceEqDiff, Nat.reduceLeDiff, Nat.reduceLT, Nat.reduceMul, Int.reduceToNat, Bool.false_eq_true, Bool.or_self, Bool.or_true, Bool.true_or, Bool.or_false, reduceIte, Option.toList_some, Option.toList_none, List.nil_append, List.cons_append, List.length_cons, List.length_nil, true_and, and_true, Int.cast_ofNat_Int, Int.reduceEq, Int.reduceLT, Int.reduceLE, Nat.zero_le, and_self, or_true, true_or, cdS_269]
    rw [Int.toNat_natCast]
    refine ⟨by omega, ?_⟩
    by_cases h2 : m 139 k = 0
    · rw [if_pos h2, if_pos h2, if_neg (fun q => q.2 h2)]
      exact ⟨rfl, rfl⟩
    · rw [if_neg h2, if_neg h2, if_pos ⟨h, h2⟩]
      refine ⟨by omega, ?_⟩
      rw [show 58 + (1 + 40 * k) = 59 + 40 * k by omega]
      refine ⟨_, _, sp_wcopy m (u := 18) (v := 59 + 40 * k) (by omega), ?_⟩
      simp only [vcS0, vcS1, vcS2, vcS3, vcS4, vcS5, vcS6, vc_n0, vc_lk, vc_pop, vc_rc, vc_tsw, vc_fr, vc_ar, vc_tb, mz_nx, List.set_cons_zero, List.set_cons_succ, Nat.reduceAdd, Nat.reduceBEq, Nat.reduceEqDiff, Nat.reduceLeDiff, Nat.reduceLT, Nat.reduceMul, Int.reduceToNat, Bool.false_eq_true, Bool.or_self, Bool.or_true, Bool.true_or, Bool.or_false, reduceIte, Option.toList_some, Option.toList_none, List.nil_append, List.cons_append, List.length_cons, List.length_nil, true_and, and_true, Int.cast_ofNat_Int, Int.reduceEq, Int.reduceLT, Int.reduceLE, Nat.zero_le, and_self, or_true, true_or, cdS_269]
  · rw [if_neg h, if_neg h, if_neg (fun q => h q.1)]
    simp only [vcS0, vcS1, vcS2, vcS3, vcS4, vcS5, vcS6, vc_n0, vc_lk, vc_pop, vc_rc, vc_tsw, vc_fr, vc_ar, vc_tb, mz_nx, List.set_cons_zero, List.set_cons_succ, Nat.reduceAdd, Nat.reduceBEq, Nat.reduceEqDiff, Nat.reduceLeDiff, Nat.reduceLT, Nat.reduceMul, Int.reduceToNat, Bool.false_eq_true, Bool.or_self, Bool.or_true, Bool.true_or, Bool.or_false, reduceIte, Option.toList_some, Option.toList_none, List.nil_append, List.cons_append, List.length_cons, List.length_nil, true_and, and_true, Int.cast_ofNat_Int, Int.reduceEq, Int.reduceLT, Int.reduceLE, Nat.zero_le, and_self, or_true, true_or, cdS_269]
