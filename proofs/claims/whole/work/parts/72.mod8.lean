theorem sp_mwayT (m : mz_M) {a b : Nat} (ha : a < 10) (hb : b < 10) : sp 51 [mz_r 9 0 153, mz_i a, mz_i b] (mz_up m 153 4 0) (some (mz_i (m 154 (103 + 10 * a + b)))) (mz_up m 153 4 0) := by
  have := sp_mway (mz_up m 153 4 0) ha hb
  rw [thr_154] at this
  exact this
theorem sp_X9_distance (m : mz_M) (x y : Int) (h : plN' (m 154)) : sp 155 [mz_r 9 0 153, mz_i x, mz_i y] m (some (mz_i (if (0 ≤ x ∧ x < m 154 0) ∧ 0 ≤ y ∧ y < m 154 0 then (if m 154 (103 + 10 * x.toNat + y.toNat) < 1000000 then m 154 (103 + 10 * x.toNat + y.toNat) else -3) else -1))) (mz_up m 153 4 0) := by
  have hh := h.2
  refine mz_cl_vc 40 (fun _ => false) [some (mz_r 9 0 153), some (mz_i x), some (mz_i y)] rfl ?_
  simp only [vcS0, vcS1, vcS2, vcS3, vcS4, vcS5, vcS6, vc_n0, vc_lk, vc_pop, vc_rc, vc_tsw, vc_fr, vc_ar, vc_tb, mz_nx, List.set_cons_zero, List.set_cons_succ, Nat.reduceAdd, Nat.reduceBEq, Nat.reduceEqDiff, Nat.reduceLeDiff, Nat.reduceLT, Nat.reduceMul, Int.reduceToNat, Bool.false_eq_true, Bool.or_self, Bool.or_true, Bool.true_or, Bool.or_false, reduceIte, Option.toList_some, Option.toList_none, List.nil_append, List.cons_append, List.length_cons, List.length_nil, true_and, and_true, Int.cast_ofNat_Int, Int.reduceEq, Int.reduceLT, Int.reduceLE, Nat.zero_le, and_self, or_true, true_or, cdS_155]
  refine ⟨_, _, sp_isPlT m x h, ?_⟩
  by_cases h1 : 0 ≤ x ∧ x < m 154 0
  · rw [if_pos h1]
    simp only [vcS0, vcS1, vcS2, vcS3, vcS4, vcS5, vcS6, vc_n0, vc_lk, vc_pop, vc_rc, vc_tsw, vc_fr, vc_ar, vc_tb, mz_nx, List.set_cons_zero, List.set_cons_succ, Nat.reduceAdd, Nat.reduceBEq, Nat.reduceEqDiff, Nat.reduceLeDiff, Nat.reduceLT, Nat.reduceMul, Int.reduceToNat, Bool.false_eq_true, Bool.or_self, Bool.or_true, Bool.true_or, Bool.or_false, reduceIte, Option.toList_some, Option.toList_none, List.nil_append, List.cons_append, List.length_cons, List.length_nil, true_and, and_true, Int.cast_ofNat_Int, Int.reduceEq, Int.reduceLT, Int.reduceLE, Nat.zero_le, and_self, or_true, true_or, cdS_155]
    refine ⟨_, _, sp_isPlT m y h, ?_⟩
    by_cases h2 : 0 ≤ y ∧ y < m 154 0
    · rw [if_pos h2, if_pos ⟨h1, h2⟩]
      obtain ⟨a, rfl⟩ := nat_i h1.1
      obtain ⟨b, rfl⟩ := nat_i h2.1
      simp only [Int.toNat_natCast]
      simp only [vcS0, vcS1, vcS2, vcS3, vcS4, vcS5, vcS6, vc_n0, vc_lk, vc_pop, vc_rc, vc_tsw, vc_fr, vc_ar, vc_tb, mz_nx, List.set_cons_zero, List.set_cons_succ, Nat.reduceAdd, Nat.reduceBEq, Nat.reduceEqDiff, Nat.reduceLeDiff, Nat.reduceLT, Nat.reduceMul, Int.reduceToNat, Bool.false_eq_true, Bool.or_self, Bool.or_true, Bool.true_or, Bool.or_false, reduceIte, Option.toList_some, Option.toList_none, List.nil_append, List.cons_append, List.length_cons, List.length_nil, true_and, and_true, Int.cast_ofNat_Int, Int.reduceEq, Int.reduceLT, Int.reduceLE, Nat.zero_le, and_self, or_true, true_or, cdS_155]
      refine ⟨_, _, sp_mwayT m (show a < 10 by omega) (show b < 10 by omega), ?_⟩
      simp only [vcS0, vcS1, vcS2, vcS3, vcS4, vcS5, vcS6, vc_n0, vc_lk, vc_pop, vc_rc, vc_tsw, vc_fr, vc_ar, vc_tb, mz_nx, List.set_cons_zero, List.set_cons_succ, Nat.reduceAdd, Nat.reduceBEq, Nat.reduceEqDiff, Nat.reduceLeDiff, Nat.reduceLT, Nat.reduceMul, Int.reduceToNat, Bool.false_eq_true, Bool.or_self, Bool.or_true, Bool.true_or, Bool.or_false, reduceIte, Option.toList_some, Option.toList_none, List.nil_append, List.cons_append, List.length_cons, List.length_nil, true_and, and_true, Int.cast_ofNat_Int, Int.reduceEq, Int.reduceLT, Int.reduceLE, Nat.zero_le, and_self, or_true, true_or, cdS_155]
      by_cases h3 : m 154 (103 + 10 * a + b) < 1000000
      · rw [if_pos h3, if_pos h3]
        refine ⟨_, _, sp_mwayT m (show a < 10 by omega) (show b < 10 by omega), ?_⟩
        simp only [vcS0, vcS1, vcS2, vcS3, vcS4, vcS5, vcS6, vc_n0, vc_lk, vc_pop, vc_rc, vc_tsw, vc_fr, vc_ar, vc_tb, mz_nx, List.set_cons_zero, List.set_cons_succ, Nat.reduceAdd, Nat.reduceBEq, Nat.reduceEqDiff, Nat.reduceLeDiff, Nat.reduceLT, Nat.reduceMul, Int.reduceToNat, Bool.false_eq_true, Bool.or_self, Bool.or_true, Bool.true_or, Bool.or_false, reduceIte, Option.toList_some, Option.toList_none, List.nil_append, List.cons_append, List.length_cons, List.length_nil, true_and, and_true, Int.cast_ofNat_Int, Int.reduceEq, Int.reduceLT, Int.reduceLE, Nat.zero_le, and_self, or_true, true_or, cdS_155]
      · rw [if_neg h3, if_neg h3]
        all_goals ((repeat' refine And.intro ?_ ?_) <;> first | trivial | rfl | (unfold mz_w; omega) | omega)
    · rw [if_neg h2, if_neg (fun q => h2 q.2)]
      simp only [vcS0, vcS1, vcS2, vcS3, vcS4, vcS5, vcS6, vc_n0, vc_lk, vc_pop, vc_rc, vc_tsw, vc_fr, vc_ar, vc_tb, mz_nx, List.set_cons_zero, List.set_cons_succ, Nat.reduceAdd, Nat.reduceBEq, Nat.reduceEqDiff, Nat.reduceLeDiff, Nat.reduceLT, Nat.reduceMul, Int.reduceToNat, Bool.false_eq_true, Bool.or_self, Bool.or_true, Bool.true_or, Bool.or_false, reduceIte, Option.toList_some, Option.toList_none, List.nil_append, List.cons_append, List.length_cons, List.length_nil, true_and, and_true, Int.cast_ofNat_Int, Int.reduceEq, Int.reduceLT, Int.reduceLE, Nat.zero_le, and_self, or_true, true_or, cdS_155]
  · rw [if_neg h1, if_neg (fun q => h1 q.1)]
    simp only [vcS0, vcS1, vcS2, vcS3, vcS4, vcS5, vcS6, vc_n0, vc_lk, vc_pop, vc_rc, vc_tsw, vc_fr, vc_ar, vc_tb, mz_nx, List.set_cons_zero, List.set_cons_succ, Nat.reduceAdd, Nat.reduceBEq, Nat.reduceEqDiff, Nat.reduceLeDiff, Nat.reduceLT, Nat.reduceMul, Int.reduceToNat, Bool.false_eq_true, Bool.or_self, Bool.or_true, Bool.true_or, Bool.or_false, reduceIte, Option.toList_some, Option.toList_none, List.nil_append, List.cons_append, List.length_cons, List.length_nil, true_and, and_true, Int.cast_ofNat_Int, Int.reduceEq, Int.reduceLT, Int.reduceLE, Nat.zero_le, and_self, or_true, true_or, cdS_155]
def wyO (V : Nat → Int) : Prop := ∀ j, j < 100 → (0 ≤ V (3 + j) ∧ V (3 + j) ≤ 1000000) ∧ 0 ≤ V (103 + j) ∧ V (103 + j) ≤ 1000000
theorem nw_loop (m : mz_M) {a b n : Nat} (ha : a < 10) (hb : b < 10) (hn : n ≤ 10) (h0 : m 154 0 = n) (hw : wyO (m 154)) : ∀ (r j : Nat), j + r = n → sx 168 18 [some (mz_r 9 0 153), some (mz_i a), some (mz_i b), some (mz_i j)] [] m (some (mz_i (opI (-3) (if m 154 (103 + 10 * a + b) < 1000000 then fst1 (fun p => m 154 (3 + 10 * a + p) + m 154 (103 + 10 * p + b) = m 154 (103 + 10 * a + b)) r j else none)))) m := by
  intro r
  induction r with
  | zero =>
    intro j hj
    obtain rfl : j = n := by omega
    refine mz_vc_ok 60 (ct := fun i => i == 18) ?_
    simp only [vcS0, vcS1, vcS2, vcS3, vcS4, vcS5, vcS6, vc_n0, vc_lk, vc_pop, vc_rc, vc_tsw, vc_fr, vc_ar, vc_tb, mz_nx, List.set_cons_zero, List.set_cons_succ, Nat.reduceAdd, Nat.reduceBEq, Nat.reduceEqDiff, Nat.reduceLeDiff, Nat.reduceLT, Nat.reduceMul, Int.reduceToNat, Bool.false_eq_true, Bool.or_self, Bool.or_true, Bool.true_or, Bool.or_false, reduceIte, Option.toList_some, Option.toList_none, List.nil_append, List.cons_append, List.length_cons, List.length_nil, true_and, and_true, Int.cast_ofNat_Int, Int.reduceEq, Int.reduceLT, Int.reduceLE, Nat.zero_le, and_self, or_true, true_or, cdS_168]
    rw [h0, if_neg (by omega)]
    simp only [fst1]
    split <;> all_goals ((repeat' refine And.intro ?_ ?_) <;> first | trivial | rfl | (unfold mz_w; omega) | omega)
  | succ r ih =>
    intro j hj
    have hk := ih (j + 1) (by omega)
    have w1 := hw (10 * a + j) (by omega)
    have w2 := hw (10 * j + b) (by omega)
    refine mz_vc_ok 60 (ct := fun i => i == 18) ?_
    simp only [vcS0, vcS1, vcS2, vcS3, vcS4, vcS5, vcS6, vc_n0, vc_lk, vc_pop, vc_rc, vc_tsw, vc_fr, vc_ar, vc_tb, mz_nx, List.set_cons_zero, List.set_cons_succ, Nat.reduceAdd, Nat.reduceBEq, Nat.reduceEqDiff, Nat.reduceLeDiff, Nat.reduceLT, Nat.reduceMul, Int.reduceToNat, Bool.false_eq_true, Bool.or_self, Bool.or_true, Bool.true_or, Bool.or_false, reduceIte, Option.toList_some, Option.toList_none, List.nil_append, List.cons_append, List.length_cons, List.length_nil, true_and, and_true, Int.cast_ofNat_Int, Int.reduceEq, Int.reduceLT, Int.reduceLE, Nat.zero_le, and_self, or_true, true_or, cdS_168]
    rw [h0, if_pos (by omega)]
    refine ⟨_, _, sp_mway m ha hb, ?_⟩
    simp only [vcS0, vcS1, vcS2, vcS3, vcS4, vcS5, vcS6, vc_n0, vc_lk, vc_pop, vc_rc, vc_tsw, vc_fr, vc_ar, vc_tb, mz_nx, List.set_cons_zero, List.set_cons_succ, Nat.reduceAdd, Nat.reduceBEq, Nat.reduceEqDiff, Nat.reduceLeDiff, Nat.reduceLT, Nat.reduceMul, Int.reduceToNat, Bool.false_eq_true, Bool.or_self, Bool.or_true, Bool.true_or, Bool.or_false, reduceIte, Option.toList_some, Option.toList_none, List.nil_append, List.cons_append, List.length_cons, List.length_nil, true_and, and_true, Int.cast_ofNat_Int, Int.reduceEq, Int.reduceLT, Int.reduceLE, Nat.zero_le, and_self, or_true, true_or, cdS_168]
    by_cases h1 : m 154 (103 + 10 * a + b) < 1000000
    · rw [if_pos h1] at hk
      rw [if_pos h1, if_pos h1]
      rw [show (3 + 10 * (a : Int) + (j : Int)).toNat = 3 + 10 * a + j by omega]
      refine ⟨(by unfold mz_w; omega), (by unfold mz_w; omega), (by unfold mz_w; omega), by omega, _, _, sp_mway m (show j < 10 by omega) hb, ?_⟩
      simp only [vcS0, vcS1, vcS2, vcS3, vcS4, vcS5, vcS6, vc_n0, vc_lk, vc_pop, vc_rc, vc_tsw, vc_fr, vc_ar, vc_tb, mz_nx, List.set_cons_zero, List.set_cons_succ, Nat.reduceAdd, Nat.reduceBEq, Nat.reduceEqDiff, Nat.reduceLeDiff, Nat.reduceLT, Nat.reduceMul, Int.reduceToNat, Bool.false_eq_true, Bool.or_self, Bool.or_true, Bool.true_or, Bool.or_false, reduceIte, Option.toList_some, Option.toList_none, List.nil_append, List.cons_append, List.length_cons, List.length_nil, true_and, and_true, Int.cast_ofNat_Int, Int.reduceEq, Int.reduceLT, Int.reduceLE, Nat.zero_le, and_self, or_true, true_or, cdS_168]
      rw [show 3 + 10 * a + j = 3 + (10 * a + j) by omega, show 103 + 10 * j + b = 103 + (10 * j + b) by omega]
      refine ⟨(by unfold mz_w; omega), _, _, sp_mway m ha hb, ?_⟩
      simp only [vcS0, vcS1, vcS2, vcS3, vcS4, vcS5, vcS6, vc_n0, vc_lk, vc_pop, vc_rc, vc_tsw, vc_fr, vc_ar, vc_tb, mz_nx, List.set_cons_zero, List.set_cons_succ, Nat.reduceAdd, Nat.reduceBEq, Nat.reduceEqDiff, Nat.reduceLeDiff, Nat.reduceLT, Nat.reduceMul, Int.reduceToNat, Bool.false_eq_true, Bool.or_self, Bool.or_true, Bool.true_or, Bool.or_false, reduceIte, Option.toList_some, Option.toList_none, List.nil_append, List.cons_append, List.length_cons, List.length_nil, true_and, and_true, Int.cast_ofNat_Int, Int.reduceEq, Int.reduceLT, Int.reduceLE, Nat.zero_le, and_self, or_true, true_or, cdS_168]
      unfold fst1
      rw [show 3 + 10 * a + j = 3 + (10 * a + j) by omega, show 103 + 10 * j + b = 103 + (10 * j + b) by omega]
      by_cases h2 : m 154 (3 + (10 * a + j)) + m 154 (103 + (10 * j + b)) = m 154 (103 + 10 * a + b)
      · rw [if_pos h2, if_pos h2]
        all_goals ((repeat' refine And.intro ?_ ?_) <;> first | trivial | rfl | (unfold mz_w; omega) | omega)
      · rw [if_neg h2, if_neg h2]
        exact ⟨(by unfold mz_w; omega), hk⟩
    · rw [if_neg h1, if_neg h1]
      all_goals ((repeat' refine And.intro ?_ ?_) <;> first | trivial | rfl | (unfold mz_w; omega) | omega)
theorem sp_X9_nextOnWay (m : mz_M) (x y : Int) {n : Nat} (hn : n ≤ 10) (h0 : m 154 0 = n) (hw : wyO (m 154)) : sp 168 [mz_r 9 0 153, mz_i x, mz_i y] m (some (mz_i (if (0 ≤ x ∧ x < m 154 0) ∧ (0 ≤ y ∧ y < m 154 0) ∧ x ≠ y then opI (-3) (if m 154 (103 + 10 * x.toNat + y.toNat) < 1000000 then fst1 (fun p => m 154 (3 + 10 * x.toNat + p) + m 154 (103 + 10 * p + y.toNat) = m 154 (103 + 10 * x.toNat + y.toNat)) n 0 else none) else -1))) (mz_up m 153 4 0) := by
  have h : plN' (m 154) := by unfold plN'; omega
  refine mz_cl_vc 40 (fun i => i == 18) [some (mz_r 9 0 153), some (mz_i x), some (mz_i y), none] rfl ?_
  simp only [vcS0, vcS1, vcS2, vcS3, vcS4, vcS5, vcS6, vc_n0, vc_lk, vc_pop, vc_rc, vc_tsw, vc_fr, vc_ar, vc_tb, mz_nx, List.set_cons_zero, List.set_cons_succ, Nat.reduceAdd, Nat.reduceBEq, Nat.reduceEqDiff, Nat.reduceLeDiff, Nat.reduceLT, Nat.reduceMul, Int.reduceToNat, Bool.false_eq_true, Bool.or_self, Bool.or_true, Bool.true_or, Bool.or_false, reduceIte, Option.toList_some, Option.toList_none, List.nil_append, List.cons_append, List.length_cons, List.length_nil, true_and, and_true, Int.cast_ofNat_Int, Int.reduceEq, Int.reduceLT, Int.reduceLE, Nat.zero_le, and_self, or_true, true_or, cdS_168]
  refine ⟨_, _, sp_isPlT m x h, ?_⟩
  by_cases h1 : 0 ≤ x ∧ x < m 154 0
  · rw [if_pos h1]
    simp only [vcS0, vcS1, vcS2, vcS3, vcS4, vcS5, vcS6, vc_n0, vc_lk, vc_pop, vc_rc, vc_tsw, vc_fr, vc_ar, vc_tb, mz_nx, List.set_cons_zero, List.set_cons_succ, Nat.reduceAdd, Nat.reduceBEq, Nat.reduceEqDiff, Nat.reduceLeDiff, Nat.reduceLT, Nat.reduceMul, Int.reduceToNat, Bool.false_eq_true, Bool.or_self, Bool.or_true, Bool.true_or, Bool.or_false, reduceIte, Option.toList_some, Option.toList_none, List.nil_append, List.cons_append, List.length_cons, List.length_nil, true_and, and_true, Int.cast_ofNat_Int, Int.reduceEq, Int.reduceLT, Int.reduceLE, Nat.zero_le, and_self, or_true, true_or, cdS_168]
    refine ⟨_, _, sp_isPlT m y h, ?_⟩
    by_cases h2 : 0 ≤ y ∧ y < m 154 0
    · rw [if_pos h2]
      simp only [vcS0, vcS1, vcS2, vcS3, vcS4, vcS5, vcS6, vc_n0, vc_lk, vc_pop, vc_rc, vc_tsw, vc_fr, vc_ar, vc_tb, mz_nx, List.set_cons_zero, List.set_cons_succ, Nat.reduceAdd, Nat.reduceBEq, Nat.reduceEqDiff, Nat.reduceLeDiff, Nat.reduceLT, Nat.reduceMul, Int.reduceToNat, Bool.false_eq_true, Bool.or_self, Bool.or_true, Bool.true_or, Bool.or_false, reduceIte, Option.toList_some, Option.toList_none, List.nil_append, List.cons_append, List.length_cons, List.length_nil, true_and, and_true, Int.cast_ofNat_Int, Int.reduceEq, Int.reduceLT, Int.reduceLE, Nat.zero_le, and_self, or_true, true_or, cdS_168]
      by_cases h3 : x = y
      · rw [if_pos h3, if_neg (fun q => q.2.2 h3)]
        all_goals ((repeat' refine And.intro ?_ ?_) <;> first | trivial | rfl | (unfold mz_w; omega) | omega)
      · rw [if_neg h3, if_pos ⟨h1, h2, h3⟩]
        obtain ⟨a, rfl⟩ := nat_i h1.1
        obtain ⟨b, rfl⟩ := nat_i h2.1
        simp only [Int.toNat_natCast]
        have := nw_loop (mz_up m 153 4 0) (a := a) (b := b) (n := n) (by omega) (by omega) hn (by rw [thr_154]; exact h0) (by rw [thr_154]; exact hw) n 0 (by omega)
        rw [thr_154] at this
        exact this
    · rw [if_neg h2, if_neg (fun q => h2 q.2.1)]
      simp only [vcS0, vcS1, vcS2, vcS3, vcS4, vcS5, vcS6, vc_n0, vc_lk, vc_pop, vc_rc, vc_tsw, vc_fr, vc_ar, vc_tb, mz_nx, List.set_cons_zero, List.set_cons_succ, Nat.reduceAdd, Nat.reduceBEq, Nat.reduceEqDiff, Nat.reduceLeDiff, Nat.reduceLT, Nat.reduceMul, Int.reduceToNat, Bool.false_eq_true, Bool.or_self, Bool.or_true, Bool.true_or, Bool.or_false, reduceIte, Option.toList_some, Option.toList_none, List.nil_append, List.cons_append, List.length_cons, List.length_nil, true_and, and_true, Int.cast_ofNat_Int, Int.reduceEq, Int.reduceLT, Int.reduceLE, Nat.zero_le, and_self, or_true, true_or, cdS_168]
  · rw [if_neg h1, if_neg (fun q => h1 q.1)]
    simp only [vcS0, vcS1, vcS2, vcS3, vcS4, vcS5, vcS6, vc_n0, vc_lk, vc_pop, vc_rc, vc_tsw, vc_fr, vc_ar, vc_tb, mz_nx, List.set_cons_zero, List.set_cons_succ, Nat.reduceAdd, Nat.reduceBEq, Nat.reduceEqDiff, Nat.reduceLeDiff, Nat.reduceLT, Nat.reduceMul, Int.reduceToNat, Bool.false_eq_true, Bool.or_self, Bool.or_true, Bool.true_or, Bool.or_false, reduceIte, Option.toList_some, Option.toList_none, List.nil_append, List.cons_append, List.length_cons, List.length_nil, true_and, and_true, Int.cast_ofNat_Int, Int.reduceEq, Int.reduceLT, Int.reduceLE, Nat.zero_le, and_self, or_true, true_or, cdS_168]
theorem sp_X9_rate (m : mz_M) (z x : Int) : sp 177 [mz_r 9 0 153, mz_i z, mz_i x] m (some (mz_i (if (0 ≤ z ∧ z ≤ 3) ∧ 0 ≤ x ∧ x ≤ 23 then mR (m 154) z.toNat x.toNat else -1))) (mz_up m 153 4 0) := by
  refine mz_cl_vc 40 (fun _ => false) [some (mz_r 9 0 153), some (mz_i z), some (mz_i x)] rfl ?_
  simp only [vcS0, vcS1, vcS2, vcS3, vcS4, vcS5, vcS6, vc_n0, vc_lk, vc_pop, vc_rc, vc_tsw, vc_fr, vc_ar, vc_tb, mz_nx, List.set_cons_zero, List.set_cons_succ, Nat.reduceAdd, Nat.reduceBEq, Nat.reduceEqDiff, Nat.reduceLeDiff, Nat.reduceLT, Nat.reduceMul, Int.reduceToNat, Bool.false_eq_true, Bool.or_self, Bool.or_true, Bool.true_or, Bool.or_false, reduceIte, Option.toList_some, Option.toList_none, List.nil_append, List.cons_append, List.length_cons, List.length_nil, true_and, and_true, Int.cast_ofNat_Int, Int.reduceEq, Int.reduceLT, Int.reduceLE, Nat.zero_le, and_self, or_true, true_or, cdS_177]
  refine ⟨_, _, sp_isZone (mz_up m 153 4 0) z, ?_⟩
  by_cases h1 : 0 ≤ z ∧ z ≤ 3
  · rw [if_pos h1]
    simp only [vcS0, vcS1, vcS2, vcS3, vcS4, vcS5, vcS6, vc_n0, vc_lk, vc_pop, vc_rc, vc_tsw, vc_fr, vc_ar, vc_tb, mz_nx, List.set_cons_zero, List.set_cons_succ, Nat.reduceAdd, Nat.reduceBEq, Nat.reduceEqDiff, Nat.reduceLeDiff, Nat.reduceLT, Nat.reduceMul, Int.reduceToNat, Bool.false_eq_true, Bool.or_self, Bool.or_true, Bool.true_or, Bool.or_false, reduceIte, Option.toList_some, Option.toList_none, List.nil_append, List.cons_append, List.length_cons, List.length_nil, true_and, and_true, Int.cast_ofNat_Int, Int.reduceEq, Int.reduceLT, Int.reduceLE, Nat.zero_le, and_self, or_true, true_or, cdS_177]
    refine ⟨_, _, sp_in (mz_up m 153 4 0) x 0 23, ?_⟩
    by_cases h2 : 0 ≤ x ∧ x ≤ 23
    · rw [if_pos h2, if_pos ⟨h1, h2⟩]
      simp only [vcS0, vcS1, vcS2, vcS3, vcS4, vcS5, vcS6, vc_n0, vc_lk, vc_pop, vc_rc, vc_tsw, vc_fr, vc_ar, vc_tb, mz_nx, List.set_cons_zero, List.set_cons_succ, Nat.reduceAdd, Nat.reduceBEq, Nat.reduceEqDiff, Nat.reduceLeDiff, Nat.reduceLT, Nat.reduceMul, Int.reduceToNat, Bool.false_eq_true, Bool.or_self, Bool.or_true, Bool.true_or, Bool.or_false, reduceIte, Option.toList_some, Option.toList_none, List.nil_append, List.cons_append, List.length_cons, List.length_nil, true_and, and_true, Int.cast_ofNat_Int, Int.reduceEq, Int.reduceLT, Int.reduceLE, Nat.zero_le, and_self, or_true, true_or, cdS_177]
      rw [thr_154, show (233 + 24 * z + x).toNat = 233 + 24 * z.toNat + x.toNat by omega]
      exact ⟨(by unfold mz_w; omega), (by unfold mz_w; omega), (by unfold mz_w; omega), by omega, rfl⟩
    · rw [if_neg h2, if_neg (fun q => h2 q.2)]
      simp only [vcS0, vcS1, vcS2, vcS3, vcS4, vcS5, vcS6, vc_n0, vc_lk, vc_pop, vc_rc, vc_tsw, vc_fr, vc_ar, vc_tb, mz_nx, List.set_cons_zero, List.set_cons_succ, Nat.reduceAdd, Nat.reduceBEq, Nat.reduceEqDiff, Nat.reduceLeDiff, Nat.reduceLT, Nat.reduceMul, Int.reduceToNat, Bool.false_eq_true, Bool.or_self, Bool.or_true, Bool.true_or, Bool.or_false, reduceIte, Option.toList_some, Option.toList_none, List.nil_append, List.cons_append, List.length_cons, List.length_nil, true_and, and_true, Int.cast_ofNat_Int, Int.reduceEq, Int.reduceLT, Int.reduceLE, Nat.zero_le, and_self, or_true, true_or, cdS_177]
  · rw [if_neg h1, if_neg (fun q => h1 q.1)]
    simp only [vcS0, vcS1, vcS2, vcS3, vcS4, vcS5, vcS6, vc_n0, vc_lk, vc_pop, vc_rc, vc_tsw, vc_fr, vc_ar, vc_tb, mz_nx, List.set_cons_zero, List.set_cons_succ, Nat.reduceAdd, Nat.reduceBEq, Nat.reduceEqDiff, Nat.reduceLeDiff, Nat.reduceLT, Nat.reduceMul, Int.reduceToNat, Bool.false_eq_true, Bool.or_self, Bool.or_true, Bool.true_or, Bool.or_false, reduceIte, Option.toList_some, Option.toList_none, List.nil_append, List.cons_append, List.length_cons, List.length_nil, true_and, and_true, Int.cast_ofNat_Int, Int.reduceEq, Int.reduceLT, Int.reduceLE, Nat.zero_le, and_self, or_true, true_or, cdS_177]
theorem sp_X9_setRate (m : mz_M) (z x c : Int) : sp 180 [mz_r 9 0 153, mz_i z, mz_i x, mz_i c] m (some (mz_i (if (0 ≤ z ∧ z ≤ 3) ∧ (0 ≤ x ∧ x ≤ 23) ∧ 0 ≤ c ∧ c ≤ 999 then mR (m 154) z.toNat x.toNat else -1))) (if (0 ≤ z ∧ z ≤ 3) ∧ (0 ≤ x ∧ x ≤ 23) ∧ 0 ≤ c ∧ c ≤ 999 then mz_up (mz_up m 153 4 0) 154 (233 + 24 * z.toNat + x.toNat) c else mz_up m 153 4 0) := by
  refine mz_cl_vc 60 (fun _ => false) [some (mz_r 9 0 153), some (mz_i z), some (mz_i x), some (mz_i c), none] rfl ?_
  simp only [vcS0, vcS1, vcS2, vcS3, vcS4, vcS5, vcS6, vc_n0, vc_lk, vc_pop, vc_rc, vc_tsw, vc_fr, vc_ar, vc_tb, mz_nx, List.set_cons_zero, List.set_cons_succ, Nat.reduceAdd, Nat.reduceBEq, Nat.reduceEqDiff, Nat.reduceLeDiff, Nat.reduceLT, Nat.reduceMul, Int.reduceToNat, Bool.false_eq_true, Bool.or_self, Bool.or_true, Bool.true_or, Bool.or_false, reduceIte, Option.toList_some, Option.toList_none, List.nil_append, List.cons_append, List.length_cons, List.length_nil, true_and, and_true, Int.cast_ofNat_Int, Int.reduceEq, Int.reduceLT, Int.reduceLE, Nat.zero_le, and_self, or_true, true_or, cdS_180]
  refine ⟨_, _, sp_isZone (mz_up m 153 4 0) z, ?_⟩
  by_cases h1 : 0 ≤ z ∧ z ≤ 3
  · rw [if_pos h1]
    simp only [vcS0, vcS1, vcS2, vcS3, vcS4, vcS5, vcS6, vc_n0, vc_lk, vc_pop, vc_rc, vc_tsw, vc_fr, vc_ar, vc_tb, mz_nx, List.set_cons_zero, List.set_cons_succ, Nat.reduceAdd, Nat.reduceBEq, Nat.reduceEqDiff, Nat.reduceLeDiff, Nat.reduceLT, Nat.reduceMul, Int.reduceToNat, Bool.false_eq_true, Bool.or_self, Bool.or_true, Bool.true_or, Bool.or_false, reduceIte, Option.toList_some, Option.toList_none, List.nil_append, List.cons_append, List.length_cons, List.length_nil, true_and, and_true, Int.cast_ofNat_Int, Int.reduceEq, Int.reduceLT, Int.reduceLE, Nat.zero_le, and_self, or_true, true_or, cdS_180]
    refine ⟨_, _, sp_in (mz_up m 153 4 0) x 0 23, ?_⟩
    by_cases h2 : 0 ≤ x ∧ x ≤ 23
    · rw [if_pos h2]
      simp only [vcS0, vcS1, vcS2, vcS3, vcS4, vcS5, vcS6, vc_n0, vc_lk, vc_pop, vc_rc, vc_tsw, vc_fr, vc_ar, vc_tb, mz_nx, List.set_cons_zero, List.set_cons_succ, Nat.reduceAdd, Nat.reduceBEq, Nat.reduceEqDiff, Nat.reduceLeDiff, Nat.reduceLT, Nat.reduceMul, Int.reduceToNat, Bool.false_eq_true, Bool.or_self, Bool.or_true, Bool.true_or, Bool.or_false, reduceIte, Option.toList_some, Option.toList_none, List.nil_append, List.cons_append, List.length_cons, List.length_nil, true_and, and_true, Int.cast_ofNat_Int, Int.reduceEq, Int.reduceLT, Int.reduceLE, Nat.zero_le, and_self, or_true, true_or, cdS_180]
      refine ⟨_, _, sp_in (mz_up m 153 4 0) c 0 999, ?_⟩
      by_cases h3 : 0 ≤ c ∧ c ≤ 999
      · rw [if_pos h3, if_pos ⟨h1, h2, h3⟩, if_pos ⟨h1, h2, h3⟩]
        simp only [vcS0, vcS1, vcS2, vcS3, vcS4, vcS5, vcS6, vc_n0, vc_lk, vc_pop, vc_rc, vc_tsw, vc_fr, vc_ar, vc_tb, mz_nx, List.set_cons_zero, List.set_cons_succ, Nat.reduceAdd, Nat.reduceBEq, Nat.reduceEqDiff, Nat.reduceLeDiff, Nat.reduceLT, Nat.reduceMul, Int.reduceToNat, Bool.false_eq_true, Bool.or_self, Bool.or_true, Bool.true_or, Bool.or_false, reduceIte, Option.toList_some, Option.toList_none, List.nil_append, List.cons_append, List.length_cons, List.length_nil, true_and, and_true, Int.cast_ofNat_Int, Int.reduceEq, Int.reduceLT, Int.reduceLE, Nat.zero_le, and_self, or_true, true_or, cdS_180]
        rw [thr_154, show (233 + 24 * z + x).toNat = 233 + 24 * z.toNat + x.toNat by omega]
        exact ⟨(by unfold mz_w; omega), (by unfold mz_w; omega), (by unfold mz_w; omega), by omega, (by unfold mz_w; omega), (by unfold mz_w; omega), (by unfold mz_w; omega), by omega, rfl, rfl⟩
      · rw [if_neg h3, if_neg (fun q => h3 q.2.2), if_neg (fun q => h3 q.2.2)]
        simp only [vcS0, vcS1, vcS2, vcS3, vcS4, vcS5, vcS6, vc_n0, vc_lk, vc_pop, vc_rc, vc_tsw, vc_fr, vc_ar, vc_tb, mz_nx, List.set_cons_zero, List.set_cons_succ, Nat.reduceAdd, Nat.reduceBEq, Nat.reduceEqDiff, Nat.reduceLeDiff, Nat.reduceLT, Nat.reduceMul, Int.reduceToNat, Bool.false_eq_true, Bool.or_self, Bool.or_true, Bool.true_or, Bool.or_false, reduceIte, Option.toList_some, Option.toList_none, List.nil_append, List.cons_append, List.length_cons, List.length_nil, true_and, and_true, Int.cast_ofNat_Int, Int.reduceEq, Int.reduceLT, Int.reduceLE, Nat.zero_le, and_self, or_true, true_or, cdS_180]
    · rw [if_neg h2, if_neg (fun q => h2 q.2.1), if_neg (fun q => h2 q.2.1)]
      simp only [vcS0, vcS1, vcS2, vcS3, vcS4, vcS5, vcS6, vc_n0, vc_lk, vc_pop, vc_rc, vc_tsw, vc_fr, vc_ar, vc_tb, mz_nx, List.set_cons_zero, List.set_cons_succ, Nat.reduceAdd, Nat.reduceBEq, Nat.reduceEqDiff, Nat.reduceLeDiff, Nat.reduceLT, Nat.reduceMul, Int.reduceToNat, Bool.false_eq_true, Bool.or_self, Bool.or_true, Bool.true_or, Bool.or_false, reduceIte, Option.toList_some, Option.toList_none, List.nil_append, List.cons_append, List.length_cons, List.length_nil, true_and, and_true, Int.cast_ofNat_Int, Int.reduceEq, Int.reduceLT, Int.reduceLE, Nat.zero_le, and_self, or_true, true_or, cdS_180]
  · rw [if_neg h1, if_neg (fun q => h1 q.1), if_neg (fun q => h1 q.1)]
    simp only [vcS0, vcS1, vcS2, vcS3, vcS4, vcS5, vcS6, vc_n0, vc_lk, vc_pop, vc_rc, vc_tsw, vc_fr, vc_ar, vc_tb, mz_nx, List.set_cons_zero, List.set_cons_succ, Nat.reduceAdd, Nat.reduceBEq, Nat.reduceEqDiff, Nat.reduceLeDiff, Nat.reduceLT, Nat.reduceMul, Int.reduceToNat, Bool.false_eq_true, Bool.or_self, Bool.or_true, Bool.true_or, Bool.or_false, reduceIte, Option.toList_some, Option.toList_none, List.nil_append, List.cons_append, List.length_cons, List.length_nil, true_and, and_true, Int.cast_ofNat_Int, Int.reduceEq, Int.reduceLT, Int.reduceLE, Nat.zero_le, and_self, or_true, true_or, cdS_180]
def mPs (V : Nat → Int) (p e : Int) (c : Nat) : Bool := decide (mc V c 0 = 1 ∧ mc V c 1 = p ∧ mc V c 2 ≤ e)
theorem ps_loop (m : mz_M) {p x : Int} (hx : 0 ≤ x ∧ x ≤ 600) (ht : 0 ≤ m 154 2 ∧ m 154 2 < 20000) : ∀ (r j : Nat) (y : Option mz_V), j + r = 16 → sx 172 18 [some (mz_r 9 0 153), some (mz_i p), some (mz_i x), some (mz_i (bs (mPs (m 154) p (m 154 2 + x)) j)), some (mz_i j), y] [] m (some (mz_i (bs (mPs (m 154) p (m 154 2 + x)) 16))) m := by
  intro r
  induction r with
  | zero =>
    intro j y hj
    obtain rfl : j = 16 := by omega
    refine mz_vc_ok 60 (ct := fun i => i == 18) ?_
    simp only [vcS0, vcS1, vcS2, vcS3, vcS4, vcS5, vcS6, vc_n0, vc_lk, vc_pop, vc_rc, vc_tsw, vc_fr, vc_ar, vc_tb, mz_nx, List.set_cons_zero, List.set_cons_succ, Nat.reduceAdd, Nat.reduceBEq, Nat.reduceEqDiff, Nat.reduceLeDiff, Nat.reduceLT, Nat.reduceMul, Int.reduceToNat, Bool.false_eq_true, Bool.or_self, Bool.or_true, Bool.true_or, Bool.or_false, reduceIte, Option.toList_some, Option.toList_none, List.nil_append, List.cons_append, List.length_cons, List.length_nil, true_and, and_true, Int.cast_ofNat_Int, Int.reduceEq, Int.reduceLT, Int.reduceLE, Nat.zero_le, and_self, or_true, true_or, cdS_172]
  | succ r ih =>
    intro j y hj
    have hk := fun y => ih (j + 1) y (by omega)
    simp only [bs] at hk
    have hlt := bs_lt (mPs (m 154) p (m 154 2 + x)) j
    have hp := Nat.pow_lt_pow_right (a := 2) (by omega) (show j < 16 by omega)
    have no : ¬ mPs (m 154) p (m 154 2 + x) j = true → ∀ y, sx 172 56 [some (mz_r 9 0 153), some (mz_i p), some (mz_i x), some (mz_i (bs (mPs (m 154) p (m 154 2 + x)) j)), some (mz_i j), y] [mz_i 0, mz_i (bs (mPs (m 154) p (m 154 2 + x)) j)] m (some (mz_i (bs (mPs (m 154) p (m 154 2 + x)) 16))) m := by
      intro hn y
      refine mz_vc_ok 60 (ct := fun i => i == 18) ?_
      simp only [vcS0, vcS1, vcS2, vcS3, vcS4, vcS5, vcS6, vc_n0, vc_lk, vc_pop, vc_rc, vc_tsw, vc_fr, vc_ar, vc_tb, mz_nx, List.set_cons_zero, List.set_cons_succ, Nat.reduceAdd, Nat.reduceBEq, Nat.reduceEqDiff, Nat.reduceLeDiff, Nat.reduceLT, Nat.reduceMul, Int.reduceToNat, Bool.false_eq_true, Bool.or_self, Bool.or_true, Bool.true_or, Bool.or_false, reduceIte, Option.toList_some, Option.toList_none, List.nil_append, List.cons_append, List.length_cons, List.length_nil, true_and, and_true, Int.cast_ofNat_Int, Int.reduceEq, Int.reduceLT, Int.reduceLE, Nat.zero_le, and_self, or_true, true_or, cdS_172]
      rw [show (0 : Int) = ((0 : Nat) : Int) from rfl, or_n (by omega) (by omega), Nat.or_zero]
      have hk' := hk y
      rw [if_neg hn] at hk'
      exact ⟨(by unfold mz_w; omega), hk'⟩
    refine mz_vc_ok 60 (ct := fun i => i == 18 || i == 56) ?_
    simp only [vcS0, vcS1, vcS2, vcS3, vcS4, vcS5, vcS6, vc_n0, vc_lk, vc_pop, vc_rc, vc_tsw, vc_fr, vc_ar, vc_tb, mz_nx, List.set_cons_zero, List.set_cons_succ, Nat.reduceAdd, Nat.reduceBEq, Nat.reduceEqDiff, Nat.reduceLeDiff, Nat.reduceLT, Nat.reduceMul, Int.reduceToNat, Bool.false_eq_true, Bool.or_self, Bool.or_true, Bool.true_or, Bool.or_false, reduceIte, Option.toList_some, Option.toList_none, List.nil_append, List.cons_append, List.length_cons, List.length_nil, true_and, and_true, Int.cast_ofNat_Int, Int.reduceEq, Int.reduceLT, Int.reduceLE, Nat.zero_le, and_self, or_true, true_or, cdS_172]
    rw [if_pos (by omega)]
    refine ⟨_, _, sp_of0 m (by omega), ?_⟩
    simp only [vcS0, vcS1, vcS2, vcS3, vcS4, vcS5, vcS6, vc_n0, vc_lk, vc_pop, vc_rc, vc_tsw, vc_fr, vc_ar, vc_tb, mz_nx, List.set_cons_zero, List.set_cons_succ, Nat.reduceAdd, Nat.reduceBEq, Nat.reduceEqDiff, Nat.reduceLeDiff, Nat.reduceLT, Nat.reduceMul, Int.reduceToNat, Bool.false_eq_true, Bool.or_self, Bool.or_true, Bool.true_or, Bool.or_false, reduceIte, Option.toList_some, Option.toList_none, List.nil_append, List.cons_append, List.length_cons, List.length_nil, true_and, and_true, Int.cast_ofNat_Int, Int.reduceEq, Int.reduceLT, Int.reduceLE, Nat.zero_le, and_self, or_true, true_or, cdS_172]
    by_cases h1 : mc (m 154) j 0 = 1
    · rw [if_pos h1]
      refine ⟨_, _, sp_of1 m (by omega), ?_⟩
      simp only [vcS0, vcS1, vcS2, vcS3, vcS4, vcS5, vcS6, vc_n0, vc_lk, vc_pop, vc_rc, vc_tsw, vc_fr, vc_ar, vc_tb, mz_nx, List.set_cons_zero, List.set_cons_succ, Nat.reduceAdd, Nat.reduceBEq, Nat.reduceEqDiff, Nat.reduceLeDiff, Nat.reduceLT, Nat.reduceMul, Int.reduceToNat, Bool.false_eq_true, Bool.or_self, Bool.or_true, Bool.true_or, Bool.or_false, reduceIte, Option.toList_some, Option.toList_none, List.nil_append, List.cons_append, List.length_cons, List.length_nil, true_and, and_true, Int.cast_ofNat_Int, Int.reduceEq, Int.reduceLT, Int.reduceLE, Nat.zero_le, and_self, or_true, true_or, cdS_172]
      by_cases h2 : mc (m 154) j 1 = p
      · rw [if_pos h2]
        refine ⟨_, _, sp_of2 m (by omega), ?_⟩
        simp only [vcS0, vcS1, vcS2, vcS3, vcS4, vcS5, vcS6, vc_n0, vc_lk, vc_pop, vc_rc, vc_tsw, vc_fr, vc_ar, vc_tb, mz_nx, List.set_cons_zero, List.set_cons_succ, Nat.reduceAdd, Nat.reduceBEq, Nat.reduceEqDiff, Nat.reduceLeDiff, Nat.reduceLT, Nat.reduceMul, Int.reduceToNat, Bool.false_eq_true, Bool.or_self, Bool.or_true, Bool.true_or, Bool.or_false, reduceIte, Option.toList_some, Option.toList_none, List.nil_append, List.cons_append, List.length_cons, List.length_nil, true_and, and_true, Int.cast_ofNat_Int, Int.reduceEq, Int.reduceLT, Int.reduceLE, Nat.zero_le, and_self, or_true, true_or, cdS_172]
        refine ⟨(by unfold mz_w; omega), ?_⟩
        by_cases h3 : mc (m 154) j 2 ≤ m 154 2 + x
        · rw [if_pos h3]
          have hk' := hk (some (mz_i 1))
          rw [if_pos (show mPs (m 154) p (m 154 2 + x) j = true by unfold mPs; rw [decide_eq_true_eq]; exact ⟨h1, h2, h3⟩)] at hk'
          have := no
          refine mz_vc_ok 60 (ct := fun i => i == 18) ?_
          simp only [vcS0, vcS1, vcS2, vcS3, vcS4, vcS5, vcS6, vc_n0, vc_lk, vc_pop, vc_rc, vc_tsw, vc_fr, vc_ar, vc_tb, mz_nx, List.set_cons_zero, List.set_cons_succ, Nat.reduceAdd, Nat.reduceBEq, Nat.reduceEqDiff, Nat.reduceLeDiff, Nat.reduceLT, Nat.reduceMul, Int.reduceToNat, Bool.false_eq_true, Bool.or_self, Bool.or_true, Bool.true_or, Bool.or_false, reduceIte, Option.toList_some, Option.toList_none, List.nil_append, List.cons_append, List.length_cons, List.length_nil, true_and, and_true, Int.cast_ofNat_Int, Int.reduceEq, Int.reduceLT, Int.reduceLE, Nat.zero_le, and_self, or_true, true_or, cdS_172]
          rw [show (1 : Int) = ((1 : Nat) : Int) from rfl]
          rw [← bs_or _ (by omega)] at hk'
          exact ⟨(by unfold mz_w; omega), hk'⟩
        · rw [if_neg h3]
          exact no (by unfold mPs; rw [decide_eq_true_eq]; exact fun q => h3 q.2.2) _
      · rw [if_neg h2]
        exact no (by unfold mPs; rw [decide_eq_true_eq]; exact fun q => h2 q.2.1) _
    · rw [if_neg h1]
      exact no (by unfold mPs; rw [decide_eq_true_eq]; exact fun q => h1 q.1) _
theorem sp_X9_paidSoon (m : mz_M) (x y : Int) (h : plN' (m 154)) (ht : 0 ≤ m 154 2 ∧ m 154 2 < 20000) : sp 172 [mz_r 9 0 153, mz_i x, mz_i y] m (some (mz_i (if (0 ≤ x ∧ x < m 154 0) ∧ 0 ≤ y ∧ y ≤ 600 then (bs (mPs (m 154) x (m 154 2 + y)) 16 : Int) else -1))) (mz_up m 153 4 0) := by
  refine mz_cl_vc 40 (fun i => i == 18) [some (mz_r 9 0 153), some (mz_i x), some (mz_i y), none, none, none] rfl ?_
  simp only [vcS0, vcS1, vcS2, vcS3, vcS4, vcS5, vcS6, vc_n0, vc_lk, vc_pop, vc_rc, vc_tsw, vc_fr, vc_ar, vc_tb, mz_nx, List.set_cons_zero, List.set_cons_succ, Nat.reduceAdd, Nat.reduceBEq, Nat.reduceEqDiff, Nat.reduceLeDiff, Nat.reduceLT, Nat.reduceMul, Int.reduceToNat, Bool.false_eq_true, Bool.or_self, Bool.or_true, Bool.true_or, Bool.or_false, reduceIte, Option.toList_some, Option.toList_none, List.nil_append, List.cons_append, List.length_cons, List.length_nil, true_and, and_true, Int.cast_ofNat_Int, Int.reduceEq, Int.reduceLT, Int.reduceLE, Nat.zero_le, and_self, or_true, true_or, cdS_172]
  refine ⟨_, _, sp_isPlT m x h, ?_⟩
  by_cases h1 : 0 ≤ x ∧ x < m 154 0
  · rw [if_pos h1]
    simp only [vcS0, vcS1, vcS2, vcS3, vcS4, vcS5, vcS6, vc_n0, vc_lk, vc_pop, vc_rc, vc_tsw, vc_fr, vc_ar, vc_tb, mz_nx, List.set_cons_zero, List.set_cons_succ, Nat.reduceAdd, Nat.reduceBEq, Nat.reduceEqDiff, Nat.reduceLeDiff, Nat.reduceLT, Nat.reduceMul, Int.reduceToNat, Bool.false_eq_true, Bool.or_self, Bool.or_true, Bool.true_or, Bool.or_false, reduceIte, Option.toList_some, Option.toList_none, List.nil_append, List.cons_append, List.length_cons, List.length_nil, true_and, and_true, Int.cast_ofNat_Int, Int.reduceEq, Int.reduceLT, Int.reduceLE, Nat.zero_le, and_self, or_true, true_or, cdS_172]
    refine ⟨_, _, sp_in (mz_up m 153 4 0) y 0 600, ?_⟩
    by_cases h2 : 0 ≤ y ∧ y ≤ 600
    · rw [if_pos h2, if_pos ⟨h1, h2⟩]
      simp only [vcS0, vcS1, vcS2, vcS3, vcS4, vcS5, vcS6, vc_n0, vc_lk, vc_pop, vc_rc, vc_tsw, vc_fr, vc_ar, vc_tb, mz_nx, List.set_cons_zero, List.set_cons_succ, Nat.reduceAdd, Nat.reduceBEq, Nat.reduceEqDiff, Nat.reduceLeDiff, Nat.reduceLT, Nat.reduceMul, Int.reduceToNat, Bool.false_eq_true, Bool.or_self, Bool.or_true, Bool.true_or, Bool.or_false, reduceIte, Option.toList_some, Option.toList_none, List.nil_append, List.cons_append, List.length_cons, List.length_nil, true_and, and_true, Int.cast_ofNat_Int, Int.reduceEq, Int.reduceLT, Int.reduceLE, Nat.zero_le, and_self, or_true, true_or, cdS_172]
      have := ps_loop (mz_up m 153 4 0) (p := x) h2 (by rw [thr_154]; exact ht) 16 0 none rfl
      rw [thr_154] at this
      exact this
    · rw [if_neg h2, if_neg (fun q => h2 q.2)]
      simp only [vcS0, vcS1, vcS2, vcS3, vcS4, vcS5, vcS6, vc_n0, vc_lk, vc_pop, vc_rc, vc_tsw, vc_fr, vc_ar, vc_tb, mz_nx, List.set_cons_zero, List.set_cons_succ, Nat.reduceAdd, Nat.reduceBEq, Nat.reduceEqDiff, Nat.reduceLeDiff, Nat.reduceLT, Nat.reduceMul, Int.reduceToNat, Bool.false_eq_true, Bool.or_self, Bool.or_true, Bool.true_or, Bool.or_false, reduceIte, Option.toList_some, Option.toList_none, List.nil_append, List.cons_append, List.length_cons, List.length_nil, true_and, and_true, Int.cast_ofNat_Int, Int.reduceEq, Int.reduceLT, Int.reduceLE, Nat.zero_le, and_self, or_true, true_or, cdS_172]
  · rw [if_neg h1, if_neg (fun q => h1 q.1)]
    simp only [vcS0, vcS1, vcS2, vcS3, vcS4, vcS5, vcS6, vc_n0, vc_lk, vc_pop, vc_rc, vc_tsw, vc_fr, vc_ar, vc_tb, mz_nx, List.set_cons_zero, List.set_cons_succ, Nat.reduceAdd, Nat.reduceBEq, Nat.reduceEqDiff, Nat.reduceLeDiff, Nat.reduceLT, Nat.reduceMul, Int.reduceToNat, Bool.false_eq_true, Bool.or_self, Bool.or_true, Bool.true_or, Bool.or_false, reduceIte, Option.toList_some, Option.toList_none, List.nil_append, List.cons_append, List.length_cons, List.length_nil, true_and, and_true, Int.cast_ofNat_Int, Int.reduceEq, Int.reduceLT, Int.reduceLE, Nat.zero_le, and_self, or_true, true_or, cdS_172]
