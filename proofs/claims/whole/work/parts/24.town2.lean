def fsP (m : mz_M) (w f t p : Nat) : Prop := m (w + 4) (10 * f + p) + m (w + 5) (10 * p + t) = m (w + 5) (10 * f + t)
theorem fs_loop (m : mz_M) {w f t n : Nat} (hf : f < 10) (ht : t < 10) (hn : n ≤ 10) (h0 : m w 0 = n) (hR : fwO (m (w + 4))) (hW : fwO (m (w + 5))) (hlt : m (w + 5) (10 * f + t) < 1000000) : ∀ (r j : Nat), j + r = n → sx 135 7 [some (mz_r 4 0 w), some (mz_i f), some (mz_i t), some (mz_i (m (w + 5) (10 * f + t))), some (mz_i j)] [] m (some (mz_i (opI (-1) (fst1 (fun p => m (w + 4) (10 * f + p) + m (w + 5) (10 * p + t) = m (w + 5) (10 * f + t)) r j)))) m := by
  intro r
  induction r with
  | zero =>
    intro j hj
    refine mz_vc_ok 60 (ct := fun i => i == 7) ?_
    simp only [vcS0, vcS1, vcS2, vcS3, vcS4, vcS5, vcS6, vc_n0, vc_lk, vc_pop, vc_rc, vc_tsw, vc_fr, vc_ar, vc_tb, mz_nx, List.set_cons_zero, List.set_cons_succ, Nat.reduceAdd, Nat.reduceBEq, Nat.reduceEqDiff, Nat.reduceLeDiff, Nat.reduceLT, Nat.reduceMul, Int.reduceToNat, Bool.false_eq_true, Bool.or_self, Bool.or_true, Bool.true_or, Bool.or_false, reduceIte, Option.toList_some, Option.toList_none, List.nil_append, List.cons_append, List.length_cons, List.length_nil, true_and, and_true, Int.cast_ofNat_Int, Int.reduceEq, Int.reduceLT, Int.reduceLE, Nat.zero_le, and_self, or_true, true_or, cdS_135]
    rw [if_neg (by omega)]
    rfl
  | succ r ih =>
    intro j hj
    have h1 := hR (10 * f + j) (by omega)
    have h2 := hW (10 * j + t) (by omega)
    have hk := ih (j + 1) (by omega)
    refine mz_vc_ok 60 (ct := fun i => i == 7) ?_
    simp only [vcS0, vcS1, vcS2, vcS3, vcS4, vcS5, vcS6, vc_n0, vc_lk, vc_pop, vc_rc, vc_tsw, vc_fr, vc_ar, vc_tb, mz_nx, List.set_cons_zero, List.set_cons_succ, Nat.reduceAdd, Nat.reduceBEq, Nat.reduceEqDiff, Nat.reduceLeDiff, Nat.reduceLT, Nat.reduceMul, Int.reduceToNat, Bool.false_eq_true, Bool.or_self, Bool.or_true, Bool.true_or, Bool.or_false, reduceIte, Option.toList_some, Option.toList_none, List.nil_append, List.cons_append, List.length_cons, List.length_nil, true_and, and_true, Int.cast_ofNat_Int, Int.reduceEq, Int.reduceLT, Int.reduceLE, Nat.zero_le, and_self, or_true, true_or, cdS_135]
    rw [if_pos (by omega), if_pos hlt, show (f : Int) * 10 + j = ((10 * f + j : Nat) : Int) by omega]
    refine ⟨(by unfold mz_w; omega), (by unfold mz_w; omega), ?_⟩
    refine ⟨_, _, sp_atN m (by omega), ?_⟩
    simp only [vcS0, vcS1, vcS2, vcS3, vcS4, vcS5, vcS6, vc_n0, vc_lk, vc_pop, vc_rc, vc_tsw, vc_fr, vc_ar, vc_tb, mz_nx, List.set_cons_zero, List.set_cons_succ, Nat.reduceAdd, Nat.reduceBEq, Nat.reduceEqDiff, Nat.reduceLeDiff, Nat.reduceLT, Nat.reduceMul, Int.reduceToNat, Bool.false_eq_true, Bool.or_self, Bool.or_true, Bool.true_or, Bool.or_false, reduceIte, Option.toList_some, Option.toList_none, List.nil_append, List.cons_append, List.length_cons, List.length_nil, true_and, and_true, Int.cast_ofNat_Int, Int.reduceEq, Int.reduceLT, Int.reduceLE, Nat.zero_le, and_self, or_true, true_or, cdS_135]
    refine ⟨_, _, sp_way m (by omega) ht, ?_⟩
    simp only [vcS0, vcS1, vcS2, vcS3, vcS4, vcS5, vcS6, vc_n0, vc_lk, vc_pop, vc_rc, vc_tsw, vc_fr, vc_ar, vc_tb, mz_nx, List.set_cons_zero, List.set_cons_succ, Nat.reduceAdd, Nat.reduceBEq, Nat.reduceEqDiff, Nat.reduceLeDiff, Nat.reduceLT, Nat.reduceMul, Int.reduceToNat, Bool.false_eq_true, Bool.or_self, Bool.or_true, Bool.true_or, Bool.or_false, reduceIte, Option.toList_some, Option.toList_none, List.nil_append, List.cons_append, List.length_cons, List.length_nil, true_and, and_true, Int.cast_ofNat_Int, Int.reduceEq, Int.reduceLT, Int.reduceLE, Nat.zero_le, and_self, or_true, true_or, cdS_135]
    refine ⟨(by unfold mz_w; omega), ?_⟩
    unfold fst1
    by_cases he : m (w + 4) (10 * f + j) + m (w + 5) (10 * j + t) = m (w + 5) (10 * f + t)
    · simp only [he, if_true, opI]
    · simp only [he, if_false]
      exact ⟨(by unfold mz_w; omega), hk⟩
def fsR (m : mz_M) (w f t n : Nat) : Option Nat := if m (w + 5) (10 * f + t) < 1000000 then fst1 (fun p => m (w + 4) (10 * f + p) + m (w + 5) (10 * p + t) = m (w + 5) (10 * f + t)) n 0 else none
theorem sp_firstStep (m : mz_M) {w f t n : Nat} (hf : f < 10) (ht : t < 10) (hn : n ≤ 10) (h0 : m w 0 = n) (hR : fwO (m (w + 4))) (hW : fwO (m (w + 5))) : sp 135 [mz_r 4 0 w, mz_i f, mz_i t] m (some (mz_i (opI (-1) (fsR m w f t n)))) m := by
  refine mz_cl_vc 60 (fun i => i == 7) [some (mz_r 4 0 w), some (mz_i f), some (mz_i t), none, none] rfl ?_
  simp only [vcS0, vcS1, vcS2, vcS3, vcS4, vcS5, vcS6, vc_n0, vc_lk, vc_pop, vc_rc, vc_tsw, vc_fr, vc_ar, vc_tb, mz_nx, List.set_cons_zero, List.set_cons_succ, Nat.reduceAdd, Nat.reduceBEq, Nat.reduceEqDiff, Nat.reduceLeDiff, Nat.reduceLT, Nat.reduceMul, Int.reduceToNat, Bool.false_eq_true, Bool.or_self, Bool.or_true, Bool.true_or, Bool.or_false, reduceIte, Option.toList_some, Option.toList_none, List.nil_append, List.cons_append, List.length_cons, List.length_nil, true_and, and_true, Int.cast_ofNat_Int, Int.reduceEq, Int.reduceLT, Int.reduceLE, Nat.zero_le, and_self, or_true, true_or, cdS_135]
  refine ⟨_, _, sp_way m hf ht, ?_⟩
  simp only [vcS0, vcS1, vcS2, vcS3, vcS4, vcS5, vcS6, vc_n0, vc_lk, vc_pop, vc_rc, vc_tsw, vc_fr, vc_ar, vc_tb, mz_nx, List.set_cons_zero, List.set_cons_succ, Nat.reduceAdd, Nat.reduceBEq, Nat.reduceEqDiff, Nat.reduceLeDiff, Nat.reduceLT, Nat.reduceMul, Int.reduceToNat, Bool.false_eq_true, Bool.or_self, Bool.or_true, Bool.true_or, Bool.or_false, reduceIte, Option.toList_some, Option.toList_none, List.nil_append, List.cons_append, List.length_cons, List.length_nil, true_and, and_true, Int.cast_ofNat_Int, Int.reduceEq, Int.reduceLT, Int.reduceLE, Nat.zero_le, and_self, or_true, true_or, cdS_135]
  unfold fsR
  by_cases hlt : m (w + 5) (10 * f + t) < 1000000
  · rw [if_pos hlt]
    exact fs_loop m hf ht hn h0 hR hW hlt n 0 (by omega)
  · rw [if_neg hlt]
    refine mz_vc_ok 60 (ct := fun i => i == 7) ?_
    simp only [vcS0, vcS1, vcS2, vcS3, vcS4, vcS5, vcS6, vc_n0, vc_lk, vc_pop, vc_rc, vc_tsw, vc_fr, vc_ar, vc_tb, mz_nx, List.set_cons_zero, List.set_cons_succ, Nat.reduceAdd, Nat.reduceBEq, Nat.reduceEqDiff, Nat.reduceLeDiff, Nat.reduceLT, Nat.reduceMul, Int.reduceToNat, Bool.false_eq_true, Bool.or_self, Bool.or_true, Bool.true_or, Bool.or_false, reduceIte, Option.toList_some, Option.toList_none, List.nil_append, List.cons_append, List.length_cons, List.length_nil, true_and, and_true, Int.cast_ofNat_Int, Int.reduceEq, Int.reduceLT, Int.reduceLE, Nat.zero_le, and_self, or_true, true_or, cdS_135]
    rw [if_neg hlt]
    split <;> rfl
