theorem s00_eq (m : mz_M) (r : Nat) : mz_up (mz_up (mz_up (tC (r + 1) m) r 3 0) r 6 0) r 7 0 = rsT (tC (r + 1) m) r (s00 (m r 4) (m r 5)) := by
  have e : ∀ j, tC (r + 1) m r j = m r j := fun j => tC_o (by omega)
  funext a j
  unfold rsT rs mz_up s00 nS wS' eS aS
  by_cases ha : a = r
  · subst ha
    have e4 := e 4
    have e5 := e 5
    simp only [true_and, if_true]
    grind
  · simp only [ha, false_and, if_false]
set_option maxRecDepth 8000 in
theorem sp_readBuffer (m : mz_M) {r L : Nat} (h : byO m r L) : sp 287 [mz_r 5 0 r] m none (rbF m r L) := by
  have hA := rbA_ok h
  have hb : byO (tC (r + 1) m) r L := by
    refine ⟨⟨?_, h.1.2⟩, fun i hi => ?_⟩
    · rw [tC_o (by omega)]; exact h.1.1
    · rw [tC_o (by omega)]; exact h.2 i hi
  refine mz_cl_vc 60 (fun i => i == 18) [some (mz_r 5 0 r), none] rfl ?_
  simp only [vcS0, vcS1, vcS2, vcS3, vcS4, vcS5, vcS6, vc_n0, vc_lk, vc_pop, vc_rc, vc_tsw, vc_fr, vc_ar, vc_tb, mz_nx, List.set_cons_zero, List.set_cons_succ, Nat.reduceAdd, Nat.reduceBEq, Nat.reduceEqDiff, Nat.reduceLeDiff, Nat.reduceLT, Nat.reduceMul, Int.reduceToNat, Bool.false_eq_true, Bool.or_self, Bool.or_true, Bool.true_or, Bool.or_false, reduceIte, Option.toList_some, Option.toList_none, List.nil_append, List.cons_append, List.length_cons, List.length_nil, true_and, and_true, Int.cast_ofNat_Int, Int.reduceEq, Int.reduceLT, Int.reduceLE, Nat.zero_le, and_self, or_true, true_or, cdS_287]
  refine ⟨_, _, sp_tclear m (r + 1), ?_⟩
  simp only [vcS0, vcS1, vcS2, vcS3, vcS4, vcS5, vcS6, vc_n0, vc_lk, vc_pop, vc_rc, vc_tsw, vc_fr, vc_ar, vc_tb, mz_nx, List.set_cons_zero, List.set_cons_succ, Nat.reduceAdd, Nat.reduceBEq, Nat.reduceEqDiff, Nat.reduceLeDiff, Nat.reduceLT, Nat.reduceMul, Int.reduceToNat, Bool.false_eq_true, Bool.or_self, Bool.or_true, Bool.true_or, Bool.or_false, reduceIte, Option.toList_some, Option.toList_none, List.nil_append, List.cons_append, List.length_cons, List.length_nil, true_and, and_true, Int.cast_ofNat_Int, Int.reduceEq, Int.reduceLT, Int.reduceLE, Nat.zero_le, and_self, or_true, true_or, cdS_287]
  rw [s00_eq]
  refine ⟨_, _, sp_placesT _ _ hb (Nat.zero_le _), ?_⟩
  simp only [vcS0, vcS1, vcS2, vcS3, vcS4, vcS5, vcS6, vc_n0, vc_lk, vc_pop, vc_rc, vc_tsw, vc_fr, vc_ar, vc_tb, mz_nx, List.set_cons_zero, List.set_cons_succ, Nat.reduceAdd, Nat.reduceBEq, Nat.reduceEqDiff, Nat.reduceLeDiff, Nat.reduceLT, Nat.reduceMul, Int.reduceToNat, Bool.false_eq_true, Bool.or_self, Bool.or_true, Bool.true_or, Bool.or_false, reduceIte, Option.toList_some, Option.toList_none, List.nil_append, List.cons_append, List.length_cons, List.length_nil, true_and, and_true, Int.cast_ofNat_Int, Int.reduceEq, Int.reduceLT, Int.reduceLE, Nat.zero_le, and_self, or_true, true_or, cdS_287]
  change _
  have e : plR (tC (r + 1) m) r L (s00 (m r 4) (m r 5)) = rbA m r L := rfl
  rw [e]
  have h16 : (rbA m r L).1 (r + 16) = m (r + 16) := by funext j; exact hA.1.2 _ _ (by omega)
  have h4 := sp_skipT (rbA m r L).1 (rbA m r L).2 hA.1.1.1.1
  rw [h16] at h4
  refine ⟨_, _, h4, ?_⟩
  simp only [vcS0, vcS1, vcS2, vcS3, vcS4, vcS5, vcS6, vc_n0, vc_lk, vc_pop, vc_rc, vc_tsw, vc_fr, vc_ar, vc_tb, mz_nx, List.set_cons_zero, List.set_cons_succ, Nat.reduceAdd, Nat.reduceBEq, Nat.reduceEqDiff, Nat.reduceLeDiff, Nat.reduceLT, Nat.reduceMul, Int.reduceToNat, Bool.false_eq_true, Bool.or_self, Bool.or_true, Bool.true_or, Bool.or_false, reduceIte, Option.toList_some, Option.toList_none, List.nil_append, List.cons_append, List.length_cons, List.length_nil, true_and, and_true, Int.cast_ofNat_Int, Int.reduceEq, Int.reduceLT, Int.reduceLE, Nat.zero_le, and_self, or_true, true_or, cdS_287]
  refine rb_loop _ _ 600 0 (rbA m r L).1 (spS (m (r + 16)) L (rbA m r L).2) (by omega) hA.1.1 (sk_le hA.2).2 ?_
  intro hh v
  rw [show rbL r L 600 (rbA m r L).1 (spS (m (r + 16)) L (rbA m r L).2) = rbB m r L from rfl] at hh ⊢
  refine mz_vc_ok 60 (ct := fun i => i == 18) ?_
  simp only [vcS0, vcS1, vcS2, vcS3, vcS4, vcS5, vcS6, vc_n0, vc_lk, vc_pop, vc_rc, vc_tsw, vc_fr, vc_ar, vc_tb, mz_nx, List.set_cons_zero, List.set_cons_succ, Nat.reduceAdd, Nat.reduceBEq, Nat.reduceEqDiff, Nat.reduceLeDiff, Nat.reduceLT, Nat.reduceMul, Int.reduceToNat, Bool.false_eq_true, Bool.or_self, Bool.or_true, Bool.true_or, Bool.or_false, reduceIte, Option.toList_some, Option.toList_none, List.nil_append, List.cons_append, List.length_cons, List.length_nil, true_and, and_true, Int.cast_ofNat_Int, Int.reduceEq, Int.reduceLT, Int.reduceLE, Nat.zero_le, and_self, or_true, true_or, cdS_287]
  refine ⟨_, _, sp_findWays _ (r + 1) (fun j hj => by rw [rsT_o (by omega)]; exact hh.1.2.2.2 j hj), ?_⟩
  simp only [vcS0, vcS1, vcS2, vcS3, vcS4, vcS5, vcS6, vc_n0, vc_lk, vc_pop, vc_rc, vc_tsw, vc_fr, vc_ar, vc_tb, mz_nx, List.set_cons_zero, List.set_cons_succ, Nat.reduceAdd, Nat.reduceBEq, Nat.reduceEqDiff, Nat.reduceLeDiff, Nat.reduceLT, Nat.reduceMul, Int.reduceToNat, Bool.false_eq_true, Bool.or_self, Bool.or_true, Bool.true_or, Bool.or_false, reduceIte, Option.toList_some, Option.toList_none, List.nil_append, List.cons_append, List.length_cons, List.length_nil, true_and, and_true, Int.cast_ofNat_Int, Int.reduceEq, Int.reduceLT, Int.reduceLE, Nat.zero_le, and_self, or_true, true_or, cdS_287]
  refine congrArg mz_fu ?_
  unfold rbF
  have e5 : rsT (rbB m r L).1 r (rbB m r L).2 (r + 1 + 4) = (rbB m r L).1 (r + 5) := by funext j; rw [rsT_o (by omega)]
  rw [e5, rowS_T (by omega)]
theorem sp_isBufferFull (m : mz_M) (r : Nat) : sp 18 [mz_r 5 0 r] m (some (mz_i (if 600 ≤ m r 2 then 1 else 0))) m := by
  refine mz_cl_vc 20 (fun _ => false) [some (mz_r 5 0 r)] rfl ?_
  simp only [vcS0, vcS1, vcS2, vcS3, vcS4, vcS5, vcS6, vc_n0, vc_lk, vc_pop, vc_rc, vc_tsw, vc_fr, vc_ar, vc_tb, mz_nx, List.set_cons_zero, List.set_cons_succ, Nat.reduceAdd, Nat.reduceBEq, Nat.reduceEqDiff, Nat.reduceLeDiff, Nat.reduceLT, Nat.reduceMul, Int.reduceToNat, Bool.false_eq_true, Bool.or_self, Bool.or_true, Bool.true_or, Bool.or_false, reduceIte, Option.toList_some, Option.toList_none, List.nil_append, List.cons_append, List.length_cons, List.length_nil, true_and, and_true, Int.cast_ofNat_Int, Int.reduceEq, Int.reduceLT, Int.reduceLE, Nat.zero_le, and_self, or_true, true_or, cdS_18]
  grind
theorem sp_append (m : mz_M) {r L : Nat} (v : Int) (h : m r 2 = L) (hL : L < 600) : sp 73 [mz_r 5 0 r, mz_i v] m (some (mz_i (L + 1))) (mz_up (mz_up m (r + 16) L v) r 2 (L + 1)) := by
  refine mz_cl_vc 40 (fun _ => false) [some (mz_r 5 0 r), some (mz_i v)] rfl ?_
  simp only [vcS0, vcS1, vcS2, vcS3, vcS4, vcS5, vcS6, vc_n0, vc_lk, vc_pop, vc_rc, vc_tsw, vc_fr, vc_ar, vc_tb, mz_nx, List.set_cons_zero, List.set_cons_succ, Nat.reduceAdd, Nat.reduceBEq, Nat.reduceEqDiff, Nat.reduceLeDiff, Nat.reduceLT, Nat.reduceMul, Int.reduceToNat, Bool.false_eq_true, Bool.or_self, Bool.or_true, Bool.true_or, Bool.or_false, reduceIte, Option.toList_some, Option.toList_none, List.nil_append, List.cons_append, List.length_cons, List.length_nil, true_and, and_true, Int.cast_ofNat_Int, Int.reduceEq, Int.reduceLT, Int.reduceLE, Nat.zero_le, and_self, or_true, true_or, cdS_73]
  rw [h]
  refine ⟨_, _, sp_putN m v hL, ?_⟩
  simp only [vcS0, vcS1, vcS2, vcS3, vcS4, vcS5, vcS6, vc_n0, vc_lk, vc_pop, vc_rc, vc_tsw, vc_fr, vc_ar, vc_tb, mz_nx, List.set_cons_zero, List.set_cons_succ, Nat.reduceAdd, Nat.reduceBEq, Nat.reduceEqDiff, Nat.reduceLeDiff, Nat.reduceLT, Nat.reduceMul, Int.reduceToNat, Bool.false_eq_true, Bool.or_self, Bool.or_true, Bool.true_or, Bool.or_false, reduceIte, Option.toList_some, Option.toList_none, List.nil_append, List.cons_append, List.length_cons, List.length_nil, true_and, and_true, Int.cast_ofNat_Int, Int.reduceEq, Int.reduceLT, Int.reduceLE, Nat.zero_le, and_self, or_true, true_or, cdS_73]
  rw [up_o (by omega), up_s, h]
  exact ⟨(by unfold mz_w; omega), rfl, rfl⟩
