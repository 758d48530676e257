/-! Both objects: the calls about the tour. -/
theorem sp_X8_tourLength {m M1 : mz_M} (h : sp 262 [mz_r 3 0 140, mz_r 6 0 18] m none M1) : sp 282 [mz_r 8 0 0] m (some (mz_i (M1 140 11))) M1 := by
  refine mz_cl_vc 40 (fun _ => false) [some (mz_r 8 0 0)] rfl ?_
  simp only [vcS0, vcS1, vcS2, vcS3, vcS4, vcS5, vcS6, vc_n0, vc_lk, vc_pop, vc_rc, vc_tsw, vc_fr, vc_ar, vc_tb, mz_nx, List.set_cons_zero, List.set_cons_succ, Nat.reduceAdd, Nat.reduceBEq, Nat.reduceEqDiff, Nat.reduceLeDiff, Nat.reduceLT, Nat.reduceMul, Int.reduceToNat, Bool.false_eq_true, Bool.or_self, Bool.or_true, Bool.true_or, Bool.or_false, reduceIte, Option.toList_some, Option.toList_none, List.nil_append, List.cons_append, List.length_cons, List.length_nil, true_and, and_true, Int.cast_ofNat_Int, Int.reduceEq, Int.reduceLT, Int.reduceLE, Nat.zero_le, and_self, or_true, true_or, cdS_282]
  refine ⟨_, _, h, ?_⟩
  simp only [vcS0, vcS1, vcS2, vcS3, vcS4, vcS5, vcS6, vc_n0, vc_lk, vc_pop, vc_rc, vc_tsw, vc_fr, vc_ar, vc_tb, mz_nx, List.set_cons_zero, List.set_cons_succ, Nat.reduceAdd, Nat.reduceBEq, Nat.reduceEqDiff, Nat.reduceLeDiff, Nat.reduceLT, Nat.reduceMul, Int.reduceToNat, Bool.false_eq_true, Bool.or_self, Bool.or_true, Bool.true_or, Bool.or_false, reduceIte, Option.toList_some, Option.toList_none, List.nil_append, List.cons_append, List.length_cons, List.length_nil, true_and, and_true, Int.cast_ofNat_Int, Int.reduceEq, Int.reduceLT, Int.reduceLE, Nat.zero_le, and_self, or_true, true_or, cdS_282]
theorem sp_X8_tourMinutes {m M1 : mz_M} {n : Nat} (h : sp 262 [mz_r 3 0 140, mz_r 6 0 18] m none M1) (hn : n ≤ 6) (h11 : M1 140 11 = n) (hT : ∀ i, i < n → 0 ≤ M1 149 i ∧ M1 149 i ≤ 10000000) : sp 283 [mz_r 8 0 0] m (some (mz_i (sm (M1 149) n))) M1 := by
  refine mz_cl_vc 40 (fun _ => false) [some (mz_r 8 0 0)] rfl ?_
  simp only [vcS0, vcS1, vcS2, vcS3, vcS4, vcS5, vcS6, vc_n0, vc_lk, vc_pop, vc_rc, vc_tsw, vc_fr, vc_ar, vc_tb, mz_nx, List.set_cons_zero, List.set_cons_succ, Nat.reduceAdd, Nat.reduceBEq, Nat.reduceEqDiff, Nat.reduceLeDiff, Nat.reduceLT, Nat.reduceMul, Int.reduceToNat, Bool.false_eq_true, Bool.or_self, Bool.or_true, Bool.true_or, Bool.or_false, reduceIte, Option.toList_some, Option.toList_none, List.nil_append, List.cons_append, List.length_cons, List.length_nil, true_and, and_true, Int.cast_ofNat_Int, Int.reduceEq, Int.reduceLT, Int.reduceLE, Nat.zero_le, and_self, or_true, true_or, cdS_283]
  refine ⟨_, _, h, ?_⟩
  simp only [vcS0, vcS1, vcS2, vcS3, vcS4, vcS5, vcS6, vc_n0, vc_lk, vc_pop, vc_rc, vc_tsw, vc_fr, vc_ar, vc_tb, mz_nx, List.set_cons_zero, List.set_cons_succ, Nat.reduceAdd, Nat.reduceBEq, Nat.reduceEqDiff, Nat.reduceLeDiff, Nat.reduceLT, Nat.reduceMul, Int.reduceToNat, Bool.false_eq_true, Bool.or_self, Bool.or_true, Bool.true_or, Bool.or_false, reduceIte, Option.toList_some, Option.toList_none, List.nil_append, List.cons_append, List.length_cons, List.length_nil, true_and, and_true, Int.cast_ofNat_Int, Int.reduceEq, Int.reduceLT, Int.reduceLE, Nat.zero_le, and_self, or_true, true_or, cdS_283]
  refine ⟨_, _, sp_wholeLength M1 (q := 140) hn h11 hT, ?_⟩
  simp only [vcS0, vcS1, vcS2, vcS3, vcS4, vcS5, vcS6, vc_n0, vc_lk, vc_pop, vc_rc, vc_tsw, vc_fr, vc_ar, vc_tb, mz_nx, List.set_cons_zero, List.set_cons_succ, Nat.reduceAdd, Nat.reduceBEq, Nat.reduceEqDiff, Nat.reduceLeDiff, Nat.reduceLT, Nat.reduceMul, Int.reduceToNat, Bool.false_eq_true, Bool.or_self, Bool.or_true, Bool.true_or, Bool.or_false, reduceIte, Option.toList_some, Option.toList_none, List.nil_append, List.cons_append, List.length_cons, List.length_nil, true_and, and_true, Int.cast_ofNat_Int, Int.reduceEq, Int.reduceLT, Int.reduceLE, Nat.zero_le, and_self, or_true, true_or, cdS_283]
theorem sp_X8_towNext0 {m M1 : mz_M} (h : sp 262 [mz_r 3 0 140, mz_r 6 0 18] m none M1) (h11 : M1 140 11 = 0) : sp 284 [mz_r 8 0 0] m (some (mz_i (-3))) M1 := by
  refine mz_cl_vc 60 (fun _ => false) [some (mz_r 8 0 0), none, none] rfl ?_
  simp only [vcS0, vcS1, vcS2, vcS3, vcS4, vcS5, vcS6, vc_n0, vc_lk, vc_pop, vc_rc, vc_tsw, vc_fr, vc_ar, vc_tb, mz_nx, List.set_cons_zero, List.set_cons_succ, Nat.reduceAdd, Nat.reduceBEq, Nat.reduceEqDiff, Nat.reduceLeDiff, Nat.reduceLT, Nat.reduceMul, Int.reduceToNat, Bool.false_eq_true, Bool.or_self, Bool.or_true, Bool.true_or, Bool.or_false, reduceIte, Option.toList_some, Option.toList_none, List.nil_append, List.cons_append, List.length_cons, List.length_nil, true_and, and_true, Int.cast_ofNat_Int, Int.reduceEq, Int.reduceLT, Int.reduceLE, Nat.zero_le, and_self, or_true, true_or, cdS_284]
  refine ⟨_, _, h, ?_⟩
  simp only [vcS0, vcS1, vcS2, vcS3, vcS4, vcS5, vcS6, vc_n0, vc_lk, vc_pop, vc_rc, vc_tsw, vc_fr, vc_ar, vc_tb, mz_nx, List.set_cons_zero, List.set_cons_succ, Nat.reduceAdd, Nat.reduceBEq, Nat.reduceEqDiff, Nat.reduceLeDiff, Nat.reduceLT, Nat.reduceMul, Int.reduceToNat, Bool.false_eq_true, Bool.or_self, Bool.or_true, Bool.true_or, Bool.or_false, reduceIte, Option.toList_some, Option.toList_none, List.nil_append, List.cons_append, List.length_cons, List.length_nil, true_and, and_true, Int.cast_ofNat_Int, Int.reduceEq, Int.reduceLT, Int.reduceLE, Nat.zero_le, and_self, or_true, true_or, cdS_284]
  refine ⟨_, _, sp_at M1 6 147 0, ?_⟩
  simp only [vcS0, vcS1, vcS2, vcS3, vcS4, vcS5, vcS6, vc_n0, vc_lk, vc_pop, vc_rc, vc_tsw, vc_fr, vc_ar, vc_tb, mz_nx, List.set_cons_zero, List.set_cons_succ, Nat.reduceAdd, Nat.reduceBEq, Nat.reduceEqDiff, Nat.reduceLeDiff, Nat.reduceLT, Nat.reduceMul, Int.reduceToNat, Bool.false_eq_true, Bool.or_self, Bool.or_true, Bool.true_or, Bool.or_false, reduceIte, Option.toList_some, Option.toList_none, List.nil_append, List.cons_append, List.length_cons, List.length_nil, true_and, and_true, Int.cast_ofNat_Int, Int.reduceEq, Int.reduceLT, Int.reduceLE, Nat.zero_le, and_self, or_true, true_or, cdS_284]
  refine ⟨_, _, sp_carOrNull M1 18 _, ?_⟩
  simp only [vcS0, vcS1, vcS2, vcS3, vcS4, vcS5, vcS6, vc_n0, vc_lk, vc_pop, vc_rc, vc_tsw, vc_fr, vc_ar, vc_tb, mz_nx, List.set_cons_zero, List.set_cons_succ, Nat.reduceAdd, Nat.reduceBEq, Nat.reduceEqDiff, Nat.reduceLeDiff, Nat.reduceLT, Nat.reduceMul, Int.reduceToNat, Bool.false_eq_true, Bool.or_self, Bool.or_true, Bool.true_or, Bool.or_false, reduceIte, Option.toList_some, Option.toList_none, List.nil_append, List.cons_append, List.length_cons, List.length_nil, true_and, and_true, Int.cast_ofNat_Int, Int.reduceEq, Int.reduceLT, Int.reduceLE, Nat.zero_le, and_self, or_true, true_or, cdS_284]
  obtain ⟨u, hu⟩ : ∃ u, coR 18 (M1 147 0) = .inr u := by unfold coR; split <;> exact ⟨_, rfl⟩
  rw [hu]
  simp only [vcS0, vcS1, vcS2, vcS3, vcS4, vcS5, vcS6, vc_n0, vc_lk, vc_pop, vc_rc, vc_tsw, vc_fr, vc_ar, vc_tb, mz_nx, List.set_cons_zero, List.set_cons_succ, Nat.reduceAdd, Nat.reduceBEq, Nat.reduceEqDiff, Nat.reduceLeDiff, Nat.reduceLT, Nat.reduceMul, Int.reduceToNat, Bool.false_eq_true, Bool.or_self, Bool.or_true, Bool.true_or, Bool.or_false, reduceIte, Option.toList_some, Option.toList_none, List.nil_append, List.cons_append, List.length_cons, List.length_nil, true_and, and_true, Int.cast_ofNat_Int, Int.reduceEq, Int.reduceLT, Int.reduceLE, Nat.zero_le, and_self, or_true, true_or, cdS_284]
  rw [if_pos h11]
  trivial
theorem sp_X8_towNext {m M1 : mz_M} {n c p l : Nat} (h : sp 262 [mz_r 3 0 140, mz_r 6 0 18] m none M1) (hn : n ≠ 0) (h11 : M1 140 11 = n) (hc : M1 147 0 = c) (hc2 : c < 16) (hp : M1 148 0 = p) (hl : M1 149 0 = l) (hl2 : l ≤ 100000) (h3 : 0 ≤ M1 18 3 ∧ M1 18 3 ≤ 100000) (hlg : 0 ≤ M1 35 0) (h0 : M1 (18 + 24 + c) 0 = c) (h9 : 0 ≤ M1 (18 + 24 + c) 9 ∧ M1 (18 + 24 + c) 9 ≤ 100000000) : sp 284 [mz_r 8 0 0] m (some (mz_i (if 340 ≤ M1 35 0 ∨ 10079 < M1 18 3 + l then -4 else c))) (if 340 ≤ M1 35 0 ∨ 10079 < M1 18 3 + l then M1 else btS 18 (18 + 24 + c) p (mz_up M1 18 3 (M1 18 3 + l))) := by
  refine mz_cl_vc 60 (fun _ => false) [some (mz_r 8 0 0), none, none] rfl ?_
  simp only [vcS0, vcS1, vcS2, vcS3, vcS4, vcS5, vcS6, vc_n0, vc_lk, vc_pop, vc_rc, vc_tsw, vc_fr, vc_ar, vc_tb, mz_nx, List.set_cons_zero, List.set_cons_succ, Nat.reduceAdd, Nat.reduceBEq, Nat.reduceEqDiff, Nat.reduceLeDiff, Nat.reduceLT, Nat.reduceMul, Int.reduceToNat, Bool.false_eq_true, Bool.or_self, Bool.or_true, Bool.true_or, Bool.or_false, reduceIte, Option.toList_some, Option.toList_none, List.nil_append, List.cons_append, List.length_cons, List.length_nil, true_and, and_true, Int.cast_ofNat_Int, Int.reduceEq, Int.reduceLT, Int.reduceLE, Nat.zero_le, and_self, or_true, true_or, cdS_284]
  refine ⟨_, _, h, ?_⟩
  simp only [vcS0, vcS1, vcS2, vcS3, vcS4, vcS5, vcS6, vc_n0, vc_lk, vc_pop, vc_rc, vc_tsw, vc_fr, vc_ar, vc_tb, mz_nx, List.set_cons_zero, List.set_cons_succ, Nat.reduceAdd, Nat.reduceBEq, Nat.reduceEqDiff, Nat.reduceLeDiff, Nat.reduceLT, Nat.reduceMul, Int.reduceToNat, Bool.false_eq_true, Bool.or_self, Bool.or_true, Bool.true_or, Bool.or_false, reduceIte, Option.toList_some, Option.toList_none, List.nil_append, List.cons_append, List.length_cons, List.length_nil, true_and, and_true, Int.cast_ofNat_Int, Int.reduceEq, Int.reduceLT, Int.reduceLE, Nat.zero_le, and_self, or_true, true_or, cdS_284]
  refine ⟨_, _, sp_at M1 6 147 0, ?_⟩
  simp only [vcS0, vcS1, vcS2, vcS3, vcS4, vcS5, vcS6, vc_n0, vc_lk, vc_pop, vc_rc, vc_tsw, vc_fr, vc_ar, vc_tb, mz_nx, List.set_cons_zero, List.set_cons_succ, Nat.reduceAdd, Nat.reduceBEq, Nat.reduceEqDiff, Nat.reduceLeDiff, Nat.reduceLT, Nat.reduceMul, Int.reduceToNat, Bool.false_eq_true, Bool.or_self, Bool.or_true, Bool.true_or, Bool.or_false, reduceIte, Option.toList_some, Option.toList_none, List.nil_append, List.cons_append, List.length_cons, List.length_nil, true_and, and_true, Int.cast_ofNat_Int, Int.reduceEq, Int.reduceLT, Int.reduceLE, Nat.zero_le, and_self, or_true, true_or, cdS_284]
  refine ⟨_, _, sp_carOrNull M1 18 _, ?_⟩
  simp only [vcS0, vcS1, vcS2, vcS3, vcS4, vcS5, vcS6, vc_n0, vc_lk, vc_pop, vc_rc, vc_tsw, vc_fr, vc_ar, vc_tb, mz_nx, List.set_cons_zero, List.set_cons_succ, Nat.reduceAdd, Nat.reduceBEq, Nat.reduceEqDiff, Nat.reduceLeDiff, Nat.reduceLT, Nat.reduceMul, Int.reduceToNat, Bool.false_eq_true, Bool.or_self, Bool.or_true, Bool.true_or, Bool.or_false, reduceIte, Option.toList_some, Option.toList_none, List.nil_append, List.cons_append, List.length_cons, List.length_nil, true_and, and_true, Int.cast_ofNat_Int, Int.reduceEq, Int.reduceLT, Int.reduceLE, Nat.zero_le, and_self, or_true, true_or, cdS_284]
  rw [hc, coR_ok (by omega), Int.toNat_natCast]
  simp only [vcS0, vcS1, vcS2, vcS3, vcS4, vcS5, vcS6, vc_n0, vc_lk, vc_pop, vc_rc, vc_tsw, vc_fr, vc_ar, vc_tb, mz_nx, List.set_cons_zero, List.set_cons_succ, Nat.reduceAdd, Nat.reduceBEq, Nat.reduceEqDiff, Nat.reduceLeDiff, Nat.reduceLT, Nat.reduceMul, Int.reduceToNat, Bool.false_eq_true, Bool.or_self, Bool.or_true, Bool.true_or, Bool.or_false, reduceIte, Option.toList_some, Option.toList_none, List.nil_append, List.cons_append, List.length_cons, List.length_nil, true_and, and_true, Int.cast_ofNat_Int, Int.reduceEq, Int.reduceLT, Int.reduceLE, Nat.zero_le, and_self, or_true, true_or, cdS_284]
  rw [h11, if_neg (by omega)]
  refine ⟨_, _, sp_at M1 6 149 0, ?_⟩
  simp only [vcS0, vcS1, vcS2, vcS3, vcS4, vcS5, vcS6, vc_n0, vc_lk, vc_pop, vc_rc, vc_tsw, vc_fr, vc_ar, vc_tb, mz_nx, List.set_cons_zero, List.set_cons_succ, Nat.reduceAdd, Nat.reduceBEq, Nat.reduceEqDiff, Nat.reduceLeDiff, Nat.reduceLT, Nat.reduceMul, Int.reduceToNat, Bool.false_eq_true, Bool.or_self, Bool.or_true, Bool.true_or, Bool.or_false, reduceIte, Option.toList_some, Option.toList_none, List.nil_append, List.cons_append, List.length_cons, List.length_nil, true_and, and_true, Int.cast_ofNat_Int, Int.reduceEq, Int.reduceLT, Int.reduceLE, Nat.zero_le, and_self, or_true, true_or, cdS_284]
  rw [hl]
  refine ⟨(by unfold mz_w; omega), ?_⟩
  refine ⟨_, _, sp_lfull M1 35, ?_⟩
  by_cases q : 340 ≤ M1 35 0
  · rw [if_pos q, if_pos (Or.inl q), if_pos (Or.inl q)]
    simp only [vcS0, vcS1, vcS2, vcS3, vcS4, vcS5, vcS6, vc_n0, vc_lk, vc_pop, vc_rc, vc_tsw, vc_fr, vc_ar, vc_tb, mz_nx, List.set_cons_zero, List.set_cons_succ, Nat.reduceAdd, Nat.reduceBEq, Nat.reduceEqDiff, Nat.reduceLeDiff, Nat.reduceLT, Nat.reduceMul, Int.reduceToNat, Bool.false_eq_true, Bool.or_self, Bool.or_true, Bool.true_or, Bool.or_false, reduceIte, Option.toList_some, Option.toList_none, List.nil_append, List.cons_append, List.length_cons, List.length_nil, true_and, and_true, Int.cast_ofNat_Int, Int.reduceEq, Int.reduceLT, Int.reduceLE, Nat.zero_le, and_self, or_true, true_or, cdS_284]
  · rw [if_neg q]
    simp only [vcS0, vcS1, vcS2, vcS3, vcS4, vcS5, vcS6, vc_n0, vc_lk, vc_pop, vc_rc, vc_tsw, vc_fr, vc_ar, vc_tb, mz_nx, List.set_cons_zero, List.set_cons_succ, Nat.reduceAdd, Nat.reduceBEq, Nat.reduceEqDiff, Nat.reduceLeDiff, Nat.reduceLT, Nat.reduceMul, Int.reduceToNat, Bool.false_eq_true, Bool.or_self, Bool.or_true, Bool.true_or, Bool.or_false, reduceIte, Option.toList_some, Option.toList_none, List.nil_append, List.cons_append, List.length_cons, List.length_nil, true_and, and_true, Int.cast_ofNat_Int, Int.reduceEq, Int.reduceLT, Int.reduceLE, Nat.zero_le, and_self, or_true, true_or, cdS_284]
    by_cases q2 : 10079 < M1 18 3 + l
    · rw [if_neg (by omega), if_pos (Or.inr q2), if_pos (Or.inr q2)]
      trivial
    · rw [if_pos (by omega), if_neg (by omega), if_neg (by omega)]
      have e148 := sp_at (mz_up M1 18 3 (M1 18 3 + l)) 6 148 0
      refine ⟨_, _, e148, ?_⟩
      simp only [vcS0, vcS1, vcS2, vcS3, vcS4, vcS5, vcS6, vc_n0, vc_lk, vc_pop, vc_rc, vc_tsw, vc_fr, vc_ar, vc_tb, mz_nx, List.set_cons_zero, List.set_cons_succ, Nat.reduceAdd, Nat.reduceBEq, Nat.reduceEqDiff, Nat.reduceLeDiff, Nat.reduceLT, Nat.reduceMul, Int.reduceToNat, Bool.false_eq_true, Bool.or_self, Bool.or_true, Bool.true_or, Bool.or_false, reduceIte, Option.toList_some, Option.toList_none, List.nil_append, List.cons_append, List.length_cons, List.length_nil, true_and, and_true, Int.cast_ofNat_Int, Int.reduceEq, Int.reduceLT, Int.reduceLE, Nat.zero_le, and_self, or_true, true_or, cdS_284]
      rw [up_o (by omega), hp]
      refine ⟨_, _, sp_bringToPound (mz_up M1 18 3 (M1 18 3 + l)) (u := 18) (k := 18 + 24 + c) (p := p) (by rw [up_o (by omega)]; exact hlg) (by omega) (by rw [up_o (by omega)]; exact h9), ?_⟩
      simp only [vcS0, vcS1, vcS2, vcS3, vcS4, vcS5, vcS6, vc_n0, vc_lk, vc_pop, vc_rc, vc_tsw, vc_fr, vc_ar, vc_tb, mz_nx, List.set_cons_zero, List.set_cons_succ, Nat.reduceAdd, Nat.reduceBEq, Nat.reduceEqDiff, Nat.reduceLeDiff, Nat.reduceLT, Nat.reduceMul, Int.reduceToNat, Bool.false_eq_true, Bool.or_self, Bool.or_true, Bool.true_or, Bool.or_false, reduceIte, Option.toList_some, Option.toList_none, List.nil_append, List.cons_append, List.length_cons, List.length_nil, true_and, and_true, Int.cast_ofNat_Int, Int.reduceEq, Int.reduceLT, Int.reduceLE, Nat.zero_le, and_self, or_true, true_or, cdS_284]
      have e0 : btS 18 (42 + c) p (mz_up M1 18 3 (M1 18 3 + l)) (42 + c) 0 = c := by
        unfold btS
        rw [lgA_f (by omega)]
        simp (disch := omega) only [up_o, up_k]
        exact h0
      rw [e0]
theorem Rel_tour {m M1 M2 : mz_M} (h : Rel m) (f1 : ∀ a, a < 140 ∨ 149 < a → M1 a = m a) (r1 : lnO (M1 145) ∧ woB (M1 146)) (f2 : ∀ a, a ≠ 153 → (a < 159 ∨ 164 < a) → M2 a = M1 a) (f3 : ∀ j, j = 6 ∨ j = 8 ∨ j = 11 → M2 153 j = M1 153 j) : Rel M2 := by
  have e : ∀ a, frz a → M2 a = m a := fun a ha => by unfold frz at ha; rw [f2 a (by omega) (by omega), f1 a (by omega)]
  obtain ⟨⟨c1, c2, c3, c4⟩, c5, c6⟩ := h.2.2.2
  refine Rel_frame h e ?_ ?_ ⟨⟨?_, ?_, ?_, ?_⟩, spR_congr (fun a q1 q2 q3 q4 => e a (by unfold frz; omega)) c5, fun x hx hu => spR_congr (fun a q1 q2 q3 q4 => e a (by unfold frz; omega)) (c6 x hx (by rw [← e 139 (by unfold frz; omega)]; exact hu))⟩
  · rw [f2 1 (by omega) (by omega), f1 1 (by omega)]; exact ⟨rfl, rfl⟩
  · rw [f3 6 (by omega), f3 8 (by omega), f3 11 (by omega), f1 153 (by omega)]; exact ⟨rfl, rfl, rfl⟩
  · rw [f2 145 (by omega) (by omega)]; exact r1.1
  · rw [f2 146 (by omega) (by omega)]; exact r1.2
  · rw [f2 152 (by omega) (by omega), f1 152 (by omega)]; exact c3
  · rw [f2 165 (by omega) (by omega), f1 165 (by omega)]; exact c4
theorem b_tourLength {m : mz_M} (h : Rel m) : both 282 295 [] m := by
  obtain ⟨M1, Q, cd, pp, Ln, f0, hk, f1, r1, ⟨t1, t2, t3, t4⟩, _, hm⟩ := tour_all h
  obtain ⟨M2, k1, k2, k3, k4, k5, k6, k7⟩ := hm (mz_up M1 153 4 0) (by funext j; rw [up_o (by omega), f1 154 (by omega)]) (by funext j; rw [up_o (by omega), f1 159 (by omega)])
  have h1 := sp_X8_tourLength hk
  have h2 := sp_X9_tourLength M1 M2 k1
  rw [t1] at h1
  rw [k2] at h2
  refine ⟨_, _, _, h1, h2, Rel_tour h f1 r1 (fun a q1 q2 => ?_) (fun j hj => ?_)⟩
  · rw [k6 a q1 q2]; funext i; exact up_o q1
  · rw [k7 j (by omega) (by omega) (by omega), up_k (by omega)]
theorem b_tourMinutes {m : mz_M} (h : Rel m) : both 283 296 [] m := by
  obtain ⟨M1, Q, cd, pp, Ln, f0, hk, f1, r1, ⟨t1, t2, t3, t4⟩, _, hm⟩ := tour_all h
  obtain ⟨M2, k1, k2, k3, k4, k5, k6, k7⟩ := hm (mz_up M1 153 4 0) (by funext j; rw [up_o (by omega), f1 154 (by omega)]) (by funext j; rw [up_o (by omega), f1 159 (by omega)])
  have h1 := sp_X8_tourMinutes hk t2 t1 (fun i hi => by have := tlO_len t4 t3 i hi; show 0 ≤ M1 (140 + 9) i ∧ M1 (140 + 9) i ≤ 10000000; omega)
  have h2 := sp_X9_tourMinutes M1 M2 k1
  rw [show sm (M1 149) Q.length = ndL Ln f0 Q from tbO_sm t3] at h1
  rw [k3] at h2
  refine ⟨_, _, _, h1, h2, Rel_tour h f1 r1 (fun a q1 q2 => ?_) (fun j hj => ?_)⟩
  · rw [k6 a q1 q2]; funext i; exact up_o q1
  · rw [k7 j (by omega) (by omega) (by omega), up_k (by omega)]
theorem sp_X9_towNext0 (m M1 : mz_M) (h : sp 293 [mz_r 9 0 153] (mz_up m 153 4 0) none M1) (hb : M1 153 19 = 0) : sp 297 [mz_r 9 0 153] m (some (mz_i (-3))) M1 := by
  refine mz_cl_vc 100 (fun i => i == 10) [some (mz_r 9 0 153), none, none] rfl ?_
  simp only [vcS0, vcS1, vcS2, vcS3, vcS4, vcS5, vcS6, vc_n0, vc_lk, vc_pop, vc_rc, vc_tsw, vc_fr, vc_ar, vc_tb, mz_nx, List.set_cons_zero, List.set_cons_succ, Nat.reduceAdd, Nat.reduceBEq, Nat.reduceEqDiff, Nat.reduceLeDiff, Nat.reduceLT, Nat.reduceMul, Int.reduceToNat, Bool.false_eq_true, Bool.or_self, Bool.or_true, Bool.true_or, Bool.or_false, reduceIte, Option.toList_some, Option.toList_none, List.nil_append, List.cons_append, List.length_cons, List.length_nil, true_and, and_true, Int.cast_ofNat_Int, Int.reduceEq, Int.reduceLT, Int.reduceLE, Nat.zero_le, and_self, or_true, true_or, cdS_297]
  refine ⟨_, _, h, ?_⟩
  simp only [vcS0, vcS1, vcS2, vcS3, vcS4, vcS5, vcS6, vc_n0, vc_lk, vc_pop, vc_rc, vc_tsw, vc_fr, vc_ar, vc_tb, mz_nx, List.set_cons_zero, List.set_cons_succ, Nat.reduceAdd, Nat.reduceBEq, Nat.reduceEqDiff, Nat.reduceLeDiff, Nat.reduceLT, Nat.reduceMul, Int.reduceToNat, Bool.false_eq_true, Bool.or_self, Bool.or_true, Bool.true_or, Bool.or_false, reduceIte, Option.toList_some, Option.toList_none, List.nil_append, List.cons_append, List.length_cons, List.length_nil, true_and, and_true, Int.cast_ofNat_Int, Int.reduceEq, Int.reduceLT, Int.reduceLE, Nat.zero_le, and_self, or_true, true_or, cdS_297]
  rw [if_pos hb]
  trivial
theorem RW_tow {m : mz_M} {u N c p : Nat} {V : Nat → Int} {t : Int} (h : RW m u V N) (hN : N + 1 ≤ 372) (hc : c < 16) (hp : (p : Int) < m (u + 1) 0) (h2 : m (u + 24 + c) 1 = 2) (ht : 0 ≤ t ∧ t ≤ 10079) (hr : sm (pnd m u p) 16 < m (u + 4) p) : RW (btS u (u + 24 + c) p (mz_up m u 3 t)) u (vTow V c p t) (N + 1) := by
  have a := h.2.2.2.1 c hc
  have tm := h.2.1
  have w1 := a.1.2
  have r2 := a.2.1
  have sz := RW_sz h
  unfold btS vTow
  have f3 : mz_up (mz_up (mz_up (mz_up (mz_up m u 3 t) (u + 24 + c) 1 3) (u + 24 + c) 2 p) (u + 24 + c) 9 (m (u + 24 + c) 9 + 15000)) u 4 p u 3 = t := by simp (disch := omega) only [up_o, up_k, up_s]
  have f4 : mz_up m u 3 t (u + 24 + c) 0 = c := by rw [up_o (by omega)]; exact a.1.1
  have f9 : mz_up m u 3 t (u + 24 + c) 9 = m (u + 24 + c) 9 := up_o (by omega)
  rw [f4, f9, up_s, w1.2.2.2.2.1]
  conv => arg 1; arg 2; rw [← f3]
  refine RW_op1 h hN hc (fun b h1 h2 => ?_) (fun w hw => ?_) (fun j hj => ?_) ⟨⟨?_, ?_⟩, ?_, ?_⟩ (fun q hq y => ?_) (by omega) (by omega) (fun _ => by omega) (fun q => by omega) ?_ ?_ (fun q => ?_) (fun _ => Or.inr (by omega))
  · funext j; simp (disch := omega) only [up_o]
  · simp (disch := omega) only [up_o, up_k]
  · simp (disch := omega) only [vU_n]
  · simp (disch := omega) only [up_o, up_k, up_s, vU_n, vU_e]
  · simp (disch := omega) only [up_o, up_k, up_s]; exact ht
  · simp (disch := omega) only [up_o, up_k, up_s, vU_n, vU_e]; rw [if_neg (by omega)]
  · refine Or.inr ?_
    simp (disch := omega) only [up_o, up_k, up_s]
    have s0 : 0 ≤ sm (pnd m u p) 16 := sm_0 fun c hc => by unfold pnd; split <;> omega
    exact ⟨⟨by omega, hp⟩, by rw [Int.toNat_natCast]; omega⟩
  · have hq2 : q = p := by
      unfold pnd at y
      simp (disch := omega) only [up_o, up_k, up_s] at y
      by_cases z : (3 : Int) = 3 ∧ (p : Int) = q
      · have := z.2; omega
      · rw [if_neg (fun w => z ⟨rfl, w.2⟩)] at y; omega
    subst hq2
    rw [sm_one (f := pnd m u q) (n := 16) (h0 := c) (c := 1) (fun i hi => ?_), if_pos hc]
    · omega
    · unfold pnd
      by_cases z : i = c
      · subst z
        simp (disch := omega) only [up_o, up_k, up_s]
        rw [if_pos ⟨trivial, trivial⟩, if_neg (by omega), if_pos trivial]
        omega
      · simp (disch := omega) only [up_o]
        rw [if_neg z, Int.add_zero]
  · simp (disch := omega) only [mc, vU_e, vU_n, up_o, up_s, up_k]
    simp only [mc] at w1
    exact ⟨trivial, trivial, w1.2.2.1, w1.2.2.2.1, trivial, w1.2.2.2.2.2⟩
  · simp (disch := omega) only [up_o, up_s, up_k]
    omega
  · simp (disch := omega) only [up_o, up_s, up_k] at q
    omega
theorem b_towNext {m : mz_M} (h : Rel m) : both 284 297 [] m := by
  obtain ⟨M1, Q, cd, pp, Ln, f0, hk, f1, r1, ⟨t1, t2, t3, t4⟩, hQ, hm⟩ := tour_all h
  obtain ⟨N, hw⟩ := h.1
  have hs := RW_sz hw
  have hN := hw.2.2.2.2.1
  have tm := hw.2.1
  have tm1 := tm.1
  by_cases q : Q = []
  · subst q
    have h1 := sp_X8_towNext0 hk t1
    obtain ⟨M2, k1, k2, k3, k4, k5, k6, k7⟩ := hm (mz_up M1 153 4 0) (by funext j; rw [up_o (by omega), f1 154 (by omega)]) (by funext j; rw [up_o (by omega), f1 159 (by omega)])
    have h2 := sp_X9_towNext0 M1 M2 k1 k2
    refine ⟨_, _, _, h1, h2, Rel_tour h f1 r1 (fun a q1 q2 => ?_) (fun j hj => ?_)⟩
    · rw [k6 a q1 q2]; funext i; exact up_o q1
    · rw [k7 j (by omega) (by omega) (by omega), up_k (by omega)]
  · obtain ⟨c, y, p, tr, e1, e2, c16, y10, p10, tr10, ec, et, es, eL, hpn, hrm⟩ := hQ q
    have tb := ls0_tb q t3
    have tl := ls0_l q t4
    have len : Q.length ≠ 0 := fun z => q (List.length_eq_zero_iff.mp z)
    obtain ⟨l, hl⟩ := nat_i tl.1
    have a := hw.2.2.2.1 c c16
    have F : ∀ b, b < 140 → M1 b = m b := fun b hb => f1 b (by omega)
    have h1 := sp_X8_towNext (n := Q.length) (c := c) (p := p) (l := l) hk len t1 (by rw [e1]; exact tb.1) c16 (by rw [e2]; exact tb.2.1) (tb.2.2.trans hl) (by omega) (by rw [F 18 (by omega)]; omega) (by rw [F 35 (by omega)]; show 0 ≤ m (18 + 17) 0; omega) (by rw [F _ (by omega)]; exact a.1.1) (by rw [F _ (by omega)]; have := a.2.1; omega)
    rw [F 35 (by omega), F 18 (by omega)] at h1
    have e35 : m 35 0 = N := hN.1
    rw [e35] at h1
    have T : ∀ (m2 : mz_M), m2 154 = m 154 → m2 159 = m 159 → ∃ M2 : mz_M, sp 297 [mz_r 9 0 153] m2 (some (mz_i (if 340 ≤ (N : Int) ∨ 10079 < m 18 3 + l then -4 else c))) (if 340 ≤ (N : Int) ∨ 10079 < m 18 3 + l then rM M2 (m 154) else rM M2 (vTow (m 154) c p (m 18 3 + l))) ∧ (∀ a, a ≠ 153 → (a < 159 ∨ 164 < a) → a ≠ 154 → M2 a = m2 a) ∧ ∀ j, j = 6 ∨ j = 8 ∨ j = 11 → M2 153 j = m2 153 j := by
      intro m2 z1 z2
      obtain ⟨M2, k1, k2, k3, k4, k5, k6, k7⟩ := hm (mz_up m2 153 4 0) (by rw [← z1]; funext j; exact up_o (by omega)) (by rw [← z2]; funext j; exact up_o (by omega))
      have e154 : M2 154 = m 154 := by rw [k6 154 (by omega) (by omega), ← z1]; funext j; exact up_o (by omega)
      have hr := rM_self M2
      rw [e154] at hr
      have b19 := k2
      have c162 := ls0_ar q k4
      have p163 := ls0_ar q k5
      have h2 := sp_X9_towNext m2 M2 (m 154) (n := N) (b := Q.length) (c := c) (p := p) (q := y) (tr := tr) (by rw [hr]; exact k1) hN.2.1 k2 (by rw [e1]; exact c162) c16 (by rw [e2]; exact p163) p10 (by rw [a.1.2.2.1]; exact ec) y10 (by rw [tm.2.1, et, if_neg (by omega)]) tr10 (RW_mW hw) (by omega) (by have := a.2.1; rw [a.1.2.2.2.2.2.1]; omega) (m 18 3 + l) (by
        have g : ∀ j, j < 100 → mW (m 154) j = m 24 j := fun j hj => (hw.1.2.2 j hj).2
        rw [g _ (by omega), g _ (by omega), tm.1.1]
        omega)
      rw [if_neg len, hN.2.1] at h2
      refine ⟨M2, ?_, fun b q1 q2 q3 => ?_, fun j hj => ?_⟩
      · by_cases w : 340 ≤ (N : Int) ∨ 10079 < m 18 3 + l
        · rw [if_pos w, if_pos w]
          rw [if_pos w, if_pos (Or.inr w)] at h2
          exact h2
        · rw [if_neg w, if_neg w]
          rw [if_neg w, if_neg (fun z => z.elim len w)] at h2
          exact h2
      · rw [k6 b q1 q2]; funext i; exact up_o q1
      · rw [k7 j (by omega) (by omega) (by omega), up_k (by omega)]
    by_cases w : 340 ≤ (N : Int) ∨ 10079 < m 18 3 + l
    · rw [if_pos w, if_pos w] at h1
      obtain ⟨M2, g1, g2, g3⟩ := T M1 (f1 154 (by omega)) (f1 159 (by omega))
      rw [if_pos w, if_pos w] at g1
      refine ⟨_, _, _, h1, g1, Rel_tour h f1 r1 (fun b q1 q2 => ?_) (fun j hj => ?_)⟩
      · by_cases z : b = 154
        · rw [z, rM_154, f1 154 (by omega)]
        · funext i; rw [rM_o z, g2 b q1 q2 z]
      · rw [rM_o (by omega)]; exact g3 j hj
    · rw [if_neg w, if_neg w] at h1
      have fB : ∀ b, (b < 18 ∨ 58 ≤ b) → btS 18 (18 + 24 + c) p (mz_up M1 18 3 (m 18 3 + l)) b = M1 b := fun b hb => by
        unfold btS
        rw [lgA_f (by omega)]
        funext j
        simp (disch := omega) only [up_o]
      obtain ⟨M2, g1, g2, g3⟩ := T (btS 18 (18 + 24 + c) p (mz_up M1 18 3 (m 18 3 + l))) (by rw [fB 154 (by omega), f1 154 (by omega)]) (by rw [fB 159 (by omega), f1 159 (by omega)])
      rw [if_neg w, if_neg w] at g1
      -- the state after the search, with the world as it was
      have hw1 : RW M1 18 (m 154) N := RW_congr (fun b q1 q2 q3 q4 => F b (by omega)) (fun _ _ => rfl) hw
      have hw2 := RW_tow (m := M1) (u := 18) (t := m 18 3 + l) hw1 (by omega) c16 (by rw [F _ (by omega)]; exact hpn) (by rw [F _ (by omega)]; exact es) (by omega) (by
        have : sm (pnd M1 18 p) 16 = sm (pnd m 18 p) 16 := sm_congr fun i hi => by unfold pnd; rw [F _ (by omega)]
        rw [this, F _ (by omega)]; exact hrm)
      have hsp : spR (btS 18 (18 + 24 + c) p (mz_up M1 18 3 (m 18 3 + l))) 18 := by
        refine spR_car (m := m) h.2.2.2.2.1 (c := c) (fun b b1 b2 b3 b4 => ?_) fun p' z => ?_
        · unfold btS
          rw [lgA_f (by omega)]
          funext j
          simp (disch := omega) only [up_o]
          rw [F b (by omega)]
        · unfold btS cos at z
          rw [lgA_f (by omega)] at z
          simp (disch := omega) only [up_o, up_s, up_k, decide_eq_true_eq] at z
          omega
      have R1 : Rel (rM M2 (m 154)) ∨ True := Or.inr trivial
      refine ⟨_, _, _, h1, g1, ?_⟩
      obtain ⟨_, ⟨s0, s1⟩, hr, ⟨⟨c1, c2, c3, c4⟩, c5, c6⟩⟩ := h
      have E : ∀ b, (b < 18 ∨ (58 ≤ b ∧ b < 140) ∨ (149 < b ∧ b < 159) ∨ 164 < b) → b ≠ 153 → b ≠ 154 → rM M2 (vTow (m 154) c p (m 18 3 + l)) b = m b := fun b q1 q2 q3 => by
        funext i
        rw [rM_o q3, g2 b q2 (by omega) q3, fB b (by omega), f1 b (by omega)]
      have E2 : ∀ b, 18 ≤ b → b < 58 → rM M2 (vTow (m 154) c p (m 18 3 + l)) b = btS 18 (18 + 24 + c) p (mz_up M1 18 3 (m 18 3 + l)) b := fun b q1 q2 => by
        funext i
        rw [rM_o (by omega), g2 b (by omega) (by omega) (by omega)]
      have f : ∀ a, (59 ≤ a ∧ a < 140) ∨ a = 156 ∨ a = 157 → rM M2 (vTow (m 154) c p (m 18 3 + l)) a = m a := fun a ha => E a (by omega) (by omega) (by omega)
      refine ⟨⟨N + 1, ?_⟩, ⟨slR_frame (by omega) s0 f, slR_frame (by omega) s1 f⟩, rdR_frame hr ⟨E 17 (by omega) (by omega) (by omega), E 158 (by omega) (by omega) (by omega)⟩ ?_ ?_, ⟨⟨?_, ?_, ?_, ?_⟩, ?_, fun x hx hu => ?_⟩⟩
      · rw [rM_154]
        exact RW_congr (fun b q1 q2 q3 q4 => E2 b q1 (by omega)) (fun _ _ => rfl) hw2
      · rw [E 1 (by omega) (by omega) (by omega)]; exact ⟨rfl, rfl⟩
      · rw [rM_o (by omega), rM_o (by omega), rM_o (by omega), g3 6 (by omega), g3 8 (by omega), g3 11 (by omega), fB 153 (by omega), f1 153 (by omega)]; exact ⟨rfl, rfl, rfl⟩
      · rw [show rM M2 (vTow (m 154) c p (m 18 3 + l)) 145 = M1 145 by funext i; rw [rM_o (by omega), g2 145 (by omega) (by omega) (by omega), fB 145 (by omega)]]; exact r1.1
      · rw [show rM M2 (vTow (m 154) c p (m 18 3 + l)) 146 = M1 146 by funext i; rw [rM_o (by omega), g2 146 (by omega) (by omega) (by omega), fB 146 (by omega)]]; exact r1.2
      · rw [E 152 (by omega) (by omega) (by omega)]; exact c3
      · rw [E 165 (by omega) (by omega) (by omega)]; exact c4
      · exact spR_congr (fun b q1 q2 q3 q4 => E2 b (by omega) (by omega)) hsp
      · rw [f 139 (by omega)] at hu
        exact spR_congr (fun b q1 q2 q3 q4 => f b (by omega)) (c6 x hx hu)
