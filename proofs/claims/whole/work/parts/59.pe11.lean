def lvM (m : mz_M) (k t : Nat) : mz_M := lgA 35 (m 18 3) 3 (m k 0) (ovr m 18 k t) (mz_up m k 1 0)
theorem sp_X8_leave (m : mz_M) {t : Nat} (x : Int) (h3 : m 18 3 = t) (ht : t < 20000) (hl : 0 ≤ m 35 0) (hc : ∀ c, c < 16 → caO m (18 + 24 + c)) : sp 248 [mz_r 8 0 0, mz_i x] m (some (mz_i (if 0 ≤ x ∧ x < 16 then (if m (18 + 24 + x.toNat) 1 = 1 then (if 340 ≤ m 35 0 then -4 else ovr m 18 (18 + 24 + x.toNat) t) else -2) else -1))) (if (0 ≤ x ∧ x < 16) ∧ m (18 + 24 + x.toNat) 1 = 1 ∧ ¬ 340 ≤ m 35 0 then lvM m (18 + 24 + x.toNat) t else m) := by
  refine mz_cl_vc 60 (fun _ => false) [some (mz_r 8 0 0), some (mz_i x), none, none] rfl ?_
  simp only [vcS0, vcS1, vcS2, vcS3, vcS4, vcS5, vcS6, vc_n0, vc_lk, vc_pop, vc_rc, vc_tsw, vc_fr, vc_ar, vc_tb, mz_nx, List.set_cons_zero, List.set_cons_succ, Nat.reduceAdd, Nat.reduceBEq, Nat.reduceEqDiff, Nat.reduceLeDiff, Nat.reduceLT, Nat.reduceMul, Int.reduceToNat, Bool.false_eq_true, Bool.or_self, Bool.or_true, Bool.true_or, Bool.or_false, reduceIte, Option.toList_some, Option.toList_none, List.nil_append, List.cons_append, List.length_cons, List.length_nil, true_and, and_true, Int.cast_ofNat_Int, Int.reduceEq, Int.reduceLT, Int.reduceLE, Nat.zero_le, and_self, or_true, true_or, cdS_248]
  refine ⟨_, _, sp_carOrNull m 18 x, ?_⟩
  by_cases h : 0 ≤ x ∧ x < 16
  · rw [coR_ok h, if_pos h]
    simp only [vcS0, vcS1, vcS2, vcS3, vcS4, vcS5, vcS6, vc_n0, vc_lk, vc_pop, vc_rc, vc_tsw, vc_fr, vc_ar, vc_tb, mz_nx, List.set_cons_zero, List.set_cons_succ, Nat.reduceAdd, Nat.reduceBEq, Nat.reduceEqDiff, Nat.reduceLeDiff, Nat.reduceLT, Nat.reduceMul, Int.reduceToNat, Bool.false_eq_true, Bool.or_self, Bool.or_true, Bool.true_or, Bool.or_false, reduceIte, Option.toList_some, Option.toList_none, List.nil_append, List.cons_append, List.length_cons, List.length_nil, true_and, and_true, Int.cast_ofNat_Int, Int.reduceEq, Int.reduceLT, Int.reduceLE, Nat.zero_le, and_self, or_true, true_or, cdS_248]
    have hh := hc x.toNat (by omega)
    obtain ⟨p, hp⟩ := nat_i hh.1.1
    obtain ⟨f, hf⟩ := nat_i hh.2.1.1
    have ho : ovr m 18 (18 + 24 + x.toNat) t = cm (m (zoA m 18 p + 1)) f (t - f) := by
      unfold ovr
      rw [hp, hf, Int.toNat_natCast, Int.toNat_natCast]
    by_cases h1 : m (18 + 24 + x.toNat) 1 = 1
    · rw [if_pos h1, if_pos h1]
      refine ⟨_, _, sp_lfull m 35, ?_⟩
      by_cases h2 : 340 ≤ m 35 0
      · rw [if_pos h2, if_pos h2, if_neg (fun q => q.2.2 h2)]
        simp only [vcS0, vcS1, vcS2, vcS3, vcS4, vcS5, vcS6, vc_n0, vc_lk, vc_pop, vc_rc, vc_tsw, vc_fr, vc_ar, vc_tb, mz_nx, List.set_cons_zero, List.set_cons_succ, Nat.reduceAdd, Nat.reduceBEq, Nat.reduceEqDiff, Nat.reduceLeDiff, Nat.reduceLT, Nat.reduceMul, Int.reduceToNat, Bool.false_eq_true, Bool.or_self, Bool.or_true, Bool.true_or, Bool.or_false, reduceIte, Option.toList_some, Option.toList_none, List.nil_append, List.cons_append, List.length_cons, List.length_nil, true_and, and_true, Int.cast_ofNat_Int, Int.reduceEq, Int.reduceLT, Int.reduceLE, Nat.zero_le, and_self, or_true, true_or, cdS_248]
      · rw [if_neg h2, if_neg h2, if_pos ⟨h, h1, h2⟩]
        simp only [vcS0, vcS1, vcS2, vcS3, vcS4, vcS5, vcS6, vc_n0, vc_lk, vc_pop, vc_rc, vc_tsw, vc_fr, vc_ar, vc_tb, mz_nx, List.set_cons_zero, List.set_cons_succ, Nat.reduceAdd, Nat.reduceBEq, Nat.reduceEqDiff, Nat.reduceLeDiff, Nat.reduceLT, Nat.reduceMul, Int.reduceToNat, Bool.false_eq_true, Bool.or_self, Bool.or_true, Bool.true_or, Bool.or_false, reduceIte, Option.toList_some, Option.toList_none, List.nil_append, List.cons_append, List.length_cons, List.length_nil, true_and, and_true, Int.cast_ofNat_Int, Int.reduceEq, Int.reduceLT, Int.reduceLE, Nat.zero_le, and_self, or_true, true_or, cdS_248]
        have hl2 := hh.2.1
        refine ⟨_, _, sp_overtimeOf m (u := 18) (k := 18 + 24 + x.toNat) h3 hp hf (by omega) (by omega), ?_⟩
        simp only [vcS0, vcS1, vcS2, vcS3, vcS4, vcS5, vcS6, vc_n0, vc_lk, vc_pop, vc_rc, vc_tsw, vc_fr, vc_ar, vc_tb, mz_nx, List.set_cons_zero, List.set_cons_succ, Nat.reduceAdd, Nat.reduceBEq, Nat.reduceEqDiff, Nat.reduceLeDiff, Nat.reduceLT, Nat.reduceMul, Int.reduceToNat, Bool.false_eq_true, Bool.or_self, Bool.or_true, Bool.true_or, Bool.or_false, reduceIte, Option.toList_some, Option.toList_none, List.nil_append, List.cons_append, List.length_cons, List.length_nil, true_and, and_true, Int.cast_ofNat_Int, Int.reduceEq, Int.reduceLT, Int.reduceLE, Nat.zero_le, and_self, or_true, true_or, cdS_248]
        rw [← ho]
        have hn := sp_note (mz_up m (18 + 24 + x.toNat) 1 0) (u := 18) (k := 18 + 24 + x.toNat) (d := 3) (x := ovr m 18 (18 + 24 + x.toNat) t) (by rw [up_o (by omega)]; exact hl)
        rw [up_o (by omega), up_k (by omega)] at hn
        refine ⟨_, _, hn, ?_⟩
        simp only [vcS0, vcS1, vcS2, vcS3, vcS4, vcS5, vcS6, vc_n0, vc_lk, vc_pop, vc_rc, vc_tsw, vc_fr, vc_ar, vc_tb, mz_nx, List.set_cons_zero, List.set_cons_succ, Nat.reduceAdd, Nat.reduceBEq, Nat.reduceEqDiff, Nat.reduceLeDiff, Nat.reduceLT, Nat.reduceMul, Int.reduceToNat, Bool.false_eq_true, Bool.or_self, Bool.or_true, Bool.true_or, Bool.or_false, reduceIte, Option.toList_some, Option.toList_none, List.nil_append, List.cons_append, List.length_cons, List.length_nil, true_and, and_true, Int.cast_ofNat_Int, Int.reduceEq, Int.reduceLT, Int.reduceLE, Nat.zero_le, and_self, or_true, true_or, cdS_248]
        rfl
    · rw [if_neg h1, if_neg h1, if_neg (fun q => h1 q.2.1)]
      exact ⟨rfl, rfl⟩
  · rw [coR_no h, if_neg h, if_neg (fun q => h q.1)]
    simp only [vcS0, vcS1, vcS2, vcS3, vcS4, vcS5, vcS6, vc_n0, vc_lk, vc_pop, vc_rc, vc_tsw, vc_fr, vc_ar, vc_tb, mz_nx, List.set_cons_zero, List.set_cons_succ, Nat.reduceAdd, Nat.reduceBEq, Nat.reduceEqDiff, Nat.reduceLeDiff, Nat.reduceLT, Nat.reduceMul, Int.reduceToNat, Bool.false_eq_true, Bool.or_self, Bool.or_true, Bool.true_or, Bool.or_false, reduceIte, Option.toList_some, Option.toList_none, List.nil_append, List.cons_append, List.length_cons, List.length_nil, true_and, and_true, Int.cast_ofNat_Int, Int.reduceEq, Int.reduceLT, Int.reduceLE, Nat.zero_le, and_self, or_true, true_or, cdS_248]
