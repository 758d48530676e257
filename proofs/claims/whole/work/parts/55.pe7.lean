theorem zoA_okR {m : mz_M} (hR : ∀ z, z < 4 → okR (m (27 + 2 * z))) (p : Nat) : okR (m (zoA m 18 p + 1)) := by
  have := hR (znP m 19 p) (znP_lt m 19 p)
  rw [show zoA m 18 p + 1 = 27 + 2 * znP m 19 p by show 18 + 8 + 2 * znP m 19 p + 1 = _; omega]
  exact this
theorem sp_X8_cheapestStart (m : mz_M) {t : Nat} (p k : Int) (h3 : m 18 3 = t) (ht : t < 20000) (hR : ∀ z, z < 4 → okR (m (27 + 2 * z))) : sp 246 [mz_r 8 0 0, mz_i p, mz_i k] m (some (mz_i (if (0 ≤ p ∧ p < m 19 0) ∧ 1 ≤ k ∧ k ≤ 600 then (am (prc (m (zoA m 18 p.toNat + 1)) k.toNat) t 1439 : Int) else -1))) m := by
  refine mz_cl_vc 40 (fun _ => false) [some (mz_r 8 0 0), some (mz_i p), some (mz_i k)] rfl ?_
  simp only [vcS0, vcS1, vcS2, vcS3, vcS4, vcS5, vcS6, vc_n0, vc_lk, vc_pop, vc_rc, vc_tsw, vc_fr, vc_ar, vc_tb, mz_nx, List.set_cons_zero, List.set_cons_succ, Nat.reduceAdd, Nat.reduceBEq, Nat.reduceEqDiff, Nat.reduceLeDiff, Nat.reduceLT, Nat.reduceMul, Int.reduceToNat, Bool.false_eq_true, Bool.or_self, Bool.or_true, Bool.true_or, Bool.or_false, reduceIte, Option.toList_some, Option.toList_none, List.nil_append, List.cons_append, List.length_cons, List.length_nil, true_and, and_true, Int.cast_ofNat_Int, Int.reduceEq, Int.reduceLT, Int.reduceLE, Nat.zero_le, and_self, or_true, true_or, cdS_246]
  refine ⟨_, _, sp_has m 19 p, ?_⟩
  by_cases h : 0 ≤ p ∧ p < m 19 0
  · rw [if_pos h]
    simp only [vcS0, vcS1, vcS2, vcS3, vcS4, vcS5, vcS6, vc_n0, vc_lk, vc_pop, vc_rc, vc_tsw, vc_fr, vc_ar, vc_tb, mz_nx, List.set_cons_zero, List.set_cons_succ, Nat.reduceAdd, Nat.reduceBEq, Nat.reduceEqDiff, Nat.reduceLeDiff, Nat.reduceLT, Nat.reduceMul, Int.reduceToNat, Bool.false_eq_true, Bool.or_self, Bool.or_true, Bool.true_or, Bool.or_false, reduceIte, Option.toList_some, Option.toList_none, List.nil_append, List.cons_append, List.length_cons, List.length_nil, true_and, and_true, Int.cast_ofNat_Int, Int.reduceEq, Int.reduceLT, Int.reduceLE, Nat.zero_le, and_self, or_true, true_or, cdS_246]
    refine ⟨_, _, sp_within m k 1 600, ?_⟩
    by_cases h2 : 1 ≤ k ∧ k ≤ 600
    · rw [if_pos h2, if_pos ⟨h, h2⟩]
      obtain ⟨p', rfl⟩ := nat_i h.1
      obtain ⟨k', rfl⟩ := nat_i (show 0 ≤ k by omega)
      simp only [Int.toNat_natCast]
      simp only [vcS0, vcS1, vcS2, vcS3, vcS4, vcS5, vcS6, vc_n0, vc_lk, vc_pop, vc_rc, vc_tsw, vc_fr, vc_ar, vc_tb, mz_nx, List.set_cons_zero, List.set_cons_succ, Nat.reduceAdd, Nat.reduceBEq, Nat.reduceEqDiff, Nat.reduceLeDiff, Nat.reduceLT, Nat.reduceMul, Int.reduceToNat, Bool.false_eq_true, Bool.or_self, Bool.or_true, Bool.true_or, Bool.or_false, reduceIte, Option.toList_some, Option.toList_none, List.nil_append, List.cons_append, List.length_cons, List.length_nil, true_and, and_true, Int.cast_ofNat_Int, Int.reduceEq, Int.reduceLT, Int.reduceLE, Nat.zero_le, and_self, or_true, true_or, cdS_246]
      refine ⟨_, _, sp_zoneAtW m 18 p', ?_⟩
      simp only [vcS0, vcS1, vcS2, vcS3, vcS4, vcS5, vcS6, vc_n0, vc_lk, vc_pop, vc_rc, vc_tsw, vc_fr, vc_ar, vc_tb, mz_nx, List.set_cons_zero, List.set_cons_succ, Nat.reduceAdd, Nat.reduceBEq, Nat.reduceEqDiff, Nat.reduceLeDiff, Nat.reduceLT, Nat.reduceMul, Int.reduceToNat, Bool.false_eq_true, Bool.or_self, Bool.or_true, Bool.true_or, Bool.or_false, reduceIte, Option.toList_some, Option.toList_none, List.nil_append, List.cons_append, List.length_cons, List.length_nil, true_and, and_true, Int.cast_ofNat_Int, Int.reduceEq, Int.reduceLT, Int.reduceLE, Nat.zero_le, and_self, or_true, true_or, cdS_246]
      rw [h3]
      refine ⟨_, _, sp_cheapest m (zoA_okR hR p') ht (show k' ≤ 600 by omega), ?_⟩
      simp only [vcS0, vcS1, vcS2, vcS3, vcS4, vcS5, vcS6, vc_n0, vc_lk, vc_pop, vc_rc, vc_tsw, vc_fr, vc_ar, vc_tb, mz_nx, List.set_cons_zero, List.set_cons_succ, Nat.reduceAdd, Nat.reduceBEq, Nat.reduceEqDiff, Nat.reduceLeDiff, Nat.reduceLT, Nat.reduceMul, Int.reduceToNat, Bool.false_eq_true, Bool.or_self, Bool.or_true, Bool.true_or, Bool.or_false, reduceIte, Option.toList_some, Option.toList_none, List.nil_append, List.cons_append, List.length_cons, List.length_nil, true_and, and_true, Int.cast_ofNat_Int, Int.reduceEq, Int.reduceLT, Int.reduceLE, Nat.zero_le, and_self, or_true, true_or, cdS_246]
    · rw [if_neg h2, if_neg (fun q => h2 q.2)]
      simp only [vcS0, vcS1, vcS2, vcS3, vcS4, vcS5, vcS6, vc_n0, vc_lk, vc_pop, vc_rc, vc_tsw, vc_fr, vc_ar, vc_tb, mz_nx, List.set_cons_zero, List.set_cons_succ, Nat.reduceAdd, Nat.reduceBEq, Nat.reduceEqDiff, Nat.reduceLeDiff, Nat.reduceLT, Nat.reduceMul, Int.reduceToNat, Bool.false_eq_true, Bool.or_self, Bool.or_true, Bool.true_or, Bool.or_false, reduceIte, Option.toList_some, Option.toList_none, List.nil_append, List.cons_append, List.length_cons, List.length_nil, true_and, and_true, Int.cast_ofNat_Int, Int.reduceEq, Int.reduceLT, Int.reduceLE, Nat.zero_le, and_self, or_true, true_or, cdS_246]
  · rw [if_neg h, if_neg (fun q => h q.1)]
    simp only [vcS0, vcS1, vcS2, vcS3, vcS4, vcS5, vcS6, vc_n0, vc_lk, vc_pop, vc_rc, vc_tsw, vc_fr, vc_ar, vc_tb, mz_nx, List.set_cons_zero, List.set_cons_succ, Nat.reduceAdd, Nat.reduceBEq, Nat.reduceEqDiff, Nat.reduceLeDiff, Nat.reduceLT, Nat.reduceMul, Int.reduceToNat, Bool.false_eq_true, Bool.or_self, Bool.or_true, Bool.true_or, Bool.or_false, reduceIte, Option.toList_some, Option.toList_none, List.nil_append, List.cons_append, List.length_cons, List.length_nil, true_and, and_true, Int.cast_ofNat_Int, Int.reduceEq, Int.reduceLT, Int.reduceLE, Nat.zero_le, and_self, or_true, true_or, cdS_246]
theorem sp_X8_busiestPlace (m : mz_M) {n : Nat} (d : Int) (h : lgO m 35 n) (hp : ∀ i, i < n → m 37 i = 1 → m 39 i < 10) : sp 206 [mz_r 8 0 0, mz_i d] m (some (mz_i (if 0 ≤ d ∧ d ≤ 6 then (if (mxp (pkT m 35 d n) 10).1 = -1 then -3 else (mxp (pkT m 35 d n) 10).1) else -1))) (if 0 ≤ d ∧ d ≤ 6 then rowS m 41 10 (pkT m 35 d n) else m) := by
  refine mz_cl_vc 40 (fun _ => false) [some (mz_r 8 0 0), some (mz_i d), none] rfl ?_
  simp only [vcS0, vcS1, vcS2, vcS3, vcS4, vcS5, vcS6, vc_n0, vc_lk, vc_pop, vc_rc, vc_tsw, vc_fr, vc_ar, vc_tb, mz_nx, List.set_cons_zero, List.set_cons_succ, Nat.reduceAdd, Nat.reduceBEq, Nat.reduceEqDiff, Nat.reduceLeDiff, Nat.reduceLT, Nat.reduceMul, Int.reduceToNat, Bool.false_eq_true, Bool.or_self, Bool.or_true, Bool.true_or, Bool.or_false, reduceIte, Option.toList_some, Option.toList_none, List.nil_append, List.cons_append, List.length_cons, List.length_nil, true_and, and_true, Int.cast_ofNat_Int, Int.reduceEq, Int.reduceLT, Int.reduceLE, Nat.zero_le, and_self, or_true, true_or, cdS_206]
  refine ⟨_, _, sp_within m d 0 6, ?_⟩
  by_cases h1 : 0 ≤ d ∧ d ≤ 6
  · rw [if_pos h1, if_pos h1, if_pos h1]
    simp only [vcS0, vcS1, vcS2, vcS3, vcS4, vcS5, vcS6, vc_n0, vc_lk, vc_pop, vc_rc, vc_tsw, vc_fr, vc_ar, vc_tb, mz_nx, List.set_cons_zero, List.set_cons_succ, Nat.reduceAdd, Nat.reduceBEq, Nat.reduceEqDiff, Nat.reduceLeDiff, Nat.reduceLT, Nat.reduceMul, Int.reduceToNat, Bool.false_eq_true, Bool.or_self, Bool.or_true, Bool.true_or, Bool.or_false, reduceIte, Option.toList_some, Option.toList_none, List.nil_append, List.cons_append, List.length_cons, List.length_nil, true_and, and_true, Int.cast_ofNat_Int, Int.reduceEq, Int.reduceLT, Int.reduceLE, Nat.zero_le, and_self, or_true, true_or, cdS_206]
    refine ⟨_, _, sp_mostParks m h hp, ?_⟩
    simp only [vcS0, vcS1, vcS2, vcS3, vcS4, vcS5, vcS6, vc_n0, vc_lk, vc_pop, vc_rc, vc_tsw, vc_fr, vc_ar, vc_tb, mz_nx, List.set_cons_zero, List.set_cons_succ, Nat.reduceAdd, Nat.reduceBEq, Nat.reduceEqDiff, Nat.reduceLeDiff, Nat.reduceLT, Nat.reduceMul, Int.reduceToNat, Bool.false_eq_true, Bool.or_self, Bool.or_true, Bool.true_or, Bool.or_false, reduceIte, Option.toList_some, Option.toList_none, List.nil_append, List.cons_append, List.length_cons, List.length_nil, true_and, and_true, Int.cast_ofNat_Int, Int.reduceEq, Int.reduceLT, Int.reduceLE, Nat.zero_le, and_self, or_true, true_or, cdS_206]
    split
    · rfl
    · rfl
  · rw [if_neg h1, if_neg h1, if_neg h1]
    simp only [vcS0, vcS1, vcS2, vcS3, vcS4, vcS5, vcS6, vc_n0, vc_lk, vc_pop, vc_rc, vc_tsw, vc_fr, vc_ar, vc_tb, mz_nx, List.set_cons_zero, List.set_cons_succ, Nat.reduceAdd, Nat.reduceBEq, Nat.reduceEqDiff, Nat.reduceLeDiff, Nat.reduceLT, Nat.reduceMul, Int.reduceToNat, Bool.false_eq_true, Bool.or_self, Bool.or_true, Bool.true_or, Bool.or_false, reduceIte, Option.toList_some, Option.toList_none, List.nil_append, List.cons_append, List.length_cons, List.length_nil, true_and, and_true, Int.cast_ofNat_Int, Int.reduceEq, Int.reduceLT, Int.reduceLE, Nat.zero_le, and_self, or_true, true_or, cdS_206]
theorem sp_X8_nextOnWay (m : mz_M) {n : Nat} (p r : Int) (hn : n ≤ 10) (h0 : m 19 0 = n) (hR : fwO (m 23)) (hW : fwO (m 24)) : sp 209 [mz_r 8 0 0, mz_i p, mz_i r] m (some (mz_i (if (0 ≤ p ∧ p < m 19 0) ∧ (0 ≤ r ∧ r < m 19 0) ∧ p ≠ r then opI (-3) (fsR m 19 p.toNat r.toNat n) else -1))) m := by
  refine mz_cl_vc 40 (fun _ => false) [some (mz_r 8 0 0), some (mz_i p), some (mz_i r), none] rfl ?_
  simp only [vcS0, vcS1, vcS2, vcS3, vcS4, vcS5, vcS6, vc_n0, vc_lk, vc_pop, vc_rc, vc_tsw, vc_fr, vc_ar, vc_tb, mz_nx, List.set_cons_zero, List.set_cons_succ, Nat.reduceAdd, Nat.reduceBEq, Nat.reduceEqDiff, Nat.reduceLeDiff, Nat.reduceLT, Nat.reduceMul, Int.reduceToNat, Bool.false_eq_true, Bool.or_self, Bool.or_true, Bool.true_or, Bool.or_false, reduceIte, Option.toList_some, Option.toList_none, List.nil_append, List.cons_append, List.length_cons, List.length_nil, true_and, and_true, Int.cast_ofNat_Int, Int.reduceEq, Int.reduceLT, Int.reduceLE, Nat.zero_le, and_self, or_true, true_or, cdS_209]
  refine ⟨_, _, sp_has m 19 p, ?_⟩
  by_cases h : 0 ≤ p ∧ p < m 19 0
  · rw [if_pos h]
    simp only [vcS0, vcS1, vcS2, vcS3, vcS4, vcS5, vcS6, vc_n0, vc_lk, vc_pop, vc_rc, vc_tsw, vc_fr, vc_ar, vc_tb, mz_nx, List.set_cons_zero, List.set_cons_succ, Nat.reduceAdd, Nat.reduceBEq, Nat.reduceEqDiff, Nat.reduceLeDiff, Nat.reduceLT, Nat.reduceMul, Int.reduceToNat, Bool.false_eq_true, Bool.or_self, Bool.or_true, Bool.true_or, Bool.or_false, reduceIte, Option.toList_some, Option.toList_none, List.nil_append, List.cons_append, List.length_cons, List.length_nil, true_and, and_true, Int.cast_ofNat_Int, Int.reduceEq, Int.reduceLT, Int.reduceLE, Nat.zero_le, and_self, or_true, true_or, cdS_209]
    refine ⟨_, _, sp_has m 19 r, ?_⟩
    by_cases h2 : 0 ≤ r ∧ r < m 19 0
    · rw [if_pos h2]
      simp only [vcS0, vcS1, vcS2, vcS3, vcS4, vcS5, vcS6, vc_n0, vc_lk, vc_pop, vc_rc, vc_tsw, vc_fr, vc_ar, vc_tb, mz_nx, List.set_cons_zero, List.set_cons_succ, Nat.reduceAdd, Nat.reduceBEq, Nat.reduceEqDiff, Nat.reduceLeDiff, Nat.reduceLT, Nat.reduceMul, Int.reduceToNat, Bool.false_eq_true, Bool.or_self, Bool.or_true, Bool.true_or, Bool.or_false, reduceIte, Option.toList_some, Option.toList_none, List.nil_append, List.cons_append, List.length_cons, List.length_nil, true_and, and_true, Int.cast_ofNat_Int, Int.reduceEq, Int.reduceLT, Int.reduceLE, Nat.zero_le, and_self, or_true, true_or, cdS_209]
      by_cases h3 : p = r
      · rw [if_pos h3, if_neg (fun q => q.2.2 h3)]
      · rw [if_neg h3, if_pos ⟨h, h2, h3⟩]
        obtain ⟨a, rfl⟩ := nat_i h.1
        obtain ⟨b, rfl⟩ := nat_i h2.1
        simp only [Int.toNat_natCast]
        refine ⟨_, _, sp_firstStep m (w := 19) (show a < 10 by omega) (show b < 10 by omega) hn h0 hR hW, ?_⟩
        simp only [vcS0, vcS1, vcS2, vcS3, vcS4, vcS5, vcS6, vc_n0, vc_lk, vc_pop, vc_rc, vc_tsw, vc_fr, vc_ar, vc_tb, mz_nx, List.set_cons_zero, List.set_cons_succ, Nat.reduceAdd, Nat.reduceBEq, Nat.reduceEqDiff, Nat.reduceLeDiff, Nat.reduceLT, Nat.reduceMul, Int.reduceToNat, Bool.false_eq_true, Bool.or_self, Bool.or_true, Bool.true_or, Bool.or_false, reduceIte, Option.toList_some, Option.toList_none, List.nil_append, List.cons_append, List.length_cons, List.length_nil, true_and, and_true, Int.cast_ofNat_Int, Int.reduceEq, Int.reduceLT, Int.reduceLE, Nat.zero_le, and_self, or_true, true_or, cdS_209]
        cases fsR m 19 a b n with
        | none => rfl
        | some c =>
          rw [show opI (-1) (some c) = (c : Int) from rfl, show opI (-3) (some c) = (c : Int) from rfl, if_neg (by omega)]
    · rw [if_neg h2, if_neg (fun q => h2 q.2.1)]
      simp only [vcS0, vcS1, vcS2, vcS3, vcS4, vcS5, vcS6, vc_n0, vc_lk, vc_pop, vc_rc, vc_tsw, vc_fr, vc_ar, vc_tb, mz_nx, List.set_cons_zero, List.set_cons_succ, Nat.reduceAdd, Nat.reduceBEq, Nat.reduceEqDiff, Nat.reduceLeDiff, Nat.reduceLT, Nat.reduceMul, Int.reduceToNat, Bool.false_eq_true, Bool.or_self, Bool.or_true, Bool.true_or, Bool.or_false, reduceIte, Option.toList_some, Option.toList_none, List.nil_append, List.cons_append, List.length_cons, List.length_nil, true_and, and_true, Int.cast_ofNat_Int, Int.reduceEq, Int.reduceLT, Int.reduceLE, Nat.zero_le, and_self, or_true, true_or, cdS_209]
  · rw [if_neg h, if_neg (fun q => h q.1)]
    simp only [vcS0, vcS1, vcS2, vcS3, vcS4, vcS5, vcS6, vc_n0, vc_lk, vc_pop, vc_rc, vc_tsw, vc_fr, vc_ar, vc_tb, mz_nx, List.set_cons_zero, List.set_cons_succ, Nat.reduceAdd, Nat.reduceBEq, Nat.reduceEqDiff, Nat.reduceLeDiff, Nat.reduceLT, Nat.reduceMul, Int.reduceToNat, Bool.false_eq_true, Bool.or_self, Bool.or_true, Bool.true_or, Bool.or_false, reduceIte, Option.toList_some, Option.toList_none, List.nil_append, List.cons_append, List.length_cons, List.length_nil, true_and, and_true, Int.cast_ofNat_Int, Int.reduceEq, Int.reduceLT, Int.reduceLE, Nat.zero_le, and_self, or_true, true_or, cdS_209]
