theorem sp_rover (m : mz_M) (V : Nat → Int) {c : Nat} (hc : c < 16) (h : mCo V c) (hz : mZo V) (ht : 0 ≤ V 2 ∧ V 2 < 20000) : sp 112 [mz_r 9 0 153, mz_i c] (rM m V) (some (mz_i (mOv V c))) (rM m V) := by
  have := sp_overV (rM m V) hc (by rw [rM_154]; exact h) (by rw [rM_154]; exact hz) (by rw [rM_154]; exact ht)
  rw [rM_154] at this
  exact this
def vLv (V : Nat → Int) (c : Nat) : Nat → Int := vL (vU V (333 + 6 * c) 0) 3 c (mOv V c)
theorem sp_rLeave (m : mz_M) (V : Nat → Int) (x : Int) {n : Nat} (hv : mVO V n) : sp 161 [mz_r 9 0 153, mz_i x] (rM m V) (some (mz_i (if 0 ≤ x ∧ x < 16 then (if mc V x.toNat 0 = 1 then (if 340 ≤ V 429 then -4 else mOv V x.toNat) else -2) else -1))) (rM (mz_up m 153 4 0) (if (0 ≤ x ∧ x < 16) ∧ mc V x.toNat 0 = 1 ∧ ¬ 340 ≤ V 429 then vLv V x.toNat else V)) := by
  have h0 := hv.1.1
  refine mz_cl_vc 60 (fun _ => false) [some (mz_r 9 0 153), some (mz_i x), none] rfl ?_
  simp only [vcS0, vcS1, vcS2, vcS3, vcS4, vcS5, vcS6, vc_n0, vc_lk, vc_pop, vc_rc, vc_tsw, vc_fr, vc_ar, vc_tb, mz_nx, List.set_cons_zero, List.set_cons_succ, Nat.reduceAdd, Nat.reduceBEq, Nat.reduceEqDiff, Nat.reduceLeDiff, Nat.reduceLT, Nat.reduceMul, Int.reduceToNat, Bool.false_eq_true, Bool.or_self, Bool.or_true, Bool.true_or, Bool.or_false, reduceIte, Option.toList_some, Option.toList_none, List.nil_append, List.cons_append, List.length_cons, List.length_nil, true_and, and_true, Int.cast_ofNat_Int, Int.reduceEq, Int.reduceLT, Int.reduceLE, Nat.zero_le, and_self, or_true, true_or, cdS_161]
  rw [rM_u3]
  refine ⟨_, _, sp_isCar _ x, ?_⟩
  by_cases h1 : 0 ≤ x ∧ x < 16
  · rw [if_pos (show 0 ≤ x ∧ x ≤ 15 by omega), if_pos h1]
    obtain ⟨c, rfl⟩ := nat_i h1.1
    simp only [Int.toNat_natCast]
    simp only [vcS0, vcS1, vcS2, vcS3, vcS4, vcS5, vcS6, vc_n0, vc_lk, vc_pop, vc_rc, vc_tsw, vc_fr, vc_ar, vc_tb, mz_nx, List.set_cons_zero, List.set_cons_succ, Nat.reduceAdd, Nat.reduceBEq, Nat.reduceEqDiff, Nat.reduceLeDiff, Nat.reduceLT, Nat.reduceMul, Int.reduceToNat, Bool.false_eq_true, Bool.or_self, Bool.or_true, Bool.true_or, Bool.or_false, reduceIte, Option.toList_some, Option.toList_none, List.nil_append, List.cons_append, List.length_cons, List.length_nil, true_and, and_true, Int.cast_ofNat_Int, Int.reduceEq, Int.reduceLT, Int.reduceLE, Nat.zero_le, and_self, or_true, true_or, cdS_161]
    refine ⟨_, _, (sp_rof _ V (show c < 16 by omega)).1, ?_⟩
    simp only [vcS0, vcS1, vcS2, vcS3, vcS4, vcS5, vcS6, vc_n0, vc_lk, vc_pop, vc_rc, vc_tsw, vc_fr, vc_ar, vc_tb, mz_nx, List.set_cons_zero, List.set_cons_succ, Nat.reduceAdd, Nat.reduceBEq, Nat.reduceEqDiff, Nat.reduceLeDiff, Nat.reduceLT, Nat.reduceMul, Int.reduceToNat, Bool.false_eq_true, Bool.or_self, Bool.or_true, Bool.true_or, Bool.or_false, reduceIte, Option.toList_some, Option.toList_none, List.nil_append, List.cons_append, List.length_cons, List.length_nil, true_and, and_true, Int.cast_ofNat_Int, Int.reduceEq, Int.reduceLT, Int.reduceLE, Nat.zero_le, and_self, or_true, true_or, cdS_161]
    by_cases h2 : mc V c 0 = 1
    · rw [if_pos h2, if_pos h2]
      refine ⟨_, _, sp_rfull _ V, ?_⟩
      by_cases h5 : 340 ≤ V 429
      · rw [if_pos h5, if_pos h5, if_neg (fun q => q.2.2 h5)]
        simp only [vcS0, vcS1, vcS2, vcS3, vcS4, vcS5, vcS6, vc_n0, vc_lk, vc_pop, vc_rc, vc_tsw, vc_fr, vc_ar, vc_tb, mz_nx, List.set_cons_zero, List.set_cons_succ, Nat.reduceAdd, Nat.reduceBEq, Nat.reduceEqDiff, Nat.reduceLeDiff, Nat.reduceLT, Nat.reduceMul, Int.reduceToNat, Bool.false_eq_true, Bool.or_self, Bool.or_true, Bool.true_or, Bool.or_false, reduceIte, Option.toList_some, Option.toList_none, List.nil_append, List.cons_append, List.length_cons, List.length_nil, true_and, and_true, Int.cast_ofNat_Int, Int.reduceEq, Int.reduceLT, Int.reduceLE, Nat.zero_le, and_self, or_true, true_or, cdS_161]
      · rw [if_neg h5, if_neg h5, if_pos (show ((0 : Int) ≤ c ∧ (c : Int) < 16) ∧ mc V c 0 = 1 ∧ ¬ 340 ≤ V 429 from ⟨h1, h2, h5⟩)]
        simp only [vcS0, vcS1, vcS2, vcS3, vcS4, vcS5, vcS6, vc_n0, vc_lk, vc_pop, vc_rc, vc_tsw, vc_fr, vc_ar, vc_tb, mz_nx, List.set_cons_zero, List.set_cons_succ, Nat.reduceAdd, Nat.reduceBEq, Nat.reduceEqDiff, Nat.reduceLeDiff, Nat.reduceLT, Nat.reduceMul, Int.reduceToNat, Bool.false_eq_true, Bool.or_self, Bool.or_true, Bool.true_or, Bool.or_false, reduceIte, Option.toList_some, Option.toList_none, List.nil_append, List.cons_append, List.length_cons, List.length_nil, true_and, and_true, Int.cast_ofNat_Int, Int.reduceEq, Int.reduceLT, Int.reduceLE, Nat.zero_le, and_self, or_true, true_or, cdS_161]
        refine ⟨_, _, sp_rover _ V (show c < 16 by omega) (hv.2.2.2 c (by omega)) hv.2.2.1 hv.2.1, ?_⟩
        simp only [vcS0, vcS1, vcS2, vcS3, vcS4, vcS5, vcS6, vc_n0, vc_lk, vc_pop, vc_rc, vc_tsw, vc_fr, vc_ar, vc_tb, mz_nx, List.set_cons_zero, List.set_cons_succ, Nat.reduceAdd, Nat.reduceBEq, Nat.reduceEqDiff, Nat.reduceLeDiff, Nat.reduceLT, Nat.reduceMul, Int.reduceToNat, Bool.false_eq_true, Bool.or_self, Bool.or_true, Bool.true_or, Bool.or_false, reduceIte, Option.toList_some, Option.toList_none, List.nil_append, List.cons_append, List.length_cons, List.length_nil, true_and, and_true, Int.cast_ofNat_Int, Int.reduceEq, Int.reduceLT, Int.reduceLE, Nat.zero_le, and_self, or_true, true_or, cdS_161]
        refine ⟨_, _, (sp_rset _ V 0 (show c < 16 by omega)).1, ?_⟩
        simp only [vcS0, vcS1, vcS2, vcS3, vcS4, vcS5, vcS6, vc_n0, vc_lk, vc_pop, vc_rc, vc_tsw, vc_fr, vc_ar, vc_tb, mz_nx, List.set_cons_zero, List.set_cons_succ, Nat.reduceAdd, Nat.reduceBEq, Nat.reduceEqDiff, Nat.reduceLeDiff, Nat.reduceLT, Nat.reduceMul, Int.reduceToNat, Bool.false_eq_true, Bool.or_self, Bool.or_true, Bool.true_or, Bool.or_false, reduceIte, Option.toList_some, Option.toList_none, List.nil_append, List.cons_append, List.length_cons, List.length_nil, true_and, and_true, Int.cast_ofNat_Int, Int.reduceEq, Int.reduceLT, Int.reduceLE, Nat.zero_le, and_self, or_true, true_or, cdS_161]
        refine ⟨_, _, sp_rlogs _ _ (n := n) 3 c (mOv V c) (by rw [vU_n (by omega)]; exact h0) (by omega), ?_⟩
        simp only [vcS0, vcS1, vcS2, vcS3, vcS4, vcS5, vcS6, vc_n0, vc_lk, vc_pop, vc_rc, vc_tsw, vc_fr, vc_ar, vc_tb, mz_nx, List.set_cons_zero, List.set_cons_succ, Nat.reduceAdd, Nat.reduceBEq, Nat.reduceEqDiff, Nat.reduceLeDiff, Nat.reduceLT, Nat.reduceMul, Int.reduceToNat, Bool.false_eq_true, Bool.or_self, Bool.or_true, Bool.true_or, Bool.or_false, reduceIte, Option.toList_some, Option.toList_none, List.nil_append, List.cons_append, List.length_cons, List.length_nil, true_and, and_true, Int.cast_ofNat_Int, Int.reduceEq, Int.reduceLT, Int.reduceLE, Nat.zero_le, and_self, or_true, true_or, cdS_161]
        rfl
    · rw [if_neg h2, if_neg h2, if_neg (fun q => h2 q.2.1)]
      all_goals ((repeat' refine And.intro ?_ ?_) <;> first | trivial | rfl | (unfold mz_w; omega) | omega)
  · rw [if_neg (show ¬ (0 ≤ x ∧ x ≤ 15) by omega), if_neg h1, if_neg (fun q => h1 q.1)]
    simp only [vcS0, vcS1, vcS2, vcS3, vcS4, vcS5, vcS6, vc_n0, vc_lk, vc_pop, vc_rc, vc_tsw, vc_fr, vc_ar, vc_tb, mz_nx, List.set_cons_zero, List.set_cons_succ, Nat.reduceAdd, Nat.reduceBEq, Nat.reduceEqDiff, Nat.reduceLeDiff, Nat.reduceLT, Nat.reduceMul, Int.reduceToNat, Bool.false_eq_true, Bool.or_self, Bool.or_true, Bool.true_or, Bool.or_false, reduceIte, Option.toList_some, Option.toList_none, List.nil_append, List.cons_append, List.length_cons, List.length_nil, true_and, and_true, Int.cast_ofNat_Int, Int.reduceEq, Int.reduceLT, Int.reduceLE, Nat.zero_le, and_self, or_true, true_or, cdS_161]
def vPay (V : Nat → Int) (c : Nat) (U k : Int) : Nat → Int := vL (vU V (333 + 6 * c + 2) U) 2 c k
def mUn (V : Nat → Int) (c : Nat) (k : Int) : Nat := lu (mR V (mzA V (mc V c 1).toNat)) ((V 2).toNat + (V (329 + mzA V (mc V c 1).toNat)).toNat - (max (V 2) (mc V c 2)).toNat) (60 * k) (max (V 2) (mc V c 2)).toNat
theorem sp_rPay (m : mz_M) (V : Nat → Int) (x k : Int) {n : Nat} (hv : mVO V n) (hR : mRo V) (hS : ∀ z, z < 4 → 0 ≤ V (329 + z) ∧ V (329 + z) < 1000) : sp 173 [mz_r 9 0 153, mz_i x, mz_i k] (rM m V) (some (mz_i (if (0 ≤ x ∧ x < 16) ∧ 1 ≤ k ∧ k ≤ 9999 then (if mc V x.toNat 0 = 1 then (if (mUn V x.toNat k : Int) = max (V 2) (mc V x.toNat 2) then -3 else if 340 ≤ V 429 then -4 else mUn V x.toNat k) else -2) else -1))) (rM (mz_up m 153 4 0) (if ((0 ≤ x ∧ x < 16) ∧ 1 ≤ k ∧ k ≤ 9999) ∧ mc V x.toNat 0 = 1 ∧ ¬ (mUn V x.toNat k : Int) = max (V 2) (mc V x.toNat 2) ∧ ¬ 340 ≤ V 429 then vPay V x.toNat (mUn V x.toNat k) k else V)) := by
  have h0 := hv.1.1
  have hT := hv.2.1
  refine mz_cl_vc 60 (fun _ => false) [some (mz_r 9 0 153), some (mz_i x), some (mz_i k), none, none] rfl ?_
  simp only [vcS0, vcS1, vcS2, vcS3, vcS4, vcS5, vcS6, vc_n0, vc_lk, vc_pop, vc_rc, vc_tsw, vc_fr, vc_ar, vc_tb, mz_nx, List.set_cons_zero, List.set_cons_succ, Nat.reduceAdd, Nat.reduceBEq, Nat.reduceEqDiff, Nat.reduceLeDiff, Nat.reduceLT, Nat.reduceMul, Int.reduceToNat, Bool.false_eq_true, Bool.or_self, Bool.or_true, Bool.true_or, Bool.or_false, reduceIte, Option.toList_some, Option.toList_none, List.nil_append, List.cons_append, List.length_cons, List.length_nil, true_and, and_true, Int.cast_ofNat_Int, Int.reduceEq, Int.reduceLT, Int.reduceLE, Nat.zero_le, and_self, or_true, true_or, cdS_173]
  rw [rM_u3]
  refine ⟨_, _, sp_isCar _ x, ?_⟩
  by_cases h1 : 0 ≤ x ∧ x < 16
  · rw [if_pos (show 0 ≤ x ∧ x ≤ 15 by omega)]
    simp only [vcS0, vcS1, vcS2, vcS3, vcS4, vcS5, vcS6, vc_n0, vc_lk, vc_pop, vc_rc, vc_tsw, vc_fr, vc_ar, vc_tb, mz_nx, List.set_cons_zero, List.set_cons_succ, Nat.reduceAdd, Nat.reduceBEq, Nat.reduceEqDiff, Nat.reduceLeDiff, Nat.reduceLT, Nat.reduceMul, Int.reduceToNat, Bool.false_eq_true, Bool.or_self, Bool.or_true, Bool.true_or, Bool.or_false, reduceIte, Option.toList_some, Option.toList_none, List.nil_append, List.cons_append, List.length_cons, List.length_nil, true_and, and_true, Int.cast_ofNat_Int, Int.reduceEq, Int.reduceLT, Int.reduceLE, Nat.zero_le, and_self, or_true, true_or, cdS_173]
    refine ⟨_, _, sp_in _ k 1 9999, ?_⟩
    by_cases h2 : 1 ≤ k ∧ k ≤ 9999
    · have h12 := And.intro h1 h2
      rw [if_pos h2, if_pos h12]
      obtain ⟨c, rfl⟩ := nat_i h1.1
      obtain ⟨y, rfl⟩ := nat_i (show 0 ≤ k by omega)
      simp only [Int.toNat_natCast]
      simp only [vcS0, vcS1, vcS2, vcS3, vcS4, vcS5, vcS6, vc_n0, vc_lk, vc_pop, vc_rc, vc_tsw, vc_fr, vc_ar, vc_tb, mz_nx, List.set_cons_zero, List.set_cons_succ, Nat.reduceAdd, Nat.reduceBEq, Nat.reduceEqDiff, Nat.reduceLeDiff, Nat.reduceLT, Nat.reduceMul, Int.reduceToNat, Bool.false_eq_true, Bool.or_self, Bool.or_true, Bool.true_or, Bool.or_false, reduceIte, Option.toList_some, Option.toList_none, List.nil_append, List.cons_append, List.length_cons, List.length_nil, true_and, and_true, Int.cast_ofNat_Int, Int.reduceEq, Int.reduceLT, Int.reduceLE, Nat.zero_le, and_self, or_true, true_or, cdS_173]
      refine ⟨_, _, (sp_rof _ V (show c < 16 by omega)).1, ?_⟩
      simp only [vcS0, vcS1, vcS2, vcS3, vcS4, vcS5, vcS6, vc_n0, vc_lk, vc_pop, vc_rc, vc_tsw, vc_fr, vc_ar, vc_tb, mz_nx, List.set_cons_zero, List.set_cons_succ, Nat.reduceAdd, Nat.reduceBEq, Nat.reduceEqDiff, Nat.reduceLeDiff, Nat.reduceLT, Nat.reduceMul, Int.reduceToNat, Bool.false_eq_true, Bool.or_self, Bool.or_true, Bool.true_or, Bool.or_false, reduceIte, Option.toList_some, Option.toList_none, List.nil_append, List.cons_append, List.length_cons, List.length_nil, true_and, and_true, Int.cast_ofNat_Int, Int.reduceEq, Int.reduceLT, Int.reduceLE, Nat.zero_le, and_self, or_true, true_or, cdS_173]
      by_cases h3 : mc V c 0 = 1
      · rw [if_pos h3, if_pos h3]
        rw [rM_154]
        have hco := hv.2.2.2 c (by omega)
        refine ⟨_, _, (sp_rof _ V (show c < 16 by omega)).2.2.1, ?_⟩
        simp only [vcS0, vcS1, vcS2, vcS3, vcS4, vcS5, vcS6, vc_n0, vc_lk, vc_pop, vc_rc, vc_tsw, vc_fr, vc_ar, vc_tb, mz_nx, List.set_cons_zero, List.set_cons_succ, Nat.reduceAdd, Nat.reduceBEq, Nat.reduceEqDiff, Nat.reduceLeDiff, Nat.reduceLT, Nat.reduceMul, Int.reduceToNat, Bool.false_eq_true, Bool.or_self, Bool.or_true, Bool.true_or, Bool.or_false, reduceIte, Option.toList_some, Option.toList_none, List.nil_append, List.cons_append, List.length_cons, List.length_nil, true_and, and_true, Int.cast_ofNat_Int, Int.reduceEq, Int.reduceLT, Int.reduceLE, Nat.zero_le, and_self, or_true, true_or, cdS_173]
        refine ⟨_, _, (sp_rof _ V (show c < 16 by omega)).2.1, ?_⟩
        simp only [vcS0, vcS1, vcS2, vcS3, vcS4, vcS5, vcS6, vc_n0, vc_lk, vc_pop, vc_rc, vc_tsw, vc_fr, vc_ar, vc_tb, mz_nx, List.set_cons_zero, List.set_cons_succ, Nat.reduceAdd, Nat.reduceBEq, Nat.reduceEqDiff, Nat.reduceLeDiff, Nat.reduceLT, Nat.reduceMul, Int.reduceToNat, Bool.false_eq_true, Bool.or_self, Bool.or_true, Bool.true_or, Bool.or_false, reduceIte, Option.toList_some, Option.toList_none, List.nil_append, List.cons_append, List.length_cons, List.length_nil, true_and, and_true, Int.cast_ofNat_Int, Int.reduceEq, Int.reduceLT, Int.reduceLE, Nat.zero_le, and_self, or_true, true_or, cdS_173]
        have hza := mzA_ok hv.2.2.1 (p := (mc V c 1).toNat) (by have := hco.1; omega)
        have hs := hS _ hza.2
        have hb := sp_bought (rM (mz_up m 153 4 0) V) (p := (mc V c 1).toNat) (z := mzA V (mc V c 1).toNat) (T := (V 2).toNat) (S := (V (329 + mzA V (mc V c 1).toNat)).toNat) (f := (max (V 2) (mc V c 2)).toNat) (c := y) (by have := hco.1; omega) (by rw [rM_154]; exact hza.1) hza.2 (by rw [rM_154]; omega) (by rw [rM_154]; omega) (by omega) (by rw [rM_154]; exact hR _ hza.2) (by have := hco.2; omega) (by omega)
        rw [rM_154, show ((mc V c 1).toNat : Int) = mc V c 1 from Int.toNat_of_nonneg hco.1.1, show ((max (V 2) (mc V c 2)).toNat : Int) = max (V 2) (mc V c 2) from Int.toNat_of_nonneg (by omega)] at hb
        rw [show lu (mR V (mzA V (mc V c 1).toNat)) ((V 2).toNat + (V (329 + mzA V (mc V c 1).toNat)).toNat - (max (V 2) (mc V c 2)).toNat) (60 * y) (max (V 2) (mc V c 2)).toNat = mUn V c y from rfl] at hb
        refine ⟨_, _, hb, ?_⟩
        simp only [vcS0, vcS1, vcS2, vcS3, vcS4, vcS5, vcS6, vc_n0, vc_lk, vc_pop, vc_rc, vc_tsw, vc_fr, vc_ar, vc_tb, mz_nx, List.set_cons_zero, List.set_cons_succ, Nat.reduceAdd, Nat.reduceBEq, Nat.reduceEqDiff, Nat.reduceLeDiff, Nat.reduceLT, Nat.reduceMul, Int.reduceToNat, Bool.false_eq_true, Bool.or_self, Bool.or_true, Bool.true_or, Bool.or_false, reduceIte, Option.toList_some, Option.toList_none, List.nil_append, List.cons_append, List.length_cons, List.length_nil, true_and, and_true, Int.cast_ofNat_Int, Int.reduceEq, Int.reduceLT, Int.reduceLE, Nat.zero_le, and_self, or_true, true_or, cdS_173]
        by_cases h4 : (mUn V c y : Int) = max (V 2) (mc V c 2)
        · rw [if_pos h4, if_pos h4, if_neg (fun q => q.2.2.1 h4)]
          all_goals ((repeat' refine And.intro ?_ ?_) <;> first | trivial | rfl | (unfold mz_w; omega) | omega)
        · rw [if_neg h4, if_neg h4]
          refine ⟨_, _, sp_rfull _ V, ?_⟩
          by_cases h5 : 340 ≤ V 429
          · rw [if_pos h5, if_pos h5, if_neg (fun q => q.2.2.2 h5)]
            simp only [vcS0, vcS1, vcS2, vcS3, vcS4, vcS5, vcS6, vc_n0, vc_lk, vc_pop, vc_rc, vc_tsw, vc_fr, vc_ar, vc_tb, mz_nx, List.set_cons_zero, List.set_cons_succ, Nat.reduceAdd, Nat.reduceBEq, Nat.reduceEqDiff, Nat.reduceLeDiff, Nat.reduceLT, Nat.reduceMul, Int.reduceToNat, Bool.false_eq_true, Bool.or_self, Bool.or_true, Bool.true_or, Bool.or_false, reduceIte, Option.toList_some, Option.toList_none, List.nil_append, List.cons_append, List.length_cons, List.length_nil, true_and, and_true, Int.cast_ofNat_Int, Int.reduceEq, Int.reduceLT, Int.reduceLE, Nat.zero_le, and_self, or_true, true_or, cdS_173]
          · rw [if_neg h5, if_neg h5, if_pos (show (((0 : Int) ≤ c ∧ (c : Int) < 16) ∧ (1 : Int) ≤ y ∧ (y : Int) ≤ 9999) ∧ mc V c 0 = 1 ∧ ¬ (mUn V c y : Int) = max (V 2) (mc V c 2) ∧ ¬ 340 ≤ V 429 from ⟨h12, h3, h4, h5⟩)]
            simp only [vcS0, vcS1, vcS2, vcS3, vcS4, vcS5, vcS6, vc_n0, vc_lk, vc_pop, vc_rc, vc_tsw, vc_fr, vc_ar, vc_tb, mz_nx, List.set_cons_zero, List.set_cons_succ, Nat.reduceAdd, Nat.reduceBEq, Nat.reduceEqDiff, Nat.reduceLeDiff, Nat.reduceLT, Nat.reduceMul, Int.reduceToNat, Bool.false_eq_true, Bool.or_self, Bool.or_true, Bool.true_or, Bool.or_false, reduceIte, Option.toList_some, Option.toList_none, List.nil_append, List.cons_append, List.length_cons, List.length_nil, true_and, and_true, Int.cast_ofNat_Int, Int.reduceEq, Int.reduceLT, Int.reduceLE, Nat.zero_le, and_self, or_true, true_or, cdS_173]
            refine ⟨_, _, (sp_rset _ V (mUn V c y) (show c < 16 by omega)).2.2.1, ?_⟩
            simp only [vcS0, vcS1, vcS2, vcS3, vcS4, vcS5, vcS6, vc_n0, vc_lk, vc_pop, vc_rc, vc_tsw, vc_fr, vc_ar, vc_tb, mz_nx, List.set_cons_zero, List.set_cons_succ, Nat.reduceAdd, Nat.reduceBEq, Nat.reduceEqDiff, Nat.reduceLeDiff, Nat.reduceLT, Nat.reduceMul, Int.reduceToNat, Bool.false_eq_true, Bool.or_self, Bool.or_true, Bool.true_or, Bool.or_false, reduceIte, Option.toList_some, Option.toList_none, List.nil_append, List.cons_append, List.length_cons, List.length_nil, true_and, and_true, Int.cast_ofNat_Int, Int.reduceEq, Int.reduceLT, Int.reduceLE, Nat.zero_le, and_self, or_true, true_or, cdS_173]
            refine ⟨_, _, sp_rlogs _ _ (n := n) 2 c y (by rw [vU_n (by omega)]; exact h0) (by omega), ?_⟩
            simp only [vcS0, vcS1, vcS2, vcS3, vcS4, vcS5, vcS6, vc_n0, vc_lk, vc_pop, vc_rc, vc_tsw, vc_fr, vc_ar, vc_tb, mz_nx, List.set_cons_zero, List.set_cons_succ, Nat.reduceAdd, Nat.reduceBEq, Nat.reduceEqDiff, Nat.reduceLeDiff, Nat.reduceLT, Nat.reduceMul, Int.reduceToNat, Bool.false_eq_true, Bool.or_self, Bool.or_true, Bool.true_or, Bool.or_false, reduceIte, Option.toList_some, Option.toList_none, List.nil_append, List.cons_append, List.length_cons, List.length_nil, true_and, and_true, Int.cast_ofNat_Int, Int.reduceEq, Int.reduceLT, Int.reduceLE, Nat.zero_le, and_self, or_true, true_or, cdS_173]
            rfl
      · rw [if_neg h3, if_neg h3, if_neg (fun q => h3 q.2.1)]
        all_goals ((repeat' refine And.intro ?_ ?_) <;> first | trivial | rfl | (unfold mz_w; omega) | omega)
    · rw [if_neg h2, if_neg (fun q => h2 q.2), if_neg (fun q => h2 q.1.2)]
      simp only [vcS0, vcS1, vcS2, vcS3, vcS4, vcS5, vcS6, vc_n0, vc_lk, vc_pop, vc_rc, vc_tsw, vc_fr, vc_ar, vc_tb, mz_nx, List.set_cons_zero, List.set_cons_succ, Nat.reduceAdd, Nat.reduceBEq, Nat.reduceEqDiff, Nat.reduceLeDiff, Nat.reduceLT, Nat.reduceMul, Int.reduceToNat, Bool.false_eq_true, Bool.or_self, Bool.or_true, Bool.true_or, Bool.or_false, reduceIte, Option.toList_some, Option.toList_none, List.nil_append, List.cons_append, List.length_cons, List.length_nil, true_and, and_true, Int.cast_ofNat_Int, Int.reduceEq, Int.reduceLT, Int.reduceLE, Nat.zero_le, and_self, or_true, true_or, cdS_173]
  · rw [if_neg (show ¬ (0 ≤ x ∧ x ≤ 15) by omega), if_neg (fun q => h1 q.1), if_neg (fun q => h1 q.1.1)]
    simp only [vcS0, vcS1, vcS2, vcS3, vcS4, vcS5, vcS6, vc_n0, vc_lk, vc_pop, vc_rc, vc_tsw, vc_fr, vc_ar, vc_tb, mz_nx, List.set_cons_zero, List.set_cons_succ, Nat.reduceAdd, Nat.reduceBEq, Nat.reduceEqDiff, Nat.reduceLeDiff, Nat.reduceLT, Nat.reduceMul, Int.reduceToNat, Bool.false_eq_true, Bool.or_self, Bool.or_true, Bool.true_or, Bool.or_false, reduceIte, Option.toList_some, Option.toList_none, List.nil_append, List.cons_append, List.length_cons, List.length_nil, true_and, and_true, Int.cast_ofNat_Int, Int.reduceEq, Int.reduceLT, Int.reduceLE, Nat.zero_le, and_self, or_true, true_or, cdS_173]
theorem sp_rAdvance (m : mz_M) (V : Nat → Int) (x : Int) (hT : 0 ≤ V 2 ∧ V 2 < 20000) : sp 97 [mz_r 9 0 153, mz_i x] (rM m V) (some (mz_i (if 0 ≤ x ∧ x ≤ 1440 then (if 10079 < V 2 + x then -4 else V 2 + x) else 0))) (rM (mz_up m 153 4 (if 0 ≤ x ∧ x ≤ 1440 then 0 else 1)) (if (0 ≤ x ∧ x ≤ 1440) ∧ ¬ 10079 < V 2 + x then vU V 2 (V 2 + x) else V)) := by
  refine mz_cl_vc 60 (fun _ => false) [some (mz_r 9 0 153), some (mz_i x)] rfl ?_
  simp only [vcS0, vcS1, vcS2, vcS3, vcS4, vcS5, vcS6, vc_n0, vc_lk, vc_pop, vc_rc, vc_tsw, vc_fr, vc_ar, vc_tb, mz_nx, List.set_cons_zero, List.set_cons_succ, Nat.reduceAdd, Nat.reduceBEq, Nat.reduceEqDiff, Nat.reduceLeDiff, Nat.reduceLT, Nat.reduceMul, Int.reduceToNat, Bool.false_eq_true, Bool.or_self, Bool.or_true, Bool.true_or, Bool.or_false, reduceIte, Option.toList_some, Option.toList_none, List.nil_append, List.cons_append, List.length_cons, List.length_nil, true_and, and_true, Int.cast_ofNat_Int, Int.reduceEq, Int.reduceLT, Int.reduceLE, Nat.zero_le, and_self, or_true, true_or, cdS_97]
  refine ⟨_, _, sp_in _ x 0 1440, ?_⟩
  by_cases h1 : 0 ≤ x ∧ x ≤ 1440
  · rw [if_pos h1, if_pos h1, if_pos h1]
    simp only [vcS0, vcS1, vcS2, vcS3, vcS4, vcS5, vcS6, vc_n0, vc_lk, vc_pop, vc_rc, vc_tsw, vc_fr, vc_ar, vc_tb, mz_nx, List.set_cons_zero, List.set_cons_succ, Nat.reduceAdd, Nat.reduceBEq, Nat.reduceEqDiff, Nat.reduceLeDiff, Nat.reduceLT, Nat.reduceMul, Int.reduceToNat, Bool.false_eq_true, Bool.or_self, Bool.or_true, Bool.true_or, Bool.or_false, reduceIte, Option.toList_some, Option.toList_none, List.nil_append, List.cons_append, List.length_cons, List.length_nil, true_and, and_true, Int.cast_ofNat_Int, Int.reduceEq, Int.reduceLT, Int.reduceLE, Nat.zero_le, and_self, or_true, true_or, cdS_97]
    simp only [rM_u3, rM_154, rM_up, rM_o, ne_eq, Nat.reduceEqDiff, not_false_eq_true, up_s, Int.le_refl, ↓reduceIte]
    refine ⟨(by unfold mz_w; omega), ?_⟩
    by_cases h2 : 10079 < V 2 + x
    · rw [if_neg (by omega), if_pos h2, if_neg (fun q => q.2 h2)]
      all_goals ((repeat' refine And.intro ?_ ?_) <;> first | trivial | rfl | (unfold mz_w; omega) | omega)
    · rw [if_pos (by omega), if_neg h2, if_pos ⟨h1, h2⟩]
      refine ⟨(by unfold mz_w; omega), ?_⟩
      all_goals ((repeat' refine And.intro ?_ ?_) <;> first | trivial | rfl | (unfold mz_w; omega) | omega)
  · rw [if_neg h1, if_neg h1, if_neg h1, if_neg (fun q => h1 q.1)]
    simp only [vcS0, vcS1, vcS2, vcS3, vcS4, vcS5, vcS6, vc_n0, vc_lk, vc_pop, vc_rc, vc_tsw, vc_fr, vc_ar, vc_tb, mz_nx, List.set_cons_zero, List.set_cons_succ, Nat.reduceAdd, Nat.reduceBEq, Nat.reduceEqDiff, Nat.reduceLeDiff, Nat.reduceLT, Nat.reduceMul, Int.reduceToNat, Bool.false_eq_true, Bool.or_self, Bool.or_true, Bool.true_or, Bool.or_false, reduceIte, Option.toList_some, Option.toList_none, List.nil_append, List.cons_append, List.length_cons, List.length_nil, true_and, and_true, Int.cast_ofNat_Int, Int.reduceEq, Int.reduceLT, Int.reduceLE, Nat.zero_le, and_self, or_true, true_or, cdS_97]
    simp only [rM_u3, rM_154, rM_up, rM_o, ne_eq, Nat.reduceEqDiff, not_false_eq_true, up_s, Int.reduceLE, ↓reduceIte]
    all_goals ((repeat' refine And.intro ?_ ?_) <;> first | trivial | rfl | (unfold mz_w; omega) | omega)
