def mTm (V : Nat → Int) (n : Nat) : Prop := ∀ i, i < n → 0 ≤ me V i 0 ∧ me V i 0 ≤ 20000
def mDs (V : Nat → Int) (d k : Int) (i : Nat) : Int := if me V i 1 = k ∧ me V i 0 / 1440 = d then me V i 3 else 0
theorem mDs_ok {V : Nat → Int} {n j : Nat} (h : mAm V n) (d k : Int) (hj : j ≤ n) : 0 ≤ sm (mDs V d k) j ∧ sm (mDs V d k) j ≤ 100000 * j :=
  ⟨sm_0 fun i hi => by have := h.2.2 i (by omega); unfold mDs; split <;> omega, sm_ub fun i hi => by have := h.2.2 i (by omega); unfold mDs; split <;> omega⟩
theorem ds_loop (m : mz_M) {d k : Int} {n : Nat} (h : mAm (m 154) n) (ht : mTm (m 154) n) : ∀ (r j : Nat), j + r = n → sx 101 25 [some (mz_r 9 0 153), some (mz_i d), some (mz_i k), some (mz_i (sm (mDs (m 154) d k) j)), some (mz_i j)] [] m (some (mz_i (sm (mDs (m 154) d k) n))) m := by
  intro r
  induction r with
  | zero =>
    intro j hj
    obtain rfl : j = n := by omega
    refine mz_vc_ok 60 (ct := fun i => i == 25) ?_
    simp only [vcS0, vcS1, vcS2, vcS3, vcS4, vcS5, vcS6, vc_n0, vc_lk, vc_pop, vc_rc, vc_tsw, vc_fr, vc_ar, vc_tb, mz_nx, List.set_cons_zero, List.set_cons_succ, Nat.reduceAdd, Nat.reduceBEq, Nat.reduceEqDiff, Nat.reduceLeDiff, Nat.reduceLT, Nat.reduceMul, Int.reduceToNat, Bool.false_eq_true, Bool.or_self, Bool.or_true, Bool.true_or, Bool.or_false, reduceIte, Option.toList_some, Option.toList_none, List.nil_append, List.cons_append, List.length_cons, List.length_nil, true_and, and_true, Int.cast_ofNat_Int, Int.reduceEq, Int.reduceLT, Int.reduceLE, Nat.zero_le, and_self, or_true, true_or, cdS_101]
    rw [h.1, if_neg (by omega)]
    all_goals ((repeat' refine And.intro ?_ ?_) <;> first | trivial | rfl | (unfold mz_w; omega) | omega)
  | succ r ih =>
    intro j hj
    have hk := ih (j + 1) (by omega)
    have hn := h.2.1
    have b := mDs_ok h d k (show j ≤ n by omega)
    have ha := h.2.2 j (by omega)
    have hm := ht j (by omega)
    refine mz_vc_ok 60 (ct := fun i => i == 25) ?_
    simp only [vcS0, vcS1, vcS2, vcS3, vcS4, vcS5, vcS6, vc_n0, vc_lk, vc_pop, vc_rc, vc_tsw, vc_fr, vc_ar, vc_tb, mz_nx, List.set_cons_zero, List.set_cons_succ, Nat.reduceAdd, Nat.reduceBEq, Nat.reduceEqDiff, Nat.reduceLeDiff, Nat.reduceLT, Nat.reduceMul, Int.reduceToNat, Bool.false_eq_true, Bool.or_self, Bool.or_true, Bool.true_or, Bool.or_false, reduceIte, Option.toList_some, Option.toList_none, List.nil_append, List.cons_append, List.length_cons, List.length_nil, true_and, and_true, Int.cast_ofNat_Int, Int.reduceEq, Int.reduceLT, Int.reduceLE, Nat.zero_le, and_self, or_true, true_or, cdS_101]
    rw [h.1, if_pos (by omega)]
    refine ⟨_, _, sp_e1 m (by omega), ?_⟩
    simp only [vcS0, vcS1, vcS2, vcS3, vcS4, vcS5, vcS6, vc_n0, vc_lk, vc_pop, vc_rc, vc_tsw, vc_fr, vc_ar, vc_tb, mz_nx, List.set_cons_zero, List.set_cons_succ, Nat.reduceAdd, Nat.reduceBEq, Nat.reduceEqDiff, Nat.reduceLeDiff, Nat.reduceLT, Nat.reduceMul, Int.reduceToNat, Bool.false_eq_true, Bool.or_self, Bool.or_true, Bool.true_or, Bool.or_false, reduceIte, Option.toList_some, Option.toList_none, List.nil_append, List.cons_append, List.length_cons, List.length_nil, true_and, and_true, Int.cast_ofNat_Int, Int.reduceEq, Int.reduceLT, Int.reduceLE, Nat.zero_le, and_self, or_true, true_or, cdS_101]
    rw [sm] at hk
    by_cases h2 : me (m 154) j 1 = k
    · rw [if_pos h2]
      refine ⟨_, _, sp_e0 m (by omega), ?_⟩
      simp only [vcS0, vcS1, vcS2, vcS3, vcS4, vcS5, vcS6, vc_n0, vc_lk, vc_pop, vc_rc, vc_tsw, vc_fr, vc_ar, vc_tb, mz_nx, List.set_cons_zero, List.set_cons_succ, Nat.reduceAdd, Nat.reduceBEq, Nat.reduceEqDiff, Nat.reduceLeDiff, Nat.reduceLT, Nat.reduceMul, Int.reduceToNat, Bool.false_eq_true, Bool.or_self, Bool.or_true, Bool.true_or, Bool.or_false, reduceIte, Option.toList_some, Option.toList_none, List.nil_append, List.cons_append, List.length_cons, List.length_nil, true_and, and_true, Int.cast_ofNat_Int, Int.reduceEq, Int.reduceLT, Int.reduceLE, Nat.zero_le, and_self, or_true, true_or, cdS_101]
      refine ⟨by omega, ?_⟩
      by_cases h3 : me (m 154) j 0 / 1440 = d
      · rw [if_pos h3]
        refine ⟨_, _, sp_e3 m (by omega), ?_⟩
        simp only [vcS0, vcS1, vcS2, vcS3, vcS4, vcS5, vcS6, vc_n0, vc_lk, vc_pop, vc_rc, vc_tsw, vc_fr, vc_ar, vc_tb, mz_nx, List.set_cons_zero, List.set_cons_succ, Nat.reduceAdd, Nat.reduceBEq, Nat.reduceEqDiff, Nat.reduceLeDiff, Nat.reduceLT, Nat.reduceMul, Int.reduceToNat, Bool.false_eq_true, Bool.or_self, Bool.or_true, Bool.true_or, Bool.or_false, reduceIte, Option.toList_some, Option.toList_none, List.nil_append, List.cons_append, List.length_cons, List.length_nil, true_and, and_true, Int.cast_ofNat_Int, Int.reduceEq, Int.reduceLT, Int.reduceLE, Nat.zero_le, and_self, or_true, true_or, cdS_101]
        rw [show mDs (m 154) d k j = me (m 154) j 3 from if_pos ⟨h2, h3⟩] at hk
        exact ⟨(by unfold mz_w; omega), (by unfold mz_w; omega), hk⟩
      · rw [if_neg h3]
        rw [show mDs (m 154) d k j = 0 from if_neg (fun q => h3 q.2)] at hk
        exact ⟨(by unfold mz_w; omega), (by unfold mz_w; omega), hk⟩
    · rw [if_neg h2]
      rw [show mDs (m 154) d k j = 0 from if_neg (fun q => h2 q.1)] at hk
      exact ⟨(by unfold mz_w; omega), (by unfold mz_w; omega), hk⟩
theorem sp_X9_daySum (m : mz_M) (d k : Int) {n : Nat} (h : mAm (m 154) n) (ht : mTm (m 154) n) : sp 101 [mz_r 9 0 153, mz_i d, mz_i k] m (some (mz_i (if (0 ≤ d ∧ d ≤ 6) ∧ (k = 2 ∨ (4 ≤ k ∧ k ≤ 8) ∨ k = 10) then sm (mDs (m 154) d k) n else -1))) (mz_up m 153 4 0) := by
  have hl := ds_loop (mz_up m 153 4 0) (d := d) (k := k) (n := n) (by rw [thr_154]; exact h) (by rw [thr_154]; exact ht) n 0 (by omega)
  rw [thr_154] at hl
  refine mz_cl_vc 60 (fun i => i == 25) [some (mz_r 9 0 153), some (mz_i d), some (mz_i k), none, none] rfl ?_
  simp only [vcS0, vcS1, vcS2, vcS3, vcS4, vcS5, vcS6, vc_n0, vc_lk, vc_pop, vc_rc, vc_tsw, vc_fr, vc_ar, vc_tb, mz_nx, List.set_cons_zero, List.set_cons_succ, Nat.reduceAdd, Nat.reduceBEq, Nat.reduceEqDiff, Nat.reduceLeDiff, Nat.reduceLT, Nat.reduceMul, Int.reduceToNat, Bool.false_eq_true, Bool.or_self, Bool.or_true, Bool.true_or, Bool.or_false, reduceIte, Option.toList_some, Option.toList_none, List.nil_append, List.cons_append, List.length_cons, List.length_nil, true_and, and_true, Int.cast_ofNat_Int, Int.reduceEq, Int.reduceLT, Int.reduceLE, Nat.zero_le, and_self, or_true, true_or, cdS_101]
  refine ⟨_, _, sp_in (mz_up m 153 4 0) d 0 6, ?_⟩
  by_cases h1 : 0 ≤ d ∧ d ≤ 6
  · rw [if_pos h1]
    simp only [vcS0, vcS1, vcS2, vcS3, vcS4, vcS5, vcS6, vc_n0, vc_lk, vc_pop, vc_rc, vc_tsw, vc_fr, vc_ar, vc_tb, mz_nx, List.set_cons_zero, List.set_cons_succ, Nat.reduceAdd, Nat.reduceBEq, Nat.reduceEqDiff, Nat.reduceLeDiff, Nat.reduceLT, Nat.reduceMul, Int.reduceToNat, Bool.false_eq_true, Bool.or_self, Bool.or_true, Bool.true_or, Bool.or_false, reduceIte, Option.toList_some, Option.toList_none, List.nil_append, List.cons_append, List.length_cons, List.length_nil, true_and, and_true, Int.cast_ofNat_Int, Int.reduceEq, Int.reduceLT, Int.reduceLE, Nat.zero_le, and_self, or_true, true_or, cdS_101]
    by_cases h2 : k = 2
    · rw [if_pos h2, if_pos ⟨h1, Or.inl h2⟩]
      exact hl
    · rw [if_neg h2]
      refine ⟨_, _, sp_in (mz_up m 153 4 0) k 4 8, ?_⟩
      by_cases h3 : 4 ≤ k ∧ k ≤ 8
      · rw [if_pos h3, if_pos ⟨h1, Or.inr (Or.inl h3)⟩]
        simp only [vcS0, vcS1, vcS2, vcS3, vcS4, vcS5, vcS6, vc_n0, vc_lk, vc_pop, vc_rc, vc_tsw, vc_fr, vc_ar, vc_tb, mz_nx, List.set_cons_zero, List.set_cons_succ, Nat.reduceAdd, Nat.reduceBEq, Nat.reduceEqDiff, Nat.reduceLeDiff, Nat.reduceLT, Nat.reduceMul, Int.reduceToNat, Bool.false_eq_true, Bool.or_self, Bool.or_true, Bool.true_or, Bool.or_false, reduceIte, Option.toList_some, Option.toList_none, List.nil_append, List.cons_append, List.length_cons, List.length_nil, true_and, and_true, Int.cast_ofNat_Int, Int.reduceEq, Int.reduceLT, Int.reduceLE, Nat.zero_le, and_self, or_true, true_or, cdS_101]
        exact hl
      · rw [if_neg h3]
        simp only [vcS0, vcS1, vcS2, vcS3, vcS4, vcS5, vcS6, vc_n0, vc_lk, vc_pop, vc_rc, vc_tsw, vc_fr, vc_ar, vc_tb, mz_nx, List.set_cons_zero, List.set_cons_succ, Nat.reduceAdd, Nat.reduceBEq, Nat.reduceEqDiff, Nat.reduceLeDiff, Nat.reduceLT, Nat.reduceMul, Int.reduceToNat, Bool.false_eq_true, Bool.or_self, Bool.or_true, Bool.true_or, Bool.or_false, reduceIte, Option.toList_some, Option.toList_none, List.nil_append, List.cons_append, List.length_cons, List.length_nil, true_and, and_true, Int.cast_ofNat_Int, Int.reduceEq, Int.reduceLT, Int.reduceLE, Nat.zero_le, and_self, or_true, true_or, cdS_101]
        by_cases h4 : k = 10
        · rw [if_pos h4, if_pos ⟨h1, Or.inr (Or.inr h4)⟩]
          exact hl
        · rw [if_neg h4, if_neg (fun q => q.2.elim h2 (fun q => q.elim h3 h4))]
          all_goals ((repeat' refine And.intro ?_ ?_) <;> first | trivial | rfl | (unfold mz_w; omega) | omega)
  · rw [if_neg h1, if_neg (fun q => h1 q.1)]
    simp only [vcS0, vcS1, vcS2, vcS3, vcS4, vcS5, vcS6, vc_n0, vc_lk, vc_pop, vc_rc, vc_tsw, vc_fr, vc_ar, vc_tb, mz_nx, List.set_cons_zero, List.set_cons_succ, Nat.reduceAdd, Nat.reduceBEq, Nat.reduceEqDiff, Nat.reduceLeDiff, Nat.reduceLT, Nat.reduceMul, Int.reduceToNat, Bool.false_eq_true, Bool.or_self, Bool.or_true, Bool.true_or, Bool.or_false, reduceIte, Option.toList_some, Option.toList_none, List.nil_append, List.cons_append, List.length_cons, List.length_nil, true_and, and_true, Int.cast_ofNat_Int, Int.reduceEq, Int.reduceLT, Int.reduceLE, Nat.zero_le, and_self, or_true, true_or, cdS_101]
def mRv (V : Nat → Int) (z d : Int) (i : Nat) : Int := if me V i 1 = 2 ∧ me V i 0 / 1440 = d ∧ V (203 + (pkV V (me V i 2) (i + 1)).toNat) = z then me V i 3 else 0
theorem mRv_ok {V : Nat → Int} {n j : Nat} (h : mAm V n) (z d : Int) (hj : j ≤ n) : 0 ≤ sm (mRv V z d) j ∧ sm (mRv V z d) j ≤ 100000 * j :=
  ⟨sm_0 fun i hi => by have := h.2.2 i (by omega); unfold mRv; split <;> omega, sm_ub fun i hi => by have := h.2.2 i (by omega); unfold mRv; split <;> omega⟩
def mPO (V : Nat → Int) (n : Nat) : Prop := ∀ i, i < n → me V i 1 = 2 → (∃ j, j ≤ i ∧ me V j 1 = 1 ∧ me V j 2 = me V i 2) ∧ 0 ≤ pkV V (me V i 2) (i + 1) ∧ pkV V (me V i 2) (i + 1) < 10
theorem rv_loop (m : mz_M) {z d : Int} {n : Nat} (h : mAm (m 154) n) (ht : mTm (m 154) n) (hp : mPO (m 154) n) : ∀ (r j : Nat), j + r = n → sx 179 17 [some (mz_r 9 0 153), some (mz_i z), some (mz_i d), some (mz_i (sm (mRv (m 154) z d) j)), some (mz_i j)] [] m (some (mz_i (sm (mRv (m 154) z d) n))) m := by
  intro r
  induction r with
  | zero =>
    intro j hj
    obtain rfl : j = n := by omega
    refine mz_vc_ok 60 (ct := fun i => i == 17) ?_
    simp only [vcS0, vcS1, vcS2, vcS3, vcS4, vcS5, vcS6, vc_n0, vc_lk, vc_pop, vc_rc, vc_tsw, vc_fr, vc_ar, vc_tb, mz_nx, List.set_cons_zero, List.set_cons_succ, Nat.reduceAdd, Nat.reduceBEq, Nat.reduceEqDiff, Nat.reduceLeDiff, Nat.reduceLT, Nat.reduceMul, Int.reduceToNat, Bool.false_eq_true, Bool.or_self, Bool.or_true, Bool.true_or, Bool.or_false, reduceIte, Option.toList_some, Option.toList_none, List.nil_append, List.cons_append, List.length_cons, List.length_nil, true_and, and_true, Int.cast_ofNat_Int, Int.reduceEq, Int.reduceLT, Int.reduceLE, Nat.zero_le, and_self, or_true, true_or, cdS_179]
    rw [h.1, if_neg (by omega)]
    all_goals ((repeat' refine And.intro ?_ ?_) <;> first | trivial | rfl | (unfold mz_w; omega) | omega)
  | succ r ih =>
    intro j hj
    have hk := ih (j + 1) (by omega)
    have hn := h.2.1
    have b := mRv_ok h z d (show j ≤ n by omega)
    have ha := h.2.2 j (by omega)
    have hm := ht j (by omega)
    refine mz_vc_ok 60 (ct := fun i => i == 17) ?_
    simp only [vcS0, vcS1, vcS2, vcS3, vcS4, vcS5, vcS6, vc_n0, vc_lk, vc_pop, vc_rc, vc_tsw, vc_fr, vc_ar, vc_tb, mz_nx, List.set_cons_zero, List.set_cons_succ, Nat.reduceAdd, Nat.reduceBEq, Nat.reduceEqDiff, Nat.reduceLeDiff, Nat.reduceLT, Nat.reduceMul, Int.reduceToNat, Bool.false_eq_true, Bool.or_self, Bool.or_true, Bool.true_or, Bool.or_false, reduceIte, Option.toList_some, Option.toList_none, List.nil_append, List.cons_append, List.length_cons, List.length_nil, true_and, and_true, Int.cast_ofNat_Int, Int.reduceEq, Int.reduceLT, Int.reduceLE, Nat.zero_le, and_self, or_true, true_or, cdS_179]
    rw [h.1, if_pos (by omega)]
    refine ⟨_, _, sp_e1 m (by omega), ?_⟩
    simp only [vcS0, vcS1, vcS2, vcS3, vcS4, vcS5, vcS6, vc_n0, vc_lk, vc_pop, vc_rc, vc_tsw, vc_fr, vc_ar, vc_tb, mz_nx, List.set_cons_zero, List.set_cons_succ, Nat.reduceAdd, Nat.reduceBEq, Nat.reduceEqDiff, Nat.reduceLeDiff, Nat.reduceLT, Nat.reduceMul, Int.reduceToNat, Bool.false_eq_true, Bool.or_self, Bool.or_true, Bool.true_or, Bool.or_false, reduceIte, Option.toList_some, Option.toList_none, List.nil_append, List.cons_append, List.length_cons, List.length_nil, true_and, and_true, Int.cast_ofNat_Int, Int.reduceEq, Int.reduceLT, Int.reduceLE, Nat.zero_le, and_self, or_true, true_or, cdS_179]
    rw [sm] at hk
    by_cases h2 : me (m 154) j 1 = 2
    · rw [if_pos h2]
      have hpj := hp j (by omega) h2
      refine ⟨_, _, sp_e0 m (by omega), ?_⟩
      simp only [vcS0, vcS1, vcS2, vcS3, vcS4, vcS5, vcS6, vc_n0, vc_lk, vc_pop, vc_rc, vc_tsw, vc_fr, vc_ar, vc_tb, mz_nx, List.set_cons_zero, List.set_cons_succ, Nat.reduceAdd, Nat.reduceBEq, Nat.reduceEqDiff, Nat.reduceLeDiff, Nat.reduceLT, Nat.reduceMul, Int.reduceToNat, Bool.false_eq_true, Bool.or_self, Bool.or_true, Bool.true_or, Bool.or_false, reduceIte, Option.toList_some, Option.toList_none, List.nil_append, List.cons_append, List.length_cons, List.length_nil, true_and, and_true, Int.cast_ofNat_Int, Int.reduceEq, Int.reduceLT, Int.reduceLE, Nat.zero_le, and_self, or_true, true_or, cdS_179]
      refine ⟨by omega, ?_⟩
      by_cases h3 : me (m 154) j 0 / 1440 = d
      · rw [if_pos h3]
        refine ⟨_, _, sp_placeAt m (by omega) hpj.1, ?_⟩
        simp only [vcS0, vcS1, vcS2, vcS3, vcS4, vcS5, vcS6, vc_n0, vc_lk, vc_pop, vc_rc, vc_tsw, vc_fr, vc_ar, vc_tb, mz_nx, List.set_cons_zero, List.set_cons_succ, Nat.reduceAdd, Nat.reduceBEq, Nat.reduceEqDiff, Nat.reduceLeDiff, Nat.reduceLT, Nat.reduceMul, Int.reduceToNat, Bool.false_eq_true, Bool.or_self, Bool.or_true, Bool.true_or, Bool.or_false, reduceIte, Option.toList_some, Option.toList_none, List.nil_append, List.cons_append, List.length_cons, List.length_nil, true_and, and_true, Int.cast_ofNat_Int, Int.reduceEq, Int.reduceLT, Int.reduceLE, Nat.zero_le, and_self, or_true, true_or, cdS_179]
        rw [show (203 + pkV (m 154) (me (m 154) j 2) (j + 1)).toNat = 203 + (pkV (m 154) (me (m 154) j 2) (j + 1)).toNat by omega]
        refine ⟨(by unfold mz_w; omega), by omega, ?_⟩
        by_cases h4 : m 154 (203 + (pkV (m 154) (me (m 154) j 2) (j + 1)).toNat) = z
        · rw [if_pos h4]
          refine ⟨_, _, sp_e3 m (by omega), ?_⟩
          simp only [vcS0, vcS1, vcS2, vcS3, vcS4, vcS5, vcS6, vc_n0, vc_lk, vc_pop, vc_rc, vc_tsw, vc_fr, vc_ar, vc_tb, mz_nx, List.set_cons_zero, List.set_cons_succ, Nat.reduceAdd, Nat.reduceBEq, Nat.reduceEqDiff, Nat.reduceLeDiff, Nat.reduceLT, Nat.reduceMul, Int.reduceToNat, Bool.false_eq_true, Bool.or_self, Bool.or_true, Bool.true_or, Bool.or_false, reduceIte, Option.toList_some, Option.toList_none, List.nil_append, List.cons_append, List.length_cons, List.length_nil, true_and, and_true, Int.cast_ofNat_Int, Int.reduceEq, Int.reduceLT, Int.reduceLE, Nat.zero_le, and_self, or_true, true_or, cdS_179]
          rw [show mRv (m 154) z d j = me (m 154) j 3 from if_pos ⟨h2, h3, h4⟩] at hk
          exact ⟨(by unfold mz_w; omega), (by unfold mz_w; omega), hk⟩
        · rw [if_neg h4]
          rw [show mRv (m 154) z d j = 0 from if_neg (fun q => h4 q.2.2), Int.add_zero] at hk
          exact ⟨(by unfold mz_w; omega), hk⟩
      · rw [if_neg h3]
        rw [show mRv (m 154) z d j = 0 from if_neg (fun q => h3 q.2.1), Int.add_zero] at hk
        exact ⟨(by unfold mz_w; omega), hk⟩
    · rw [if_neg h2]
      rw [show mRv (m 154) z d j = 0 from if_neg (fun q => h2 q.1), Int.add_zero] at hk
      exact ⟨(by unfold mz_w; omega), hk⟩
theorem sp_X9_revenue (m : mz_M) (z d : Int) {n : Nat} (h : mAm (m 154) n) (ht : mTm (m 154) n) (hp : mPO (m 154) n) : sp 179 [mz_r 9 0 153, mz_i z, mz_i d] m (some (mz_i (if (0 ≤ z ∧ z ≤ 3) ∧ 0 ≤ d ∧ d ≤ 6 then sm (mRv (m 154) z d) n else -1))) (mz_up m 153 4 0) := by
  refine mz_cl_vc 60 (fun i => i == 17) [some (mz_r 9 0 153), some (mz_i z), some (mz_i d), none, none] rfl ?_
  simp only [vcS0, vcS1, vcS2, vcS3, vcS4, vcS5, vcS6, vc_n0, vc_lk, vc_pop, vc_rc, vc_tsw, vc_fr, vc_ar, vc_tb, mz_nx, List.set_cons_zero, List.set_cons_succ, Nat.reduceAdd, Nat.reduceBEq, Nat.reduceEqDiff, Nat.reduceLeDiff, Nat.reduceLT, Nat.reduceMul, Int.reduceToNat, Bool.false_eq_true, Bool.or_self, Bool.or_true, Bool.true_or, Bool.or_false, reduceIte, Option.toList_some, Option.toList_none, List.nil_append, List.cons_append, List.length_cons, List.length_nil, true_and, and_true, Int.cast_ofNat_Int, Int.reduceEq, Int.reduceLT, Int.reduceLE, Nat.zero_le, and_self, or_true, true_or, cdS_179]
  refine ⟨_, _, sp_isZone (mz_up m 153 4 0) z, ?_⟩
  by_cases h1 : 0 ≤ z ∧ z ≤ 3
  · rw [if_pos h1]
    simp only [vcS0, vcS1, vcS2, vcS3, vcS4, vcS5, vcS6, vc_n0, vc_lk, vc_pop, vc_rc, vc_tsw, vc_fr, vc_ar, vc_tb, mz_nx, List.set_cons_zero, List.set_cons_succ, Nat.reduceAdd, Nat.reduceBEq, Nat.reduceEqDiff, Nat.reduceLeDiff, Nat.reduceLT, Nat.reduceMul, Int.reduceToNat, Bool.false_eq_true, Bool.or_self, Bool.or_true, Bool.true_or, Bool.or_false, reduceIte, Option.toList_some, Option.toList_none, List.nil_append, List.cons_append, List.length_cons, List.length_nil, true_and, and_true, Int.cast_ofNat_Int, Int.reduceEq, Int.reduceLT, Int.reduceLE, Nat.zero_le, and_self, or_true, true_or, cdS_179]
    refine ⟨_, _, sp_in (mz_up m 153 4 0) d 0 6, ?_⟩
    by_cases h2 : 0 ≤ d ∧ d ≤ 6
    · rw [if_pos h2, if_pos ⟨h1, h2⟩]
      simp only [vcS0, vcS1, vcS2, vcS3, vcS4, vcS5, vcS6, vc_n0, vc_lk, vc_pop, vc_rc, vc_tsw, vc_fr, vc_ar, vc_tb, mz_nx, List.set_cons_zero, List.set_cons_succ, Nat.reduceAdd, Nat.reduceBEq, Nat.reduceEqDiff, Nat.reduceLeDiff, Nat.reduceLT, Nat.reduceMul, Int.reduceToNat, Bool.false_eq_true, Bool.or_self, Bool.or_true, Bool.true_or, Bool.or_false, reduceIte, Option.toList_some, Option.toList_none, List.nil_append, List.cons_append, List.length_cons, List.length_nil, true_and, and_true, Int.cast_ofNat_Int, Int.reduceEq, Int.reduceLT, Int.reduceLE, Nat.zero_le, and_self, or_true, true_or, cdS_179]
      have hl := rv_loop (mz_up m 153 4 0) (z := z) (d := d) (n := n) (by rw [thr_154]; exact h) (by rw [thr_154]; exact ht) (by rw [thr_154]; exact hp) n 0 (by omega)
      rw [thr_154] at hl
      exact hl
    · rw [if_neg h2, if_neg (fun q => h2 q.2)]
      simp only [vcS0, vcS1, vcS2, vcS3, vcS4, vcS5, vcS6, vc_n0, vc_lk, vc_pop, vc_rc, vc_tsw, vc_fr, vc_ar, vc_tb, mz_nx, List.set_cons_zero, List.set_cons_succ, Nat.reduceAdd, Nat.reduceBEq, Nat.reduceEqDiff, Nat.reduceLeDiff, Nat.reduceLT, Nat.reduceMul, Int.reduceToNat, Bool.false_eq_true, Bool.or_self, Bool.or_true, Bool.true_or, Bool.or_false, reduceIte, Option.toList_some, Option.toList_none, List.nil_append, List.cons_append, List.length_cons, List.length_nil, true_and, and_true, Int.cast_ofNat_Int, Int.reduceEq, Int.reduceLT, Int.reduceLE, Nat.zero_le, and_self, or_true, true_or, cdS_179]
  · rw [if_neg h1, if_neg (fun q => h1 q.1)]
    simp only [vcS0, vcS1, vcS2, vcS3, vcS4, vcS5, vcS6, vc_n0, vc_lk, vc_pop, vc_rc, vc_tsw, vc_fr, vc_ar, vc_tb, mz_nx, List.set_cons_zero, List.set_cons_succ, Nat.reduceAdd, Nat.reduceBEq, Nat.reduceEqDiff, Nat.reduceLeDiff, Nat.reduceLT, Nat.reduceMul, Int.reduceToNat, Bool.false_eq_true, Bool.or_self, Bool.or_true, Bool.true_or, Bool.or_false, reduceIte, Option.toList_some, Option.toList_none, List.nil_append, List.cons_append, List.length_cons, List.length_nil, true_and, and_true, Int.cast_ofNat_Int, Int.reduceEq, Int.reduceLT, Int.reduceLE, Nat.zero_le, and_self, or_true, true_or, cdS_179]
def mPk (V : Nat → Int) (d : Int) (p i : Nat) : Int := if me V i 1 = 1 ∧ me V i 3 = p ∧ me V i 0 / 1440 = d then 1 else 0
def mxq (f : Nat → Int) : Nat → Int × Int
  | 0 => (-3, 0)
  | p + 1 => if (mxq f p).2 < f p then ((p : Int), f p) else mxq f p
theorem bp_in (m : mz_M) {d B M : Int} {n p : Nat} (h0 : m 154 429 = n) (hn : n ≤ 400) (ht : mTm (m 154) n) (res : Option mz_V) (m' : mz_M) (hc : ∀ x, sx 100 60 [some (mz_r 9 0 153), some (mz_i d), some (mz_i B), some (mz_i M), some (mz_i p), some (mz_i (sm (mPk (m 154) d p) n)), x] [] m res m') : ∀ (r j : Nat), j + r = n → sx 100 26 [some (mz_r 9 0 153), some (mz_i d), some (mz_i B), some (mz_i M), some (mz_i p), some (mz_i (sm (mPk (m 154) d p) j)), some (mz_i j)] [] m res m' := by
  intro r
  induction r with
  | zero =>
    intro j hj
    obtain rfl : j = n := by omega
    refine mz_vc_ok 60 (ct := fun i => i == 26 || i == 60) ?_
    simp only [vcS0, vcS1, vcS2, vcS3, vcS4, vcS5, vcS6, vc_n0, vc_lk, vc_pop, vc_rc, vc_tsw, vc_fr, vc_ar, vc_tb, mz_nx, List.set_cons_zero, List.set_cons_succ, Nat.reduceAdd, Nat.reduceBEq, Nat.reduceEqDiff, Nat.reduceLeDiff, Nat.reduceLT, Nat.reduceMul, Int.reduceToNat, Bool.false_eq_true, Bool.or_self, Bool.or_true, Bool.true_or, Bool.or_false, reduceIte, Option.toList_some, Option.toList_none, List.nil_append, List.cons_append, List.length_cons, List.length_nil, true_and, and_true, Int.cast_ofNat_Int, Int.reduceEq, Int.reduceLT, Int.reduceLE, Nat.zero_le, and_self, or_true, true_or, cdS_100]
    rw [h0, if_neg (by omega)]
    exact hc _
  | succ r ih =>
    intro j hj
    have hk := ih (j + 1) (by omega)
    have b0 : 0 ≤ sm (mPk (m 154) d p) j := sm_0 fun i hi => by unfold mPk; split <;> omega
    have b1 : sm (mPk (m 154) d p) j ≤ 1 * j := sm_ub fun i hi => by unfold mPk; split <;> omega
    have hm := ht j (by omega)
    refine mz_vc_ok 60 (ct := fun i => i == 26 || i == 60) ?_
    simp only [vcS0, vcS1, vcS2, vcS3, vcS4, vcS5, vcS6, vc_n0, vc_lk, vc_pop, vc_rc, vc_tsw, vc_fr, vc_ar, vc_tb, mz_nx, List.set_cons_zero, List.set_cons_succ, Nat.reduceAdd, Nat.reduceBEq, Nat.reduceEqDiff, Nat.reduceLeDiff, Nat.reduceLT, Nat.reduceMul, Int.reduceToNat, Bool.false_eq_true, Bool.or_self, Bool.or_true, Bool.true_or, Bool.or_false, reduceIte, Option.toList_some, Option.toList_none, List.nil_append, List.cons_append, List.length_cons, List.length_nil, true_and, and_true, Int.cast_ofNat_Int, Int.reduceEq, Int.reduceLT, Int.reduceLE, Nat.zero_le, and_self, or_true, true_or, cdS_100]
    rw [h0, if_pos (by omega)]
    refine ⟨_, _, sp_e1 m (by omega), ?_⟩
    simp only [vcS0, vcS1, vcS2, vcS3, vcS4, vcS5, vcS6, vc_n0, vc_lk, vc_pop, vc_rc, vc_tsw, vc_fr, vc_ar, vc_tb, mz_nx, List.set_cons_zero, List.set_cons_succ, Nat.reduceAdd, Nat.reduceBEq, Nat.reduceEqDiff, Nat.reduceLeDiff, Nat.reduceLT, Nat.reduceMul, Int.reduceToNat, Bool.false_eq_true, Bool.or_self, Bool.or_true, Bool.true_or, Bool.or_false, reduceIte, Option.toList_some, Option.toList_none, List.nil_append, List.cons_append, List.length_cons, List.length_nil, true_and, and_true, Int.cast_ofNat_Int, Int.reduceEq, Int.reduceLT, Int.reduceLE, Nat.zero_le, and_self, or_true, true_or, cdS_100]
    rw [sm] at hk
    by_cases h2 : me (m 154) j 1 = 1
    · rw [if_pos h2]
      refine ⟨_, _, sp_e3 m (by omega), ?_⟩
      simp only [vcS0, vcS1, vcS2, vcS3, vcS4, vcS5, vcS6, vc_n0, vc_lk, vc_pop, vc_rc, vc_tsw, vc_fr, vc_ar, vc_tb, mz_nx, List.set_cons_zero, List.set_cons_succ, Nat.reduceAdd, Nat.reduceBEq, Nat.reduceEqDiff, Nat.reduceLeDiff, Nat.reduceLT, Nat.reduceMul, Int.reduceToNat, Bool.false_eq_true, Bool.or_self, Bool.or_true, Bool.true_or, Bool.or_false, reduceIte, Option.toList_some, Option.toList_none, List.nil_append, List.cons_append, List.length_cons, List.length_nil, true_and, and_true, Int.cast_ofNat_Int, Int.reduceEq, Int.reduceLT, Int.reduceLE, Nat.zero_le, and_self, or_true, true_or, cdS_100]
      by_cases h3 : me (m 154) j 3 = p
      · rw [if_pos h3]
        refine ⟨_, _, sp_e0 m (by omega), ?_⟩
        simp only [vcS0, vcS1, vcS2, vcS3, vcS4, vcS5, vcS6, vc_n0, vc_lk, vc_pop, vc_rc, vc_tsw, vc_fr, vc_ar, vc_tb, mz_nx, List.set_cons_zero, List.set_cons_succ, Nat.reduceAdd, Nat.reduceBEq, Nat.reduceEqDiff, Nat.reduceLeDiff, Nat.reduceLT, Nat.reduceMul, Int.reduceToNat, Bool.false_eq_true, Bool.or_self, Bool.or_true, Bool.true_or, Bool.or_false, reduceIte, Option.toList_some, Option.toList_none, List.nil_append, List.cons_append, List.length_cons, List.length_nil, true_and, and_true, Int.cast_ofNat_Int, Int.reduceEq, Int.reduceLT, Int.reduceLE, Nat.zero_le, and_self, or_true, true_or, cdS_100]
        refine ⟨by omega, ?_⟩
        by_cases h4 : me (m 154) j 0 / 1440 = d
        · rw [if_pos h4]
          rw [show mPk (m 154) d p j = 1 from if_pos ⟨h2, h3, h4⟩] at hk
          exact ⟨(by unfold mz_w; omega), (by unfold mz_w; omega), hk⟩
        · rw [if_neg h4]
          rw [show mPk (m 154) d p j = 0 from if_neg (fun q => h4 q.2.2)] at hk
          exact ⟨(by unfold mz_w; omega), (by unfold mz_w; omega), hk⟩
      · rw [if_neg h3]
        rw [show mPk (m 154) d p j = 0 from if_neg (fun q => h3 q.2.1)] at hk
        exact ⟨(by unfold mz_w; omega), (by unfold mz_w; omega), hk⟩
    · rw [if_neg h2]
      rw [show mPk (m 154) d p j = 0 from if_neg (fun q => h2 q.1)] at hk
      exact ⟨(by unfold mz_w; omega), (by unfold mz_w; omega), hk⟩
theorem bp_out (m : mz_M) {d : Int} {n s : Nat} (h0 : m 154 429 = n) (hn : n ≤ 400) (ht : mTm (m 154) n) (hs : m 154 0 = s) (hs2 : s ≤ 10) : ∀ (r j : Nat) (x y : Option mz_V), j + r = s → sx 100 16 [some (mz_r 9 0 153), some (mz_i d), some (mz_i (mxq (fun p => sm (mPk (m 154) d p) n) j).1), some (mz_i (mxq (fun p => sm (mPk (m 154) d p) n) j).2), some (mz_i j), x, y] [] m (some (mz_i (mxq (fun p => sm (mPk (m 154) d p) n) s).1)) m := by
  intro r
  induction r with
  | zero =>
    intro j x y hj
    obtain rfl : j = s := by omega
    refine mz_vc_ok 60 (ct := fun i => i == 16 || i == 26) ?_
    simp only [vcS0, vcS1, vcS2, vcS3, vcS4, vcS5, vcS6, vc_n0, vc_lk, vc_pop, vc_rc, vc_tsw, vc_fr, vc_ar, vc_tb, mz_nx, List.set_cons_zero, List.set_cons_succ, Nat.reduceAdd, Nat.reduceBEq, Nat.reduceEqDiff, Nat.reduceLeDiff, Nat.reduceLT, Nat.reduceMul, Int.reduceToNat, Bool.false_eq_true, Bool.or_self, Bool.or_true, Bool.true_or, Bool.or_false, reduceIte, Option.toList_some, Option.toList_none, List.nil_append, List.cons_append, List.length_cons, List.length_nil, true_and, and_true, Int.cast_ofNat_Int, Int.reduceEq, Int.reduceLT, Int.reduceLE, Nat.zero_le, and_self, or_true, true_or, cdS_100]
    rw [hs, if_neg (by omega)]
    all_goals ((repeat' refine And.intro ?_ ?_) <;> first | trivial | rfl | (unfold mz_w; omega) | omega)
  | succ r ih =>
    intro j x y hj
    have hk := fun x y => ih (j + 1) x y (by omega)
    refine mz_vc_ok 60 (ct := fun i => i == 16 || i == 26) ?_
    simp only [vcS0, vcS1, vcS2, vcS3, vcS4, vcS5, vcS6, vc_n0, vc_lk, vc_pop, vc_rc, vc_tsw, vc_fr, vc_ar, vc_tb, mz_nx, List.set_cons_zero, List.set_cons_succ, Nat.reduceAdd, Nat.reduceBEq, Nat.reduceEqDiff, Nat.reduceLeDiff, Nat.reduceLT, Nat.reduceMul, Int.reduceToNat, Bool.false_eq_true, Bool.or_self, Bool.or_true, Bool.true_or, Bool.or_false, reduceIte, Option.toList_some, Option.toList_none, List.nil_append, List.cons_append, List.length_cons, List.length_nil, true_and, and_true, Int.cast_ofNat_Int, Int.reduceEq, Int.reduceLT, Int.reduceLE, Nat.zero_le, and_self, or_true, true_or, cdS_100]
    rw [hs, if_pos (by omega)]
    refine bp_in m h0 hn ht _ _ ?_ n 0 (by omega)
    intro x
    refine mz_vc_ok 60 (ct := fun i => i == 16 || i == 26) ?_
    simp only [vcS0, vcS1, vcS2, vcS3, vcS4, vcS5, vcS6, vc_n0, vc_lk, vc_pop, vc_rc, vc_tsw, vc_fr, vc_ar, vc_tb, mz_nx, List.set_cons_zero, List.set_cons_succ, Nat.reduceAdd, Nat.reduceBEq, Nat.reduceEqDiff, Nat.reduceLeDiff, Nat.reduceLT, Nat.reduceMul, Int.reduceToNat, Bool.false_eq_true, Bool.or_self, Bool.or_true, Bool.true_or, Bool.or_false, reduceIte, Option.toList_some, Option.toList_none, List.nil_append, List.cons_append, List.length_cons, List.length_nil, true_and, and_true, Int.cast_ofNat_Int, Int.reduceEq, Int.reduceLT, Int.reduceLE, Nat.zero_le, and_self, or_true, true_or, cdS_100]
    by_cases h1 : (mxq (fun p => sm (mPk (m 154) d p) n) j).2 < sm (mPk (m 154) d j) n
    · rw [if_neg (by omega)]
      have e : mxq (fun p => sm (mPk (m 154) d p) n) (j + 1) = ((j : Int), sm (mPk (m 154) d j) n) := if_pos h1
      rw [e] at hk
      exact ⟨(by unfold mz_w; omega), hk _ _⟩
    · rw [if_pos (by omega)]
      have e : mxq (fun p => sm (mPk (m 154) d p) n) (j + 1) = mxq (fun p => sm (mPk (m 154) d p) n) j := if_neg h1
      rw [e] at hk
      exact ⟨(by unfold mz_w; omega), hk _ _⟩
theorem sp_X9_busiestPlace (m : mz_M) (d : Int) {n s : Nat} (h0 : m 154 429 = n) (hn : n ≤ 400) (ht : mTm (m 154) n) (hs : m 154 0 = s) (hs2 : s ≤ 10) : sp 100 [mz_r 9 0 153, mz_i d] m (some (mz_i (if 0 ≤ d ∧ d ≤ 6 then (mxq (fun p => sm (mPk (m 154) d p) n) s).1 else -1))) (mz_up m 153 4 0) := by
  refine mz_cl_vc 60 (fun i => i == 16 || i == 26) [some (mz_r 9 0 153), some (mz_i d), none, none, none, none, none] rfl ?_
  simp only [vcS0, vcS1, vcS2, vcS3, vcS4, vcS5, vcS6, vc_n0, vc_lk, vc_pop, vc_rc, vc_tsw, vc_fr, vc_ar, vc_tb, mz_nx, List.set_cons_zero, List.set_cons_succ, Nat.reduceAdd, Nat.reduceBEq, Nat.reduceEqDiff, Nat.reduceLeDiff, Nat.reduceLT, Nat.reduceMul, Int.reduceToNat, Bool.false_eq_true, Bool.or_self, Bool.or_true, Bool.true_or, Bool.or_false, reduceIte, Option.toList_some, Option.toList_none, List.nil_append, List.cons_append, List.length_cons, List.length_nil, true_and, and_true, Int.cast_ofNat_Int, Int.reduceEq, Int.reduceLT, Int.reduceLE, Nat.zero_le, and_self, or_true, true_or, cdS_100]
  refine ⟨_, _, sp_in (mz_up m 153 4 0) d 0 6, ?_⟩
  by_cases h1 : 0 ≤ d ∧ d ≤ 6
  · rw [if_pos h1, if_pos h1]
    simp only [vcS0, vcS1, vcS2, vcS3, vcS4, vcS5, vcS6, vc_n0, vc_lk, vc_pop, vc_rc, vc_tsw, vc_fr, vc_ar, vc_tb, mz_nx, List.set_cons_zero, List.set_cons_succ, Nat.reduceAdd, Nat.reduceBEq, Nat.reduceEqDiff, Nat.reduceLeDiff, Nat.reduceLT, Nat.reduceMul, Int.reduceToNat, Bool.false_eq_true, Bool.or_self, Bool.or_true, Bool.true_or, Bool.or_false, reduceIte, Option.toList_some, Option.toList_none, List.nil_append, List.cons_append, List.length_cons, List.length_nil, true_and, and_true, Int.cast_ofNat_Int, Int.reduceEq, Int.reduceLT, Int.reduceLE, Nat.zero_le, and_self, or_true, true_or, cdS_100]
    have hl := bp_out (mz_up m 153 4 0) (d := d) (n := n) (s := s) (by rw [thr_154]; exact h0) hn (by rw [thr_154]; exact ht) (by rw [thr_154]; exact hs) hs2 s 0 none none (by omega)
    rw [thr_154] at hl
    exact hl
  · rw [if_neg h1, if_neg h1]
    simp only [vcS0, vcS1, vcS2, vcS3, vcS4, vcS5, vcS6, vc_n0, vc_lk, vc_pop, vc_rc, vc_tsw, vc_fr, vc_ar, vc_tb, mz_nx, List.set_cons_zero, List.set_cons_succ, Nat.reduceAdd, Nat.reduceBEq, Nat.reduceEqDiff, Nat.reduceLeDiff, Nat.reduceLT, Nat.reduceMul, Int.reduceToNat, Bool.false_eq_true, Bool.or_self, Bool.or_true, Bool.true_or, Bool.or_false, reduceIte, Option.toList_some, Option.toList_none, List.nil_append, List.cons_append, List.length_cons, List.length_nil, true_and, and_true, Int.cast_ofNat_Int, Int.reduceEq, Int.reduceLT, Int.reduceLE, Nat.zero_le, and_self, or_true, true_or, cdS_100]
theorem oa_loop (m : mz_M) {n : Nat} (h : mAm (m 154) n) (hm : ∀ c, c < 16 → mMy (m 154) c ∧ mOw (m 154) n c ≤ 10000000) : ∀ (r j : Nat), j + r = 16 → sx 171 7 [some (mz_r 9 0 153), some (mz_i (sm (mOw (m 154) n) j)), some (mz_i j)] [] m (some (mz_i (sm (mOw (m 154) n) 16))) m := by
  intro r
  induction r with
  | zero =>
    intro j hj
    obtain rfl : j = 16 := by omega
    refine mz_vc_ok 60 (ct := fun i => i == 7) ?_
    simp only [vcS0, vcS1, vcS2, vcS3, vcS4, vcS5, vcS6, vc_n0, vc_lk, vc_pop, vc_rc, vc_tsw, vc_fr, vc_ar, vc_tb, mz_nx, List.set_cons_zero, List.set_cons_succ, Nat.reduceAdd, Nat.reduceBEq, Nat.reduceEqDiff, Nat.reduceLeDiff, Nat.reduceLT, Nat.reduceMul, Int.reduceToNat, Bool.false_eq_true, Bool.or_self, Bool.or_true, Bool.true_or, Bool.or_false, reduceIte, Option.toList_some, Option.toList_none, List.nil_append, List.cons_append, List.length_cons, List.length_nil, true_and, and_true, Int.cast_ofNat_Int, Int.reduceEq, Int.reduceLT, Int.reduceLE, Nat.zero_le, and_self, or_true, true_or, cdS_171]
  | succ r ih =>
    intro j hj
    have hk := ih (j + 1) (by omega)
    have hmj := hm j (by omega)
    have b0 : 0 ≤ sm (mOw (m 154) n) j := sm_0 fun i hi => by unfold mOw; omega
    have b1 : sm (mOw (m 154) n) j ≤ 10000000 * j := sm_ub fun i hi => (hm i (by omega)).2
    have h2 : 0 ≤ mOw (m 154) n j := by unfold mOw; omega
    refine mz_vc_ok 60 (ct := fun i => i == 7) ?_
    simp only [vcS0, vcS1, vcS2, vcS3, vcS4, vcS5, vcS6, vc_n0, vc_lk, vc_pop, vc_rc, vc_tsw, vc_fr, vc_ar, vc_tb, mz_nx, List.set_cons_zero, List.set_cons_succ, Nat.reduceAdd, Nat.reduceBEq, Nat.reduceEqDiff, Nat.reduceLeDiff, Nat.reduceLT, Nat.reduceMul, Int.reduceToNat, Bool.false_eq_true, Bool.or_self, Bool.or_true, Bool.true_or, Bool.or_false, reduceIte, Option.toList_some, Option.toList_none, List.nil_append, List.cons_append, List.length_cons, List.length_nil, true_and, and_true, Int.cast_ofNat_Int, Int.reduceEq, Int.reduceLT, Int.reduceLE, Nat.zero_le, and_self, or_true, true_or, cdS_171]
    rw [if_pos (by omega)]
    refine ⟨_, _, sp_owes m (by omega) h hmj.1, ?_⟩
    simp only [vcS0, vcS1, vcS2, vcS3, vcS4, vcS5, vcS6, vc_n0, vc_lk, vc_pop, vc_rc, vc_tsw, vc_fr, vc_ar, vc_tb, mz_nx, List.set_cons_zero, List.set_cons_succ, Nat.reduceAdd, Nat.reduceBEq, Nat.reduceEqDiff, Nat.reduceLeDiff, Nat.reduceLT, Nat.reduceMul, Int.reduceToNat, Bool.false_eq_true, Bool.or_self, Bool.or_true, Bool.true_or, Bool.or_false, reduceIte, Option.toList_some, Option.toList_none, List.nil_append, List.cons_append, List.length_cons, List.length_nil, true_and, and_true, Int.cast_ofNat_Int, Int.reduceEq, Int.reduceLT, Int.reduceLE, Nat.zero_le, and_self, or_true, true_or, cdS_171]
    exact ⟨(by unfold mz_w; omega), (by unfold mz_w; omega), hk⟩
theorem sp_X9_owedInAll (m : mz_M) {n : Nat} (h : mAm (m 154) n) (hm : ∀ c, c < 16 → mMy (m 154) c ∧ mOw (m 154) n c ≤ 10000000) : sp 171 [mz_r 9 0 153] m (some (mz_i (sm (mOw (m 154) n) 16))) (mz_up m 153 4 0) := by
  refine mz_cl_vc 60 (fun i => i == 7) [some (mz_r 9 0 153), none, none] rfl ?_
  simp only [vcS0, vcS1, vcS2, vcS3, vcS4, vcS5, vcS6, vc_n0, vc_lk, vc_pop, vc_rc, vc_tsw, vc_fr, vc_ar, vc_tb, mz_nx, List.set_cons_zero, List.set_cons_succ, Nat.reduceAdd, Nat.reduceBEq, Nat.reduceEqDiff, Nat.reduceLeDiff, Nat.reduceLT, Nat.reduceMul, Int.reduceToNat, Bool.false_eq_true, Bool.or_self, Bool.or_true, Bool.true_or, Bool.or_false, reduceIte, Option.toList_some, Option.toList_none, List.nil_append, List.cons_append, List.length_cons, List.length_nil, true_and, and_true, Int.cast_ofNat_Int, Int.reduceEq, Int.reduceLT, Int.reduceLE, Nat.zero_le, and_self, or_true, true_or, cdS_171]
  have hl := oa_loop (mz_up m 153 4 0) (n := n) (by rw [thr_154]; exact h) (by rw [thr_154]; exact hm) 16 0 (by omega)
  rw [thr_154] at hl
  exact hl
def mOt (V : Nat → Int) (n : Nat) (x i : Int) : Option Nat := if (0 ≤ x ∧ x < 16) ∧ 0 ≤ i then tke (fun k => me V k 1 = 4 ∧ me V k 2 = x) n 0 i else none
theorem mOt_lt {V : Nat → Int} {n k : Nat} {x i : Int} (h : mOt V n x i = some k) : k < n := by
  unfold mOt at h
  split at h
  · have := tke_lt _ _ _ _ h; omega
  · cases h
theorem sp_ofTicket (m : mz_M) (x i : Int) {n w : Nat} (hw : w < 5) (h0 : m 154 429 = n) (hn : n ≤ 400) (hi : i ≤ 2147483647) : sp 170 [mz_r 9 0 153, mz_i x, mz_i i, mz_i w] m (some (mz_i (match mOt (m 154) n x i with | some k => me (m 154) k w | none => 0))) (mz_up m 153 4 (if (mOt (m 154) n x i).isSome then 0 else 1)) := by
  have go : ∀ k : Option Nat, k = mOt (m 154) n x i → sx 170 11 [some (mz_r 9 0 153), some (mz_i x), some (mz_i i), some (mz_i w), none] [mz_i (opI (-1) k)] m (some (mz_i (match mOt (m 154) n x i with | some k => me (m 154) k w | none => 0))) (mz_up m 153 4 (if (mOt (m 154) n x i).isSome then 0 else 1)) := by
    intro k hk
    rw [← hk]
    cases k with
    | none =>
      simp only [opI]
      refine mz_vc_ok 60 (ct := fun _ => false) ?_
      simp only [vcS0, vcS1, vcS2, vcS3, vcS4, vcS5, vcS6, vc_n0, vc_lk, vc_pop, vc_rc, vc_tsw, vc_fr, vc_ar, vc_tb, mz_nx, List.set_cons_zero, List.set_cons_succ, Nat.reduceAdd, Nat.reduceBEq, Nat.reduceEqDiff, Nat.reduceLeDiff, Nat.reduceLT, Nat.reduceMul, Int.reduceToNat, Bool.false_eq_true, Bool.or_self, Bool.or_true, Bool.true_or, Bool.or_false, reduceIte, Option.toList_some, Option.toList_none, List.nil_append, List.cons_append, List.length_cons, List.length_nil, true_and, and_true, Int.cast_ofNat_Int, Int.reduceEq, Int.reduceLT, Int.reduceLE, Nat.zero_le, and_self, or_true, true_or, cdS_170]
      rfl
    | some e =>
      have he := mOt_lt hk.symm
      simp only [opI, Option.isSome_some]
      refine mz_vc_ok 60 (ct := fun _ => false) ?_
      simp only [vcS0, vcS1, vcS2, vcS3, vcS4, vcS5, vcS6, vc_n0, vc_lk, vc_pop, vc_rc, vc_tsw, vc_fr, vc_ar, vc_tb, mz_nx, List.set_cons_zero, List.set_cons_succ, Nat.reduceAdd, Nat.reduceBEq, Nat.reduceEqDiff, Nat.reduceLeDiff, Nat.reduceLT, Nat.reduceMul, Int.reduceToNat, Bool.false_eq_true, Bool.or_self, Bool.or_true, Bool.true_or, Bool.or_false, reduceIte, Option.toList_some, Option.toList_none, List.nil_append, List.cons_append, List.length_cons, List.length_nil, true_and, and_true, Int.cast_ofNat_Int, Int.reduceEq, Int.reduceLT, Int.reduceLE, Nat.zero_le, and_self, or_true, true_or, cdS_170]
      rw [if_neg (by omega), if_neg (by omega)]
      have hv := sp_entry (mz_up m 153 4 0) (k := e) (w := w) (by omega) hw
      rw [thr_154] at hv
      refine ⟨_, _, hv, ?_⟩
      simp only [vcS0, vcS1, vcS2, vcS3, vcS4, vcS5, vcS6, vc_n0, vc_lk, vc_pop, vc_rc, vc_tsw, vc_fr, vc_ar, vc_tb, mz_nx, List.set_cons_zero, List.set_cons_succ, Nat.reduceAdd, Nat.reduceBEq, Nat.reduceEqDiff, Nat.reduceLeDiff, Nat.reduceLT, Nat.reduceMul, Int.reduceToNat, Bool.false_eq_true, Bool.or_self, Bool.or_true, Bool.true_or, Bool.or_false, reduceIte, Option.toList_some, Option.toList_none, List.nil_append, List.cons_append, List.length_cons, List.length_nil, true_and, and_true, Int.cast_ofNat_Int, Int.reduceEq, Int.reduceLT, Int.reduceLE, Nat.zero_le, and_self, or_true, true_or, cdS_170]
  refine mz_cl_vc 60 (fun i => i == 11) [some (mz_r 9 0 153), some (mz_i x), some (mz_i i), some (mz_i w), none] rfl ?_
  simp only [vcS0, vcS1, vcS2, vcS3, vcS4, vcS5, vcS6, vc_n0, vc_lk, vc_pop, vc_rc, vc_tsw, vc_fr, vc_ar, vc_tb, mz_nx, List.set_cons_zero, List.set_cons_succ, Nat.reduceAdd, Nat.reduceBEq, Nat.reduceEqDiff, Nat.reduceLeDiff, Nat.reduceLT, Nat.reduceMul, Int.reduceToNat, Bool.false_eq_true, Bool.or_self, Bool.or_true, Bool.true_or, Bool.or_false, reduceIte, Option.toList_some, Option.toList_none, List.nil_append, List.cons_append, List.length_cons, List.length_nil, true_and, and_true, Int.cast_ofNat_Int, Int.reduceEq, Int.reduceLT, Int.reduceLE, Nat.zero_le, and_self, or_true, true_or, cdS_170]
  refine ⟨_, _, sp_isCar m x, ?_⟩
  by_cases h1 : 0 ≤ x ∧ x < 16
  · rw [if_pos (show 0 ≤ x ∧ x ≤ 15 by omega)]
    simp only [vcS0, vcS1, vcS2, vcS3, vcS4, vcS5, vcS6, vc_n0, vc_lk, vc_pop, vc_rc, vc_tsw, vc_fr, vc_ar, vc_tb, mz_nx, List.set_cons_zero, List.set_cons_succ, Nat.reduceAdd, Nat.reduceBEq, Nat.reduceEqDiff, Nat.reduceLeDiff, Nat.reduceLT, Nat.reduceMul, Int.reduceToNat, Bool.false_eq_true, Bool.or_self, Bool.or_true, Bool.true_or, Bool.or_false, reduceIte, Option.toList_some, Option.toList_none, List.nil_append, List.cons_append, List.length_cons, List.length_nil, true_and, and_true, Int.cast_ofNat_Int, Int.reduceEq, Int.reduceLT, Int.reduceLE, Nat.zero_le, and_self, or_true, true_or, cdS_170]
    by_cases h2 : i < 0
    · rw [if_pos h2]
      exact go none (by unfold mOt; rw [if_neg (by omega)])
    · rw [if_neg h2]
      refine ⟨_, _, sp_ticket m x i h0 hn (by omega), ?_⟩
      simp only [vcS0, vcS1, vcS2, vcS3, vcS4, vcS5, vcS6, vc_n0, vc_lk, vc_pop, vc_rc, vc_tsw, vc_fr, vc_ar, vc_tb, mz_nx, List.set_cons_zero, List.set_cons_succ, Nat.reduceAdd, Nat.reduceBEq, Nat.reduceEqDiff, Nat.reduceLeDiff, Nat.reduceLT, Nat.reduceMul, Int.reduceToNat, Bool.false_eq_true, Bool.or_self, Bool.or_true, Bool.true_or, Bool.or_false, reduceIte, Option.toList_some, Option.toList_none, List.nil_append, List.cons_append, List.length_cons, List.length_nil, true_and, and_true, Int.cast_ofNat_Int, Int.reduceEq, Int.reduceLT, Int.reduceLE, Nat.zero_le, and_self, or_true, true_or, cdS_170]
      exact go _ (by unfold mOt; rw [if_pos ⟨h1, by omega⟩])
  · rw [if_neg (show ¬ (0 ≤ x ∧ x ≤ 15) by omega)]
    simp only [vcS0, vcS1, vcS2, vcS3, vcS4, vcS5, vcS6, vc_n0, vc_lk, vc_pop, vc_rc, vc_tsw, vc_fr, vc_ar, vc_tb, mz_nx, List.set_cons_zero, List.set_cons_succ, Nat.reduceAdd, Nat.reduceBEq, Nat.reduceEqDiff, Nat.reduceLeDiff, Nat.reduceLT, Nat.reduceMul, Int.reduceToNat, Bool.false_eq_true, Bool.or_self, Bool.or_true, Bool.true_or, Bool.or_false, reduceIte, Option.toList_some, Option.toList_none, List.nil_append, List.cons_append, List.length_cons, List.length_nil, true_and, and_true, Int.cast_ofNat_Int, Int.reduceEq, Int.reduceLT, Int.reduceLE, Nat.zero_le, and_self, or_true, true_or, cdS_170]
    exact go none (by unfold mOt; rw [if_neg (fun q => h1 q.1)])
theorem sp_X9_ticketAmount (m : mz_M) (x i : Int) {n : Nat} (h0 : m 154 429 = n) (hn : n ≤ 400) (hi : i ≤ 2147483647) : sp 228 [mz_r 9 0 153, mz_i x, mz_i i] m (some (mz_i (match mOt (m 154) n x i with | some k => me (m 154) k 3 | none => 0))) (mz_up m 153 4 (if (mOt (m 154) n x i).isSome then 0 else 1)) := by
  refine mz_cl_vc 60 (fun _ => false) [some (mz_r 9 0 153), some (mz_i x), some (mz_i i)] rfl ?_
  simp only [vcS0, vcS1, vcS2, vcS3, vcS4, vcS5, vcS6, vc_n0, vc_lk, vc_pop, vc_rc, vc_tsw, vc_fr, vc_ar, vc_tb, mz_nx, List.set_cons_zero, List.set_cons_succ, Nat.reduceAdd, Nat.reduceBEq, Nat.reduceEqDiff, Nat.reduceLeDiff, Nat.reduceLT, Nat.reduceMul, Int.reduceToNat, Bool.false_eq_true, Bool.or_self, Bool.or_true, Bool.true_or, Bool.or_false, reduceIte, Option.toList_some, Option.toList_none, List.nil_append, List.cons_append, List.length_cons, List.length_nil, true_and, and_true, Int.cast_ofNat_Int, Int.reduceEq, Int.reduceLT, Int.reduceLE, Nat.zero_le, and_self, or_true, true_or, cdS_228]
  refine ⟨_, _, sp_ofTicket m x i (w := 3) (by omega) h0 hn hi, ?_⟩
  simp only [vcS0, vcS1, vcS2, vcS3, vcS4, vcS5, vcS6, vc_n0, vc_lk, vc_pop, vc_rc, vc_tsw, vc_fr, vc_ar, vc_tb, mz_nx, List.set_cons_zero, List.set_cons_succ, Nat.reduceAdd, Nat.reduceBEq, Nat.reduceEqDiff, Nat.reduceLeDiff, Nat.reduceLT, Nat.reduceMul, Int.reduceToNat, Bool.false_eq_true, Bool.or_self, Bool.or_true, Bool.true_or, Bool.or_false, reduceIte, Option.toList_some, Option.toList_none, List.nil_append, List.cons_append, List.length_cons, List.length_nil, true_and, and_true, Int.cast_ofNat_Int, Int.reduceEq, Int.reduceLT, Int.reduceLE, Nat.zero_le, and_self, or_true, true_or, cdS_228]
theorem sp_X9_ticketMinute (m : mz_M) (x i : Int) {n : Nat} (h0 : m 154 429 = n) (hn : n ≤ 400) (hi : i ≤ 2147483647) : sp 229 [mz_r 9 0 153, mz_i x, mz_i i] m (some (mz_i (match mOt (m 154) n x i with | some k => me (m 154) k 0 | none => 0))) (mz_up m 153 4 (if (mOt (m 154) n x i).isSome then 0 else 1)) := by
  refine mz_cl_vc 60 (fun _ => false) [some (mz_r 9 0 153), some (mz_i x), some (mz_i i)] rfl ?_
  simp only [vcS0, vcS1, vcS2, vcS3, vcS4, vcS5, vcS6, vc_n0, vc_lk, vc_pop, vc_rc, vc_tsw, vc_fr, vc_ar, vc_tb, mz_nx, List.set_cons_zero, List.set_cons_succ, Nat.reduceAdd, Nat.reduceBEq, Nat.reduceEqDiff, Nat.reduceLeDiff, Nat.reduceLT, Nat.reduceMul, Int.reduceToNat, Bool.false_eq_true, Bool.or_self, Bool.or_true, Bool.true_or, Bool.or_false, reduceIte, Option.toList_some, Option.toList_none, List.nil_append, List.cons_append, List.length_cons, List.length_nil, true_and, and_true, Int.cast_ofNat_Int, Int.reduceEq, Int.reduceLT, Int.reduceLE, Nat.zero_le, and_self, or_true, true_or, cdS_229]
  refine ⟨_, _, sp_ofTicket m x i (w := 0) (by omega) h0 hn hi, ?_⟩
  simp only [vcS0, vcS1, vcS2, vcS3, vcS4, vcS5, vcS6, vc_n0, vc_lk, vc_pop, vc_rc, vc_tsw, vc_fr, vc_ar, vc_tb, mz_nx, List.set_cons_zero, List.set_cons_succ, Nat.reduceAdd, Nat.reduceBEq, Nat.reduceEqDiff, Nat.reduceLeDiff, Nat.reduceLT, Nat.reduceMul, Int.reduceToNat, Bool.false_eq_true, Bool.or_self, Bool.or_true, Bool.true_or, Bool.or_false, reduceIte, Option.toList_some, Option.toList_none, List.nil_append, List.cons_append, List.length_cons, List.length_nil, true_and, and_true, Int.cast_ofNat_Int, Int.reduceEq, Int.reduceLT, Int.reduceLE, Nat.zero_le, and_self, or_true, true_or, cdS_229]
theorem sp_X9_isTicketPaid (m : mz_M) (x i : Int) {n : Nat} (h0 : m 154 429 = n) (hn : n ≤ 400) (hi : i ≤ 2147483647) : sp 219 [mz_r 9 0 153, mz_i x, mz_i i] m (some (mz_i (if (match mOt (m 154) n x i with | some k => me (m 154) k 4 | none => 0) = 1 then 1 else 0))) (mz_up m 153 4 0) := by
  refine mz_cl_vc 60 (fun _ => false) [some (mz_r 9 0 153), some (mz_i x), some (mz_i i), none] rfl ?_
  simp only [vcS0, vcS1, vcS2, vcS3, vcS4, vcS5, vcS6, vc_n0, vc_lk, vc_pop, vc_rc, vc_tsw, vc_fr, vc_ar, vc_tb, mz_nx, List.set_cons_zero, List.set_cons_succ, Nat.reduceAdd, Nat.reduceBEq, Nat.reduceEqDiff, Nat.reduceLeDiff, Nat.reduceLT, Nat.reduceMul, Int.reduceToNat, Bool.false_eq_true, Bool.or_self, Bool.or_true, Bool.true_or, Bool.or_false, reduceIte, Option.toList_some, Option.toList_none, List.nil_append, List.cons_append, List.length_cons, List.length_nil, true_and, and_true, Int.cast_ofNat_Int, Int.reduceEq, Int.reduceLT, Int.reduceLE, Nat.zero_le, and_self, or_true, true_or, cdS_219]
  refine ⟨_, _, sp_ofTicket m x i (w := 4) (by omega) h0 hn hi, ?_⟩
  generalize (match mOt (m 154) n x i with | some k => me (m 154) k 4 | none => 0) = v
  simp only [vcS0, vcS1, vcS2, vcS3, vcS4, vcS5, vcS6, vc_n0, vc_lk, vc_pop, vc_rc, vc_tsw, vc_fr, vc_ar, vc_tb, mz_nx, List.set_cons_zero, List.set_cons_succ, Nat.reduceAdd, Nat.reduceBEq, Nat.reduceEqDiff, Nat.reduceLeDiff, Nat.reduceLT, Nat.reduceMul, Int.reduceToNat, Bool.false_eq_true, Bool.or_self, Bool.or_true, Bool.true_or, Bool.or_false, reduceIte, Option.toList_some, Option.toList_none, List.nil_append, List.cons_append, List.length_cons, List.length_nil, true_and, and_true, Int.cast_ofNat_Int, Int.reduceEq, Int.reduceLT, Int.reduceLE, Nat.zero_le, and_self, or_true, true_or, cdS_219]
  rw [up_up]
  by_cases h : v = 1
  · rw [if_pos h, if_pos h]
    all_goals ((repeat' refine And.intro ?_ ?_) <;> first | trivial | rfl | (unfold mz_w; omega) | omega)
  · rw [if_neg h, if_neg h]
    all_goals ((repeat' refine And.intro ?_ ?_) <;> first | trivial | rfl | (unfold mz_w; omega) | omega)
theorem sp_ofLog (m : mz_M) (i : Int) {n w : Nat} (hw : w < 5) (h0 : m 154 429 = n) (hn : n ≤ 400) : sp 110 [mz_r 9 0 153, mz_i i, mz_i w] m (some (mz_i (if 0 ≤ i ∧ i < n then me (m 154) i.toNat w else 0))) (mz_up m 153 4 (if 0 ≤ i ∧ i < n then 0 else 1)) := by
  refine mz_cl_vc 60 (fun _ => false) [some (mz_r 9 0 153), some (mz_i i), some (mz_i w)] rfl ?_
  simp only [vcS0, vcS1, vcS2, vcS3, vcS4, vcS5, vcS6, vc_n0, vc_lk, vc_pop, vc_rc, vc_tsw, vc_fr, vc_ar, vc_tb, mz_nx, List.set_cons_zero, List.set_cons_succ, Nat.reduceAdd, Nat.reduceBEq, Nat.reduceEqDiff, Nat.reduceLeDiff, Nat.reduceLT, Nat.reduceMul, Int.reduceToNat, Bool.false_eq_true, Bool.or_self, Bool.or_true, Bool.true_or, Bool.or_false, reduceIte, Option.toList_some, Option.toList_none, List.nil_append, List.cons_append, List.length_cons, List.length_nil, true_and, and_true, Int.cast_ofNat_Int, Int.reduceEq, Int.reduceLT, Int.reduceLE, Nat.zero_le, and_self, or_true, true_or, cdS_110]
  rw [h0]
  refine ⟨(by unfold mz_w; omega), _, _, sp_in m i 0 ((n : Int) - 1), ?_⟩
  by_cases h1 : 0 ≤ i ∧ i < n
  · rw [if_pos (show 0 ≤ i ∧ i ≤ (n : Int) - 1 by omega), if_pos h1, if_pos h1]
    simp only [vcS0, vcS1, vcS2, vcS3, vcS4, vcS5, vcS6, vc_n0, vc_lk, vc_pop, vc_rc, vc_tsw, vc_fr, vc_ar, vc_tb, mz_nx, List.set_cons_zero, List.set_cons_succ, Nat.reduceAdd, Nat.reduceBEq, Nat.reduceEqDiff, Nat.reduceLeDiff, Nat.reduceLT, Nat.reduceMul, Int.reduceToNat, Bool.false_eq_true, Bool.or_self, Bool.or_true, Bool.true_or, Bool.or_false, reduceIte, Option.toList_some, Option.toList_none, List.nil_append, List.cons_append, List.length_cons, List.length_nil, true_and, and_true, Int.cast_ofNat_Int, Int.reduceEq, Int.reduceLT, Int.reduceLE, Nat.zero_le, and_self, or_true, true_or, cdS_110]
    have hv := sp_entry (mz_up m 153 4 0) (k := i.toNat) (w := w) (by omega) hw
    rw [thr_154, Int.toNat_of_nonneg h1.1] at hv
    simp only [up_s, Int.le_refl, if_true, ↓reduceIte]
    refine ⟨_, _, hv, ?_⟩
    simp only [vcS0, vcS1, vcS2, vcS3, vcS4, vcS5, vcS6, vc_n0, vc_lk, vc_pop, vc_rc, vc_tsw, vc_fr, vc_ar, vc_tb, mz_nx, List.set_cons_zero, List.set_cons_succ, Nat.reduceAdd, Nat.reduceBEq, Nat.reduceEqDiff, Nat.reduceLeDiff, Nat.reduceLT, Nat.reduceMul, Int.reduceToNat, Bool.false_eq_true, Bool.or_self, Bool.or_true, Bool.true_or, Bool.or_false, reduceIte, Option.toList_some, Option.toList_none, List.nil_append, List.cons_append, List.length_cons, List.length_nil, true_and, and_true, Int.cast_ofNat_Int, Int.reduceEq, Int.reduceLT, Int.reduceLE, Nat.zero_le, and_self, or_true, true_or, cdS_110]
  · rw [if_neg (show ¬ (0 ≤ i ∧ i ≤ (n : Int) - 1) by omega), if_neg h1, if_neg h1]
    simp only [vcS0, vcS1, vcS2, vcS3, vcS4, vcS5, vcS6, vc_n0, vc_lk, vc_pop, vc_rc, vc_tsw, vc_fr, vc_ar, vc_tb, mz_nx, List.set_cons_zero, List.set_cons_succ, Nat.reduceAdd, Nat.reduceBEq, Nat.reduceEqDiff, Nat.reduceLeDiff, Nat.reduceLT, Nat.reduceMul, Int.reduceToNat, Bool.false_eq_true, Bool.or_self, Bool.or_true, Bool.true_or, Bool.or_false, reduceIte, Option.toList_some, Option.toList_none, List.nil_append, List.cons_append, List.length_cons, List.length_nil, true_and, and_true, Int.cast_ofNat_Int, Int.reduceEq, Int.reduceLT, Int.reduceLE, Nat.zero_le, and_self, or_true, true_or, cdS_110]
    simp only [up_s]
    all_goals ((repeat' refine And.intro ?_ ?_) <;> first | trivial | rfl | (unfold mz_w; omega) | omega)
