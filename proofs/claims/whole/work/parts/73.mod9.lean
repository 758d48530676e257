def mzA (V : Nat → Int) (p : Nat) : Nat := (V (203 + p)).toNat
theorem mzA_ok {V : Nat → Int} (h : mZo V) {p : Nat} (hp : p < 10) : V (203 + p) = mzA V p ∧ mzA V p < 4 := by have := h p hp; unfold mzA; omega
def mRo (V : Nat → Int) : Prop := ∀ z, z < 4 → okR (mR V z)
theorem sp_X9_price (m : mz_M) (x s k : Int) (h : plN' (m 154)) (hz : mZo (m 154)) (hR : mRo (m 154)) : sp 176 [mz_r 9 0 153, mz_i x, mz_i s, mz_i k] m (some (mz_i (if (0 ≤ x ∧ x < m 154 0) ∧ (0 ≤ s ∧ s ≤ 10079) ∧ 0 ≤ k ∧ k ≤ 1440 then prc (mR (m 154) (mzA (m 154) x.toNat)) k.toNat s.toNat else -1))) (mz_up m 153 4 0) := by
  have hh := h.2
  refine mz_cl_vc 40 (fun _ => false) [some (mz_r 9 0 153), some (mz_i x), some (mz_i s), some (mz_i k)] rfl ?_
  simp only [vcS0, vcS1, vcS2, vcS3, vcS4, vcS5, vcS6, vc_n0, vc_lk, vc_pop, vc_rc, vc_tsw, vc_fr, vc_ar, vc_tb, mz_nx, List.set_cons_zero, List.set_cons_succ, Nat.reduceAdd, Nat.reduceBEq, Nat.reduceEqDiff, Nat.reduceLeDiff, Nat.reduceLT, Nat.reduceMul, Int.reduceToNat, Bool.false_eq_true, Bool.or_self, Bool.or_true, Bool.true_or, Bool.or_false, reduceIte, Option.toList_some, Option.toList_none, List.nil_append, List.cons_append, List.length_cons, List.length_nil, true_and, and_true, Int.cast_ofNat_Int, Int.reduceEq, Int.reduceLT, Int.reduceLE, Nat.zero_le, and_self, or_true, true_or, cdS_176]
  refine ⟨_, _, sp_isPlT m x h, ?_⟩
  by_cases h1 : 0 ≤ x ∧ x < m 154 0
  · rw [if_pos h1]
    simp only [vcS0, vcS1, vcS2, vcS3, vcS4, vcS5, vcS6, vc_n0, vc_lk, vc_pop, vc_rc, vc_tsw, vc_fr, vc_ar, vc_tb, mz_nx, List.set_cons_zero, List.set_cons_succ, Nat.reduceAdd, Nat.reduceBEq, Nat.reduceEqDiff, Nat.reduceLeDiff, Nat.reduceLT, Nat.reduceMul, Int.reduceToNat, Bool.false_eq_true, Bool.or_self, Bool.or_true, Bool.true_or, Bool.or_false, reduceIte, Option.toList_some, Option.toList_none, List.nil_append, List.cons_append, List.length_cons, List.length_nil, true_and, and_true, Int.cast_ofNat_Int, Int.reduceEq, Int.reduceLT, Int.reduceLE, Nat.zero_le, and_self, or_true, true_or, cdS_176]
    refine ⟨_, _, sp_in (mz_up m 153 4 0) s 0 10079, ?_⟩
    by_cases h2 : 0 ≤ s ∧ s ≤ 10079
    · rw [if_pos h2]
      simp only [vcS0, vcS1, vcS2, vcS3, vcS4, vcS5, vcS6, vc_n0, vc_lk, vc_pop, vc_rc, vc_tsw, vc_fr, vc_ar, vc_tb, mz_nx, List.set_cons_zero, List.set_cons_succ, Nat.reduceAdd, Nat.reduceBEq, Nat.reduceEqDiff, Nat.reduceLeDiff, Nat.reduceLT, Nat.reduceMul, Int.reduceToNat, Bool.false_eq_true, Bool.or_self, Bool.or_true, Bool.true_or, Bool.or_false, reduceIte, Option.toList_some, Option.toList_none, List.nil_append, List.cons_append, List.length_cons, List.length_nil, true_and, and_true, Int.cast_ofNat_Int, Int.reduceEq, Int.reduceLT, Int.reduceLE, Nat.zero_le, and_self, or_true, true_or, cdS_176]
      refine ⟨_, _, sp_in (mz_up m 153 4 0) k 0 1440, ?_⟩
      by_cases h3 : 0 ≤ k ∧ k ≤ 1440
      · rw [if_pos h3, if_pos ⟨h1, h2, h3⟩]
        obtain ⟨a, rfl⟩ := nat_i h1.1
        obtain ⟨b, rfl⟩ := nat_i h2.1
        obtain ⟨c, rfl⟩ := nat_i h3.1
        simp only [Int.toNat_natCast]
        simp only [vcS0, vcS1, vcS2, vcS3, vcS4, vcS5, vcS6, vc_n0, vc_lk, vc_pop, vc_rc, vc_tsw, vc_fr, vc_ar, vc_tb, mz_nx, List.set_cons_zero, List.set_cons_succ, Nat.reduceAdd, Nat.reduceBEq, Nat.reduceEqDiff, Nat.reduceLeDiff, Nat.reduceLT, Nat.reduceMul, Int.reduceToNat, Bool.false_eq_true, Bool.or_self, Bool.or_true, Bool.true_or, Bool.or_false, reduceIte, Option.toList_some, Option.toList_none, List.nil_append, List.cons_append, List.length_cons, List.length_nil, true_and, and_true, Int.cast_ofNat_Int, Int.reduceEq, Int.reduceLT, Int.reduceLE, Nat.zero_le, and_self, or_true, true_or, cdS_176]
        have hza := mzA_ok hz (show a < 10 by omega)
        have hp := sp_priceOf (mz_up m 153 4 0) (p := a) (z := mzA (m 154) a) (s := b) (n := c) (by omega) (by rw [thr_154]; exact hza.1) hza.2 (by omega) (by omega) (by rw [thr_154]; exact hR _ hza.2)
        rw [thr_154] at hp
        refine ⟨_, _, hp, ?_⟩
        simp only [vcS0, vcS1, vcS2, vcS3, vcS4, vcS5, vcS6, vc_n0, vc_lk, vc_pop, vc_rc, vc_tsw, vc_fr, vc_ar, vc_tb, mz_nx, List.set_cons_zero, List.set_cons_succ, Nat.reduceAdd, Nat.reduceBEq, Nat.reduceEqDiff, Nat.reduceLeDiff, Nat.reduceLT, Nat.reduceMul, Int.reduceToNat, Bool.false_eq_true, Bool.or_self, Bool.or_true, Bool.true_or, Bool.or_false, reduceIte, Option.toList_some, Option.toList_none, List.nil_append, List.cons_append, List.length_cons, List.length_nil, true_and, and_true, Int.cast_ofNat_Int, Int.reduceEq, Int.reduceLT, Int.reduceLE, Nat.zero_le, and_self, or_true, true_or, cdS_176]
      · rw [if_neg h3, if_neg (fun q => h3 q.2.2)]
        simp only [vcS0, vcS1, vcS2, vcS3, vcS4, vcS5, vcS6, vc_n0, vc_lk, vc_pop, vc_rc, vc_tsw, vc_fr, vc_ar, vc_tb, mz_nx, List.set_cons_zero, List.set_cons_succ, Nat.reduceAdd, Nat.reduceBEq, Nat.reduceEqDiff, Nat.reduceLeDiff, Nat.reduceLT, Nat.reduceMul, Int.reduceToNat, Bool.false_eq_true, Bool.or_self, Bool.or_true, Bool.true_or, Bool.or_false, reduceIte, Option.toList_some, Option.toList_none, List.nil_append, List.cons_append, List.length_cons, List.length_nil, true_and, and_true, Int.cast_ofNat_Int, Int.reduceEq, Int.reduceLT, Int.reduceLE, Nat.zero_le, and_self, or_true, true_or, cdS_176]
    · rw [if_neg h2, if_neg (fun q => h2 q.2.1)]
      simp only [vcS0, vcS1, vcS2, vcS3, vcS4, vcS5, vcS6, vc_n0, vc_lk, vc_pop, vc_rc, vc_tsw, vc_fr, vc_ar, vc_tb, mz_nx, List.set_cons_zero, List.set_cons_succ, Nat.reduceAdd, Nat.reduceBEq, Nat.reduceEqDiff, Nat.reduceLeDiff, Nat.reduceLT, Nat.reduceMul, Int.reduceToNat, Bool.false_eq_true, Bool.or_self, Bool.or_true, Bool.true_or, Bool.or_false, reduceIte, Option.toList_some, Option.toList_none, List.nil_append, List.cons_append, List.length_cons, List.length_nil, true_and, and_true, Int.cast_ofNat_Int, Int.reduceEq, Int.reduceLT, Int.reduceLE, Nat.zero_le, and_self, or_true, true_or, cdS_176]
  · rw [if_neg h1, if_neg (fun q => h1 q.1)]
    simp only [vcS0, vcS1, vcS2, vcS3, vcS4, vcS5, vcS6, vc_n0, vc_lk, vc_pop, vc_rc, vc_tsw, vc_fr, vc_ar, vc_tb, mz_nx, List.set_cons_zero, List.set_cons_succ, Nat.reduceAdd, Nat.reduceBEq, Nat.reduceEqDiff, Nat.reduceLeDiff, Nat.reduceLT, Nat.reduceMul, Int.reduceToNat, Bool.false_eq_true, Bool.or_self, Bool.or_true, Bool.true_or, Bool.or_false, reduceIte, Option.toList_some, Option.toList_none, List.nil_append, List.cons_append, List.length_cons, List.length_nil, true_and, and_true, Int.cast_ofNat_Int, Int.reduceEq, Int.reduceLT, Int.reduceLE, Nat.zero_le, and_self, or_true, true_or, cdS_176]
def bA (f : Nat → Int) (a : Nat) : Nat → Nat
  | 0 => a
  | n + 1 => am f a n
theorem cs_loop' (m : mz_M) {p z T n : Nat} (hp : p < 10) (hz : m 154 (203 + p) = z) (hz4 : z < 4) (hT : m 154 2 = T) (hT2 : T < 20000) (hn : n ≤ 600) (hR : okR (mR (m 154) z)) : ∀ (r j : Nat), j + r = 1440 → sx 154 21 [some (mz_r 9 0 153), some (mz_i p), some (mz_i n), some (mz_i (bA (prc (mR (m 154) z) n) T j)), some (mz_i ((T + j : Nat) : Int))] [] m (some (mz_i (am (prc (mR (m 154) z) n) T 1439))) m := by
  intro r
  induction r with
  | zero =>
    intro j hj
    obtain rfl : j = 1440 := by omega
    refine mz_vc_ok 60 (ct := fun i => i == 21) ?_
    simp only [vcS0, vcS1, vcS2, vcS3, vcS4, vcS5, vcS6, vc_n0, vc_lk, vc_pop, vc_rc, vc_tsw, vc_fr, vc_ar, vc_tb, mz_nx, List.set_cons_zero, List.set_cons_succ, Nat.reduceAdd, Nat.reduceBEq, Nat.reduceEqDiff, Nat.reduceLeDiff, Nat.reduceLT, Nat.reduceMul, Int.reduceToNat, Bool.false_eq_true, Bool.or_self, Bool.or_true, Bool.true_or, Bool.or_false, reduceIte, Option.toList_some, Option.toList_none, List.nil_append, List.cons_append, List.length_cons, List.length_nil, true_and, and_true, Int.cast_ofNat_Int, Int.reduceEq, Int.reduceLT, Int.reduceLE, Nat.zero_le, and_self, or_true, true_or, cdS_154]
    rw [hT, if_neg (by omega)]
    exact ⟨(by unfold mz_w; omega), rfl⟩
  | succ r ih =>
    intro j hj
    have hk := ih (j + 1) (by omega)
    have hb : T ≤ bA (prc (mR (m 154) z) n) T j ∧ bA (prc (mR (m 154) z) n) T j ≤ T + j := by
      cases j with
      | zero => exact ⟨Nat.le_refl _, Nat.le_refl _⟩
      | succ j => have := am_le (prc (mR (m 154) z) n) T j; show T ≤ am _ T j ∧ am _ T j ≤ _; omega
    refine mz_vc_ok 60 (ct := fun i => i == 21) ?_
    simp only [vcS0, vcS1, vcS2, vcS3, vcS4, vcS5, vcS6, vc_n0, vc_lk, vc_pop, vc_rc, vc_tsw, vc_fr, vc_ar, vc_tb, mz_nx, List.set_cons_zero, List.set_cons_succ, Nat.reduceAdd, Nat.reduceBEq, Nat.reduceEqDiff, Nat.reduceLeDiff, Nat.reduceLT, Nat.reduceMul, Int.reduceToNat, Bool.false_eq_true, Bool.or_self, Bool.or_true, Bool.true_or, Bool.or_false, reduceIte, Option.toList_some, Option.toList_none, List.nil_append, List.cons_append, List.length_cons, List.length_nil, true_and, and_true, Int.cast_ofNat_Int, Int.reduceEq, Int.reduceLT, Int.reduceLE, Nat.zero_le, and_self, or_true, true_or, cdS_154]
    rw [hT, if_pos (by omega)]
    refine ⟨(by unfold mz_w; omega), _, _, sp_priceOf m hp hz hz4 (by omega) (by omega) hR, ?_⟩
    simp only [vcS0, vcS1, vcS2, vcS3, vcS4, vcS5, vcS6, vc_n0, vc_lk, vc_pop, vc_rc, vc_tsw, vc_fr, vc_ar, vc_tb, mz_nx, List.set_cons_zero, List.set_cons_succ, Nat.reduceAdd, Nat.reduceBEq, Nat.reduceEqDiff, Nat.reduceLeDiff, Nat.reduceLT, Nat.reduceMul, Int.reduceToNat, Bool.false_eq_true, Bool.or_self, Bool.or_true, Bool.true_or, Bool.or_false, reduceIte, Option.toList_some, Option.toList_none, List.nil_append, List.cons_append, List.length_cons, List.length_nil, true_and, and_true, Int.cast_ofNat_Int, Int.reduceEq, Int.reduceLT, Int.reduceLE, Nat.zero_le, and_self, or_true, true_or, cdS_154]
    refine ⟨_, _, sp_priceOf m hp hz hz4 (by omega) (by omega) hR, ?_⟩
    simp only [vcS0, vcS1, vcS2, vcS3, vcS4, vcS5, vcS6, vc_n0, vc_lk, vc_pop, vc_rc, vc_tsw, vc_fr, vc_ar, vc_tb, mz_nx, List.set_cons_zero, List.set_cons_succ, Nat.reduceAdd, Nat.reduceBEq, Nat.reduceEqDiff, Nat.reduceLeDiff, Nat.reduceLT, Nat.reduceMul, Int.reduceToNat, Bool.false_eq_true, Bool.or_self, Bool.or_true, Bool.true_or, Bool.or_false, reduceIte, Option.toList_some, Option.toList_none, List.nil_append, List.cons_append, List.length_cons, List.length_nil, true_and, and_true, Int.cast_ofNat_Int, Int.reduceEq, Int.reduceLT, Int.reduceLE, Nat.zero_le, and_self, or_true, true_or, cdS_154]
    by_cases h1 : prc (mR (m 154) z) n (T + j) < prc (mR (m 154) z) n (bA (prc (mR (m 154) z) n) T j)
    · rw [if_pos h1]
      have e : bA (prc (mR (m 154) z) n) T (j + 1) = T + j := by
        cases j with
        | zero => exact absurd h1 (Int.lt_irrefl _)
        | succ j => exact if_pos h1
      rw [e] at hk
      exact ⟨(by unfold mz_w; omega), hk⟩
    · rw [if_neg h1]
      have e : bA (prc (mR (m 154) z) n) T (j + 1) = bA (prc (mR (m 154) z) n) T j := by
        cases j with
        | zero => rfl
        | succ j => exact if_neg h1
      rw [e] at hk
      exact ⟨(by unfold mz_w; omega), hk⟩
theorem sp_X9_cheapestStart (m : mz_M) (x k : Int) (h : plN' (m 154)) (hz : mZo (m 154)) (hR : mRo (m 154)) {T : Nat} (hT : m 154 2 = T) (hT2 : T < 20000) : sp 154 [mz_r 9 0 153, mz_i x, mz_i k] m (some (mz_i (if (0 ≤ x ∧ x < m 154 0) ∧ 1 ≤ k ∧ k ≤ 600 then (am (prc (mR (m 154) (mzA (m 154) x.toNat)) k.toNat) T 1439 : Int) else -1))) (mz_up m 153 4 0) := by
  have hh := h.2
  refine mz_cl_vc 40 (fun i => i == 21) [some (mz_r 9 0 153), some (mz_i x), some (mz_i k), none, none] rfl ?_
  simp only [vcS0, vcS1, vcS2, vcS3, vcS4, vcS5, vcS6, vc_n0, vc_lk, vc_pop, vc_rc, vc_tsw, vc_fr, vc_ar, vc_tb, mz_nx, List.set_cons_zero, List.set_cons_succ, Nat.reduceAdd, Nat.reduceBEq, Nat.reduceEqDiff, Nat.reduceLeDiff, Nat.reduceLT, Nat.reduceMul, Int.reduceToNat, Bool.false_eq_true, Bool.or_self, Bool.or_true, Bool.true_or, Bool.or_false, reduceIte, Option.toList_some, Option.toList_none, List.nil_append, List.cons_append, List.length_cons, List.length_nil, true_and, and_true, Int.cast_ofNat_Int, Int.reduceEq, Int.reduceLT, Int.reduceLE, Nat.zero_le, and_self, or_true, true_or, cdS_154]
  refine ⟨_, _, sp_isPlT m x h, ?_⟩
  by_cases h1 : 0 ≤ x ∧ x < m 154 0
  · rw [if_pos h1]
    simp only [vcS0, vcS1, vcS2, vcS3, vcS4, vcS5, vcS6, vc_n0, vc_lk, vc_pop, vc_rc, vc_tsw, vc_fr, vc_ar, vc_tb, mz_nx, List.set_cons_zero, List.set_cons_succ, Nat.reduceAdd, Nat.reduceBEq, Nat.reduceEqDiff, Nat.reduceLeDiff, Nat.reduceLT, Nat.reduceMul, Int.reduceToNat, Bool.false_eq_true, Bool.or_self, Bool.or_true, Bool.true_or, Bool.or_false, reduceIte, Option.toList_some, Option.toList_none, List.nil_append, List.cons_append, List.length_cons, List.length_nil, true_and, and_true, Int.cast_ofNat_Int, Int.reduceEq, Int.reduceLT, Int.reduceLE, Nat.zero_le, and_self, or_true, true_or, cdS_154]
    refine ⟨_, _, sp_in (mz_up m 153 4 0) k 1 600, ?_⟩
    by_cases h2 : 1 ≤ k ∧ k ≤ 600
    · rw [if_pos h2, if_pos ⟨h1, h2⟩]
      obtain ⟨a, rfl⟩ := nat_i h1.1
      obtain ⟨b, rfl⟩ := nat_i (show 0 ≤ k by omega)
      simp only [Int.toNat_natCast]
      simp only [vcS0, vcS1, vcS2, vcS3, vcS4, vcS5, vcS6, vc_n0, vc_lk, vc_pop, vc_rc, vc_tsw, vc_fr, vc_ar, vc_tb, mz_nx, List.set_cons_zero, List.set_cons_succ, Nat.reduceAdd, Nat.reduceBEq, Nat.reduceEqDiff, Nat.reduceLeDiff, Nat.reduceLT, Nat.reduceMul, Int.reduceToNat, Bool.false_eq_true, Bool.or_self, Bool.or_true, Bool.true_or, Bool.or_false, reduceIte, Option.toList_some, Option.toList_none, List.nil_append, List.cons_append, List.length_cons, List.length_nil, true_and, and_true, Int.cast_ofNat_Int, Int.reduceEq, Int.reduceLT, Int.reduceLE, Nat.zero_le, and_self, or_true, true_or, cdS_154]
      have hza := mzA_ok hz (show a < 10 by omega)
      have hp := cs_loop' (mz_up m 153 4 0) (p := a) (z := mzA (m 154) a) (T := T) (n := b) (by omega) (by rw [thr_154]; exact hza.1) hza.2 (by rw [thr_154]; exact hT) hT2 (by omega) (by rw [thr_154]; exact hR _ hza.2) 1440 0 rfl
      rw [thr_154] at hp ⊢
      rw [hT]
      exact hp
    · rw [if_neg h2, if_neg (fun q => h2 q.2)]
      simp only [vcS0, vcS1, vcS2, vcS3, vcS4, vcS5, vcS6, vc_n0, vc_lk, vc_pop, vc_rc, vc_tsw, vc_fr, vc_ar, vc_tb, mz_nx, List.set_cons_zero, List.set_cons_succ, Nat.reduceAdd, Nat.reduceBEq, Nat.reduceEqDiff, Nat.reduceLeDiff, Nat.reduceLT, Nat.reduceMul, Int.reduceToNat, Bool.false_eq_true, Bool.or_self, Bool.or_true, Bool.true_or, Bool.or_false, reduceIte, Option.toList_some, Option.toList_none, List.nil_append, List.cons_append, List.length_cons, List.length_nil, true_and, and_true, Int.cast_ofNat_Int, Int.reduceEq, Int.reduceLT, Int.reduceLE, Nat.zero_le, and_self, or_true, true_or, cdS_154]
  · rw [if_neg h1, if_neg (fun q => h1 q.1)]
    simp only [vcS0, vcS1, vcS2, vcS3, vcS4, vcS5, vcS6, vc_n0, vc_lk, vc_pop, vc_rc, vc_tsw, vc_fr, vc_ar, vc_tb, mz_nx, List.set_cons_zero, List.set_cons_succ, Nat.reduceAdd, Nat.reduceBEq, Nat.reduceEqDiff, Nat.reduceLeDiff, Nat.reduceLT, Nat.reduceMul, Int.reduceToNat, Bool.false_eq_true, Bool.or_self, Bool.or_true, Bool.true_or, Bool.or_false, reduceIte, Option.toList_some, Option.toList_none, List.nil_append, List.cons_append, List.length_cons, List.length_nil, true_and, and_true, Int.cast_ofNat_Int, Int.reduceEq, Int.reduceLT, Int.reduceLE, Nat.zero_le, and_self, or_true, true_or, cdS_154]
theorem sp_X9_minutesFor (m : mz_M) (x k : Int) (h : plN' (m 154)) (hz : mZo (m 154)) (hR : mRo (m 154)) {T : Nat} (hT : m 154 2 = T) (hT2 : T < 20000) (hS : ∀ z, z < 4 → 0 ≤ m 154 (329 + z) ∧ m 154 (329 + z) < 1000) : sp 167 [mz_r 9 0 153, mz_i x, mz_i k] m (some (mz_i (if (0 ≤ x ∧ x < m 154 0) ∧ 0 ≤ k ∧ k ≤ 9999 then (lu (mR (m 154) (mzA (m 154) x.toNat)) (m 154 (329 + mzA (m 154) x.toNat)).toNat (60 * k.toNat) T : Int) - T else -1))) (mz_up m 153 4 0) := by
  have hh := h.2
  refine mz_cl_vc 40 (fun _ => false) [some (mz_r 9 0 153), some (mz_i x), some (mz_i k)] rfl ?_
  simp only [vcS0, vcS1, vcS2, vcS3, vcS4, vcS5, vcS6, vc_n0, vc_lk, vc_pop, vc_rc, vc_tsw, vc_fr, vc_ar, vc_tb, mz_nx, List.set_cons_zero, List.set_cons_succ, Nat.reduceAdd, Nat.reduceBEq, Nat.reduceEqDiff, Nat.reduceLeDiff, Nat.reduceLT, Nat.reduceMul, Int.reduceToNat, Bool.false_eq_true, Bool.or_self, Bool.or_true, Bool.true_or, Bool.or_false, reduceIte, Option.toList_some, Option.toList_none, List.nil_append, List.cons_append, List.length_cons, List.length_nil, true_and, and_true, Int.cast_ofNat_Int, Int.reduceEq, Int.reduceLT, Int.reduceLE, Nat.zero_le, and_self, or_true, true_or, cdS_167]
  refine ⟨_, _, sp_isPlT m x h, ?_⟩
  by_cases h1 : 0 ≤ x ∧ x < m 154 0
  · rw [if_pos h1]
    simp only [vcS0, vcS1, vcS2, vcS3, vcS4, vcS5, vcS6, vc_n0, vc_lk, vc_pop, vc_rc, vc_tsw, vc_fr, vc_ar, vc_tb, mz_nx, List.set_cons_zero, List.set_cons_succ, Nat.reduceAdd, Nat.reduceBEq, Nat.reduceEqDiff, Nat.reduceLeDiff, Nat.reduceLT, Nat.reduceMul, Int.reduceToNat, Bool.false_eq_true, Bool.or_self, Bool.or_true, Bool.true_or, Bool.or_false, reduceIte, Option.toList_some, Option.toList_none, List.nil_append, List.cons_append, List.length_cons, List.length_nil, true_and, and_true, Int.cast_ofNat_Int, Int.reduceEq, Int.reduceLT, Int.reduceLE, Nat.zero_le, and_self, or_true, true_or, cdS_167]
    refine ⟨_, _, sp_in (mz_up m 153 4 0) k 0 9999, ?_⟩
    by_cases h2 : 0 ≤ k ∧ k ≤ 9999
    · rw [if_pos h2, if_pos ⟨h1, h2⟩]
      obtain ⟨a, rfl⟩ := nat_i h1.1
      obtain ⟨b, rfl⟩ := nat_i (show 0 ≤ k by omega)
      simp only [Int.toNat_natCast]
      simp only [vcS0, vcS1, vcS2, vcS3, vcS4, vcS5, vcS6, vc_n0, vc_lk, vc_pop, vc_rc, vc_tsw, vc_fr, vc_ar, vc_tb, mz_nx, List.set_cons_zero, List.set_cons_succ, Nat.reduceAdd, Nat.reduceBEq, Nat.reduceEqDiff, Nat.reduceLeDiff, Nat.reduceLT, Nat.reduceMul, Int.reduceToNat, Bool.false_eq_true, Bool.or_self, Bool.or_true, Bool.true_or, Bool.or_false, reduceIte, Option.toList_some, Option.toList_none, List.nil_append, List.cons_append, List.length_cons, List.length_nil, true_and, and_true, Int.cast_ofNat_Int, Int.reduceEq, Int.reduceLT, Int.reduceLE, Nat.zero_le, and_self, or_true, true_or, cdS_167]
      have hza := mzA_ok hz (show a < 10 by omega)
      have hs := hS _ hza.2
      rw [thr_154, hT]
      have hp := sp_bought (mz_up m 153 4 0) (p := a) (z := mzA (m 154) a) (T := T) (f := T) (c := b) (S := (m 154 (329 + mzA (m 154) a)).toNat) (by omega) (by rw [thr_154]; exact hza.1) hza.2 (by rw [thr_154]; exact hT) (by rw [thr_154]; omega) (by omega) (by rw [thr_154]; exact hR _ hza.2) (by omega) (by omega)
      rw [thr_154, show T + (m 154 (329 + mzA (m 154) a)).toNat - T = (m 154 (329 + mzA (m 154) a)).toNat by omega] at hp
      have hl := lu_le (R := mR (m 154) (mzA (m 154) a)) (m 154 (329 + mzA (m 154) a)).toNat (60 * b) T
      refine ⟨_, _, hp, ?_⟩
      simp only [vcS0, vcS1, vcS2, vcS3, vcS4, vcS5, vcS6, vc_n0, vc_lk, vc_pop, vc_rc, vc_tsw, vc_fr, vc_ar, vc_tb, mz_nx, List.set_cons_zero, List.set_cons_succ, Nat.reduceAdd, Nat.reduceBEq, Nat.reduceEqDiff, Nat.reduceLeDiff, Nat.reduceLT, Nat.reduceMul, Int.reduceToNat, Bool.false_eq_true, Bool.or_self, Bool.or_true, Bool.true_or, Bool.or_false, reduceIte, Option.toList_some, Option.toList_none, List.nil_append, List.cons_append, List.length_cons, List.length_nil, true_and, and_true, Int.cast_ofNat_Int, Int.reduceEq, Int.reduceLT, Int.reduceLE, Nat.zero_le, and_self, or_true, true_or, cdS_167]
      rw [thr_154, hT]
      exact ⟨(by unfold mz_w; omega), rfl⟩
    · rw [if_neg h2, if_neg (fun q => h2 q.2)]
      simp only [vcS0, vcS1, vcS2, vcS3, vcS4, vcS5, vcS6, vc_n0, vc_lk, vc_pop, vc_rc, vc_tsw, vc_fr, vc_ar, vc_tb, mz_nx, List.set_cons_zero, List.set_cons_succ, Nat.reduceAdd, Nat.reduceBEq, Nat.reduceEqDiff, Nat.reduceLeDiff, Nat.reduceLT, Nat.reduceMul, Int.reduceToNat, Bool.false_eq_true, Bool.or_self, Bool.or_true, Bool.true_or, Bool.or_false, reduceIte, Option.toList_some, Option.toList_none, List.nil_append, List.cons_append, List.length_cons, List.length_nil, true_and, and_true, Int.cast_ofNat_Int, Int.reduceEq, Int.reduceLT, Int.reduceLE, Nat.zero_le, and_self, or_true, true_or, cdS_167]
  · rw [if_neg h1, if_neg (fun q => h1 q.1)]
    simp only [vcS0, vcS1, vcS2, vcS3, vcS4, vcS5, vcS6, vc_n0, vc_lk, vc_pop, vc_rc, vc_tsw, vc_fr, vc_ar, vc_tb, mz_nx, List.set_cons_zero, List.set_cons_succ, Nat.reduceAdd, Nat.reduceBEq, Nat.reduceEqDiff, Nat.reduceLeDiff, Nat.reduceLT, Nat.reduceMul, Int.reduceToNat, Bool.false_eq_true, Bool.or_self, Bool.or_true, Bool.true_or, Bool.or_false, reduceIte, Option.toList_some, Option.toList_none, List.nil_append, List.cons_append, List.length_cons, List.length_nil, true_and, and_true, Int.cast_ofNat_Int, Int.reduceEq, Int.reduceLT, Int.reduceLE, Nat.zero_le, and_self, or_true, true_or, cdS_167]
theorem mVO_lat {V : Nat → Int} {n : Nat} (h : mVO V n) (k : Int) (hk : 0 ≤ k ∧ V 2 + k < 20000) : mVO (lat V k) n := by
  have e : ∀ j, j ≠ 2 → lat V k j = V j := fun j hj => if_neg hj
  refine ⟨⟨?_, h.1.2⟩, ?_, fun p hp => ?_, fun c hc => ?_⟩
  · rw [e _ (by omega)]; exact h.1.1
  · have := h.2.1
    show 0 ≤ (if (2 : Nat) = 2 then V 2 + k else V 2) ∧ (if (2 : Nat) = 2 then V 2 + k else V 2) < 20000
    rw [if_pos rfl]
    omega
  · rw [e _ (by omega)]; exact h.2.2.1 p hp
  · have := h.2.2.2 c hc
    unfold mCo mc at this ⊢
    rw [e _ (by omega), e _ (by omega)]
    exact this
theorem sp_X9_ticketsAfter (m : mz_M) (x k : Int) {n : Nat} (h : plN' (m 154)) (hv : mVO (m 154) n) (ht : m 154 2 < 11000) : sp 259 [mz_r 9 0 153, mz_i x, mz_i k] m (some (mz_i (if (0 ≤ x ∧ x < m 154 0) ∧ 0 ≤ k ∧ k ≤ 600 then (if 0 < sm (mVs (lat (m 154) k) n x) 16 then sm (mVn (lat (m 154) k) n x) 16 else 0) else -1))) (if (0 ≤ x ∧ x < m 154 0) ∧ 0 ≤ k ∧ k ≤ 600 then mz_up (mz_up m 153 4 0) 153 21 (sm (mVn (lat (m 154) k) n x) 16) else mz_up m 153 4 0) := by
  have ht0 := hv.2.1
  refine mz_cl_vc 40 (fun _ => false) [some (mz_r 9 0 153), some (mz_i x), some (mz_i k), none] rfl ?_
  simp only [vcS0, vcS1, vcS2, vcS3, vcS4, vcS5, vcS6, vc_n0, vc_lk, vc_pop, vc_rc, vc_tsw, vc_fr, vc_ar, vc_tb, mz_nx, List.set_cons_zero, List.set_cons_succ, Nat.reduceAdd, Nat.reduceBEq, Nat.reduceEqDiff, Nat.reduceLeDiff, Nat.reduceLT, Nat.reduceMul, Int.reduceToNat, Bool.false_eq_true, Bool.or_self, Bool.or_true, Bool.true_or, Bool.or_false, reduceIte, Option.toList_some, Option.toList_none, List.nil_append, List.cons_append, List.length_cons, List.length_nil, true_and, and_true, Int.cast_ofNat_Int, Int.reduceEq, Int.reduceLT, Int.reduceLE, Nat.zero_le, and_self, or_true, true_or, cdS_259]
  refine ⟨_, _, sp_isPlT m x h, ?_⟩
  by_cases h1 : 0 ≤ x ∧ x < m 154 0
  · rw [if_pos h1]
    simp only [vcS0, vcS1, vcS2, vcS3, vcS4, vcS5, vcS6, vc_n0, vc_lk, vc_pop, vc_rc, vc_tsw, vc_fr, vc_ar, vc_tb, mz_nx, List.set_cons_zero, List.set_cons_succ, Nat.reduceAdd, Nat.reduceBEq, Nat.reduceEqDiff, Nat.reduceLeDiff, Nat.reduceLT, Nat.reduceMul, Int.reduceToNat, Bool.false_eq_true, Bool.or_self, Bool.or_true, Bool.true_or, Bool.or_false, reduceIte, Option.toList_some, Option.toList_none, List.nil_append, List.cons_append, List.length_cons, List.length_nil, true_and, and_true, Int.cast_ofNat_Int, Int.reduceEq, Int.reduceLT, Int.reduceLE, Nat.zero_le, and_self, or_true, true_or, cdS_259]
    refine ⟨_, _, sp_in (mz_up m 153 4 0) k 0 600, ?_⟩
    by_cases h2 : 0 ≤ k ∧ k ≤ 600
    · have h12 := And.intro h1 h2
      rw [if_pos h2, if_pos h12, if_pos h12]
      simp only [vcS0, vcS1, vcS2, vcS3, vcS4, vcS5, vcS6, vc_n0, vc_lk, vc_pop, vc_rc, vc_tsw, vc_fr, vc_ar, vc_tb, mz_nx, List.set_cons_zero, List.set_cons_succ, Nat.reduceAdd, Nat.reduceBEq, Nat.reduceEqDiff, Nat.reduceLeDiff, Nat.reduceLT, Nat.reduceMul, Int.reduceToNat, Bool.false_eq_true, Bool.or_self, Bool.or_true, Bool.true_or, Bool.or_false, reduceIte, Option.toList_some, Option.toList_none, List.nil_append, List.cons_append, List.length_cons, List.length_nil, true_and, and_true, Int.cast_ofNat_Int, Int.reduceEq, Int.reduceLT, Int.reduceLE, Nat.zero_le, and_self, or_true, true_or, cdS_259]
      have hf := sp_finesAfter (mz_up m 153 4 0) x k (n := n) (by omega) (by rw [thr_154]; omega) (by rw [thr_154]; exact mVO_lat hv k (by omega))
      rw [thr_154] at hf
      refine ⟨_, _, hf, ?_⟩
      simp only [vcS0, vcS1, vcS2, vcS3, vcS4, vcS5, vcS6, vc_n0, vc_lk, vc_pop, vc_rc, vc_tsw, vc_fr, vc_ar, vc_tb, mz_nx, List.set_cons_zero, List.set_cons_succ, Nat.reduceAdd, Nat.reduceBEq, Nat.reduceEqDiff, Nat.reduceLeDiff, Nat.reduceLT, Nat.reduceMul, Int.reduceToNat, Bool.false_eq_true, Bool.or_self, Bool.or_true, Bool.true_or, Bool.or_false, reduceIte, Option.toList_some, Option.toList_none, List.nil_append, List.cons_append, List.length_cons, List.length_nil, true_and, and_true, Int.cast_ofNat_Int, Int.reduceEq, Int.reduceLT, Int.reduceLE, Nat.zero_le, and_self, or_true, true_or, cdS_259]
      by_cases h3 : 0 < sm (mVs (lat (m 154) k) n x) 16
      · rw [if_neg (by omega), if_pos h3, up_s]
        all_goals ((repeat' refine And.intro ?_ ?_) <;> first | trivial | rfl | (unfold mz_w; omega) | omega)
      · rw [if_pos (by omega), if_neg h3]
        all_goals ((repeat' refine And.intro ?_ ?_) <;> first | trivial | rfl | (unfold mz_w; omega) | omega)
    · rw [if_neg h2, if_neg (fun q => h2 q.2), if_neg (fun q => h2 q.2)]
      simp only [vcS0, vcS1, vcS2, vcS3, vcS4, vcS5, vcS6, vc_n0, vc_lk, vc_pop, vc_rc, vc_tsw, vc_fr, vc_ar, vc_tb, mz_nx, List.set_cons_zero, List.set_cons_succ, Nat.reduceAdd, Nat.reduceBEq, Nat.reduceEqDiff, Nat.reduceLeDiff, Nat.reduceLT, Nat.reduceMul, Int.reduceToNat, Bool.false_eq_true, Bool.or_self, Bool.or_true, Bool.true_or, Bool.or_false, reduceIte, Option.toList_some, Option.toList_none, List.nil_append, List.cons_append, List.length_cons, List.length_nil, true_and, and_true, Int.cast_ofNat_Int, Int.reduceEq, Int.reduceLT, Int.reduceLE, Nat.zero_le, and_self, or_true, true_or, cdS_259]
  · rw [if_neg h1, if_neg (fun q => h1 q.1), if_neg (fun q => h1 q.1)]
    simp only [vcS0, vcS1, vcS2, vcS3, vcS4, vcS5, vcS6, vc_n0, vc_lk, vc_pop, vc_rc, vc_tsw, vc_fr, vc_ar, vc_tb, mz_nx, List.set_cons_zero, List.set_cons_succ, Nat.reduceAdd, Nat.reduceBEq, Nat.reduceEqDiff, Nat.reduceLeDiff, Nat.reduceLT, Nat.reduceMul, Int.reduceToNat, Bool.false_eq_true, Bool.or_self, Bool.or_true, Bool.true_or, Bool.or_false, reduceIte, Option.toList_some, Option.toList_none, List.nil_append, List.cons_append, List.length_cons, List.length_nil, true_and, and_true, Int.cast_ofNat_Int, Int.reduceEq, Int.reduceLT, Int.reduceLE, Nat.zero_le, and_self, or_true, true_or, cdS_259]
theorem bi_loop (m : mz_M) {p : Int} {n k : Nat} (hv : mVO (m 154) n) (ht : m 154 2 < 11000) (hk : k ≤ 120) : ∀ (r j : Nat) (y : Option mz_V), j + r = k → sx 254 23 [some (mz_r 9 0 153), some (mz_i p), some (mz_i k), some (mz_i (bwt (fun w => sm (mVs (lat (m 154) w) n p) 16) (j + 1)).1), some (mz_i (bwt (fun w => sm (mVs (lat (m 154) w) n p) 16) (j + 1)).2), some (mz_i ((j + 1 : Nat) : Int)), y] [] (mz_up m 153 21 (sm (mVn (lat (m 154) j) n p) 16)) (some (mz_i (bwt (fun w => sm (mVs (lat (m 154) w) n p) 16) (k + 1)).1)) (mz_up m 153 21 (sm (mVn (lat (m 154) k) n p) 16)) := by
  intro r
  induction r with
  | zero =>
    intro j y hj
    obtain rfl : j = k := by omega
    refine mz_vc_ok 60 (ct := fun i => i == 23) ?_
    simp only [vcS0, vcS1, vcS2, vcS3, vcS4, vcS5, vcS6, vc_n0, vc_lk, vc_pop, vc_rc, vc_tsw, vc_fr, vc_ar, vc_tb, mz_nx, List.set_cons_zero, List.set_cons_succ, Nat.reduceAdd, Nat.reduceBEq, Nat.reduceEqDiff, Nat.reduceLeDiff, Nat.reduceLT, Nat.reduceMul, Int.reduceToNat, Bool.false_eq_true, Bool.or_self, Bool.or_true, Bool.true_or, Bool.or_false, reduceIte, Option.toList_some, Option.toList_none, List.nil_append, List.cons_append, List.length_cons, List.length_nil, true_and, and_true, Int.cast_ofNat_Int, Int.reduceEq, Int.reduceLT, Int.reduceLE, Nat.zero_le, and_self, or_true, true_or, cdS_254]
    rw [if_neg (by omega)]
    all_goals ((repeat' refine And.intro ?_ ?_) <;> first | trivial | rfl | (unfold mz_w; omega) | omega)
  | succ r ih =>
    intro j y hj
    have hkk := fun y => ih (j + 1) y (by omega)
    have ht0 := hv.2.1
    refine mz_vc_ok 60 (ct := fun i => i == 23) ?_
    simp only [vcS0, vcS1, vcS2, vcS3, vcS4, vcS5, vcS6, vc_n0, vc_lk, vc_pop, vc_rc, vc_tsw, vc_fr, vc_ar, vc_tb, mz_nx, List.set_cons_zero, List.set_cons_succ, Nat.reduceAdd, Nat.reduceBEq, Nat.reduceEqDiff, Nat.reduceLeDiff, Nat.reduceLT, Nat.reduceMul, Int.reduceToNat, Bool.false_eq_true, Bool.or_self, Bool.or_true, Bool.true_or, Bool.or_false, reduceIte, Option.toList_some, Option.toList_none, List.nil_append, List.cons_append, List.length_cons, List.length_nil, true_and, and_true, Int.cast_ofNat_Int, Int.reduceEq, Int.reduceLT, Int.reduceLE, Nat.zero_le, and_self, or_true, true_or, cdS_254]
    rw [if_pos (by omega)]
    have hf := sp_finesAfter (mz_up m 153 21 (sm (mVn (lat (m 154) j) n p) 16)) p ((j + 1 : Nat) : Int) (n := n) (by omega) (by rw [up_154]; omega) (by rw [up_154]; exact mVO_lat hv _ (by omega))
    rw [up_154, up_up] at hf
    refine ⟨_, _, hf, ?_⟩
    simp only [vcS0, vcS1, vcS2, vcS3, vcS4, vcS5, vcS6, vc_n0, vc_lk, vc_pop, vc_rc, vc_tsw, vc_fr, vc_ar, vc_tb, mz_nx, List.set_cons_zero, List.set_cons_succ, Nat.reduceAdd, Nat.reduceBEq, Nat.reduceEqDiff, Nat.reduceLeDiff, Nat.reduceLT, Nat.reduceMul, Int.reduceToNat, Bool.false_eq_true, Bool.or_self, Bool.or_true, Bool.true_or, Bool.or_false, reduceIte, Option.toList_some, Option.toList_none, List.nil_append, List.cons_append, List.length_cons, List.length_nil, true_and, and_true, Int.cast_ofNat_Int, Int.reduceEq, Int.reduceLT, Int.reduceLE, Nat.zero_le, and_self, or_true, true_or, cdS_254]
    by_cases h1 : (bwt (fun w => sm (mVs (lat (m 154) w) n p) 16) (j + 1)).2 < sm (mVs (lat (m 154) ((j + 1 : Nat) : Int)) n p) 16
    · rw [if_neg (by omega)]
      have e : bwt (fun w => sm (mVs (lat (m 154) w) n p) 16) (j + 1 + 1) = (((j + 1 : Nat) : Int), sm (mVs (lat (m 154) ((j + 1 : Nat) : Int)) n p) 16) := if_pos h1
      rw [e] at hkk
      exact ⟨(by unfold mz_w; omega), hkk _⟩
    · rw [if_pos (by omega)]
      have e : bwt (fun w => sm (mVs (lat (m 154) w) n p) 16) (j + 1 + 1) = bwt (fun w => sm (mVs (lat (m 154) w) n p) 16) (j + 1) := if_neg h1
      rw [e] at hkk
      exact ⟨(by unfold mz_w; omega), hkk _⟩
theorem sp_X9_bestInspection (m : mz_M) (x k : Int) {n : Nat} (h : plN' (m 154)) (hv : mVO (m 154) n) (ht : m 154 2 < 11000) : sp 254 [mz_r 9 0 153, mz_i x, mz_i k] m (some (mz_i (if (0 ≤ x ∧ x < m 154 0) ∧ 0 ≤ k ∧ k ≤ 120 then (bwt (fun w => sm (mVs (lat (m 154) w) n x) 16) (k.toNat + 1)).1 else -1))) (if (0 ≤ x ∧ x < m 154 0) ∧ 0 ≤ k ∧ k ≤ 120 then mz_up (mz_up m 153 4 0) 153 21 (sm (mVn (lat (m 154) k) n x) 16) else mz_up m 153 4 0) := by
  have ht0 := hv.2.1
  refine mz_cl_vc 40 (fun i => i == 23) [some (mz_r 9 0 153), some (mz_i x), some (mz_i k), none, none, none, none] rfl ?_
  simp only [vcS0, vcS1, vcS2, vcS3, vcS4, vcS5, vcS6, vc_n0, vc_lk, vc_pop, vc_rc, vc_tsw, vc_fr, vc_ar, vc_tb, mz_nx, List.set_cons_zero, List.set_cons_succ, Nat.reduceAdd, Nat.reduceBEq, Nat.reduceEqDiff, Nat.reduceLeDiff, Nat.reduceLT, Nat.reduceMul, Int.reduceToNat, Bool.false_eq_true, Bool.or_self, Bool.or_true, Bool.true_or, Bool.or_false, reduceIte, Option.toList_some, Option.toList_none, List.nil_append, List.cons_append, List.length_cons, List.length_nil, true_and, and_true, Int.cast_ofNat_Int, Int.reduceEq, Int.reduceLT, Int.reduceLE, Nat.zero_le, and_self, or_true, true_or, cdS_254]
  refine ⟨_, _, sp_isPlT m x h, ?_⟩
  by_cases h1 : 0 ≤ x ∧ x < m 154 0
  · rw [if_pos h1]
    simp only [vcS0, vcS1, vcS2, vcS3, vcS4, vcS5, vcS6, vc_n0, vc_lk, vc_pop, vc_rc, vc_tsw, vc_fr, vc_ar, vc_tb, mz_nx, List.set_cons_zero, List.set_cons_succ, Nat.reduceAdd, Nat.reduceBEq, Nat.reduceEqDiff, Nat.reduceLeDiff, Nat.reduceLT, Nat.reduceMul, Int.reduceToNat, Bool.false_eq_true, Bool.or_self, Bool.or_true, Bool.true_or, Bool.or_false, reduceIte, Option.toList_some, Option.toList_none, List.nil_append, List.cons_append, List.length_cons, List.length_nil, true_and, and_true, Int.cast_ofNat_Int, Int.reduceEq, Int.reduceLT, Int.reduceLE, Nat.zero_le, and_self, or_true, true_or, cdS_254]
    refine ⟨_, _, sp_in (mz_up m 153 4 0) k 0 120, ?_⟩
    by_cases h2 : 0 ≤ k ∧ k ≤ 120
    · have h12 := And.intro h1 h2
      rw [if_pos h2, if_pos h12, if_pos h12]
      simp only [vcS0, vcS1, vcS2, vcS3, vcS4, vcS5, vcS6, vc_n0, vc_lk, vc_pop, vc_rc, vc_tsw, vc_fr, vc_ar, vc_tb, mz_nx, List.set_cons_zero, List.set_cons_succ, Nat.reduceAdd, Nat.reduceBEq, Nat.reduceEqDiff, Nat.reduceLeDiff, Nat.reduceLT, Nat.reduceMul, Int.reduceToNat, Bool.false_eq_true, Bool.or_self, Bool.or_true, Bool.true_or, Bool.or_false, reduceIte, Option.toList_some, Option.toList_none, List.nil_append, List.cons_append, List.length_cons, List.length_nil, true_and, and_true, Int.cast_ofNat_Int, Int.reduceEq, Int.reduceLT, Int.reduceLE, Nat.zero_le, and_self, or_true, true_or, cdS_254]
      have hf := sp_finesAfter (mz_up m 153 4 0) x 0 (n := n) (by omega) (by rw [thr_154]; omega) (by rw [thr_154]; exact mVO_lat hv 0 (by omega))
      rw [thr_154] at hf
      refine ⟨_, _, hf, ?_⟩
      simp only [vcS0, vcS1, vcS2, vcS3, vcS4, vcS5, vcS6, vc_n0, vc_lk, vc_pop, vc_rc, vc_tsw, vc_fr, vc_ar, vc_tb, mz_nx, List.set_cons_zero, List.set_cons_succ, Nat.reduceAdd, Nat.reduceBEq, Nat.reduceEqDiff, Nat.reduceLeDiff, Nat.reduceLT, Nat.reduceMul, Int.reduceToNat, Bool.false_eq_true, Bool.or_self, Bool.or_true, Bool.true_or, Bool.or_false, reduceIte, Option.toList_some, Option.toList_none, List.nil_append, List.cons_append, List.length_cons, List.length_nil, true_and, and_true, Int.cast_ofNat_Int, Int.reduceEq, Int.reduceLT, Int.reduceLE, Nat.zero_le, and_self, or_true, true_or, cdS_254]
      obtain ⟨b, rfl⟩ := nat_i h2.1
      rw [Int.toNat_natCast]
      have hl := bi_loop (mz_up m 153 4 0) (p := x) (n := n) (k := b) (by rw [thr_154]; exact hv) (by rw [thr_154]; exact ht) (by omega) b 0 none (by omega)
      rw [thr_154] at hl
      have h0 := mVs_ok (V := lat (m 154) 0) (n := n) x 16
      have e1 : bwt (fun w => sm (mVs (lat (m 154) w) n x) 16) (0 + 1) = (0, sm (mVs (lat (m 154) 0) n x) 16) := by
        show (if 0 < sm (mVs (lat (m 154) ((0 : Nat) : Int)) n x) 16 then (((0 : Nat) : Int), sm (mVs (lat (m 154) ((0 : Nat) : Int)) n x) 16) else (0, 0)) = _
        rw [show ((0 : Nat) : Int) = 0 from rfl]
        split
        · rfl
        · rw [show sm (mVs (lat (m 154) 0) n x) 16 = 0 by omega]
      rw [e1] at hl
      exact hl
    · rw [if_neg h2, if_neg (fun q => h2 q.2), if_neg (fun q => h2 q.2)]
      simp only [vcS0, vcS1, vcS2, vcS3, vcS4, vcS5, vcS6, vc_n0, vc_lk, vc_pop, vc_rc, vc_tsw, vc_fr, vc_ar, vc_tb, mz_nx, List.set_cons_zero, List.set_cons_succ, Nat.reduceAdd, Nat.reduceBEq, Nat.reduceEqDiff, Nat.reduceLeDiff, Nat.reduceLT, Nat.reduceMul, Int.reduceToNat, Bool.false_eq_true, Bool.or_self, Bool.or_true, Bool.true_or, Bool.or_false, reduceIte, Option.toList_some, Option.toList_none, List.nil_append, List.cons_append, List.length_cons, List.length_nil, true_and, and_true, Int.cast_ofNat_Int, Int.reduceEq, Int.reduceLT, Int.reduceLE, Nat.zero_le, and_self, or_true, true_or, cdS_254]
  · rw [if_neg h1, if_neg (fun q => h1 q.1), if_neg (fun q => h1 q.1)]
    simp only [vcS0, vcS1, vcS2, vcS3, vcS4, vcS5, vcS6, vc_n0, vc_lk, vc_pop, vc_rc, vc_tsw, vc_fr, vc_ar, vc_tb, mz_nx, List.set_cons_zero, List.set_cons_succ, Nat.reduceAdd, Nat.reduceBEq, Nat.reduceEqDiff, Nat.reduceLeDiff, Nat.reduceLT, Nat.reduceMul, Int.reduceToNat, Bool.false_eq_true, Bool.or_self, Bool.or_true, Bool.true_or, Bool.or_false, reduceIte, Option.toList_some, Option.toList_none, List.nil_append, List.cons_append, List.length_cons, List.length_nil, true_and, and_true, Int.cast_ofNat_Int, Int.reduceEq, Int.reduceLT, Int.reduceLE, Nat.zero_le, and_self, or_true, true_or, cdS_254]
