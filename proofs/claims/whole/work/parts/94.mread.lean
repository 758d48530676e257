/-! The model's reading. -/
def qM (m : mz_M) (p b : Nat) (e a : Int) (R : Nat → Int) : mz_M := fun x j => if x = 155 then R j else if x = 153 ∧ j = 7 then (p : Int) else if x = 153 ∧ j = 8 then (b : Int) else if x = 153 ∧ j = 9 then e else if x = 153 ∧ j = 10 then a else m x j
section QU
variable (m : mz_M) (p b : Nat) (e a : Int) (R : Nat → Int)
theorem qM_u7 (v : Nat) : mz_up (qM m p b e a R) 153 7 v = qM m v b e a R := by funext x i; unfold mz_up qM; grind
theorem qM_u8 (v : Nat) : mz_up (qM m p b e a R) 153 8 v = qM m p v e a R := by funext x i; unfold mz_up qM; grind
theorem qM_u9 (v : Int) : mz_up (qM m p b e a R) 153 9 v = qM m p b v a R := by funext x i; unfold mz_up qM; grind
theorem qM_u10 (v : Int) : mz_up (qM m p b e a R) 153 10 v = qM m p b e v R := by funext x i; unfold mz_up qM; grind
theorem qM_uR (j : Nat) (v : Int) : mz_up (qM m p b e a R) 155 j v = qM m p b e a (vU R j v) := by funext x i; unfold mz_up qM vU; grind
theorem qM_6 : qM m p b e a R 153 6 = m 153 6 := by unfold qM; grind
theorem qM_7 : qM m p b e a R 153 7 = p := by unfold qM; grind
theorem qM_8 : qM m p b e a R 153 8 = b := by unfold qM; grind
theorem qM_9 : qM m p b e a R 153 9 = e := by unfold qM; grind
theorem qM_10 : qM m p b e a R 153 10 = a := by unfold qM; grind
theorem qM_R : qM m p b e a R 155 = R := by funext j; exact if_pos rfl
theorem qM_158 : qM m p b e a R 158 = m 158 := by funext j; unfold qM; grind
end QU
theorem i2b_and : ∀ v, v < 256 → mz_and (mz_i2b ((v : Nat) : Int)) 255 = (v : Nat) := by decide +kernel
theorem i2b_eq : ∀ v, v < 256 → mz_i2b ((v : Nat) : Int) = if v < 128 then ((v : Nat) : Int) else ((v : Nat) : Int) - 256 := by decide +kernel
def qB (m : mz_M) (B : Nat → Int) (L : Nat) : Prop := m 153 6 = L ∧ L ≤ 600 ∧ ∀ j, j < L → m 158 j = mz_i2b (B j) ∧ 0 ≤ B j ∧ B j ≤ 255
section QS
variable {m : mz_M} {B : Nat → Int} {L : Nat} (h : qB m B L)
theorem sp_here (p b : Nat) (e a : Int) (R : Nat → Int) (h : qB m B L) : sp 39 [mz_r 9 0 153] (qM m p b e a R) (some (mz_i (nb B L p))) (qM m p b e a R) := by
  have hL := h.2.1
  unfold nb
  refine mz_cl_vc 40 (fun _ => false) [some (mz_r 9 0 153)] rfl ?_
  simp only [vcS0, vcS1, vcS2, vcS3, vcS4, vcS5, vcS6, vc_n0, vc_lk, vc_pop, vc_rc, vc_tsw, vc_fr, vc_ar, vc_tb, mz_nx, List.set_cons_zero, List.set_cons_succ, Nat.reduceAdd, Nat.reduceBEq, Nat.reduceEqDiff, Nat.reduceLeDiff, Nat.reduceLT, Nat.reduceMul, Int.reduceToNat, Bool.false_eq_true, Bool.or_self, Bool.or_true, Bool.true_or, Bool.or_false, reduceIte, Option.toList_some, Option.toList_none, List.nil_append, List.cons_append, List.length_cons, List.length_nil, true_and, and_true, Int.cast_ofNat_Int, Int.reduceEq, Int.reduceLT, Int.reduceLE, Nat.zero_le, and_self, or_true, true_or, cdS_39]
  rw [qM_7, qM_6, h.1, qM_158, Int.toNat_natCast]
  by_cases h1 : p < L
  · have hj := h.2.2 p h1
    obtain ⟨v, hv⟩ := nat_i hj.2.1
    rw [if_pos (by omega), if_pos h1, hj.1, hv, i2b_and v (by omega)]
    all_goals ((repeat' refine And.intro ?_ ?_) <;> first | trivial | rfl | (unfold mz_w; omega) | omega)
  · rw [if_neg (by omega), if_neg h1]
    all_goals ((repeat' refine And.intro ?_ ?_) <;> first | trivial | rfl | (unfold mz_w; omega) | omega)
theorem nx_loop (b : Nat) (e a : Int) (R : Nat → Int) (h : qB m B L) : ∀ (k p : Nat), k = L - p → sx 109 0 [some (mz_r 9 0 153)] [] (qM m p b e a R) (some (mz_i (nb B L (sk B L p)))) (qM m (sk B L p) (sk B L p) e a R) := by
  have hL := h.2.1
  have fin : ∀ p, ¬ nb B L p = 32 → sk B L p = p → sx 109 0 [some (mz_r 9 0 153)] [] (qM m p b e a R) (some (mz_i (nb B L (sk B L p)))) (qM m (sk B L p) (sk B L p) e a R) := by
    intro p h1 h2
    rw [h2]
    refine mz_vc_ok 40 (ct := fun i => i == 0) ?_
    simp only [vcS0, vcS1, vcS2, vcS3, vcS4, vcS5, vcS6, vc_n0, vc_lk, vc_pop, vc_rc, vc_tsw, vc_fr, vc_ar, vc_tb, mz_nx, List.set_cons_zero, List.set_cons_succ, Nat.reduceAdd, Nat.reduceBEq, Nat.reduceEqDiff, Nat.reduceLeDiff, Nat.reduceLT, Nat.reduceMul, Int.reduceToNat, Bool.false_eq_true, Bool.or_self, Bool.or_true, Bool.true_or, Bool.or_false, reduceIte, Option.toList_some, Option.toList_none, List.nil_append, List.cons_append, List.length_cons, List.length_nil, true_and, and_true, Int.cast_ofNat_Int, Int.reduceEq, Int.reduceLT, Int.reduceLE, Nat.zero_le, and_self, or_true, true_or, cdS_109]
    refine ⟨_, _, sp_here p b e a R h, ?_⟩
    simp only [vcS0, vcS1, vcS2, vcS3, vcS4, vcS5, vcS6, vc_n0, vc_lk, vc_pop, vc_rc, vc_tsw, vc_fr, vc_ar, vc_tb, mz_nx, List.set_cons_zero, List.set_cons_succ, Nat.reduceAdd, Nat.reduceBEq, Nat.reduceEqDiff, Nat.reduceLeDiff, Nat.reduceLT, Nat.reduceMul, Int.reduceToNat, Bool.false_eq_true, Bool.or_self, Bool.or_true, Bool.true_or, Bool.or_false, reduceIte, Option.toList_some, Option.toList_none, List.nil_append, List.cons_append, List.length_cons, List.length_nil, true_and, and_true, Int.cast_ofNat_Int, Int.reduceEq, Int.reduceLT, Int.reduceLE, Nat.zero_le, and_self, or_true, true_or, cdS_109]
    rw [if_neg h1, qM_7, qM_u8]
    refine ⟨_, _, sp_here p p e a R h, ?_⟩
    simp only [vcS0, vcS1, vcS2, vcS3, vcS4, vcS5, vcS6, vc_n0, vc_lk, vc_pop, vc_rc, vc_tsw, vc_fr, vc_ar, vc_tb, mz_nx, List.set_cons_zero, List.set_cons_succ, Nat.reduceAdd, Nat.reduceBEq, Nat.reduceEqDiff, Nat.reduceLeDiff, Nat.reduceLT, Nat.reduceMul, Int.reduceToNat, Bool.false_eq_true, Bool.or_self, Bool.or_true, Bool.true_or, Bool.or_false, reduceIte, Option.toList_some, Option.toList_none, List.nil_append, List.cons_append, List.length_cons, List.length_nil, true_and, and_true, Int.cast_ofNat_Int, Int.reduceEq, Int.reduceLT, Int.reduceLE, Nat.zero_le, and_self, or_true, true_or, cdS_109]
  intro k
  induction k with
  | zero =>
    intro p hp
    refine fin p (by unfold nb; rw [if_neg (by omega)]; omega) ?_
    unfold sk
    rw [← hp]
    rfl
  | succ k ih =>
    intro p hp
    by_cases h1 : B p = 32
    · have e1 : sk B L p = sk B L (p + 1) := by
        unfold sk
        rw [← hp, show L - (p + 1) = k by omega, rn, if_pos h1]
      rw [e1]
      refine mz_vc_ok 40 (ct := fun i => i == 0) ?_
      simp only [vcS0, vcS1, vcS2, vcS3, vcS4, vcS5, vcS6, vc_n0, vc_lk, vc_pop, vc_rc, vc_tsw, vc_fr, vc_ar, vc_tb, mz_nx, List.set_cons_zero, List.set_cons_succ, Nat.reduceAdd, Nat.reduceBEq, Nat.reduceEqDiff, Nat.reduceLeDiff, Nat.reduceLT, Nat.reduceMul, Int.reduceToNat, Bool.false_eq_true, Bool.or_self, Bool.or_true, Bool.true_or, Bool.or_false, reduceIte, Option.toList_some, Option.toList_none, List.nil_append, List.cons_append, List.length_cons, List.length_nil, true_and, and_true, Int.cast_ofNat_Int, Int.reduceEq, Int.reduceLT, Int.reduceLE, Nat.zero_le, and_self, or_true, true_or, cdS_109]
      refine ⟨_, _, sp_here p b e a R h, ?_⟩
      simp only [vcS0, vcS1, vcS2, vcS3, vcS4, vcS5, vcS6, vc_n0, vc_lk, vc_pop, vc_rc, vc_tsw, vc_fr, vc_ar, vc_tb, mz_nx, List.set_cons_zero, List.set_cons_succ, Nat.reduceAdd, Nat.reduceBEq, Nat.reduceEqDiff, Nat.reduceLeDiff, Nat.reduceLT, Nat.reduceMul, Int.reduceToNat, Bool.false_eq_true, Bool.or_self, Bool.or_true, Bool.true_or, Bool.or_false, reduceIte, Option.toList_some, Option.toList_none, List.nil_append, List.cons_append, List.length_cons, List.length_nil, true_and, and_true, Int.cast_ofNat_Int, Int.reduceEq, Int.reduceLT, Int.reduceLE, Nat.zero_le, and_self, or_true, true_or, cdS_109]
      rw [show nb B L p = 32 by unfold nb; rw [if_pos (by omega)]; exact h1, if_pos rfl, qM_7, show ((p : Int) + 1) = ((p + 1 : Nat) : Int) by omega, qM_u7]
      exact ⟨(by unfold mz_w; omega), ih (p + 1) (by omega)⟩
    · refine fin p (by unfold nb; rw [if_pos (by omega)]; exact h1) ?_
      unfold sk
      rw [← hp, rn, if_neg h1]
theorem sp_next (p b : Nat) (e a : Int) (R : Nat → Int) (h : qB m B L) : sp 109 [mz_r 9 0 153] (qM m p b e a R) (some (mz_i (nb B L (sk B L p)))) (qM m (sk B L p) (sk B L p) e a R) := nx_loop b e a R h (L - p) p rfl
theorem sp_qfails (p b : Nat) (e a : Int) (R : Nat → Int) (k x : Int) : sp 38 [mz_r 9 0 153, mz_i k, mz_i x] (qM m p b e a R) none (qM m p b (if e = 0 then k else e) (if e = 0 then x else a) R) := by
  refine mz_cl_vc 40 (fun _ => false) [some (mz_r 9 0 153), some (mz_i k), some (mz_i x)] rfl ?_
  simp only [vcS0, vcS1, vcS2, vcS3, vcS4, vcS5, vcS6, vc_n0, vc_lk, vc_pop, vc_rc, vc_tsw, vc_fr, vc_ar, vc_tb, mz_nx, List.set_cons_zero, List.set_cons_succ, Nat.reduceAdd, Nat.reduceBEq, Nat.reduceEqDiff, Nat.reduceLeDiff, Nat.reduceLT, Nat.reduceMul, Int.reduceToNat, Bool.false_eq_true, Bool.or_self, Bool.or_true, Bool.true_or, Bool.or_false, reduceIte, Option.toList_some, Option.toList_none, List.nil_append, List.cons_append, List.length_cons, List.length_nil, true_and, and_true, Int.cast_ofNat_Int, Int.reduceEq, Int.reduceLT, Int.reduceLE, Nat.zero_le, and_self, or_true, true_or, cdS_38]
  rw [qM_9, qM_u9, qM_u10]
  by_cases h1 : e = 0
  · rw [if_pos h1, if_pos h1, if_pos h1]
  · rw [if_neg h1, if_neg h1, if_neg h1]
theorem rd_loop (b : Nat) (e a : Int) (R : Nat → Int) (h : qB m B L) : ∀ (k p : Nat), k = L - p → sx 178 3 [some (mz_r 9 0 153)] [] (qM m p b e a R) none (qM m (wd B L p) b e a R) := by
  have hL := h.2.1
  have fin : ∀ p, ¬ (97 ≤ nb B L p ∧ nb B L p ≤ 122) → wd B L p = p → sx 178 3 [some (mz_r 9 0 153)] [] (qM m p b e a R) none (qM m (wd B L p) b e a R) := by
    intro p h1 h2
    rw [h2]
    refine mz_vc_ok 40 (ct := fun i => i == 3) ?_
    simp only [vcS0, vcS1, vcS2, vcS3, vcS4, vcS5, vcS6, vc_n0, vc_lk, vc_pop, vc_rc, vc_tsw, vc_fr, vc_ar, vc_tb, mz_nx, List.set_cons_zero, List.set_cons_succ, Nat.reduceAdd, Nat.reduceBEq, Nat.reduceEqDiff, Nat.reduceLeDiff, Nat.reduceLT, Nat.reduceMul, Int.reduceToNat, Bool.false_eq_true, Bool.or_self, Bool.or_true, Bool.true_or, Bool.or_false, reduceIte, Option.toList_some, Option.toList_none, List.nil_append, List.cons_append, List.length_cons, List.length_nil, true_and, and_true, Int.cast_ofNat_Int, Int.reduceEq, Int.reduceLT, Int.reduceLE, Nat.zero_le, and_self, or_true, true_or, cdS_178]
    refine ⟨_, _, sp_here p b e a R h, ?_⟩
    simp only [vcS0, vcS1, vcS2, vcS3, vcS4, vcS5, vcS6, vc_n0, vc_lk, vc_pop, vc_rc, vc_tsw, vc_fr, vc_ar, vc_tb, mz_nx, List.set_cons_zero, List.set_cons_succ, Nat.reduceAdd, Nat.reduceBEq, Nat.reduceEqDiff, Nat.reduceLeDiff, Nat.reduceLT, Nat.reduceMul, Int.reduceToNat, Bool.false_eq_true, Bool.or_self, Bool.or_true, Bool.true_or, Bool.or_false, reduceIte, Option.toList_some, Option.toList_none, List.nil_append, List.cons_append, List.length_cons, List.length_nil, true_and, and_true, Int.cast_ofNat_Int, Int.reduceEq, Int.reduceLT, Int.reduceLE, Nat.zero_le, and_self, or_true, true_or, cdS_178]
    refine ⟨_, _, sp_in _ (nb B L p) 97 122, ?_⟩
    rw [if_neg h1]
    simp only [vcS0, vcS1, vcS2, vcS3, vcS4, vcS5, vcS6, vc_n0, vc_lk, vc_pop, vc_rc, vc_tsw, vc_fr, vc_ar, vc_tb, mz_nx, List.set_cons_zero, List.set_cons_succ, Nat.reduceAdd, Nat.reduceBEq, Nat.reduceEqDiff, Nat.reduceLeDiff, Nat.reduceLT, Nat.reduceMul, Int.reduceToNat, Bool.false_eq_true, Bool.or_self, Bool.or_true, Bool.true_or, Bool.or_false, reduceIte, Option.toList_some, Option.toList_none, List.nil_append, List.cons_append, List.length_cons, List.length_nil, true_and, and_true, Int.cast_ofNat_Int, Int.reduceEq, Int.reduceLT, Int.reduceLE, Nat.zero_le, and_self, or_true, true_or, cdS_178]
  intro k
  induction k with
  | zero =>
    intro p hp
    refine fin p (by unfold nb; rw [if_neg (by omega)]; omega) ?_
    unfold wd
    rw [← hp]
    rfl
  | succ k ih =>
    intro p hp
    by_cases h1 : 97 ≤ B p ∧ B p ≤ 122
    · have e1 : wd B L p = wd B L (p + 1) := by
        unfold wd
        rw [← hp, show L - (p + 1) = k by omega, rn, if_pos h1]
      rw [e1]
      refine mz_vc_ok 40 (ct := fun i => i == 3) ?_
      simp only [vcS0, vcS1, vcS2, vcS3, vcS4, vcS5, vcS6, vc_n0, vc_lk, vc_pop, vc_rc, vc_tsw, vc_fr, vc_ar, vc_tb, mz_nx, List.set_cons_zero, List.set_cons_succ, Nat.reduceAdd, Nat.reduceBEq, Nat.reduceEqDiff, Nat.reduceLeDiff, Nat.reduceLT, Nat.reduceMul, Int.reduceToNat, Bool.false_eq_true, Bool.or_self, Bool.or_true, Bool.true_or, Bool.or_false, reduceIte, Option.toList_some, Option.toList_none, List.nil_append, List.cons_append, List.length_cons, List.length_nil, true_and, and_true, Int.cast_ofNat_Int, Int.reduceEq, Int.reduceLT, Int.reduceLE, Nat.zero_le, and_self, or_true, true_or, cdS_178]
      refine ⟨_, _, sp_here p b e a R h, ?_⟩
      simp only [vcS0, vcS1, vcS2, vcS3, vcS4, vcS5, vcS6, vc_n0, vc_lk, vc_pop, vc_rc, vc_tsw, vc_fr, vc_ar, vc_tb, mz_nx, List.set_cons_zero, List.set_cons_succ, Nat.reduceAdd, Nat.reduceBEq, Nat.reduceEqDiff, Nat.reduceLeDiff, Nat.reduceLT, Nat.reduceMul, Int.reduceToNat, Bool.false_eq_true, Bool.or_self, Bool.or_true, Bool.true_or, Bool.or_false, reduceIte, Option.toList_some, Option.toList_none, List.nil_append, List.cons_append, List.length_cons, List.length_nil, true_and, and_true, Int.cast_ofNat_Int, Int.reduceEq, Int.reduceLT, Int.reduceLE, Nat.zero_le, and_self, or_true, true_or, cdS_178]
      refine ⟨_, _, sp_in _ (nb B L p) 97 122, ?_⟩
      rw [show nb B L p = B p by unfold nb; rw [if_pos (by omega)], if_pos h1]
      simp only [vcS0, vcS1, vcS2, vcS3, vcS4, vcS5, vcS6, vc_n0, vc_lk, vc_pop, vc_rc, vc_tsw, vc_fr, vc_ar, vc_tb, mz_nx, List.set_cons_zero, List.set_cons_succ, Nat.reduceAdd, Nat.reduceBEq, Nat.reduceEqDiff, Nat.reduceLeDiff, Nat.reduceLT, Nat.reduceMul, Int.reduceToNat, Bool.false_eq_true, Bool.or_self, Bool.or_true, Bool.true_or, Bool.or_false, reduceIte, Option.toList_some, Option.toList_none, List.nil_append, List.cons_append, List.length_cons, List.length_nil, true_and, and_true, Int.cast_ofNat_Int, Int.reduceEq, Int.reduceLT, Int.reduceLE, Nat.zero_le, and_self, or_true, true_or, cdS_178]
      rw [qM_7, show ((p : Int) + 1) = ((p + 1 : Nat) : Int) by omega, qM_u7]
      exact ⟨(by unfold mz_w; omega), ih (p + 1) (by omega)⟩
    · refine fin p (by unfold nb; rw [if_pos (by omega)]; exact h1) ?_
      unfold wd
      rw [← hp, rn, if_neg h1]
theorem sp_reads (p b : Nat) (e a : Int) (R : Nat → Int) (h : qB m B L) : sp 178 [mz_r 9 0 153] (qM m p b e a R) none (qM m (wd B L (sk B L p)) (sk B L p) e a R) := by
  refine mz_cl_vc 40 (fun i => i == 3) [some (mz_r 9 0 153)] rfl ?_
  simp only [vcS0, vcS1, vcS2, vcS3, vcS4, vcS5, vcS6, vc_n0, vc_lk, vc_pop, vc_rc, vc_tsw, vc_fr, vc_ar, vc_tb, mz_nx, List.set_cons_zero, List.set_cons_succ, Nat.reduceAdd, Nat.reduceBEq, Nat.reduceEqDiff, Nat.reduceLeDiff, Nat.reduceLT, Nat.reduceMul, Int.reduceToNat, Bool.false_eq_true, Bool.or_self, Bool.or_true, Bool.true_or, Bool.or_false, reduceIte, Option.toList_some, Option.toList_none, List.nil_append, List.cons_append, List.length_cons, List.length_nil, true_and, and_true, Int.cast_ofNat_Int, Int.reduceEq, Int.reduceLT, Int.reduceLE, Nat.zero_le, and_self, or_true, true_or, cdS_178]
  refine ⟨_, _, sp_next p b e a R h, ?_⟩
  simp only [vcS0, vcS1, vcS2, vcS3, vcS4, vcS5, vcS6, vc_n0, vc_lk, vc_pop, vc_rc, vc_tsw, vc_fr, vc_ar, vc_tb, mz_nx, List.set_cons_zero, List.set_cons_succ, Nat.reduceAdd, Nat.reduceBEq, Nat.reduceEqDiff, Nat.reduceLeDiff, Nat.reduceLT, Nat.reduceMul, Int.reduceToNat, Bool.false_eq_true, Bool.or_self, Bool.or_true, Bool.true_or, Bool.or_false, reduceIte, Option.toList_some, Option.toList_none, List.nil_append, List.cons_append, List.length_cons, List.length_nil, true_and, and_true, Int.cast_ofNat_Int, Int.reduceEq, Int.reduceLT, Int.reduceLE, Nat.zero_le, and_self, or_true, true_or, cdS_178]
  exact rd_loop (sk B L p) e a R h _ (sk B L p) rfl
theorem wq_loop (p x : Nat) (e a : Int) (R : Nat → Int) {s : Nat} (h : qB m B L) (hs : s < 18) (hx : x + mz_tl s ≤ L) : ∀ (k j : Nat) (v : Int), j + k = mz_tl s → (v = 0 ∨ v = 1) → sx 255 14 [some (mz_r 9 0 153), some (mz_r 90 0 s), some (mz_i v), some (mz_i j)] [] (qM m p x e a R) (some (mz_i (if v = 1 ∧ (fst1 (fun i => B (x + i) ≠ mz_tc s i) k j).isNone = true then 1 else 0))) (qM m p x e a R) := by
  have hL := h.2.1
  have htx := tx_ok s hs
  have stop : ∀ (k j : Nat), sx 255 14 [some (mz_r 9 0 153), some (mz_r 90 0 s), some (mz_i 0), some (mz_i j)] [] (qM m p x e a R) (some (mz_i 0)) (qM m p x e a R) := by
    intro k j
    refine mz_vc_ok 40 (ct := fun i => i == 14 || i == 37) ?_
    simp only [vcS0, vcS1, vcS2, vcS3, vcS4, vcS5, vcS6, vc_n0, vc_lk, vc_pop, vc_rc, vc_tsw, vc_fr, vc_ar, vc_tb, mz_nx, List.set_cons_zero, List.set_cons_succ, Nat.reduceAdd, Nat.reduceBEq, Nat.reduceEqDiff, Nat.reduceLeDiff, Nat.reduceLT, Nat.reduceMul, Int.reduceToNat, Bool.false_eq_true, Bool.or_self, Bool.or_true, Bool.true_or, Bool.or_false, reduceIte, Option.toList_some, Option.toList_none, List.nil_append, List.cons_append, List.length_cons, List.length_nil, true_and, and_true, Int.cast_ofNat_Int, Int.reduceEq, Int.reduceLT, Int.reduceLE, Nat.zero_le, and_self, or_true, true_or, cdS_255]
    refine mz_vc_ok 40 (ct := fun _ => false) ?_
    simp only [vcS0, vcS1, vcS2, vcS3, vcS4, vcS5, vcS6, vc_n0, vc_lk, vc_pop, vc_rc, vc_tsw, vc_fr, vc_ar, vc_tb, mz_nx, List.set_cons_zero, List.set_cons_succ, Nat.reduceAdd, Nat.reduceBEq, Nat.reduceEqDiff, Nat.reduceLeDiff, Nat.reduceLT, Nat.reduceMul, Int.reduceToNat, Bool.false_eq_true, Bool.or_self, Bool.or_true, Bool.true_or, Bool.or_false, reduceIte, Option.toList_some, Option.toList_none, List.nil_append, List.cons_append, List.length_cons, List.length_nil, true_and, and_true, Int.cast_ofNat_Int, Int.reduceEq, Int.reduceLT, Int.reduceLE, Nat.zero_le, and_self, or_true, true_or, cdS_255]
  intro k
  induction k with
  | zero =>
    intro j v hj hv
    rcases hv with hv | hv
    · subst hv
      exact stop 0 j
    · subst hv
      refine mz_vc_ok 40 (ct := fun i => i == 14 || i == 37) ?_
      simp only [vcS0, vcS1, vcS2, vcS3, vcS4, vcS5, vcS6, vc_n0, vc_lk, vc_pop, vc_rc, vc_tsw, vc_fr, vc_ar, vc_tb, mz_nx, List.set_cons_zero, List.set_cons_succ, Nat.reduceAdd, Nat.reduceBEq, Nat.reduceEqDiff, Nat.reduceLeDiff, Nat.reduceLT, Nat.reduceMul, Int.reduceToNat, Bool.false_eq_true, Bool.or_self, Bool.or_true, Bool.true_or, Bool.or_false, reduceIte, Option.toList_some, Option.toList_none, List.nil_append, List.cons_append, List.length_cons, List.length_nil, true_and, and_true, Int.cast_ofNat_Int, Int.reduceEq, Int.reduceLT, Int.reduceLE, Nat.zero_le, and_self, or_true, true_or, cdS_255]
      refine ⟨_, _, sp_length _ 0 htx.1, ?_⟩
      simp only [vcS0, vcS1, vcS2, vcS3, vcS4, vcS5, vcS6, vc_n0, vc_lk, vc_pop, vc_rc, vc_tsw, vc_fr, vc_ar, vc_tb, mz_nx, List.set_cons_zero, List.set_cons_succ, Nat.reduceAdd, Nat.reduceBEq, Nat.reduceEqDiff, Nat.reduceLeDiff, Nat.reduceLT, Nat.reduceMul, Int.reduceToNat, Bool.false_eq_true, Bool.or_self, Bool.or_true, Bool.true_or, Bool.or_false, reduceIte, Option.toList_some, Option.toList_none, List.nil_append, List.cons_append, List.length_cons, List.length_nil, true_and, and_true, Int.cast_ofNat_Int, Int.reduceEq, Int.reduceLT, Int.reduceLE, Nat.zero_le, and_self, or_true, true_or, cdS_255]
      rw [if_neg (by omega)]
      refine mz_vc_ok 40 (ct := fun _ => false) ?_
      simp only [vcS0, vcS1, vcS2, vcS3, vcS4, vcS5, vcS6, vc_n0, vc_lk, vc_pop, vc_rc, vc_tsw, vc_fr, vc_ar, vc_tb, mz_nx, List.set_cons_zero, List.set_cons_succ, Nat.reduceAdd, Nat.reduceBEq, Nat.reduceEqDiff, Nat.reduceLeDiff, Nat.reduceLT, Nat.reduceMul, Int.reduceToNat, Bool.false_eq_true, Bool.or_self, Bool.or_true, Bool.true_or, Bool.or_false, reduceIte, Option.toList_some, Option.toList_none, List.nil_append, List.cons_append, List.length_cons, List.length_nil, true_and, and_true, Int.cast_ofNat_Int, Int.reduceEq, Int.reduceLT, Int.reduceLE, Nat.zero_le, and_self, or_true, true_or, cdS_255]
      rfl
  | succ k ih =>
    intro j v hj hv
    rcases hv with hv | hv
    · subst hv
      rw [if_neg (by omega)]
      exact stop 0 j
    · subst hv
      have hbj := h.2.2 (x + j) (by omega)
      obtain ⟨y, hy⟩ := nat_i hbj.2.1
      have hc9 := htx.2 j (by omega)
      obtain ⟨c, hc⟩ := nat_i hc9.1
      have hi := i2b_eq y (by omega)
      refine mz_vc_ok 60 (ct := fun i => i == 14 || i == 37) ?_
      simp only [vcS0, vcS1, vcS2, vcS3, vcS4, vcS5, vcS6, vc_n0, vc_lk, vc_pop, vc_rc, vc_tsw, vc_fr, vc_ar, vc_tb, mz_nx, List.set_cons_zero, List.set_cons_succ, Nat.reduceAdd, Nat.reduceBEq, Nat.reduceEqDiff, Nat.reduceLeDiff, Nat.reduceLT, Nat.reduceMul, Int.reduceToNat, Bool.false_eq_true, Bool.or_self, Bool.or_true, Bool.true_or, Bool.or_false, reduceIte, Option.toList_some, Option.toList_none, List.nil_append, List.cons_append, List.length_cons, List.length_nil, true_and, and_true, Int.cast_ofNat_Int, Int.reduceEq, Int.reduceLT, Int.reduceLE, Nat.zero_le, and_self, or_true, true_or, cdS_255]
      refine ⟨_, _, sp_length _ 0 htx.1, ?_⟩
      simp only [vcS0, vcS1, vcS2, vcS3, vcS4, vcS5, vcS6, vc_n0, vc_lk, vc_pop, vc_rc, vc_tsw, vc_fr, vc_ar, vc_tb, mz_nx, List.set_cons_zero, List.set_cons_succ, Nat.reduceAdd, Nat.reduceBEq, Nat.reduceEqDiff, Nat.reduceLeDiff, Nat.reduceLT, Nat.reduceMul, Int.reduceToNat, Bool.false_eq_true, Bool.or_self, Bool.or_true, Bool.true_or, Bool.or_false, reduceIte, Option.toList_some, Option.toList_none, List.nil_append, List.cons_append, List.length_cons, List.length_nil, true_and, and_true, Int.cast_ofNat_Int, Int.reduceEq, Int.reduceLT, Int.reduceLE, Nat.zero_le, and_self, or_true, true_or, cdS_255]
      rw [if_pos (by omega), qM_8, qM_158, show ((x : Int) + (j : Int)).toNat = x + j by omega, hbj.1, hy, hi]
      refine ⟨(by unfold mz_w; omega), by omega, _, _, sp_charAt _ 0 (by omega) (by omega) hc, ?_⟩
      simp only [vcS0, vcS1, vcS2, vcS3, vcS4, vcS5, vcS6, vc_n0, vc_lk, vc_pop, vc_rc, vc_tsw, vc_fr, vc_ar, vc_tb, mz_nx, List.set_cons_zero, List.set_cons_succ, Nat.reduceAdd, Nat.reduceBEq, Nat.reduceEqDiff, Nat.reduceLeDiff, Nat.reduceLT, Nat.reduceMul, Int.reduceToNat, Bool.false_eq_true, Bool.or_self, Bool.or_true, Bool.true_or, Bool.or_false, reduceIte, Option.toList_some, Option.toList_none, List.nil_append, List.cons_append, List.length_cons, List.length_nil, true_and, and_true, Int.cast_ofNat_Int, Int.reduceEq, Int.reduceLT, Int.reduceLE, Nat.zero_le, and_self, or_true, true_or, cdS_255]
      by_cases he : y = c
      · have e1 : fst1 (fun i => B (x + i) ≠ mz_tc s i) (k + 1) j = fst1 (fun i => B (x + i) ≠ mz_tc s i) k (j + 1) := by
          rw [fst1, if_neg (fun q => q (by rw [hy, hc, he]))]
        rw [e1]
        have hk := ih (j + 1) 1 (by omega) (Or.inr rfl)
        simp only [true_and] at hk
        rw [if_pos (by split <;> omega)]
        exact ⟨(by unfold mz_w; omega), hk⟩
      · have e1 : fst1 (fun i => B (x + i) ≠ mz_tc s i) (k + 1) j = some j := by
          rw [fst1, if_pos (show B (x + j) ≠ mz_tc s j by rw [hy, hc]; omega)]
        rw [e1]
        have hk := ih (j + 1) 0 (by omega) (Or.inl rfl)
        rw [if_neg (by split <;> omega)]
        refine ⟨(by unfold mz_w; omega), ?_⟩
        simp only [Option.isNone_some, Bool.false_eq_true, and_false, ↓reduceIte]
        exact stop 0 (j + 1)
theorem sp_isWord (p x : Nat) (e a : Int) (R : Nat → Int) {s : Nat} (h : qB m B L) (hs : s < 18) (hx : x ≤ p) (hp : p ≤ L) : sp 255 [mz_r 9 0 153, mz_r 90 0 s] (qM m p x e a R) (some (mz_i (if isw B s x p = true then 1 else 0))) (qM m p x e a R) := by
  have hL := h.2.1
  have htx := tx_ok s hs
  refine mz_cl_vc 40 (fun i => i == 14) [some (mz_r 9 0 153), some (mz_r 90 0 s), none, none] rfl ?_
  simp only [vcS0, vcS1, vcS2, vcS3, vcS4, vcS5, vcS6, vc_n0, vc_lk, vc_pop, vc_rc, vc_tsw, vc_fr, vc_ar, vc_tb, mz_nx, List.set_cons_zero, List.set_cons_succ, Nat.reduceAdd, Nat.reduceBEq, Nat.reduceEqDiff, Nat.reduceLeDiff, Nat.reduceLT, Nat.reduceMul, Int.reduceToNat, Bool.false_eq_true, Bool.or_self, Bool.or_true, Bool.true_or, Bool.or_false, reduceIte, Option.toList_some, Option.toList_none, List.nil_append, List.cons_append, List.length_cons, List.length_nil, true_and, and_true, Int.cast_ofNat_Int, Int.reduceEq, Int.reduceLT, Int.reduceLE, Nat.zero_le, and_self, or_true, true_or, cdS_255]
  rw [qM_7, qM_8]
  refine ⟨(by unfold mz_w; omega), _, _, sp_length _ 0 htx.1, ?_⟩
  simp only [vcS0, vcS1, vcS2, vcS3, vcS4, vcS5, vcS6, vc_n0, vc_lk, vc_pop, vc_rc, vc_tsw, vc_fr, vc_ar, vc_tb, mz_nx, List.set_cons_zero, List.set_cons_succ, Nat.reduceAdd, Nat.reduceBEq, Nat.reduceEqDiff, Nat.reduceLeDiff, Nat.reduceLT, Nat.reduceMul, Int.reduceToNat, Bool.false_eq_true, Bool.or_self, Bool.or_true, Bool.true_or, Bool.or_false, reduceIte, Option.toList_some, Option.toList_none, List.nil_append, List.cons_append, List.length_cons, List.length_nil, true_and, and_true, Int.cast_ofNat_Int, Int.reduceEq, Int.reduceLT, Int.reduceLE, Nat.zero_le, and_self, or_true, true_or, cdS_255]
  unfold isw
  by_cases h1 : p = x + mz_tl s
  · rw [if_pos (by omega), decide_eq_true h1, Bool.true_and]
    have := wq_loop (m := m) (B := B) (L := L) p x e a R h hs (by omega) (mz_tl s) 0 1 (by omega) (Or.inr rfl)
    simp only [true_and] at this
    exact this
  · rw [if_neg (by omega), decide_eq_false h1, Bool.false_and]
    refine mz_vc_ok 40 (ct := fun i => i == 37) ?_
    simp only [vcS0, vcS1, vcS2, vcS3, vcS4, vcS5, vcS6, vc_n0, vc_lk, vc_pop, vc_rc, vc_tsw, vc_fr, vc_ar, vc_tb, mz_nx, List.set_cons_zero, List.set_cons_succ, Nat.reduceAdd, Nat.reduceBEq, Nat.reduceEqDiff, Nat.reduceLeDiff, Nat.reduceLT, Nat.reduceMul, Int.reduceToNat, Bool.false_eq_true, Bool.or_self, Bool.or_true, Bool.true_or, Bool.or_false, reduceIte, Option.toList_some, Option.toList_none, List.nil_append, List.cons_append, List.length_cons, List.length_nil, true_and, and_true, Int.cast_ofNat_Int, Int.reduceEq, Int.reduceLT, Int.reduceLE, Nat.zero_le, and_self, or_true, true_or, cdS_255]
    refine mz_vc_ok 40 (ct := fun _ => false) ?_
    simp only [vcS0, vcS1, vcS2, vcS3, vcS4, vcS5, vcS6, vc_n0, vc_lk, vc_pop, vc_rc, vc_tsw, vc_fr, vc_ar, vc_tb, mz_nx, List.set_cons_zero, List.set_cons_succ, Nat.reduceAdd, Nat.reduceBEq, Nat.reduceEqDiff, Nat.reduceLeDiff, Nat.reduceLT, Nat.reduceMul, Int.reduceToNat, Bool.false_eq_true, Bool.or_self, Bool.or_true, Bool.true_or, Bool.or_false, reduceIte, Option.toList_some, Option.toList_none, List.nil_append, List.cons_append, List.length_cons, List.length_nil, true_and, and_true, Int.cast_ofNat_Int, Int.reduceEq, Int.reduceLT, Int.reduceLE, Nat.zero_le, and_self, or_true, true_or, cdS_255]
end QS
