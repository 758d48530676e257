theorem sp_has (m : mz_M) (w : Nat) (p : Int) : sp 15 [mz_r 4 0 w, mz_i p] m (some (mz_i (if 0 ≤ p ∧ p < m w 0 then 1 else 0))) m := by
  refine mz_cl_vc 20 (fun _ => false) [some (mz_r 4 0 w), some (mz_i p)] rfl ?_
  simp only [vcS0, vcS1, vcS2, vcS3, vcS4, vcS5, vcS6, vc_n0, vc_lk, vc_pop, vc_rc, vc_tsw, vc_fr, vc_ar, vc_tb, mz_nx, List.set_cons_zero, List.set_cons_succ, Nat.reduceAdd, Nat.reduceBEq, Nat.reduceEqDiff, Nat.reduceLeDiff, Nat.reduceLT, Nat.reduceMul, Int.reduceToNat, Bool.false_eq_true, Bool.or_self, Bool.or_true, Bool.true_or, Bool.or_false, reduceIte, Option.toList_some, Option.toList_none, List.nil_append, List.cons_append, List.length_cons, List.length_nil, true_and, and_true, Int.cast_ofNat_Int, Int.reduceEq, Int.reduceLT, Int.reduceLE, Nat.zero_le, and_self, or_true, true_or, cdS_15]
  grind
def zoR (w : Nat) (p : Int) : mz_V := if 0 ≤ p ∧ p < 4 then mz_r 7 0 (w + 7 + 2 * p.toNat) else .inr none
theorem sp_zoneOrNull (m : mz_M) (w : Nat) (p : Int) : sp 16 [mz_r 4 0 w, mz_i p] m (some (zoR w p)) m := by
  unfold zoR
  refine mz_cl_vc 20 (fun _ => false) [some (mz_r 4 0 w), some (mz_i p)] rfl ?_
  simp only [vcS0, vcS1, vcS2, vcS3, vcS4, vcS5, vcS6, vc_n0, vc_lk, vc_pop, vc_rc, vc_tsw, vc_fr, vc_ar, vc_tb, mz_nx, List.set_cons_zero, List.set_cons_succ, Nat.reduceAdd, Nat.reduceBEq, Nat.reduceEqDiff, Nat.reduceLeDiff, Nat.reduceLT, Nat.reduceMul, Int.reduceToNat, Bool.false_eq_true, Bool.or_self, Bool.or_true, Bool.true_or, Bool.or_false, reduceIte, Option.toList_some, Option.toList_none, List.nil_append, List.cons_append, List.length_cons, List.length_nil, true_and, and_true, Int.cast_ofNat_Int, Int.reduceEq, Int.reduceLT, Int.reduceLE, Nat.zero_le, and_self, or_true, true_or, cdS_16]
  grind
def znP (m : mz_M) (w : Nat) (p : Int) : Nat := if 0 ≤ p ∧ p < 10 ∧ 0 ≤ m (w + 1) p.toNat ∧ m (w + 1) p.toNat < 4 then (m (w + 1) p.toNat).toNat else 0
theorem sp_zoneAt (m : mz_M) (w : Nat) (p : Int) : sp 72 [mz_r 4 0 w, mz_i p] m (some (mz_r 7 0 (w + 7 + 2 * znP m w p))) m := by
  refine mz_cl_vc 20 (fun _ => false) [some (mz_r 4 0 w), some (mz_i p), none] rfl ?_
  simp only [vcS0, vcS1, vcS2, vcS3, vcS4, vcS5, vcS6, vc_n0, vc_lk, vc_pop, vc_rc, vc_tsw, vc_fr, vc_ar, vc_tb, mz_nx, List.set_cons_zero, List.set_cons_succ, Nat.reduceAdd, Nat.reduceBEq, Nat.reduceEqDiff, Nat.reduceLeDiff, Nat.reduceLT, Nat.reduceMul, Int.reduceToNat, Bool.false_eq_true, Bool.or_self, Bool.or_true, Bool.true_or, Bool.or_false, reduceIte, Option.toList_some, Option.toList_none, List.nil_append, List.cons_append, List.length_cons, List.length_nil, true_and, and_true, Int.cast_ofNat_Int, Int.reduceEq, Int.reduceLT, Int.reduceLE, Nat.zero_le, and_self, or_true, true_or, cdS_72]
  refine ⟨_, _, sp_at m 10 (w + 1) p, ?_⟩
  simp only [vcS0, vcS1, vcS2, vcS3, vcS4, vcS5, vcS6, vc_n0, vc_lk, vc_pop, vc_rc, vc_tsw, vc_fr, vc_ar, vc_tb, mz_nx, List.set_cons_zero, List.set_cons_succ, Nat.reduceAdd, Nat.reduceBEq, Nat.reduceEqDiff, Nat.reduceLeDiff, Nat.reduceLT, Nat.reduceMul, Int.reduceToNat, Bool.false_eq_true, Bool.or_self, Bool.or_true, Bool.true_or, Bool.or_false, reduceIte, Option.toList_some, Option.toList_none, List.nil_append, List.cons_append, List.length_cons, List.length_nil, true_and, and_true, Int.cast_ofNat_Int, Int.reduceEq, Int.reduceLT, Int.reduceLE, Nat.zero_le, and_self, or_true, true_or, cdS_72]
  refine ⟨_, _, sp_zoneOrNull m w _, ?_⟩
  unfold znP zoR
  by_cases h : 0 ≤ p ∧ p < 10 ∧ 0 ≤ m (w + 1) p.toNat ∧ m (w + 1) p.toNat < 4
  · rw [if_pos (show 0 ≤ p ∧ p < 10 by omega), if_pos h, if_pos h.2.2]
    simp only [vcS0, vcS1, vcS2, vcS3, vcS4, vcS5, vcS6, vc_n0, vc_lk, vc_pop, vc_rc, vc_tsw, vc_fr, vc_ar, vc_tb, mz_nx, List.set_cons_zero, List.set_cons_succ, Nat.reduceAdd, Nat.reduceBEq, Nat.reduceEqDiff, Nat.reduceLeDiff, Nat.reduceLT, Nat.reduceMul, Int.reduceToNat, Bool.false_eq_true, Bool.or_self, Bool.or_true, Bool.true_or, Bool.or_false, reduceIte, Option.toList_some, Option.toList_none, List.nil_append, List.cons_append, List.length_cons, List.length_nil, true_and, and_true, Int.cast_ofNat_Int, Int.reduceEq, Int.reduceLT, Int.reduceLE, Nat.zero_le, and_self, or_true, true_or, cdS_72]
  · rw [if_neg h]
    by_cases h2 : 0 ≤ p ∧ p < 10
    · rw [if_pos h2, if_neg (by omega)]
      simp only [vcS0, vcS1, vcS2, vcS3, vcS4, vcS5, vcS6, vc_n0, vc_lk, vc_pop, vc_rc, vc_tsw, vc_fr, vc_ar, vc_tb, mz_nx, List.set_cons_zero, List.set_cons_succ, Nat.reduceAdd, Nat.reduceBEq, Nat.reduceEqDiff, Nat.reduceLeDiff, Nat.reduceLT, Nat.reduceMul, Int.reduceToNat, Bool.false_eq_true, Bool.or_self, Bool.or_true, Bool.true_or, Bool.or_false, reduceIte, Option.toList_some, Option.toList_none, List.nil_append, List.cons_append, List.length_cons, List.length_nil, true_and, and_true, Int.cast_ofNat_Int, Int.reduceEq, Int.reduceLT, Int.reduceLE, Nat.zero_le, and_self, or_true, true_or, cdS_72]
    · rw [if_neg h2, if_pos (by omega)]
      simp only [vcS0, vcS1, vcS2, vcS3, vcS4, vcS5, vcS6, vc_n0, vc_lk, vc_pop, vc_rc, vc_tsw, vc_fr, vc_ar, vc_tb, mz_nx, List.set_cons_zero, List.set_cons_succ, Nat.reduceAdd, Nat.reduceBEq, Nat.reduceEqDiff, Nat.reduceLeDiff, Nat.reduceLT, Nat.reduceMul, Int.reduceToNat, Bool.false_eq_true, Bool.or_self, Bool.or_true, Bool.true_or, Bool.or_false, reduceIte, Option.toList_some, Option.toList_none, List.nil_append, List.cons_append, List.length_cons, List.length_nil, true_and, and_true, Int.cast_ofNat_Int, Int.reduceEq, Int.reduceLT, Int.reduceLE, Nat.zero_le, and_self, or_true, true_or, cdS_72]
theorem sp_hasPound (m : mz_M) (w : Nat) (p : Int) : sp 70 [mz_r 4 0 w, mz_i p] m (some (mz_i (if 0 ≤ p ∧ p < 10 ∧ 0 < m (w + 3) p.toNat then 1 else 0))) m := by
  refine mz_cl_vc 20 (fun _ => false) [some (mz_r 4 0 w), some (mz_i p)] rfl ?_
  simp only [vcS0, vcS1, vcS2, vcS3, vcS4, vcS5, vcS6, vc_n0, vc_lk, vc_pop, vc_rc, vc_tsw, vc_fr, vc_ar, vc_tb, mz_nx, List.set_cons_zero, List.set_cons_succ, Nat.reduceAdd, Nat.reduceBEq, Nat.reduceEqDiff, Nat.reduceLeDiff, Nat.reduceLT, Nat.reduceMul, Int.reduceToNat, Bool.false_eq_true, Bool.or_self, Bool.or_true, Bool.true_or, Bool.or_false, reduceIte, Option.toList_some, Option.toList_none, List.nil_append, List.cons_append, List.length_cons, List.length_nil, true_and, and_true, Int.cast_ofNat_Int, Int.reduceEq, Int.reduceLT, Int.reduceLE, Nat.zero_le, and_self, or_true, true_or, cdS_70]
  refine ⟨_, _, sp_at m 10 (w + 3) p, ?_⟩
  simp only [vcS0, vcS1, vcS2, vcS3, vcS4, vcS5, vcS6, vc_n0, vc_lk, vc_pop, vc_rc, vc_tsw, vc_fr, vc_ar, vc_tb, mz_nx, List.set_cons_zero, List.set_cons_succ, Nat.reduceAdd, Nat.reduceBEq, Nat.reduceEqDiff, Nat.reduceLeDiff, Nat.reduceLT, Nat.reduceMul, Int.reduceToNat, Bool.false_eq_true, Bool.or_self, Bool.or_true, Bool.true_or, Bool.or_false, reduceIte, Option.toList_some, Option.toList_none, List.nil_append, List.cons_append, List.length_cons, List.length_nil, true_and, and_true, Int.cast_ofNat_Int, Int.reduceEq, Int.reduceLT, Int.reduceLE, Nat.zero_le, and_self, or_true, true_or, cdS_70]
  grind
theorem sp_hasPoundN (m : mz_M) (w : Nat) {p : Nat} (h : p < 10) : sp 70 [mz_r 4 0 w, mz_i p] m (some (mz_i (if 0 < m (w + 3) p then 1 else 0))) m := by
  have := sp_hasPound m w p
  rw [Int.toNat_natCast] at this
  rwa [show (if (0 : Int) ≤ p ∧ (p : Int) < 10 ∧ 0 < m (w + 3) p then (1 : Int) else 0) = if 0 < m (w + 3) p then 1 else 0 by grind] at this
def poundUp (m : mz_M) (w p : Nat) (c : Int) : mz_M :=
  mz_up (if 0 < m (w + 3) p then m else if m w 2 = -1 then mz_up (mz_up m w 1 (m w 1 + 1)) w 2 p else mz_up m w 1 (m w 1 + 1)) (w + 3) p c
theorem sp_setPound (m : mz_M) {w p : Nat} {c : Int} (hp : p < 10) (hc : 0 ≤ m w 1 ∧ m w 1 < 1000) : sp 136 [mz_r 4 0 w, mz_i p, mz_i c] m none (poundUp m w p c) := by
  refine mz_cl_vc 40 (fun _ => false) [some (mz_r 4 0 w), some (mz_i p), some (mz_i c)] rfl ?_
  simp only [vcS0, vcS1, vcS2, vcS3, vcS4, vcS5, vcS6, vc_n0, vc_lk, vc_pop, vc_rc, vc_tsw, vc_fr, vc_ar, vc_tb, mz_nx, List.set_cons_zero, List.set_cons_succ, Nat.reduceAdd, Nat.reduceBEq, Nat.reduceEqDiff, Nat.reduceLeDiff, Nat.reduceLT, Nat.reduceMul, Int.reduceToNat, Bool.false_eq_true, Bool.or_self, Bool.or_true, Bool.true_or, Bool.or_false, reduceIte, Option.toList_some, Option.toList_none, List.nil_append, List.cons_append, List.length_cons, List.length_nil, true_and, and_true, Int.cast_ofNat_Int, Int.reduceEq, Int.reduceLT, Int.reduceLE, Nat.zero_le, and_self, or_true, true_or, cdS_136]
  refine ⟨_, _, sp_hasPoundN m w hp, ?_⟩
  unfold poundUp
  by_cases h : 0 < m (w + 3) p
  · rw [if_pos h, if_pos h]
    simp only [vcS0, vcS1, vcS2, vcS3, vcS4, vcS5, vcS6, vc_n0, vc_lk, vc_pop, vc_rc, vc_tsw, vc_fr, vc_ar, vc_tb, mz_nx, List.set_cons_zero, List.set_cons_succ, Nat.reduceAdd, Nat.reduceBEq, Nat.reduceEqDiff, Nat.reduceLeDiff, Nat.reduceLT, Nat.reduceMul, Int.reduceToNat, Bool.false_eq_true, Bool.or_self, Bool.or_true, Bool.true_or, Bool.or_false, reduceIte, Option.toList_some, Option.toList_none, List.nil_append, List.cons_append, List.length_cons, List.length_nil, true_and, and_true, Int.cast_ofNat_Int, Int.reduceEq, Int.reduceLT, Int.reduceLE, Nat.zero_le, and_self, or_true, true_or, cdS_136]
    exact ⟨_, _, sp_putN m c hp, by simp only [vcS0, vcS1, vcS2, vcS3, vcS4, vcS5, vcS6, vc_n0, vc_lk, vc_pop, vc_rc, vc_tsw, vc_fr, vc_ar, vc_tb, mz_nx, List.set_cons_zero, List.set_cons_succ, Nat.reduceAdd, Nat.reduceBEq, Nat.reduceEqDiff, Nat.reduceLeDiff, Nat.reduceLT, Nat.reduceMul, Int.reduceToNat, Bool.false_eq_true, Bool.or_self, Bool.or_true, Bool.true_or, Bool.or_false, reduceIte, Option.toList_some, Option.toList_none, List.nil_append, List.cons_append, List.length_cons, List.length_nil, true_and, and_true, Int.cast_ofNat_Int, Int.reduceEq, Int.reduceLT, Int.reduceLE, Nat.zero_le, and_self, or_true, true_or, cdS_136]⟩
  · rw [if_neg h, if_neg h]
    simp only [vcS0, vcS1, vcS2, vcS3, vcS4, vcS5, vcS6, vc_n0, vc_lk, vc_pop, vc_rc, vc_tsw, vc_fr, vc_ar, vc_tb, mz_nx, List.set_cons_zero, List.set_cons_succ, Nat.reduceAdd, Nat.reduceBEq, Nat.reduceEqDiff, Nat.reduceLeDiff, Nat.reduceLT, Nat.reduceMul, Int.reduceToNat, Bool.false_eq_true, Bool.or_self, Bool.or_true, Bool.true_or, Bool.or_false, reduceIte, Option.toList_some, Option.toList_none, List.nil_append, List.cons_append, List.length_cons, List.length_nil, true_and, and_true, Int.cast_ofNat_Int, Int.reduceEq, Int.reduceLT, Int.reduceLE, Nat.zero_le, and_self, or_true, true_or, cdS_136]
    refine ⟨by unfold mz_w; omega, ?_⟩
    rw [up_k (by omega)]
    by_cases h2 : m w 2 = -1
    · rw [if_pos (by omega), if_pos h2]
      exact ⟨_, _, sp_putN _ c hp, by simp only [vcS0, vcS1, vcS2, vcS3, vcS4, vcS5, vcS6, vc_n0, vc_lk, vc_pop, vc_rc, vc_tsw, vc_fr, vc_ar, vc_tb, mz_nx, List.set_cons_zero, List.set_cons_succ, Nat.reduceAdd, Nat.reduceBEq, Nat.reduceEqDiff, Nat.reduceLeDiff, Nat.reduceLT, Nat.reduceMul, Int.reduceToNat, Bool.false_eq_true, Bool.or_self, Bool.or_true, Bool.true_or, Bool.or_false, reduceIte, Option.toList_some, Option.toList_none, List.nil_append, List.cons_append, List.length_cons, List.length_nil, true_and, and_true, Int.cast_ofNat_Int, Int.reduceEq, Int.reduceLT, Int.reduceLE, Nat.zero_le, and_self, or_true, true_or, cdS_136]⟩
    · rw [if_neg (by omega), if_neg h2]
      exact ⟨_, _, sp_putN _ c hp, by simp only [vcS0, vcS1, vcS2, vcS3, vcS4, vcS5, vcS6, vc_n0, vc_lk, vc_pop, vc_rc, vc_tsw, vc_fr, vc_ar, vc_tb, mz_nx, List.set_cons_zero, List.set_cons_succ, Nat.reduceAdd, Nat.reduceBEq, Nat.reduceEqDiff, Nat.reduceLeDiff, Nat.reduceLT, Nat.reduceMul, Int.reduceToNat, Bool.false_eq_true, Bool.or_self, Bool.or_true, Bool.true_or, Bool.or_false, reduceIte, Option.toList_some, Option.toList_none, List.nil_append, List.cons_append, List.length_cons, List.length_nil, true_and, and_true, Int.cast_ofNat_Int, Int.reduceEq, Int.reduceLT, Int.reduceLE, Nat.zero_le, and_self, or_true, true_or, cdS_136]⟩
def roadUp (m : mz_M) (w f t : Nat) (v : Int) : mz_M :=
  mz_up (mz_up m (w + 4) (10 * f + t) (min v (m (w + 4) (10 * f + t)))) (w + 4) (10 * t + f) (min v (m (w + 4) (10 * f + t)))
theorem sp_addRoad (m : mz_M) {w f t : Nat} {v : Int} (hf : f < 10) (ht : t < 10) : sp 69 [mz_r 4 0 w, mz_i f, mz_i t, mz_i v] m none (roadUp m w f t v) := by
  unfold roadUp
  refine mz_cl_vc 40 (fun _ => false) [some (mz_r 4 0 w), some (mz_i f), some (mz_i t), some (mz_i v), none] rfl ?_
  simp only [vcS0, vcS1, vcS2, vcS3, vcS4, vcS5, vcS6, vc_n0, vc_lk, vc_pop, vc_rc, vc_tsw, vc_fr, vc_ar, vc_tb, mz_nx, List.set_cons_zero, List.set_cons_succ, Nat.reduceAdd, Nat.reduceBEq, Nat.reduceEqDiff, Nat.reduceLeDiff, Nat.reduceLT, Nat.reduceMul, Int.reduceToNat, Bool.false_eq_true, Bool.or_self, Bool.or_true, Bool.true_or, Bool.or_false, reduceIte, Option.toList_some, Option.toList_none, List.nil_append, List.cons_append, List.length_cons, List.length_nil, true_and, and_true, Int.cast_ofNat_Int, Int.reduceEq, Int.reduceLT, Int.reduceLE, Nat.zero_le, and_self, or_true, true_or, cdS_69]
  rw [show (f : Int) * 10 + t = ((10 * f + t : Nat) : Int) by omega]
  refine ⟨by unfold mz_w; omega, by unfold mz_w; omega, ?_⟩
  refine ⟨_, _, sp_atN m (by omega), ?_⟩
  simp only [vcS0, vcS1, vcS2, vcS3, vcS4, vcS5, vcS6, vc_n0, vc_lk, vc_pop, vc_rc, vc_tsw, vc_fr, vc_ar, vc_tb, mz_nx, List.set_cons_zero, List.set_cons_succ, Nat.reduceAdd, Nat.reduceBEq, Nat.reduceEqDiff, Nat.reduceLeDiff, Nat.reduceLT, Nat.reduceMul, Int.reduceToNat, Bool.false_eq_true, Bool.or_self, Bool.or_true, Bool.true_or, Bool.or_false, reduceIte, Option.toList_some, Option.toList_none, List.nil_append, List.cons_append, List.length_cons, List.length_nil, true_and, and_true, Int.cast_ofNat_Int, Int.reduceEq, Int.reduceLT, Int.reduceLE, Nat.zero_le, and_self, or_true, true_or, cdS_69]
  rw [show (f : Int) * 10 + t = ((10 * f + t : Nat) : Int) by omega]
  refine ⟨by unfold mz_w; omega, by unfold mz_w; omega, ?_⟩
  refine ⟨_, _, sp_putN _ _ (by omega), ?_⟩
  simp only [vcS0, vcS1, vcS2, vcS3, vcS4, vcS5, vcS6, vc_n0, vc_lk, vc_pop, vc_rc, vc_tsw, vc_fr, vc_ar, vc_tb, mz_nx, List.set_cons_zero, List.set_cons_succ, Nat.reduceAdd, Nat.reduceBEq, Nat.reduceEqDiff, Nat.reduceLeDiff, Nat.reduceLT, Nat.reduceMul, Int.reduceToNat, Bool.false_eq_true, Bool.or_self, Bool.or_true, Bool.true_or, Bool.or_false, reduceIte, Option.toList_some, Option.toList_none, List.nil_append, List.cons_append, List.length_cons, List.length_nil, true_and, and_true, Int.cast_ofNat_Int, Int.reduceEq, Int.reduceLT, Int.reduceLE, Nat.zero_le, and_self, or_true, true_or, cdS_69]
  rw [show (t : Int) * 10 + f = ((10 * t + f : Nat) : Int) by omega]
  refine ⟨by unfold mz_w; omega, by unfold mz_w; omega, ?_⟩
  refine ⟨_, _, sp_putN _ _ (by omega), ?_⟩
  simp only [vcS0, vcS1, vcS2, vcS3, vcS4, vcS5, vcS6, vc_n0, vc_lk, vc_pop, vc_rc, vc_tsw, vc_fr, vc_ar, vc_tb, mz_nx, List.set_cons_zero, List.set_cons_succ, Nat.reduceAdd, Nat.reduceBEq, Nat.reduceEqDiff, Nat.reduceLeDiff, Nat.reduceLT, Nat.reduceMul, Int.reduceToNat, Bool.false_eq_true, Bool.or_self, Bool.or_true, Bool.true_or, Bool.or_false, reduceIte, Option.toList_some, Option.toList_none, List.nil_append, List.cons_append, List.length_cons, List.length_nil, true_and, and_true, Int.cast_ofNat_Int, Int.reduceEq, Int.reduceLT, Int.reduceLE, Nat.zero_le, and_self, or_true, true_or, cdS_69]
theorem sp_way (m : mz_M) {w f t : Nat} (hf : f < 10) (ht : t < 10) : sp 71 [mz_r 4 0 w, mz_i f, mz_i t] m (some (mz_i (m (w + 5) (10 * f + t)))) m := by
  refine mz_cl_vc 40 (fun _ => false) [some (mz_r 4 0 w), some (mz_i f), some (mz_i t)] rfl ?_
  simp only [vcS0, vcS1, vcS2, vcS3, vcS4, vcS5, vcS6, vc_n0, vc_lk, vc_pop, vc_rc, vc_tsw, vc_fr, vc_ar, vc_tb, mz_nx, List.set_cons_zero, List.set_cons_succ, Nat.reduceAdd, Nat.reduceBEq, Nat.reduceEqDiff, Nat.reduceLeDiff, Nat.reduceLT, Nat.reduceMul, Int.reduceToNat, Bool.false_eq_true, Bool.or_self, Bool.or_true, Bool.true_or, Bool.or_false, reduceIte, Option.toList_some, Option.toList_none, List.nil_append, List.cons_append, List.length_cons, List.length_nil, true_and, and_true, Int.cast_ofNat_Int, Int.reduceEq, Int.reduceLT, Int.reduceLE, Nat.zero_le, and_self, or_true, true_or, cdS_71]
  rw [show (f : Int) * 10 + t = ((10 * f + t : Nat) : Int) by omega]
  refine ⟨by unfold mz_w; omega, by unfold mz_w; omega, ?_⟩
  refine ⟨_, _, sp_atN m (by omega), ?_⟩
  simp only [vcS0, vcS1, vcS2, vcS3, vcS4, vcS5, vcS6, vc_n0, vc_lk, vc_pop, vc_rc, vc_tsw, vc_fr, vc_ar, vc_tb, mz_nx, List.set_cons_zero, List.set_cons_succ, Nat.reduceAdd, Nat.reduceBEq, Nat.reduceEqDiff, Nat.reduceLeDiff, Nat.reduceLT, Nat.reduceMul, Int.reduceToNat, Bool.false_eq_true, Bool.or_self, Bool.or_true, Bool.true_or, Bool.or_false, reduceIte, Option.toList_some, Option.toList_none, List.nil_append, List.cons_append, List.length_cons, List.length_nil, true_and, and_true, Int.cast_ofNat_Int, Int.reduceEq, Int.reduceLT, Int.reduceLE, Nat.zero_le, and_self, or_true, true_or, cdS_71]
def rowS (m : mz_M) (o n : Nat) (T : Nat → Int) : mz_M := fun a j => if a = o ∧ j < n then T j else m a j
theorem rowS_at {m : mz_M} {o n j : Nat} {T : Nat → Int} (h : j < n) : rowS m o n T o j = T j := by unfold rowS; rw [if_pos ⟨rfl, h⟩]
theorem rowS_o {m : mz_M} {o n a j : Nat} {T : Nat → Int} (h : a ≠ o) : rowS m o n T a j = m a j := by unfold rowS; rw [if_neg (by omega)]
theorem rowS_up {m : mz_M} {o n j : Nat} {T : Nat → Int} {v : Int} (h : j < n) : mz_up (rowS m o n T) o j v = rowS m o n (fun i => if i = j then v else T i) := by
  funext a i
  unfold rowS mz_up
  grind
theorem rowS_self (m : mz_M) (o n : Nat) : rowS m o n (m o) = m := by
  funext a i
  unfold rowS
  grind
def fwS (T : Nat → Int) (o f t : Nat) : Nat → Int := fun j => if j = 10 * f + t then min (T j) (T (10 * f + o) + T (10 * o + t)) else T j
def fwN (T : Nat → Int) : Nat → Nat → Int
  | 0 => T
  | k + 1 => fwS (fwN T k) (k / 100) (k / 10 % 10) (k % 10)
def fwO (T : Nat → Int) : Prop := ∀ j, j < 100 → 0 ≤ T j ∧ T j ≤ 1000000
theorem fwS_ok {T : Nat → Int} {o f t : Nat} (h : fwO T) (ho : o < 10) (hf : f < 10) (ht : t < 10) : fwO (fwS T o f t) := by
  intro j hj
  have h1 := h j hj
  have h2 := h (10 * f + o) (by omega)
  have h3 := h (10 * o + t) (by omega)
  unfold fwS
  split <;> omega
theorem fwN_ok {T : Nat → Int} (h : fwO T) : ∀ k, k ≤ 1000 → fwO (fwN T k) := by
  intro k
  induction k with
  | zero => intro _; exact h
  | succ k ih => intro hk; exact fwS_ok (ih (by omega)) (by omega) (by omega) (by omega)
theorem fw_loop (m : mz_M) (w : Nat) (T : Nat → Int) (hT : fwO T) : ∀ (r o f t : Nat) (x : Option mz_V), o < 10 → f < 10 → t ≤ 10 → 11 * (10 * o + f) + t + r = 1100 → sx 134 33 [some (mz_r 4 0 w), some (mz_i o), some (mz_i f), some (mz_i t), x] [] (rowS m (w + 5) 100 (fwN T (100 * o + 10 * f + t))) none (rowS m (w + 5) 100 (fwN T 1000)) := by
  intro r
  induction r with
  | zero => intros; omega
  | succ r ih =>
    intro o f t x ho hf ht hm
    by_cases h10 : t = 10
    · subst h10
      refine mz_vc_ok 60 (ct := fun i => i == 33) ?_
      simp only [vcS0, vcS1, vcS2, vcS3, vcS4, vcS5, vcS6, vc_n0, vc_lk, vc_pop, vc_rc, vc_tsw, vc_fr, vc_ar, vc_tb, mz_nx, List.set_cons_zero, List.set_cons_succ, Nat.reduceAdd, Nat.reduceBEq, Nat.reduceEqDiff, Nat.reduceLeDiff, Nat.reduceLT, Nat.reduceMul, Int.reduceToNat, Bool.false_eq_true, Bool.or_self, Bool.or_true, Bool.true_or, Bool.or_false, reduceIte, Option.toList_some, Option.toList_none, List.nil_append, List.cons_append, List.length_cons, List.length_nil, true_and, and_true, Int.cast_ofNat_Int, Int.reduceEq, Int.reduceLT, Int.reduceLE, Nat.zero_le, and_self, or_true, true_or, cdS_134]
      by_cases hf9 : f = 9
      · subst hf9
        simp
        by_cases ho9 : o = 9
        · subst ho9
          simp [mz_w]
        · have := ih (o + 1) 0 0 x (by omega) (by omega) (by omega) (by omega)
          rw [show 100 * (o + 1) + 10 * 0 + 0 = 100 * o + 10 * 9 + 10 by omega] at this
          rw [if_pos (by omega)]
          exact ⟨by simp [mz_w], (by unfold mz_w; omega), this⟩
      · have := ih o (f + 1) 0 x (by omega) (by omega) (by omega) (by omega)
        rw [show 100 * o + 10 * (f + 1) + 0 = 100 * o + 10 * f + 10 by omega] at this
        rw [if_pos (by omega)]
        exact ⟨(by unfold mz_w; omega), this⟩
    · have hok := fwN_ok hT (100 * o + 10 * f + t) (by omega)
      have e : fwN T (100 * o + 10 * f + (t + 1)) = fwS (fwN T (100 * o + 10 * f + t)) o f t := by
        show fwN T ((100 * o + 10 * f + t) + 1) = _
        rw [fwN, show (100 * o + 10 * f + t) / 100 = o by omega, show (100 * o + 10 * f + t) / 10 % 10 = f by omega, show (100 * o + 10 * f + t) % 10 = t by omega]
      have hk := fun y => ih o f (t + 1) y ho hf (by omega) (by omega)
      rw [e] at hk
      generalize hU : fwN T (100 * o + 10 * f + t) = U at hok hk ⊢
      have h1 := hok (10 * f + o) (by omega)
      have h2 := hok (10 * o + t) (by omega)
      have h3 := hok (10 * f + t) (by omega)
      refine mz_vc_ok 60 (ct := fun i => i == 33) ?_
      simp only [vcS0, vcS1, vcS2, vcS3, vcS4, vcS5, vcS6, vc_n0, vc_lk, vc_pop, vc_rc, vc_tsw, vc_fr, vc_ar, vc_tb, mz_nx, List.set_cons_zero, List.set_cons_succ, Nat.reduceAdd, Nat.reduceBEq, Nat.reduceEqDiff, Nat.reduceLeDiff, Nat.reduceLT, Nat.reduceMul, Int.reduceToNat, Bool.false_eq_true, Bool.or_self, Bool.or_true, Bool.true_or, Bool.or_false, reduceIte, Option.toList_some, Option.toList_none, List.nil_append, List.cons_append, List.length_cons, List.length_nil, true_and, and_true, Int.cast_ofNat_Int, Int.reduceEq, Int.reduceLT, Int.reduceLE, Nat.zero_le, and_self, or_true, true_or, cdS_134]
      rw [if_pos (by omega)]
      refine ⟨_, _, sp_way _ hf ho, ?_⟩
      simp only [vcS0, vcS1, vcS2, vcS3, vcS4, vcS5, vcS6, vc_n0, vc_lk, vc_pop, vc_rc, vc_tsw, vc_fr, vc_ar, vc_tb, mz_nx, List.set_cons_zero, List.set_cons_succ, Nat.reduceAdd, Nat.reduceBEq, Nat.reduceEqDiff, Nat.reduceLeDiff, Nat.reduceLT, Nat.reduceMul, Int.reduceToNat, Bool.false_eq_true, Bool.or_self, Bool.or_true, Bool.true_or, Bool.or_false, reduceIte, Option.toList_some, Option.toList_none, List.nil_append, List.cons_append, List.length_cons, List.length_nil, true_and, and_true, Int.cast_ofNat_Int, Int.reduceEq, Int.reduceLT, Int.reduceLE, Nat.zero_le, and_self, or_true, true_or, cdS_134]
      refine ⟨_, _, sp_way _ ho (by omega), ?_⟩
      simp only [vcS0, vcS1, vcS2, vcS3, vcS4, vcS5, vcS6, vc_n0, vc_lk, vc_pop, vc_rc, vc_tsw, vc_fr, vc_ar, vc_tb, mz_nx, List.set_cons_zero, List.set_cons_succ, Nat.reduceAdd, Nat.reduceBEq, Nat.reduceEqDiff, Nat.reduceLeDiff, Nat.reduceLT, Nat.reduceMul, Int.reduceToNat, Bool.false_eq_true, Bool.or_self, Bool.or_true, Bool.true_or, Bool.or_false, reduceIte, Option.toList_some, Option.toList_none, List.nil_append, List.cons_append, List.length_cons, List.length_nil, true_and, and_true, Int.cast_ofNat_Int, Int.reduceEq, Int.reduceLT, Int.reduceLE, Nat.zero_le, and_self, or_true, true_or, cdS_134]
      rw [rowS_at (by omega), rowS_at (by omega)]
      refine ⟨by unfold mz_w; omega, ?_⟩
      refine ⟨_, _, sp_way _ hf (by omega), ?_⟩
      simp only [vcS0, vcS1, vcS2, vcS3, vcS4, vcS5, vcS6, vc_n0, vc_lk, vc_pop, vc_rc, vc_tsw, vc_fr, vc_ar, vc_tb, mz_nx, List.set_cons_zero, List.set_cons_succ, Nat.reduceAdd, Nat.reduceBEq, Nat.reduceEqDiff, Nat.reduceLeDiff, Nat.reduceLT, Nat.reduceMul, Int.reduceToNat, Bool.false_eq_true, Bool.or_self, Bool.or_true, Bool.true_or, Bool.or_false, reduceIte, Option.toList_some, Option.toList_none, List.nil_append, List.cons_append, List.length_cons, List.length_nil, true_and, and_true, Int.cast_ofNat_Int, Int.reduceEq, Int.reduceLT, Int.reduceLE, Nat.zero_le, and_self, or_true, true_or, cdS_134]
      rw [rowS_at (by omega)]
      by_cases hb : U (10 * f + t) ≤ U (10 * f + o) + U (10 * o + t)
      · rw [if_neg (by omega)]
        refine ⟨by unfold mz_w; omega, ?_⟩
        have e2 : fwS U o f t = U := by
          funext j
          unfold fwS
          split
          · subst j; omega
          · rfl
        rw [e2] at hk
        exact hk _
      · rw [if_pos (by omega), show (f : Int) * 10 + t = ((10 * f + t : Nat) : Int) by omega]
        refine ⟨by unfold mz_w; omega, by unfold mz_w; omega, ?_⟩
        refine ⟨_, _, sp_putN _ _ (by omega), ?_⟩
        simp only [vcS0, vcS1, vcS2, vcS3, vcS4, vcS5, vcS6, vc_n0, vc_lk, vc_pop, vc_rc, vc_tsw, vc_fr, vc_ar, vc_tb, mz_nx, List.set_cons_zero, List.set_cons_succ, Nat.reduceAdd, Nat.reduceBEq, Nat.reduceEqDiff, Nat.reduceLeDiff, Nat.reduceLT, Nat.reduceMul, Int.reduceToNat, Bool.false_eq_true, Bool.or_self, Bool.or_true, Bool.true_or, Bool.or_false, reduceIte, Option.toList_some, Option.toList_none, List.nil_append, List.cons_append, List.length_cons, List.length_nil, true_and, and_true, Int.cast_ofNat_Int, Int.reduceEq, Int.reduceLT, Int.reduceLE, Nat.zero_le, and_self, or_true, true_or, cdS_134]
        refine ⟨by unfold mz_w; omega, ?_⟩
        rw [rowS_up (by omega)]
        have e2 : fwS U o f t = fun i => if i = 10 * f + t then U (10 * f + o) + U (10 * o + t) else U i := by
          funext j
          unfold fwS
          split
          · subst j; omega
          · rfl
        rw [e2] at hk
        exact hk _
def dgR (T : Nat → Int) (n : Nat) : Nat → Int := fun j => if j % 11 = 0 ∧ j < 11 * n then 0 else T j
set_option maxRecDepth 8000 in
theorem dg_loop (m : mz_M) (w : Nat) (T : Nat → Int) (hT : fwO T) : ∀ (r j : Nat), j + r = 10 → sx 134 7 [some (mz_r 4 0 w), some (mz_i j), none, none, none] [] (rowS m (w + 5) 100 (dgR T j)) none (rowS m (w + 5) 100 (fwN (dgR T 10) 1000)) := by
  intro r
  induction r with
  | zero =>
    intro j hj
    obtain rfl : j = 10 := by omega
    refine mz_vc_ok 60 (ct := fun i => i == 33) ?_
    simp only [vcS0, vcS1, vcS2, vcS3, vcS4, vcS5, vcS6, vc_n0, vc_lk, vc_pop, vc_rc, vc_tsw, vc_fr, vc_ar, vc_tb, mz_nx, List.set_cons_zero, List.set_cons_succ, Nat.reduceAdd, Nat.reduceBEq, Nat.reduceEqDiff, Nat.reduceLeDiff, Nat.reduceLT, Nat.reduceMul, Int.reduceToNat, Bool.false_eq_true, Bool.or_self, Bool.or_true, Bool.true_or, Bool.or_false, reduceIte, Option.toList_some, Option.toList_none, List.nil_append, List.cons_append, List.length_cons, List.length_nil, true_and, and_true, Int.cast_ofNat_Int, Int.reduceEq, Int.reduceLT, Int.reduceLE, Nat.zero_le, and_self, or_true, true_or, cdS_134]
    have hT2 : fwO (dgR T 10) := by
      intro j hj
      have := hT j hj
      unfold dgR
      split <;> omega
    have := fw_loop m w (dgR T 10) hT2 1100 0 0 0 none (by omega) (by omega) (by omega) (by omega)
    exact this
  | succ r ih =>
    intro j hj
    have hk := ih (j + 1) (by omega)
    refine mz_vc_ok 60 (ct := fun i => i == 7) ?_
    simp only [vcS0, vcS1, vcS2, vcS3, vcS4, vcS5, vcS6, vc_n0, vc_lk, vc_pop, vc_rc, vc_tsw, vc_fr, vc_ar, vc_tb, mz_nx, List.set_cons_zero, List.set_cons_succ, Nat.reduceAdd, Nat.reduceBEq, Nat.reduceEqDiff, Nat.reduceLeDiff, Nat.reduceLT, Nat.reduceMul, Int.reduceToNat, Bool.false_eq_true, Bool.or_self, Bool.or_true, Bool.true_or, Bool.or_false, reduceIte, Option.toList_some, Option.toList_none, List.nil_append, List.cons_append, List.length_cons, List.length_nil, true_and, and_true, Int.cast_ofNat_Int, Int.reduceEq, Int.reduceLT, Int.reduceLE, Nat.zero_le, and_self, or_true, true_or, cdS_134]
    rw [if_pos (by omega), show (j : Int) * 10 + j = ((11 * j : Nat) : Int) by omega]
    refine ⟨(by unfold mz_w; omega), (by unfold mz_w; omega), ?_⟩
    refine ⟨_, _, sp_putN _ _ (by omega), ?_⟩
    simp only [vcS0, vcS1, vcS2, vcS3, vcS4, vcS5, vcS6, vc_n0, vc_lk, vc_pop, vc_rc, vc_tsw, vc_fr, vc_ar, vc_tb, mz_nx, List.set_cons_zero, List.set_cons_succ, Nat.reduceAdd, Nat.reduceBEq, Nat.reduceEqDiff, Nat.reduceLeDiff, Nat.reduceLT, Nat.reduceMul, Int.reduceToNat, Bool.false_eq_true, Bool.or_self, Bool.or_true, Bool.true_or, Bool.or_false, reduceIte, Option.toList_some, Option.toList_none, List.nil_append, List.cons_append, List.length_cons, List.length_nil, true_and, and_true, Int.cast_ofNat_Int, Int.reduceEq, Int.reduceLT, Int.reduceLE, Nat.zero_le, and_self, or_true, true_or, cdS_134]
    refine ⟨(by unfold mz_w; omega), ?_⟩
    rw [rowS_up (by omega)]
    have e2 : dgR T (j + 1) = fun i => if i = 11 * j then 0 else dgR T j i := by
      funext i
      unfold dgR
      grind
    rw [e2] at hk
    exact hk
def fwT (R : Nat → Int) : Nat → Int := fwN (dgR R 10) 1000
set_option maxRecDepth 8000 in
theorem sp_findWays (m : mz_M) (w : Nat) (hR : fwO (m (w + 4))) : sp 134 [mz_r 4 0 w] m none (rowS m (w + 5) 100 (fwT (m (w + 4)))) := by
  refine mz_cl_vc 60 (fun i => i == 7) [some (mz_r 4 0 w), none, none, none, none] rfl ?_
  simp only [vcS0, vcS1, vcS2, vcS3, vcS4, vcS5, vcS6, vc_n0, vc_lk, vc_pop, vc_rc, vc_tsw, vc_fr, vc_ar, vc_tb, mz_nx, List.set_cons_zero, List.set_cons_succ, Nat.reduceAdd, Nat.reduceBEq, Nat.reduceEqDiff, Nat.reduceLeDiff, Nat.reduceLT, Nat.reduceMul, Int.reduceToNat, Bool.false_eq_true, Bool.or_self, Bool.or_true, Bool.true_or, Bool.or_false, reduceIte, Option.toList_some, Option.toList_none, List.nil_append, List.cons_append, List.length_cons, List.length_nil, true_and, and_true, Int.cast_ofNat_Int, Int.reduceEq, Int.reduceLT, Int.reduceLE, Nat.zero_le, and_self, or_true, true_or, cdS_134]
  refine ⟨_, _, sp_copyRow m 100 (w + 4) (w + 5), ?_⟩
  simp only [vcS0, vcS1, vcS2, vcS3, vcS4, vcS5, vcS6, vc_n0, vc_lk, vc_pop, vc_rc, vc_tsw, vc_fr, vc_ar, vc_tb, mz_nx, List.set_cons_zero, List.set_cons_succ, Nat.reduceAdd, Nat.reduceBEq, Nat.reduceEqDiff, Nat.reduceLeDiff, Nat.reduceLT, Nat.reduceMul, Int.reduceToNat, Bool.false_eq_true, Bool.or_self, Bool.or_true, Bool.true_or, Bool.or_false, reduceIte, Option.toList_some, Option.toList_none, List.nil_append, List.cons_append, List.length_cons, List.length_nil, true_and, and_true, Int.cast_ofNat_Int, Int.reduceEq, Int.reduceLT, Int.reduceLE, Nat.zero_le, and_self, or_true, true_or, cdS_134]
  have := dg_loop m w (m (w + 4)) hR 10 0 rfl
  rw [show dgR (m (w + 4)) 0 = m (w + 4) by funext j; simp [dgR]] at this
  exact this
