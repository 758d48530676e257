theorem fs_loop (m : mz_M) {w f t n : Nat} (hf : f < 10) (ht : t < 10) (hn : n ≤ 10) (h0 : m w 0 = n) (hR : fwO (m (w + 4))) (hW : fwO (m (w + 5))) (hlt : m (w + 5) (10 * f + t) < 1000000) : ∀ (r j : Nat), j + r = n → sx 135 7 [some (mz_r 4 0 w), some (mz_i f), some (mz_i t), some (mz_i (m (w + 5) (10 * f + t))), some (mz_i j)] [] m (some (mz_i (opI (-1) (fst1 (fun p => m (w + 4) (10 * f + p) + m (w + 5) (10 * p + t) = m (w + 5) (10 * f + t)) r j)))) m := by
  intro r
  induction r with
  | zero =>
    intro j hj
    refine mz_vc_ok 60 (ct := fun i => i == 7) ?_
    simp only [vcS0, vcS1, vcS2, vcS3, vcS4, vcS5, vcS6, vc_n0, vc_lk, vc_pop, vc_rc, vc_tsw, vc_fr, vc_ar, vc_tb, mz_nx, List.set_cons_zero, List.set_cons_succ, Nat.reduceAdd, Nat.reduceBEq, Nat.reduceEqDiff, Nat.reduceLeDiff, Nat.reduceLT, Nat.reduceMul, Int.reduceToNat, Bool.false_eq_true, Bool.or_self, Bool.or_true, Bool.true_or, Bool.or_false, reduceIte, Option.toList_some, Option.toList_none, List.nil_append, List.cons_append, List.length_cons, List.length_nil, true_and, and_true, Int.cast_ofNat_Int, Int.reduceEq, Int.reduceLT, Int.reduceLE, Nat.zero_le, and_self, or_true, true_or, cdS_135]
    rw [if_neg (by omega)]
    rfl
  | succ r ih =>
    intro j hj
    have h1 := hR (10 * f + j) (by omega)
    have h2 := hW (10 * j + t) (by omega)
    have hk := ih (j + 1) (by omega)
    refine mz_vc_ok 60 (ct := fun i => i == 7) ?_
    simp only [vcS0, vcS1, vcS2, vcS3, vcS4, vcS5, vcS6, vc_n0, vc_lk, vc_pop, vc_rc, vc_tsw, vc_fr, vc_ar, vc_tb, mz_nx, List.set_cons_zero, List.set_cons_succ, Nat.reduceAdd, Nat.reduceBEq, Nat.reduceEqDiff, Nat.reduceLeDiff, Nat.reduceLT, Nat.reduceMul, Int.reduceToNat, Bool.false_eq_true, Bool.or_self, Bool.or_true, Bool.true_or, Bool.or_false, reduceIte, Option.toList_some, Option.toList_none, List.nil_append, List.cons_append, List.length_cons, List.length_nil, true_and, and_true, Int.cast_ofNat_Int, Int.reduceEq, Int.reduceLT, Int.reduceLE, Nat.zero_le, and_self, or_true, true_or, cdS_135]
    rw [if_pos (by omega), if_pos hlt, show (f : Int) * 10 + j = ((10 * f + j : Nat) : Int) by omega]
    refine ⟨(by unfold mz_w; omega), (by unfold mz_w; omega), ?_⟩
    refine ⟨_, _, sp_atN m (by omega), ?_⟩
    simp only [vcS0, vcS1, vcS2, vcS3, vcS4, vcS5, vcS6, vc_n0, vc_lk, vc_pop, vc_rc, vc_tsw, vc_fr, vc_ar, vc_tb, mz_nx, List.set_cons_zero, List.set_cons_succ, Nat.reduceAdd, Nat.reduceBEq, Nat.reduceEqDiff, Nat.reduceLeDiff, Nat.reduceLT, Nat.reduceMul, Int.reduceToNat, Bool.false_eq_true, Bool.or_self, Bool.or_true, Bool.true_or, Bool.or_false, reduceIte, Option.toList_some, Option.toList_none, List.nil_append, List.cons_append, List.length_cons, List.length_nil, true_and, and_true, Int.cast_ofNat_Int, Int.reduceEq, Int.reduceLT, Int.reduceLE, Nat.zero_le, and_self, or_true, true_or, cdS_135]
    refine ⟨_, _, sp_way m (by omega) ht, ?_⟩
    simp only [vcS0, vcS1, vcS2, vcS3, vcS4, vcS5, vcS6, vc_n0, vc_lk, vc_pop, vc_rc, vc_tsw, vc_fr, vc_ar, vc_tb, mz_nx, List.set_cons_zero, List.set_cons_succ, Nat.reduceAdd, Nat.reduceBEq, Nat.reduceEqDiff, Nat.reduceLeDiff, Nat.reduceLT, Nat.reduceMul, Int.reduceToNat, Bool.false_eq_true, Bool.or_self, Bool.or_true, Bool.true_or, Bool.or_false, reduceIte, Option.toList_some, Option.toList_none, List.nil_append, List.cons_append, List.length_cons, List.length_nil, true_and, and_true, Int.cast_ofNat_Int, Int.reduceEq, Int.reduceLT, Int.reduceLE, Nat.zero_le, and_self, or_true, true_or, cdS_135]
    refine ⟨(by unfold mz_w; omega), ?_⟩
    unfold fst1
    by_cases he : m (w + 4) (10 * f + j) + m (w + 5) (10 * j + t) = m (w + 5) (10 * f + t)
    · simp only [he, if_true, opI]
    · simp only [he, if_false]
      exact ⟨(by unfold mz_w; omega), hk⟩
def fsR (m : mz_M) (w f t n : Nat) : Option Nat := if m (w + 5) (10 * f + t) < 1000000 then fst1 (fun p => m (w + 4) (10 * f + p) + m (w + 5) (10 * p + t) = m (w + 5) (10 * f + t)) n 0 else none
theorem sp_firstStep (m : mz_M) {w f t n : Nat} (hf : f < 10) (ht : t < 10) (hn : n ≤ 10) (h0 : m w 0 = n) (hR : fwO (m (w + 4))) (hW : fwO (m (w + 5))) : sp 135 [mz_r 4 0 w, mz_i f, mz_i t] m (some (mz_i (opI (-1) (fsR m w f t n)))) m := by
  refine mz_cl_vc 60 (fun i => i == 7) [some (mz_r 4 0 w), some (mz_i f), some (mz_i t), none, none] rfl ?_
  simp only [vcS0, vcS1, vcS2, vcS3, vcS4, vcS5, vcS6, vc_n0, vc_lk, vc_pop, vc_rc, vc_tsw, vc_fr, vc_ar, vc_tb, mz_nx, List.set_cons_zero, List.set_cons_succ, Nat.reduceAdd, Nat.reduceBEq, Nat.reduceEqDiff, Nat.reduceLeDiff, Nat.reduceLT, Nat.reduceMul, Int.reduceToNat, Bool.false_eq_true, Bool.or_self, Bool.or_true, Bool.true_or, Bool.or_false, reduceIte, Option.toList_some, Option.toList_none, List.nil_append, List.cons_append, List.length_cons, List.length_nil, true_and, and_true, Int.cast_ofNat_Int, Int.reduceEq, Int.reduceLT, Int.reduceLE, Nat.zero_le, and_self, or_true, true_or, cdS_135]
  refine ⟨_, _, sp_way m hf ht, ?_⟩
  simp only [vcS0, vcS1, vcS2, vcS3, vcS4, vcS5, vcS6, vc_n0, vc_lk, vc_pop, vc_rc, vc_tsw, vc_fr, vc_ar, vc_tb, mz_nx, List.set_cons_zero, List.set_cons_succ, Nat.reduceAdd, Nat.reduceBEq, Nat.reduceEqDiff, Nat.reduceLeDiff, Nat.reduceLT, Nat.reduceMul, Int.reduceToNat, Bool.false_eq_true, Bool.or_self, Bool.or_true, Bool.true_or, Bool.or_false, reduceIte, Option.toList_some, Option.toList_none, List.nil_append, List.cons_append, List.length_cons, List.length_nil, true_and, and_true, Int.cast_ofNat_Int, Int.reduceEq, Int.reduceLT, Int.reduceLE, Nat.zero_le, and_self, or_true, true_or, cdS_135]
  unfold fsR
  by_cases hlt : m (w + 5) (10 * f + t) < 1000000
  · rw [if_pos hlt]
    exact fs_loop m hf ht hn h0 hR hW hlt n 0 (by omega)
  · rw [if_neg hlt]
    refine mz_vc_ok 60 (ct := fun i => i == 7) ?_
    simp only [vcS0, vcS1, vcS2, vcS3, vcS4, vcS5, vcS6, vc_n0, vc_lk, vc_pop, vc_rc, vc_tsw, vc_fr, vc_ar, vc_tb, mz_nx, List.set_cons_zero, List.set_cons_succ, Nat.reduceAdd, Nat.reduceBEq, Nat.reduceEqDiff, Nat.reduceLeDiff, Nat.reduceLT, Nat.reduceMul, Int.reduceToNat, Bool.false_eq_true, Bool.or_self, Bool.or_true, Bool.true_or, Bool.or_false, reduceIte, Option.toList_some, Option.toList_none, List.nil_append, List.cons_append, List.length_cons, List.length_nil, true_and, and_true, Int.cast_ofNat_Int, Int.reduceEq, Int.reduceLT, Int.reduceLE, Nat.zero_le, and_self, or_true, true_or, cdS_135]
    rw [if_neg hlt]
    split <;> rfl
theorem far_ok : fwO (fun _ => 1000000) := fun j _ => by simp
def tC (w : Nat) (m : mz_M) : mz_M := fun a j =>
  if a = w then (if j = 0 then 1 else if j = 1 then 0 else if j = 2 then -1 else m a j)
  else if a = w + 1 ∧ j < 10 then 0 else if a = w + 2 ∧ j < 10 then 2 else if a = w + 3 ∧ j < 10 then 0
  else if a = w + 4 ∧ j < 100 then 1000000 else if a = w + 5 ∧ j < 100 then fwT (fun _ => 1000000) j
  else if (a = w + 7 ∨ a = w + 9 ∨ a = w + 11 ∨ a = w + 13) ∧ j = 1 then 120
  else if (a = w + 8 ∨ a = w + 10 ∨ a = w + 12 ∨ a = w + 14) ∧ j < 24 then 0 else m a j
theorem fwS_congr {T U : Nat → Int} (h : ∀ j, j < 100 → T j = U j) {o f t : Nat} (ho : o < 10) (hf : f < 10) (ht : t < 10) : ∀ j, j < 100 → fwS T o f t j = fwS U o f t j := by
  intro j hj
  unfold fwS
  rw [h j hj, h (10 * f + o) (by omega), h (10 * o + t) (by omega)]
theorem fwN_congr {T U : Nat → Int} (h : ∀ j, j < 100 → T j = U j) : ∀ k, k ≤ 1000 → ∀ j, j < 100 → fwN T k j = fwN U k j := by
  intro k
  induction k with
  | zero => intro _; exact h
  | succ k ih => intro hk; exact fwS_congr (ih (by omega)) (by omega) (by omega) (by omega)
theorem fwT_congr {T U : Nat → Int} (h : ∀ j, j < 100 → T j = U j) : ∀ j, j < 100 → fwT T j = fwT U j := by
  refine fwN_congr (fun j hj => ?_) 1000 (by omega)
  unfold dgR
  rw [h j hj]
set_option maxRecDepth 20000 in
theorem sp_tclear (m : mz_M) (w : Nat) : sp 190 [mz_r 4 0 w] m none (tC w m) := by
  refine mz_cl_vc 150 (fun _ => false) [some (mz_r 4 0 w), none, none, none, none] rfl ?_
  simp only [vcS0, vcS1, vcS2, vcS3, vcS4, vcS5, vcS6, vc_n0, vc_lk, vc_pop, vc_rc, vc_tsw, vc_fr, vc_ar, vc_tb, mz_nx, List.set_cons_zero, List.set_cons_succ, Nat.reduceAdd, Nat.reduceBEq, Nat.reduceEqDiff, Nat.reduceLeDiff, Nat.reduceLT, Nat.reduceMul, Int.reduceToNat, Bool.false_eq_true, Bool.or_self, Bool.or_true, Bool.true_or, Bool.or_false, reduceIte, Option.toList_some, Option.toList_none, List.nil_append, List.cons_append, List.length_cons, List.length_nil, true_and, and_true, Int.cast_ofNat_Int, Int.reduceEq, Int.reduceLT, Int.reduceLE, Nat.zero_le, and_self, or_true, true_or, cdS_190, Int.reduceAdd]
  refine ⟨_, _, sp_fill _ 10 (w + 1) 0 (by omega), ?_⟩
  simp only [vcS0, vcS1, vcS2, vcS3, vcS4, vcS5, vcS6, vc_n0, vc_lk, vc_pop, vc_rc, vc_tsw, vc_fr, vc_ar, vc_tb, mz_nx, List.set_cons_zero, List.set_cons_succ, Nat.reduceAdd, Nat.reduceBEq, Nat.reduceEqDiff, Nat.reduceLeDiff, Nat.reduceLT, Nat.reduceMul, Int.reduceToNat, Bool.false_eq_true, Bool.or_self, Bool.or_true, Bool.true_or, Bool.or_false, reduceIte, Option.toList_some, Option.toList_none, List.nil_append, List.cons_append, List.length_cons, List.length_nil, true_and, and_true, Int.cast_ofNat_Int, Int.reduceEq, Int.reduceLT, Int.reduceLE, Nat.zero_le, and_self, or_true, true_or, cdS_190, Int.reduceAdd]
  refine ⟨_, _, sp_fill _ 10 (w + 2) 2 (by omega), ?_⟩
  simp only [vcS0, vcS1, vcS2, vcS3, vcS4, vcS5, vcS6, vc_n0, vc_lk, vc_pop, vc_rc, vc_tsw, vc_fr, vc_ar, vc_tb, mz_nx, List.set_cons_zero, List.set_cons_succ, Nat.reduceAdd, Nat.reduceBEq, Nat.reduceEqDiff, Nat.reduceLeDiff, Nat.reduceLT, Nat.reduceMul, Int.reduceToNat, Bool.false_eq_true, Bool.or_self, Bool.or_true, Bool.true_or, Bool.or_false, reduceIte, Option.toList_some, Option.toList_none, List.nil_append, List.cons_append, List.length_cons, List.length_nil, true_and, and_true, Int.cast_ofNat_Int, Int.reduceEq, Int.reduceLT, Int.reduceLE, Nat.zero_le, and_self, or_true, true_or, cdS_190, Int.reduceAdd]
  refine ⟨_, _, sp_fill _ 10 (w + 3) 0 (by omega), ?_⟩
  simp only [vcS0, vcS1, vcS2, vcS3, vcS4, vcS5, vcS6, vc_n0, vc_lk, vc_pop, vc_rc, vc_tsw, vc_fr, vc_ar, vc_tb, mz_nx, List.set_cons_zero, List.set_cons_succ, Nat.reduceAdd, Nat.reduceBEq, Nat.reduceEqDiff, Nat.reduceLeDiff, Nat.reduceLT, Nat.reduceMul, Int.reduceToNat, Bool.false_eq_true, Bool.or_self, Bool.or_true, Bool.true_or, Bool.or_false, reduceIte, Option.toList_some, Option.toList_none, List.nil_append, List.cons_append, List.length_cons, List.length_nil, true_and, and_true, Int.cast_ofNat_Int, Int.reduceEq, Int.reduceLT, Int.reduceLE, Nat.zero_le, and_self, or_true, true_or, cdS_190, Int.reduceAdd]
  refine ⟨_, _, sp_fill _ 100 (w + 4) 1000000 (by omega), ?_⟩
  simp only [vcS0, vcS1, vcS2, vcS3, vcS4, vcS5, vcS6, vc_n0, vc_lk, vc_pop, vc_rc, vc_tsw, vc_fr, vc_ar, vc_tb, mz_nx, List.set_cons_zero, List.set_cons_succ, Nat.reduceAdd, Nat.reduceBEq, Nat.reduceEqDiff, Nat.reduceLeDiff, Nat.reduceLT, Nat.reduceMul, Int.reduceToNat, Bool.false_eq_true, Bool.or_self, Bool.or_true, Bool.true_or, Bool.or_false, reduceIte, Option.toList_some, Option.toList_none, List.nil_append, List.cons_append, List.length_cons, List.length_nil, true_and, and_true, Int.cast_ofNat_Int, Int.reduceEq, Int.reduceLT, Int.reduceLE, Nat.zero_le, and_self, or_true, true_or, cdS_190, Int.reduceAdd]
  refine ⟨_, _, sp_zclear _ (w + 7), ?_⟩
  simp only [vcS0, vcS1, vcS2, vcS3, vcS4, vcS5, vcS6, vc_n0, vc_lk, vc_pop, vc_rc, vc_tsw, vc_fr, vc_ar, vc_tb, mz_nx, List.set_cons_zero, List.set_cons_succ, Nat.reduceAdd, Nat.reduceBEq, Nat.reduceEqDiff, Nat.reduceLeDiff, Nat.reduceLT, Nat.reduceMul, Int.reduceToNat, Bool.false_eq_true, Bool.or_self, Bool.or_true, Bool.true_or, Bool.or_false, reduceIte, Option.toList_some, Option.toList_none, List.nil_append, List.cons_append, List.length_cons, List.length_nil, true_and, and_true, Int.cast_ofNat_Int, Int.reduceEq, Int.reduceLT, Int.reduceLE, Nat.zero_le, and_self, or_true, true_or, cdS_190, Int.reduceAdd]
  refine ⟨by simp [mz_w], ?_⟩
  refine ⟨_, _, sp_zclear _ (w + 9), ?_⟩
  simp only [vcS0, vcS1, vcS2, vcS3, vcS4, vcS5, vcS6, vc_n0, vc_lk, vc_pop, vc_rc, vc_tsw, vc_fr, vc_ar, vc_tb, mz_nx, List.set_cons_zero, List.set_cons_succ, Nat.reduceAdd, Nat.reduceBEq, Nat.reduceEqDiff, Nat.reduceLeDiff, Nat.reduceLT, Nat.reduceMul, Int.reduceToNat, Bool.false_eq_true, Bool.or_self, Bool.or_true, Bool.true_or, Bool.or_false, reduceIte, Option.toList_some, Option.toList_none, List.nil_append, List.cons_append, List.length_cons, List.length_nil, true_and, and_true, Int.cast_ofNat_Int, Int.reduceEq, Int.reduceLT, Int.reduceLE, Nat.zero_le, and_self, or_true, true_or, cdS_190, Int.reduceAdd]
  refine ⟨by simp [mz_w], ?_⟩
  refine ⟨_, _, sp_zclear _ (w + 11), ?_⟩
  simp only [vcS0, vcS1, vcS2, vcS3, vcS4, vcS5, vcS6, vc_n0, vc_lk, vc_pop, vc_rc, vc_tsw, vc_fr, vc_ar, vc_tb, mz_nx, List.set_cons_zero, List.set_cons_succ, Nat.reduceAdd, Nat.reduceBEq, Nat.reduceEqDiff, Nat.reduceLeDiff, Nat.reduceLT, Nat.reduceMul, Int.reduceToNat, Bool.false_eq_true, Bool.or_self, Bool.or_true, Bool.true_or, Bool.or_false, reduceIte, Option.toList_some, Option.toList_none, List.nil_append, List.cons_append, List.length_cons, List.length_nil, true_and, and_true, Int.cast_ofNat_Int, Int.reduceEq, Int.reduceLT, Int.reduceLE, Nat.zero_le, and_self, or_true, true_or, cdS_190, Int.reduceAdd]
  refine ⟨by simp [mz_w], ?_⟩
  refine ⟨_, _, sp_zclear _ (w + 13), ?_⟩
  simp only [vcS0, vcS1, vcS2, vcS3, vcS4, vcS5, vcS6, vc_n0, vc_lk, vc_pop, vc_rc, vc_tsw, vc_fr, vc_ar, vc_tb, mz_nx, List.set_cons_zero, List.set_cons_succ, Nat.reduceAdd, Nat.reduceBEq, Nat.reduceEqDiff, Nat.reduceLeDiff, Nat.reduceLT, Nat.reduceMul, Int.reduceToNat, Bool.false_eq_true, Bool.or_self, Bool.or_true, Bool.true_or, Bool.or_false, reduceIte, Option.toList_some, Option.toList_none, List.nil_append, List.cons_append, List.length_cons, List.length_nil, true_and, and_true, Int.cast_ofNat_Int, Int.reduceEq, Int.reduceLT, Int.reduceLE, Nat.zero_le, and_self, or_true, true_or, cdS_190, Int.reduceAdd]
  refine ⟨by simp [mz_w], ?_⟩
  refine ⟨_, _, sp_findWays _ w ?_, ?_⟩
  · intro j hj
    simp [up_at, hj]
  simp only [vcS0, vcS1, vcS2, vcS3, vcS4, vcS5, vcS6, vc_n0, vc_lk, vc_pop, vc_rc, vc_tsw, vc_fr, vc_ar, vc_tb, mz_nx, List.set_cons_zero, List.set_cons_succ, Nat.reduceAdd, Nat.reduceBEq, Nat.reduceEqDiff, Nat.reduceLeDiff, Nat.reduceLT, Nat.reduceMul, Int.reduceToNat, Bool.false_eq_true, Bool.or_self, Bool.or_true, Bool.true_or, Bool.or_false, reduceIte, Option.toList_some, Option.toList_none, List.nil_append, List.cons_append, List.length_cons, List.length_nil, true_and, and_true, Int.cast_ofNat_Int, Int.reduceEq, Int.reduceLT, Int.reduceLE, Nat.zero_le, and_self, or_true, true_or, cdS_190, Int.reduceAdd]
  apply congrArg
  funext a j
  by_cases h5 : a = w + 5 ∧ j < 100
  · obtain ⟨rfl, h5⟩ := h5
    rw [rowS_at h5]
    refine (fwT_congr (U := fun _ => 1000000) (fun i hi => ?_) j h5).trans ?_
    · simp [up_at, hi]
    · simp [tC, h5]
  · unfold rowS tC mz_up
    rw [if_neg h5]
    grind (splits := 60)
def tIn (b j : Nat) : Prop := (b = 0 ∧ j < 3) ∨ (b = 1 ∧ j < 10) ∨ (b = 2 ∧ j < 10) ∨ (b = 3 ∧ j < 10) ∨ (b = 4 ∧ j < 100) ∨ (b = 5 ∧ j < 100) ∨ ((b = 7 ∨ b = 9 ∨ b = 11 ∨ b = 13) ∧ j = 1) ∨ ((b = 8 ∨ b = 10 ∨ b = 12 ∨ b = 14) ∧ j < 24)
noncomputable def tCp (v w : Nat) (m : mz_M) : mz_M := fun a j => by
  classical
  exact if w ≤ a ∧ tIn (a - w) j then m (v + (a - w)) j else m a j
set_option maxRecDepth 20000 in
theorem sp_tcopy (m : mz_M) {v w : Nat} (h : v + 15 ≤ w ∨ w + 15 ≤ v) : sp 191 [mz_r 4 0 w, mz_r 4 0 v] m none (tCp v w m) := by
  refine mz_cl_vc 150 (fun _ => false) [some (mz_r 4 0 w), some (mz_r 4 0 v), none] rfl ?_
  simp only [vcS0, vcS1, vcS2, vcS3, vcS4, vcS5, vcS6, vc_n0, vc_lk, vc_pop, vc_rc, vc_tsw, vc_fr, vc_ar, vc_tb, mz_nx, List.set_cons_zero, List.set_cons_succ, Nat.reduceAdd, Nat.reduceBEq, Nat.reduceEqDiff, Nat.reduceLeDiff, Nat.reduceLT, Nat.reduceMul, Int.reduceToNat, Bool.false_eq_true, Bool.or_self, Bool.or_true, Bool.true_or, Bool.or_false, reduceIte, Option.toList_some, Option.toList_none, List.nil_append, List.cons_append, List.length_cons, List.length_nil, true_and, and_true, Int.cast_ofNat_Int, Int.reduceEq, Int.reduceLT, Int.reduceLE, Nat.zero_le, and_self, or_true, true_or, cdS_191, Int.reduceAdd]
  refine ⟨_, _, sp_copyRow _ 10 (v + 1) (w + 1), ?_⟩
  simp only [vcS0, vcS1, vcS2, vcS3, vcS4, vcS5, vcS6, vc_n0, vc_lk, vc_pop, vc_rc, vc_tsw, vc_fr, vc_ar, vc_tb, mz_nx, List.set_cons_zero, List.set_cons_succ, Nat.reduceAdd, Nat.reduceBEq, Nat.reduceEqDiff, Nat.reduceLeDiff, Nat.reduceLT, Nat.reduceMul, Int.reduceToNat, Bool.false_eq_true, Bool.or_self, Bool.or_true, Bool.true_or, Bool.or_false, reduceIte, Option.toList_some, Option.toList_none, List.nil_append, List.cons_append, List.length_cons, List.length_nil, true_and, and_true, Int.cast_ofNat_Int, Int.reduceEq, Int.reduceLT, Int.reduceLE, Nat.zero_le, and_self, or_true, true_or, cdS_191, Int.reduceAdd]
  refine ⟨_, _, sp_copyRow _ 10 (v + 2) (w + 2), ?_⟩
  simp only [vcS0, vcS1, vcS2, vcS3, vcS4, vcS5, vcS6, vc_n0, vc_lk, vc_pop, vc_rc, vc_tsw, vc_fr, vc_ar, vc_tb, mz_nx, List.set_cons_zero, List.set_cons_succ, Nat.reduceAdd, Nat.reduceBEq, Nat.reduceEqDiff, Nat.reduceLeDiff, Nat.reduceLT, Nat.reduceMul, Int.reduceToNat, Bool.false_eq_true, Bool.or_self, Bool.or_true, Bool.true_or, Bool.or_false, reduceIte, Option.toList_some, Option.toList_none, List.nil_append, List.cons_append, List.length_cons, List.length_nil, true_and, and_true, Int.cast_ofNat_Int, Int.reduceEq, Int.reduceLT, Int.reduceLE, Nat.zero_le, and_self, or_true, true_or, cdS_191, Int.reduceAdd]
  refine ⟨_, _, sp_copyRow _ 10 (v + 3) (w + 3), ?_⟩
  simp only [vcS0, vcS1, vcS2, vcS3, vcS4, vcS5, vcS6, vc_n0, vc_lk, vc_pop, vc_rc, vc_tsw, vc_fr, vc_ar, vc_tb, mz_nx, List.set_cons_zero, List.set_cons_succ, Nat.reduceAdd, Nat.reduceBEq, Nat.reduceEqDiff, Nat.reduceLeDiff, Nat.reduceLT, Nat.reduceMul, Int.reduceToNat, Bool.false_eq_true, Bool.or_self, Bool.or_true, Bool.true_or, Bool.or_false, reduceIte, Option.toList_some, Option.toList_none, List.nil_append, List.cons_append, List.length_cons, List.length_nil, true_and, and_true, Int.cast_ofNat_Int, Int.reduceEq, Int.reduceLT, Int.reduceLE, Nat.zero_le, and_self, or_true, true_or, cdS_191, Int.reduceAdd]
  refine ⟨_, _, sp_copyRow _ 100 (v + 4) (w + 4), ?_⟩
  simp only [vcS0, vcS1, vcS2, vcS3, vcS4, vcS5, vcS6, vc_n0, vc_lk, vc_pop, vc_rc, vc_tsw, vc_fr, vc_ar, vc_tb, mz_nx, List.set_cons_zero, List.set_cons_succ, Nat.reduceAdd, Nat.reduceBEq, Nat.reduceEqDiff, Nat.reduceLeDiff, Nat.reduceLT, Nat.reduceMul, Int.reduceToNat, Bool.false_eq_true, Bool.or_self, Bool.or_true, Bool.true_or, Bool.or_false, reduceIte, Option.toList_some, Option.toList_none, List.nil_append, List.cons_append, List.length_cons, List.length_nil, true_and, and_true, Int.cast_ofNat_Int, Int.reduceEq, Int.reduceLT, Int.reduceLE, Nat.zero_le, and_self, or_true, true_or, cdS_191, Int.reduceAdd]
  refine ⟨_, _, sp_copyRow _ 100 (v + 5) (w + 5), ?_⟩
  simp only [vcS0, vcS1, vcS2, vcS3, vcS4, vcS5, vcS6, vc_n0, vc_lk, vc_pop, vc_rc, vc_tsw, vc_fr, vc_ar, vc_tb, mz_nx, List.set_cons_zero, List.set_cons_succ, Nat.reduceAdd, Nat.reduceBEq, Nat.reduceEqDiff, Nat.reduceLeDiff, Nat.reduceLT, Nat.reduceMul, Int.reduceToNat, Bool.false_eq_true, Bool.or_self, Bool.or_true, Bool.true_or, Bool.or_false, reduceIte, Option.toList_some, Option.toList_none, List.nil_append, List.cons_append, List.length_cons, List.length_nil, true_and, and_true, Int.cast_ofNat_Int, Int.reduceEq, Int.reduceLT, Int.reduceLE, Nat.zero_le, and_self, or_true, true_or, cdS_191, Int.reduceAdd]
  refine ⟨_, _, sp_zcopy _ (z := w + 7) (w := v + 7) (by omega), ?_⟩
  simp only [vcS0, vcS1, vcS2, vcS3, vcS4, vcS5, vcS6, vc_n0, vc_lk, vc_pop, vc_rc, vc_tsw, vc_fr, vc_ar, vc_tb, mz_nx, List.set_cons_zero, List.set_cons_succ, Nat.reduceAdd, Nat.reduceBEq, Nat.reduceEqDiff, Nat.reduceLeDiff, Nat.reduceLT, Nat.reduceMul, Int.reduceToNat, Bool.false_eq_true, Bool.or_self, Bool.or_true, Bool.true_or, Bool.or_false, reduceIte, Option.toList_some, Option.toList_none, List.nil_append, List.cons_append, List.length_cons, List.length_nil, true_and, and_true, Int.cast_ofNat_Int, Int.reduceEq, Int.reduceLT, Int.reduceLE, Nat.zero_le, and_self, or_true, true_or, cdS_191, Int.reduceAdd]
  refine ⟨by simp [mz_w], ?_⟩
  refine ⟨_, _, sp_zcopy _ (z := w + 9) (w := v + 9) (by omega), ?_⟩
  simp only [vcS0, vcS1, vcS2, vcS3, vcS4, vcS5, vcS6, vc_n0, vc_lk, vc_pop, vc_rc, vc_tsw, vc_fr, vc_ar, vc_tb, mz_nx, List.set_cons_zero, List.set_cons_succ, Nat.reduceAdd, Nat.reduceBEq, Nat.reduceEqDiff, Nat.reduceLeDiff, Nat.reduceLT, Nat.reduceMul, Int.reduceToNat, Bool.false_eq_true, Bool.or_self, Bool.or_true, Bool.true_or, Bool.or_false, reduceIte, Option.toList_some, Option.toList_none, List.nil_append, List.cons_append, List.length_cons, List.length_nil, true_and, and_true, Int.cast_ofNat_Int, Int.reduceEq, Int.reduceLT, Int.reduceLE, Nat.zero_le, and_self, or_true, true_or, cdS_191, Int.reduceAdd]
  refine ⟨by simp [mz_w], ?_⟩
  refine ⟨_, _, sp_zcopy _ (z := w + 11) (w := v + 11) (by omega), ?_⟩
  simp only [vcS0, vcS1, vcS2, vcS3, vcS4, vcS5, vcS6, vc_n0, vc_lk, vc_pop, vc_rc, vc_tsw, vc_fr, vc_ar, vc_tb, mz_nx, List.set_cons_zero, List.set_cons_succ, Nat.reduceAdd, Nat.reduceBEq, Nat.reduceEqDiff, Nat.reduceLeDiff, Nat.reduceLT, Nat.reduceMul, Int.reduceToNat, Bool.false_eq_true, Bool.or_self, Bool.or_true, Bool.true_or, Bool.or_false, reduceIte, Option.toList_some, Option.toList_none, List.nil_append, List.cons_append, List.length_cons, List.length_nil, true_and, and_true, Int.cast_ofNat_Int, Int.reduceEq, Int.reduceLT, Int.reduceLE, Nat.zero_le, and_self, or_true, true_or, cdS_191, Int.reduceAdd]
  refine ⟨by simp [mz_w], ?_⟩
  refine ⟨_, _, sp_zcopy _ (z := w + 13) (w := v + 13) (by omega), ?_⟩
  simp only [vcS0, vcS1, vcS2, vcS3, vcS4, vcS5, vcS6, vc_n0, vc_lk, vc_pop, vc_rc, vc_tsw, vc_fr, vc_ar, vc_tb, mz_nx, List.set_cons_zero, List.set_cons_succ, Nat.reduceAdd, Nat.reduceBEq, Nat.reduceEqDiff, Nat.reduceLeDiff, Nat.reduceLT, Nat.reduceMul, Int.reduceToNat, Bool.false_eq_true, Bool.or_self, Bool.or_true, Bool.true_or, Bool.or_false, reduceIte, Option.toList_some, Option.toList_none, List.nil_append, List.cons_append, List.length_cons, List.length_nil, true_and, and_true, Int.cast_ofNat_Int, Int.reduceEq, Int.reduceLT, Int.reduceLE, Nat.zero_le, and_self, or_true, true_or, cdS_191, Int.reduceAdd]
  refine ⟨by simp [mz_w], ?_⟩
  apply congrArg
  funext a j
  unfold tCp
  split
  · rename_i hc
    obtain ⟨b, rfl⟩ := Nat.exists_eq_add_of_le hc.1
    rw [Nat.add_sub_cancel_left] at hc ⊢
    rcases hc.2 with hb | hb | hb | hb | hb | hb | ⟨hb | hb | hb | hb, rfl⟩ | ⟨hb | hb | hb | hb, hb2⟩
    · obtain ⟨rfl, hb⟩ := hb
      rcases (by omega : j = 0 ∨ j = 1 ∨ j = 2) with rfl | rfl | rfl <;> simp (disch := omega) only [up_o, up_s, up_k, cp_o, cp_s, Nat.add_zero]
    all_goals first | obtain ⟨rfl, hb⟩ := hb | subst hb
    all_goals simp (disch := omega) only [up_o, up_s, up_k, cp_o, cp_s, Nat.add_zero, Nat.add_assoc, Nat.reduceAdd]
  · rename_i hc
    have key : ∀ k, tIn k j → a ≠ w + k := fun k hk e => hc ⟨by omega, by rw [e, Nat.add_sub_cancel_left]; exact hk⟩
    have k1 : ¬(a = w + 1 ∧ j < 10) := fun h => key 1 (by unfold tIn; have := h.2; simp; omega) h.1
    have k2 : ¬(a = w + 2 ∧ j < 10) := fun h => key 2 (by unfold tIn; have := h.2; simp; omega) h.1
    have k3 : ¬(a = w + 3 ∧ j < 10) := fun h => key 3 (by unfold tIn; have := h.2; simp; omega) h.1
    have k4 : ¬(a = w + 4 ∧ j < 100) := fun h => key 4 (by unfold tIn; have := h.2; simp; omega) h.1
    have k5 : ¬(a = w + 5 ∧ j < 100) := fun h => key 5 (by unfold tIn; have := h.2; simp; omega) h.1
    have k8 : ¬(a = w + 8 ∧ j < 24) := fun h => key 8 (by unfold tIn; have := h.2; simp; omega) h.1
    have k10 : ¬(a = w + 10 ∧ j < 24) := fun h => key 10 (by unfold tIn; have := h.2; simp; omega) h.1
    have k12 : ¬(a = w + 12 ∧ j < 24) := fun h => key 12 (by unfold tIn; have := h.2; simp; omega) h.1
    have k14 : ¬(a = w + 14 ∧ j < 24) := fun h => key 14 (by unfold tIn; have := h.2; simp; omega) h.1
    have k7 : ¬(a = w + 7 ∧ j = 1) := fun h => key 7 (by unfold tIn; have := h.2; simp; omega) h.1
    have k9 : ¬(a = w + 9 ∧ j = 1) := fun h => key 9 (by unfold tIn; have := h.2; simp; omega) h.1
    have k11 : ¬(a = w + 11 ∧ j = 1) := fun h => key 11 (by unfold tIn; have := h.2; simp; omega) h.1
    have k13 : ¬(a = w + 13 ∧ j = 1) := fun h => key 13 (by unfold tIn; have := h.2; simp; omega) h.1
    have q0 : ¬(a = w ∧ j = 0) := fun h => key 0 (by unfold tIn; have := h.2; simp; omega) h.1
    have q1 : ¬(a = w ∧ j = 1) := fun h => key 0 (by unfold tIn; have := h.2; simp; omega) h.1
    have q2 : ¬(a = w ∧ j = 2) := fun h => key 0 (by unfold tIn; have := h.2; simp; omega) h.1
    rw [up_n k13, cp_n k14, up_n k11, cp_n k12, up_n k9, cp_n k10, up_n k7, cp_n k8, cp_n k5, cp_n k4, cp_n k3, cp_n k2, cp_n k1, up_n q2, up_n q1, up_n q0]
