def sgV (V T : Nat → Int) : Nat → Int := fun j => if 103 ≤ j ∧ j < 203 then T (j - 103) else V j
theorem sgV_at {V T : Nat → Int} {i : Nat} (h : i < 100) : sgV V T (103 + i) = T i := by unfold sgV; rw [if_pos (by omega), show 103 + i - 103 = i by omega]
theorem sgV_o {V T : Nat → Int} {j : Nat} (h : j < 103 ∨ 203 ≤ j) : sgV V T j = V j := by unfold sgV; rw [if_neg (by omega)]
theorem sgV_u {V T : Nat → Int} {i : Nat} {v : Int} (h : i < 100) : vU (sgV V T) (103 + i) v = sgV V (fun q => if q = i then v else T q) := by funext j; unfold vU sgV; grind
theorem fn_loop2 (m : mz_M) {o T S : Nat} {I : Nat → Nat → Bool} (V D : Nat → Int) (hD : fwO D) : ∀ (r u f t : Nat) (x : Option mz_V), u < 10 → f < 10 → t ≤ 10 → 11 * (10 * u + f) + t + r = 1100 → mz_ex 103 49 [some (mz_r 100 2430 o), some (mz_i u), some (mz_i f), some (mz_i t), x] [] (gS T S I (rO m o (sgV V (fwN D (100 * u + 10 * f + t))))) none (gS T S I (rO m o (sgV V (fwN D 1000)))) := by
  intro r
  induction r with
  | zero => intros; omega
  | succ r ih =>
    intro u f t x hu hf ht hm
    by_cases h10 : t = 10
    · subst h10
      refine mz_vc_ok 60 (ct := fun i => i == 49) ?_
      simp only [vcS0, vcS1, vcS2, vcS3, vcS4, vcS5, vcS6, vc_n0, vc_lk, vc_pop, vc_rc, vc_tsw, vc_fr, vc_ar, vc_tb, mz_nx, List.set_cons_zero, List.set_cons_succ, Nat.reduceAdd, Nat.reduceBEq, Nat.reduceEqDiff, Nat.reduceLeDiff, Nat.reduceLT, Nat.reduceMul, Int.reduceToNat, Bool.false_eq_true, Bool.or_self, Bool.or_true, Bool.true_or, Bool.or_false, reduceIte, Option.toList_some, Option.toList_none, List.nil_append, List.cons_append, List.length_cons, List.length_nil, true_and, and_true, Int.cast_ofNat_Int, Int.reduceEq, Int.reduceLT, Int.reduceLE, Nat.zero_le, and_self, or_true, true_or, cdS_103]
      by_cases hf9 : f = 9
      · subst hf9
        simp
        by_cases ho9 : u = 9
        · subst ho9
          simp [mz_w]
        · have := ih (u + 1) 0 0 x (by omega) (by omega) (by omega) (by omega)
          rw [show 100 * (u + 1) + 10 * 0 + 0 = 100 * u + 10 * 9 + 10 by omega] at this
          rw [if_pos (by omega)]
          exact ⟨by simp [mz_w], (by unfold mz_w; omega), this⟩
      · have := ih u (f + 1) 0 x (by omega) (by omega) (by omega) (by omega)
        rw [show 100 * u + 10 * (f + 1) + 0 = 100 * u + 10 * f + 10 by omega] at this
        rw [if_pos (by omega)]
        exact ⟨(by unfold mz_w; omega), this⟩
    · have hok := fwN_ok hD (100 * u + 10 * f + t) (by omega)
      have e : fwN D (100 * u + 10 * f + (t + 1)) = fwS (fwN D (100 * u + 10 * f + t)) u f t := by
        show fwN D ((100 * u + 10 * f + t) + 1) = _
        rw [fwN, show (100 * u + 10 * f + t) / 100 = u by omega, show (100 * u + 10 * f + t) / 10 % 10 = f by omega, show (100 * u + 10 * f + t) % 10 = t by omega]
      have hk := fun y => ih u f (t + 1) y hu hf (by omega) (by omega)
      rw [e] at hk
      generalize hU : fwN D (100 * u + 10 * f + t) = U at hok hk ⊢
      have e3 : fwS U u f t = fun q => if q = 10 * f + t then min (U (10 * f + t)) (U (10 * f + u) + U (10 * u + t)) else U q := by funext q; unfold fwS; split <;> simp_all
      rw [e3] at hk
      have h1 := hok (10 * f + u) (by omega)
      have h2 := hok (10 * u + t) (by omega)
      have h3 := hok (10 * f + t) (by omega)
      refine mz_vc_ok 60 (ct := fun i => i == 49) ?_
      simp only [vcS0, vcS1, vcS2, vcS3, vcS4, vcS5, vcS6, vc_n0, vc_lk, vc_pop, vc_rc, vc_tsw, vc_fr, vc_ar, vc_tb, mz_nx, List.set_cons_zero, List.set_cons_succ, Nat.reduceAdd, Nat.reduceBEq, Nat.reduceEqDiff, Nat.reduceLeDiff, Nat.reduceLT, Nat.reduceMul, Int.reduceToNat, Bool.false_eq_true, Bool.or_self, Bool.or_true, Bool.true_or, Bool.or_false, reduceIte, Option.toList_some, Option.toList_none, List.nil_append, List.cons_append, List.length_cons, List.length_nil, true_and, and_true, Int.cast_ofNat_Int, Int.reduceEq, Int.reduceLT, Int.reduceLE, Nat.zero_le, and_self, or_true, true_or, cdS_103]
      rw [if_pos (by omega)]
      rw [show (103 + 10 * (f : Int) + (u : Int)).toNat = 103 + (10 * f + u) by omega, show (103 + 10 * (u : Int) + (t : Int)).toNat = 103 + (10 * u + t) by omega, show (103 + 10 * (f : Int) + (t : Int)).toNat = 103 + (10 * f + t) by omega]
      simp only [rO_at, rO_up]
      rw [sgV_at (show 10 * f + u < 100 by omega), sgV_at (show 10 * u + t < 100 by omega), sgV_at (show 10 * f + t < 100 by omega), sgV_u (show 10 * f + t < 100 by omega)]
      (repeat' refine And.intro ?_ ?_) <;> first | (unfold mz_w; omega) | omega | exact hk _
def dgK (V : Nat → Int) (k : Nat) : Nat → Int := fun i => if i < k then dgR (fun q => V (3 + q)) 10 i else V (103 + i)
theorem dgK_s (V : Nat → Int) (k : Nat) : dgK V (k + 1) = fun i => if i = k then dgR (fun q => V (3 + q)) 10 k else dgK V k i := by funext i; unfold dgK; grind
theorem fn_loop1 (m : mz_M) {o T S : Nat} {I : Nat → Nat → Bool} (V : Nat → Int) (m' : mz_M) (hc : ∀ x, mz_ex 103 39 [some (mz_r 100 2430 o), some (mz_i 0), x, none, none] [] (gS T S I (rO m o (sgV V (dgK V 100)))) none (gS T S I m')) : ∀ (r f t : Nat), f < 10 → t ≤ 10 → 11 * f + t + r = 110 → mz_ex 103 7 [some (mz_r 100 2430 o), some (mz_i f), some (mz_i t), none, none] [] (gS T S I (rO m o (sgV V (dgK V (10 * f + t))))) none (gS T S I m') := by
  intro r
  induction r with
  | zero => intros; omega
  | succ r ih =>
    intro f t hf ht hm
    by_cases h10 : t = 10
    · subst h10
      refine mz_vc_ok 60 (ct := fun i => i == 7 || i == 39) ?_
      simp only [vcS0, vcS1, vcS2, vcS3, vcS4, vcS5, vcS6, vc_n0, vc_lk, vc_pop, vc_rc, vc_tsw, vc_fr, vc_ar, vc_tb, mz_nx, List.set_cons_zero, List.set_cons_succ, Nat.reduceAdd, Nat.reduceBEq, Nat.reduceEqDiff, Nat.reduceLeDiff, Nat.reduceLT, Nat.reduceMul, Int.reduceToNat, Bool.false_eq_true, Bool.or_self, Bool.or_true, Bool.true_or, Bool.or_false, reduceIte, Option.toList_some, Option.toList_none, List.nil_append, List.cons_append, List.length_cons, List.length_nil, true_and, and_true, Int.cast_ofNat_Int, Int.reduceEq, Int.reduceLT, Int.reduceLE, Nat.zero_le, and_self, or_true, true_or, cdS_103]
      by_cases hf9 : f = 9
      · subst hf9
        simp
        exact ⟨by simp [mz_w], hc _⟩
      · have := ih (f + 1) 0 (by omega) (by omega) (by omega)
        rw [show 10 * (f + 1) + 0 = 10 * f + 10 by omega] at this
        rw [if_pos (by omega)]
        exact ⟨(by unfold mz_w; omega), this⟩
    · have hk := ih f (t + 1) (by omega) (by omega) (by omega)
      rw [show 10 * f + (t + 1) = 10 * f + t + 1 by omega, dgK_s] at hk
      refine mz_vc_ok 60 (ct := fun i => i == 7 || i == 39) ?_
      simp only [vcS0, vcS1, vcS2, vcS3, vcS4, vcS5, vcS6, vc_n0, vc_lk, vc_pop, vc_rc, vc_tsw, vc_fr, vc_ar, vc_tb, mz_nx, List.set_cons_zero, List.set_cons_succ, Nat.reduceAdd, Nat.reduceBEq, Nat.reduceEqDiff, Nat.reduceLeDiff, Nat.reduceLT, Nat.reduceMul, Int.reduceToNat, Bool.false_eq_true, Bool.or_self, Bool.or_true, Bool.true_or, Bool.or_false, reduceIte, Option.toList_some, Option.toList_none, List.nil_append, List.cons_append, List.length_cons, List.length_nil, true_and, and_true, Int.cast_ofNat_Int, Int.reduceEq, Int.reduceLT, Int.reduceLE, Nat.zero_le, and_self, or_true, true_or, cdS_103]
      rw [if_pos (by omega)]
      rw [show (103 + 10 * (f : Int) + (t : Int)).toNat = 103 + (10 * f + t) by omega, show (3 + 10 * (f : Int) + (t : Int)).toNat = 3 + (10 * f + t) by omega]
      simp only [rO_at, rO_up]
      rw [sgV_o (show 3 + (10 * f + t) < 103 ∨ _ by omega), sgV_u (show 10 * f + t < 100 by omega), sgV_u (show 10 * f + t < 100 by omega)]
      by_cases hft : f = t
      · subst hft
        rw [if_pos rfl]
        rw [show dgR (fun q => V (3 + q)) 10 (10 * f + f) = 0 by unfold dgR; rw [if_pos (by omega)]] at hk
        (repeat' refine And.intro ?_ ?_) <;> first | (unfold mz_w; omega) | omega | exact hk
      · rw [if_neg (by omega)]
        rw [show dgR (fun q => V (3 + q)) 10 (10 * f + t) = V (3 + (10 * f + t)) by unfold dgR; rw [if_neg (by omega)]] at hk
        (repeat' refine And.intro ?_ ?_) <;> first | (unfold mz_w; omega) | omega | exact hk
def fnV (V : Nat → Int) : Nat → Int := sgV V (fwT fun q => V (3 + q))
theorem sp_finds (m : mz_M) {o T S : Nat} {I : Nat → Nat → Bool} (hR : fwO (fun q => m o (3 + q))) : mz_cl 103 [mz_r 100 2430 o] (gS T S I m) none (gS T S I (rO m o (fnV (m o)))) := by
  have hD : fwO (dgR (fun q => m o (3 + q)) 10) := by
    intro j hj
    have := hR j hj
    unfold dgR
    split <;> omega
  have e0 : sgV (m o) (dgK (m o) 0) = m o := by funext j; unfold sgV dgK; grind
  have e1 : sgV (m o) (dgK (m o) 100) = sgV (m o) (dgR (fun q => m o (3 + q)) 10) := by funext j; unfold sgV dgK; grind
  have h1 := fn_loop1 m (o := o) (T := T) (S := S) (I := I) (m o) (rO m o (fnV (m o))) (by
    intro x
    rw [e1]
    refine mz_vc_ok 60 (ct := fun i => i == 49) ?_
    simp only [vcS0, vcS1, vcS2, vcS3, vcS4, vcS5, vcS6, vc_n0, vc_lk, vc_pop, vc_rc, vc_tsw, vc_fr, vc_ar, vc_tb, mz_nx, List.set_cons_zero, List.set_cons_succ, Nat.reduceAdd, Nat.reduceBEq, Nat.reduceEqDiff, Nat.reduceLeDiff, Nat.reduceLT, Nat.reduceMul, Int.reduceToNat, Bool.false_eq_true, Bool.or_self, Bool.or_true, Bool.true_or, Bool.or_false, reduceIte, Option.toList_some, Option.toList_none, List.nil_append, List.cons_append, List.length_cons, List.length_nil, true_and, and_true, Int.cast_ofNat_Int, Int.reduceEq, Int.reduceLT, Int.reduceLE, Nat.zero_le, and_self, or_true, true_or, cdS_103]
    exact fn_loop2 m (m o) (dgR (fun q => m o (3 + q)) 10) hD 1100 0 0 0 none (by omega) (by omega) (by omega) (by omega)) 110 0 0 (by omega) (by omega) (by omega)
  rw [show 10 * 0 + 0 = 0 from rfl, e0, rO_self] at h1
  refine mz_cl_vc 60 (fun i => i == 7) [some (mz_r 100 2430 o), none, none, none, none] rfl ?_
  simp only [vcS0, vcS1, vcS2, vcS3, vcS4, vcS5, vcS6, vc_n0, vc_lk, vc_pop, vc_rc, vc_tsw, vc_fr, vc_ar, vc_tb, mz_nx, List.set_cons_zero, List.set_cons_succ, Nat.reduceAdd, Nat.reduceBEq, Nat.reduceEqDiff, Nat.reduceLeDiff, Nat.reduceLT, Nat.reduceMul, Int.reduceToNat, Bool.false_eq_true, Bool.or_self, Bool.or_true, Bool.true_or, Bool.or_false, reduceIte, Option.toList_some, Option.toList_none, List.nil_append, List.cons_append, List.length_cons, List.length_nil, true_and, and_true, Int.cast_ofNat_Int, Int.reduceEq, Int.reduceLT, Int.reduceLE, Nat.zero_le, and_self, or_true, true_or, cdS_103]
  exact h1
theorem sp_X9_save (m : mz_M) (x : Int) : sp 119 [mz_r 9 0 153, mz_i x] m (some (mz_i (if 0 ≤ x ∧ x ≤ 1 then m 154 2 else -1))) (if 0 ≤ x ∧ x ≤ 1 then mz_up (cpR (mz_up m 153 4 0) 154 0 156 x.toNat) 157 x.toNat 1 else mz_up m 153 4 0) := by
  refine mz_cl_vc 60 (fun _ => false) [some (mz_r 9 0 153), some (mz_i x)] rfl ?_
  simp only [vcS0, vcS1, vcS2, vcS3, vcS4, vcS5, vcS6, vc_n0, vc_lk, vc_pop, vc_rc, vc_tsw, vc_fr, vc_ar, vc_tb, mz_nx, List.set_cons_zero, List.set_cons_succ, Nat.reduceAdd, Nat.reduceBEq, Nat.reduceEqDiff, Nat.reduceLeDiff, Nat.reduceLT, Nat.reduceMul, Int.reduceToNat, Bool.false_eq_true, Bool.or_self, Bool.or_true, Bool.true_or, Bool.or_false, reduceIte, Option.toList_some, Option.toList_none, List.nil_append, List.cons_append, List.length_cons, List.length_nil, true_and, and_true, Int.cast_ofNat_Int, Int.reduceEq, Int.reduceLT, Int.reduceLE, Nat.zero_le, and_self, or_true, true_or, cdS_119]
  refine ⟨_, _, sp_in _ x 0 1, ?_⟩
  by_cases h1 : 0 ≤ x ∧ x ≤ 1
  · rw [if_pos h1, if_pos h1, if_pos h1]
    obtain ⟨j, rfl⟩ := nat_i h1.1
    simp only [Int.toNat_natCast]
    simp only [vcS0, vcS1, vcS2, vcS3, vcS4, vcS5, vcS6, vc_n0, vc_lk, vc_pop, vc_rc, vc_tsw, vc_fr, vc_ar, vc_tb, mz_nx, List.set_cons_zero, List.set_cons_succ, Nat.reduceAdd, Nat.reduceBEq, Nat.reduceEqDiff, Nat.reduceLeDiff, Nat.reduceLT, Nat.reduceMul, Int.reduceToNat, Bool.false_eq_true, Bool.or_self, Bool.or_true, Bool.true_or, Bool.or_false, reduceIte, Option.toList_some, Option.toList_none, List.nil_append, List.cons_append, List.length_cons, List.length_nil, true_and, and_true, Int.cast_ofNat_Int, Int.reduceEq, Int.reduceLT, Int.reduceLE, Nat.zero_le, and_self, or_true, true_or, cdS_119]
    refine ⟨_, _, sp_copies (mz_up m 153 4 0) (n1 := 2430) (n2 := 4860) (o := 154) (h := 0) (d := 156) (t := j) (by omega) (by omega) (by omega) (by omega) (by omega), ?_⟩
    simp only [vcS0, vcS1, vcS2, vcS3, vcS4, vcS5, vcS6, vc_n0, vc_lk, vc_pop, vc_rc, vc_tsw, vc_fr, vc_ar, vc_tb, mz_nx, List.set_cons_zero, List.set_cons_succ, Nat.reduceAdd, Nat.reduceBEq, Nat.reduceEqDiff, Nat.reduceLeDiff, Nat.reduceLT, Nat.reduceMul, Int.reduceToNat, Bool.false_eq_true, Bool.or_self, Bool.or_true, Bool.true_or, Bool.or_false, reduceIte, Option.toList_some, Option.toList_none, List.nil_append, List.cons_append, List.length_cons, List.length_nil, true_and, and_true, Int.cast_ofNat_Int, Int.reduceEq, Int.reduceLT, Int.reduceLE, Nat.zero_le, and_self, or_true, true_or, cdS_119]
    rw [Int.toNat_natCast, up_o (by omega), show cpR (mz_up m 153 4 0) 154 0 156 j 154 2 = m 154 2 by unfold cpR; rw [if_neg (by omega), up_o (by omega)]]
    all_goals ((repeat' refine And.intro ?_ ?_) <;> first | trivial | rfl | (unfold mz_w; omega) | omega)
  · rw [if_neg h1, if_neg h1, if_neg h1]
    simp only [vcS0, vcS1, vcS2, vcS3, vcS4, vcS5, vcS6, vc_n0, vc_lk, vc_pop, vc_rc, vc_tsw, vc_fr, vc_ar, vc_tb, mz_nx, List.set_cons_zero, List.set_cons_succ, Nat.reduceAdd, Nat.reduceBEq, Nat.reduceEqDiff, Nat.reduceLeDiff, Nat.reduceLT, Nat.reduceMul, Int.reduceToNat, Bool.false_eq_true, Bool.or_self, Bool.or_true, Bool.true_or, Bool.or_false, reduceIte, Option.toList_some, Option.toList_none, List.nil_append, List.cons_append, List.length_cons, List.length_nil, true_and, and_true, Int.cast_ofNat_Int, Int.reduceEq, Int.reduceLT, Int.reduceLE, Nat.zero_le, and_self, or_true, true_or, cdS_119]
theorem sp_X9_restore (m : mz_M) (x : Int) : sp 117 [mz_r 9 0 153, mz_i x] m (some (mz_i (if 0 ≤ x ∧ x ≤ 1 then (if m 157 x.toNat = 0 then -3 else m 156 (2430 * x.toNat + 2)) else -1))) (if (0 ≤ x ∧ x ≤ 1) ∧ ¬ m 157 x.toNat = 0 then cpR (mz_up m 153 4 0) 156 x.toNat 154 0 else mz_up m 153 4 0) := by
  refine mz_cl_vc 60 (fun _ => false) [some (mz_r 9 0 153), some (mz_i x)] rfl ?_
  simp only [vcS0, vcS1, vcS2, vcS3, vcS4, vcS5, vcS6, vc_n0, vc_lk, vc_pop, vc_rc, vc_tsw, vc_fr, vc_ar, vc_tb, mz_nx, List.set_cons_zero, List.set_cons_succ, Nat.reduceAdd, Nat.reduceBEq, Nat.reduceEqDiff, Nat.reduceLeDiff, Nat.reduceLT, Nat.reduceMul, Int.reduceToNat, Bool.false_eq_true, Bool.or_self, Bool.or_true, Bool.true_or, Bool.or_false, reduceIte, Option.toList_some, Option.toList_none, List.nil_append, List.cons_append, List.length_cons, List.length_nil, true_and, and_true, Int.cast_ofNat_Int, Int.reduceEq, Int.reduceLT, Int.reduceLE, Nat.zero_le, and_self, or_true, true_or, cdS_117]
  refine ⟨_, _, sp_in _ x 0 1, ?_⟩
  by_cases h1 : 0 ≤ x ∧ x ≤ 1
  · rw [if_pos h1, if_pos h1]
    obtain ⟨j, rfl⟩ := nat_i h1.1
    simp only [Int.toNat_natCast]
    simp only [vcS0, vcS1, vcS2, vcS3, vcS4, vcS5, vcS6, vc_n0, vc_lk, vc_pop, vc_rc, vc_tsw, vc_fr, vc_ar, vc_tb, mz_nx, List.set_cons_zero, List.set_cons_succ, Nat.reduceAdd, Nat.reduceBEq, Nat.reduceEqDiff, Nat.reduceLeDiff, Nat.reduceLT, Nat.reduceMul, Int.reduceToNat, Bool.false_eq_true, Bool.or_self, Bool.or_true, Bool.true_or, Bool.or_false, reduceIte, Option.toList_some, Option.toList_none, List.nil_append, List.cons_append, List.length_cons, List.length_nil, true_and, and_true, Int.cast_ofNat_Int, Int.reduceEq, Int.reduceLT, Int.reduceLE, Nat.zero_le, and_self, or_true, true_or, cdS_117]
    rw [Int.toNat_natCast, up_o (show 157 ≠ 153 by omega)]
    refine ⟨by omega, ?_⟩
    by_cases h2 : m 157 j = 0
    · rw [if_pos h2, if_pos h2, if_neg (fun q => q.2 h2)]
      all_goals ((repeat' refine And.intro ?_ ?_) <;> first | trivial | rfl | (unfold mz_w; omega) | omega)
    · rw [if_neg h2, if_neg h2, if_pos ⟨h1, h2⟩]
      refine ⟨_, _, sp_copies (mz_up m 153 4 0) (n1 := 4860) (n2 := 2430) (o := 156) (h := j) (d := 154) (t := 0) (by omega) (by omega) (by omega) (by omega) (by omega), ?_⟩
      simp only [vcS0, vcS1, vcS2, vcS3, vcS4, vcS5, vcS6, vc_n0, vc_lk, vc_pop, vc_rc, vc_tsw, vc_fr, vc_ar, vc_tb, mz_nx, List.set_cons_zero, List.set_cons_succ, Nat.reduceAdd, Nat.reduceBEq, Nat.reduceEqDiff, Nat.reduceLeDiff, Nat.reduceLT, Nat.reduceMul, Int.reduceToNat, Bool.false_eq_true, Bool.or_self, Bool.or_true, Bool.true_or, Bool.or_false, reduceIte, Option.toList_some, Option.toList_none, List.nil_append, List.cons_append, List.length_cons, List.length_nil, true_and, and_true, Int.cast_ofNat_Int, Int.reduceEq, Int.reduceLT, Int.reduceLE, Nat.zero_le, and_self, or_true, true_or, cdS_117]
      rw [show cpR (mz_up m 153 4 0) 156 j 154 0 154 2 = m 156 (2430 * j + 2) by unfold cpR; rw [if_pos (by omega), up_o (by omega)]]
      all_goals ((repeat' refine And.intro ?_ ?_) <;> first | trivial | rfl | (unfold mz_w; omega) | omega)
  · rw [if_neg h1, if_neg h1, if_neg (fun q => h1 q.1)]
    simp only [vcS0, vcS1, vcS2, vcS3, vcS4, vcS5, vcS6, vc_n0, vc_lk, vc_pop, vc_rc, vc_tsw, vc_fr, vc_ar, vc_tb, mz_nx, List.set_cons_zero, List.set_cons_succ, Nat.reduceAdd, Nat.reduceBEq, Nat.reduceEqDiff, Nat.reduceLeDiff, Nat.reduceLT, Nat.reduceMul, Int.reduceToNat, Bool.false_eq_true, Bool.or_self, Bool.or_true, Bool.true_or, Bool.or_false, reduceIte, Option.toList_some, Option.toList_none, List.nil_append, List.cons_append, List.length_cons, List.length_nil, true_and, and_true, Int.cast_ofNat_Int, Int.reduceEq, Int.reduceLT, Int.reduceLE, Nat.zero_le, and_self, or_true, true_or, cdS_117]
