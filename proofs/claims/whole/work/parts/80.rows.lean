/-! The model: whole rows: copies, beginnings, ways. In any state, for the constructor too. -/
abbrev gS (t s : Nat) (I : Nat → Nat → Bool) (m : mz_M) : mz_S := (t, s, I, m)
def cpR (m : mz_M) (o h d t : Nat) : mz_M := fun a j => if a = d ∧ 2430 * t ≤ j ∧ j < 2430 * t + 2430 then m o (2430 * h + (j - 2430 * t)) else m a j
theorem co_loop (m : mz_M) {n1 n2 o h d t : Nat} (hod : o ≠ d) (h1 : 2430 * h + 2430 ≤ n1) (h2 : 2430 * t + 2430 ≤ n2) (hh : h < 100) (htt : t < 100) : ∀ (r j : Nat), j + r = 2430 → sx 36 2 [some (mz_r 100 n1 o), some (mz_i h), some (mz_r 100 n2 d), some (mz_i t), some (mz_i j)] [] (fun a i => if a = d ∧ 2430 * t ≤ i ∧ i < 2430 * t + j then m o (2430 * h + (i - 2430 * t)) else m a i) none (cpR m o h d t) := by
  intro r
  induction r with
  | zero =>
    intro j hj
    obtain rfl : j = 2430 := by omega
    refine mz_vc_ok 60 (ct := fun i => i == 2) ?_
    simp only [vcS0, vcS1, vcS2, vcS3, vcS4, vcS5, vcS6, vc_n0, vc_lk, vc_pop, vc_rc, vc_tsw, vc_fr, vc_ar, vc_tb, mz_nx, List.set_cons_zero, List.set_cons_succ, Nat.reduceAdd, Nat.reduceBEq, Nat.reduceEqDiff, Nat.reduceLeDiff, Nat.reduceLT, Nat.reduceMul, Int.reduceToNat, Bool.false_eq_true, Bool.or_self, Bool.or_true, Bool.true_or, Bool.or_false, reduceIte, Option.toList_some, Option.toList_none, List.nil_append, List.cons_append, List.length_cons, List.length_nil, true_and, and_true, Int.cast_ofNat_Int, Int.reduceEq, Int.reduceLT, Int.reduceLE, Nat.zero_le, and_self, or_true, true_or, cdS_36]
    rfl
  | succ r ih =>
    intro j hj
    have hk := ih (j + 1) (by omega)
    refine mz_vc_ok 60 (ct := fun i => i == 2) ?_
    simp only [vcS0, vcS1, vcS2, vcS3, vcS4, vcS5, vcS6, vc_n0, vc_lk, vc_pop, vc_rc, vc_tsw, vc_fr, vc_ar, vc_tb, mz_nx, List.set_cons_zero, List.set_cons_succ, Nat.reduceAdd, Nat.reduceBEq, Nat.reduceEqDiff, Nat.reduceLeDiff, Nat.reduceLT, Nat.reduceMul, Int.reduceToNat, Bool.false_eq_true, Bool.or_self, Bool.or_true, Bool.true_or, Bool.or_false, reduceIte, Option.toList_some, Option.toList_none, List.nil_append, List.cons_append, List.length_cons, List.length_nil, true_and, and_true, Int.cast_ofNat_Int, Int.reduceEq, Int.reduceLT, Int.reduceLE, Nat.zero_le, and_self, or_true, true_or, cdS_36]
    rw [if_pos (by omega)]
    rw [show (2430 * (t : Int) + (j : Int)).toNat = 2430 * t + j by omega, show (2430 * (h : Int) + (j : Int)).toNat = 2430 * h + j by omega]
    refine ⟨(by unfold mz_w; omega), (by unfold mz_w; omega), (by unfold mz_w; omega), (by unfold mz_w; omega), by omega, by omega, (by unfold mz_w; omega), ?_⟩
    have e : (fun a i => if a = d ∧ 2430 * t ≤ i ∧ i < 2430 * t + (j + 1) then m o (2430 * h + (i - 2430 * t)) else m a i) = mz_up (fun a i => if a = d ∧ 2430 * t ≤ i ∧ i < 2430 * t + j then m o (2430 * h + (i - 2430 * t)) else m a i) d (2430 * t + j) (if o = d ∧ 2430 * t ≤ 2430 * h + j ∧ 2430 * h + j < 2430 * t + j then m o (2430 * h + (2430 * h + j - 2430 * t)) else m o (2430 * h + j)) := by
      rw [if_neg (fun q => hod q.1)]
      funext a i
      unfold mz_up
      by_cases q : a = d ∧ i = 2430 * t + j
      · rw [if_pos q, if_pos (by omega), show 2430 * h + (i - 2430 * t) = 2430 * h + j by omega]
      · rw [if_neg q]
        by_cases q2 : a = d ∧ 2430 * t ≤ i ∧ i < 2430 * t + j
        · simp only [if_pos q2]; rw [if_pos (by omega)]
        · simp only [if_neg q2]; rw [if_neg (by omega)]
    rw [e] at hk
    exact hk
theorem sp_copies (m : mz_M) {n1 n2 o h d t : Nat} (hod : o ≠ d) (h1 : 2430 * h + 2430 ≤ n1) (h2 : 2430 * t + 2430 ≤ n2) (hh : h < 100) (htt : t < 100) : sp 36 [mz_r 100 n1 o, mz_i h, mz_r 100 n2 d, mz_i t] m none (cpR m o h d t) := by
  refine mz_cl_vc 60 (fun i => i == 2) [some (mz_r 100 n1 o), some (mz_i h), some (mz_r 100 n2 d), some (mz_i t), none] rfl ?_
  simp only [vcS0, vcS1, vcS2, vcS3, vcS4, vcS5, vcS6, vc_n0, vc_lk, vc_pop, vc_rc, vc_tsw, vc_fr, vc_ar, vc_tb, mz_nx, List.set_cons_zero, List.set_cons_succ, Nat.reduceAdd, Nat.reduceBEq, Nat.reduceEqDiff, Nat.reduceLeDiff, Nat.reduceLT, Nat.reduceMul, Int.reduceToNat, Bool.false_eq_true, Bool.or_self, Bool.or_true, Bool.true_or, Bool.or_false, reduceIte, Option.toList_some, Option.toList_none, List.nil_append, List.cons_append, List.length_cons, List.length_nil, true_and, and_true, Int.cast_ofNat_Int, Int.reduceEq, Int.reduceLT, Int.reduceLE, Nat.zero_le, and_self, or_true, true_or, cdS_36]
  have := co_loop m hod h1 h2 hh htt 2430 0 rfl
  rw [show (fun a i => if a = d ∧ 2430 * t ≤ i ∧ i < 2430 * t + 0 then m o (2430 * h + (i - 2430 * t)) else m a i) = m by funext a i; rw [if_neg (by omega)]] at this
  exact this
def bgV (places : Int) (j : Nat) : Int := if j = 0 then places else if j = 1 then -3 else if 213 ≤ j ∧ j < 223 then 2 else if 329 ≤ j ∧ j < 333 then 120 else if 3 ≤ j ∧ j < 103 then 1000000 else 0
/-- a row that begins: V is what stands there -/
def rO (m : mz_M) (o : Nat) (V : Nat → Int) : mz_M := fun a j => if a = o then V j else m a j
theorem rO_up (m : mz_M) (o : Nat) (V : Nat → Int) (j : Nat) (v : Int) : mz_up (rO m o V) o j v = rO m o (vU V j v) := by funext a i; unfold mz_up rO vU; grind
theorem rO_at (m : mz_M) (o : Nat) (V : Nat → Int) : rO m o V o = V := by funext j; exact if_pos rfl
theorem rO_self (m : mz_M) (o : Nat) : rO m o (m o) = m := by
  funext a j
  unfold rO
  split
  · rename_i h; rw [h]
  · rfl
def fil (V : Nat → Int) (b n : Nat) (v : Int) : Nat → Int := fun j => if b ≤ j ∧ j < b + n then v else V j
theorem fil_s (V : Nat → Int) (b n : Nat) (v : Int) : vU (fil V b n v) (b + n) v = fil V b (n + 1) v := by funext j; unfold vU fil; grind
theorem fil_0 (V : Nat → Int) (b : Nat) (v : Int) : fil V b 0 v = V := by funext j; unfold fil; rw [if_neg (by omega)]
theorem bg_l1 (m : mz_M) {o T S : Nat} {I : Nat → Nat → Bool} (p : Int) (W : Nat → Int) (r0 : Option mz_V) (m' : mz_M) (hc : mz_ex 34 2 [some (mz_r 100 2430 o), some (mz_i p), some (mz_i 2430)] [] (gS T S I (rO m o (fil W 0 2430 0))) r0 (gS T S I m')) : ∀ (r j : Nat), j + r = 2430 → mz_ex 34 2 [some (mz_r 100 2430 o), some (mz_i p), some (mz_i j)] [] (gS T S I (rO m o (fil W 0 j 0))) r0 (gS T S I m') := by
  intro r
  induction r with
  | zero =>
    intro j hj
    obtain rfl : j = 2430 := by omega
    exact hc
  | succ r ih =>
    intro j hj
    have hk := ih (j + 1) (by omega)
    refine mz_vc_ok 60 (ct := fun i => i == 2 || i == 21) ?_
    simp only [vcS0, vcS1, vcS2, vcS3, vcS4, vcS5, vcS6, vc_n0, vc_lk, vc_pop, vc_rc, vc_tsw, vc_fr, vc_ar, vc_tb, mz_nx, List.set_cons_zero, List.set_cons_succ, Nat.reduceAdd, Nat.reduceBEq, Nat.reduceEqDiff, Nat.reduceLeDiff, Nat.reduceLT, Nat.reduceMul, Int.reduceToNat, Bool.false_eq_true, Bool.or_self, Bool.or_true, Bool.true_or, Bool.or_false, reduceIte, Option.toList_some, Option.toList_none, List.nil_append, List.cons_append, List.length_cons, List.length_nil, true_and, and_true, Int.cast_ofNat_Int, Int.reduceEq, Int.reduceLT, Int.reduceLE, Nat.zero_le, and_self, or_true, true_or, cdS_34]
    rw [if_pos (by omega), Int.toNat_natCast, rO_up]
    rw [← fil_s, Nat.zero_add] at hk
    exact ⟨by omega, (by unfold mz_w; omega), hk⟩
theorem bg_l2 (m : mz_M) {o T S : Nat} {I : Nat → Nat → Bool} (p : Int) (W : Nat → Int) (r0 : Option mz_V) (m' : mz_M) (hc : mz_ex 34 21 [some (mz_r 100 2430 o), some (mz_i p), some (mz_i 10)] [] (gS T S I (rO m o (fil W 213 10 2))) r0 (gS T S I m')) : ∀ (r j : Nat), j + r = 10 → mz_ex 34 21 [some (mz_r 100 2430 o), some (mz_i p), some (mz_i j)] [] (gS T S I (rO m o (fil W 213 j 2))) r0 (gS T S I m') := by
  intro r
  induction r with
  | zero =>
    intro j hj
    obtain rfl : j = 10 := by omega
    exact hc
  | succ r ih =>
    intro j hj
    have hk := ih (j + 1) (by omega)
    refine mz_vc_ok 60 (ct := fun i => i == 21 || i == 34) ?_
    simp only [vcS0, vcS1, vcS2, vcS3, vcS4, vcS5, vcS6, vc_n0, vc_lk, vc_pop, vc_rc, vc_tsw, vc_fr, vc_ar, vc_tb, mz_nx, List.set_cons_zero, List.set_cons_succ, Nat.reduceAdd, Nat.reduceBEq, Nat.reduceEqDiff, Nat.reduceLeDiff, Nat.reduceLT, Nat.reduceMul, Int.reduceToNat, Bool.false_eq_true, Bool.or_self, Bool.or_true, Bool.true_or, Bool.or_false, reduceIte, Option.toList_some, Option.toList_none, List.nil_append, List.cons_append, List.length_cons, List.length_nil, true_and, and_true, Int.cast_ofNat_Int, Int.reduceEq, Int.reduceLT, Int.reduceLE, Nat.zero_le, and_self, or_true, true_or, cdS_34]
    rw [if_pos (by omega), show (213 + (j : Int)).toNat = 213 + j by omega, rO_up]
    rw [← fil_s] at hk
    exact ⟨(by unfold mz_w; omega), by omega, (by unfold mz_w; omega), hk⟩
theorem bg_l3 (m : mz_M) {o T S : Nat} {I : Nat → Nat → Bool} (p : Int) (W : Nat → Int) (r0 : Option mz_V) (m' : mz_M) (hc : mz_ex 34 34 [some (mz_r 100 2430 o), some (mz_i p), some (mz_i 4)] [] (gS T S I (rO m o (fil W 329 4 120))) r0 (gS T S I m')) : ∀ (r j : Nat), j + r = 4 → mz_ex 34 34 [some (mz_r 100 2430 o), some (mz_i p), some (mz_i j)] [] (gS T S I (rO m o (fil W 329 j 120))) r0 (gS T S I m') := by
  intro r
  induction r with
  | zero =>
    intro j hj
    obtain rfl : j = 4 := by omega
    exact hc
  | succ r ih =>
    intro j hj
    have hk := ih (j + 1) (by omega)
    refine mz_vc_ok 60 (ct := fun i => i == 34 || i == 47) ?_
    simp only [vcS0, vcS1, vcS2, vcS3, vcS4, vcS5, vcS6, vc_n0, vc_lk, vc_pop, vc_rc, vc_tsw, vc_fr, vc_ar, vc_tb, mz_nx, List.set_cons_zero, List.set_cons_succ, Nat.reduceAdd, Nat.reduceBEq, Nat.reduceEqDiff, Nat.reduceLeDiff, Nat.reduceLT, Nat.reduceMul, Int.reduceToNat, Bool.false_eq_true, Bool.or_self, Bool.or_true, Bool.true_or, Bool.or_false, reduceIte, Option.toList_some, Option.toList_none, List.nil_append, List.cons_append, List.length_cons, List.length_nil, true_and, and_true, Int.cast_ofNat_Int, Int.reduceEq, Int.reduceLT, Int.reduceLE, Nat.zero_le, and_self, or_true, true_or, cdS_34]
    rw [if_pos (by omega), show (329 + (j : Int)).toNat = 329 + j by omega, rO_up]
    rw [← fil_s] at hk
    exact ⟨(by unfold mz_w; omega), by omega, (by unfold mz_w; omega), hk⟩
theorem bg_l4 (m : mz_M) {o T S : Nat} {I : Nat → Nat → Bool} (p : Int) (W : Nat → Int) : ∀ (r j : Nat), j + r = 100 → mz_ex 34 47 [some (mz_r 100 2430 o), some (mz_i p), some (mz_i j)] [] (gS T S I (rO m o (fil W 3 j 1000000))) none (gS T S I (rO m o (fil W 3 100 1000000))) := by
  intro r
  induction r with
  | zero =>
    intro j hj
    obtain rfl : j = 100 := by omega
    refine mz_vc_ok 60 (ct := fun i => i == 47) ?_
    simp only [vcS0, vcS1, vcS2, vcS3, vcS4, vcS5, vcS6, vc_n0, vc_lk, vc_pop, vc_rc, vc_tsw, vc_fr, vc_ar, vc_tb, mz_nx, List.set_cons_zero, List.set_cons_succ, Nat.reduceAdd, Nat.reduceBEq, Nat.reduceEqDiff, Nat.reduceLeDiff, Nat.reduceLT, Nat.reduceMul, Int.reduceToNat, Bool.false_eq_true, Bool.or_self, Bool.or_true, Bool.true_or, Bool.or_false, reduceIte, Option.toList_some, Option.toList_none, List.nil_append, List.cons_append, List.length_cons, List.length_nil, true_and, and_true, Int.cast_ofNat_Int, Int.reduceEq, Int.reduceLT, Int.reduceLE, Nat.zero_le, and_self, or_true, true_or, cdS_34]
  | succ r ih =>
    intro j hj
    have hk := ih (j + 1) (by omega)
    refine mz_vc_ok 60 (ct := fun i => i == 47) ?_
    simp only [vcS0, vcS1, vcS2, vcS3, vcS4, vcS5, vcS6, vc_n0, vc_lk, vc_pop, vc_rc, vc_tsw, vc_fr, vc_ar, vc_tb, mz_nx, List.set_cons_zero, List.set_cons_succ, Nat.reduceAdd, Nat.reduceBEq, Nat.reduceEqDiff, Nat.reduceLeDiff, Nat.reduceLT, Nat.reduceMul, Int.reduceToNat, Bool.false_eq_true, Bool.or_self, Bool.or_true, Bool.true_or, Bool.or_false, reduceIte, Option.toList_some, Option.toList_none, List.nil_append, List.cons_append, List.length_cons, List.length_nil, true_and, and_true, Int.cast_ofNat_Int, Int.reduceEq, Int.reduceLT, Int.reduceLE, Nat.zero_le, and_self, or_true, true_or, cdS_34]
    rw [if_pos (by omega), show (3 + (j : Int)).toNat = 3 + j by omega, rO_up]
    rw [← fil_s] at hk
    exact ⟨(by unfold mz_w; omega), by omega, (by unfold mz_w; omega), hk⟩
theorem sp_begins (m : mz_M) {o T S : Nat} {I : Nat → Nat → Bool} (p : Int) : mz_cl 34 [mz_r 100 2430 o, mz_i p] (gS T S I m) none (gS T S I (rO m o (fun j => if j < 2430 then bgV p j else m o j))) := by
  have e : fil (fil (fil (vU (vU (fil (m o) 0 2430 0) 0 p) 1 (-3)) 213 10 2) 329 4 120) 3 100 1000000 = fun j => if j < 2430 then bgV p j else m o j := by
    funext j
    unfold fil vU bgV
    grind
  rw [← e]
  refine mz_cl_vc 60 (fun i => i == 2) [some (mz_r 100 2430 o), some (mz_i p), none] rfl ?_
  simp only [vcS0, vcS1, vcS2, vcS3, vcS4, vcS5, vcS6, vc_n0, vc_lk, vc_pop, vc_rc, vc_tsw, vc_fr, vc_ar, vc_tb, mz_nx, List.set_cons_zero, List.set_cons_succ, Nat.reduceAdd, Nat.reduceBEq, Nat.reduceEqDiff, Nat.reduceLeDiff, Nat.reduceLT, Nat.reduceMul, Int.reduceToNat, Bool.false_eq_true, Bool.or_self, Bool.or_true, Bool.true_or, Bool.or_false, reduceIte, Option.toList_some, Option.toList_none, List.nil_append, List.cons_append, List.length_cons, List.length_nil, true_and, and_true, Int.cast_ofNat_Int, Int.reduceEq, Int.reduceLT, Int.reduceLE, Nat.zero_le, and_self, or_true, true_or, cdS_34]
  have h1 := bg_l1 m (o := o) (T := T) (S := S) (I := I) p (m o) none (rO m o (fil (fil (fil (vU (vU (fil (m o) 0 2430 0) 0 p) 1 (-3)) 213 10 2) 329 4 120) 3 100 1000000)) ?_ 2430 0 rfl
  · rw [fil_0, rO_self] at h1
    exact h1
  · skip
    refine mz_vc_ok 60 (ct := fun i => i == 2 || i == 21) ?_
    simp only [vcS0, vcS1, vcS2, vcS3, vcS4, vcS5, vcS6, vc_n0, vc_lk, vc_pop, vc_rc, vc_tsw, vc_fr, vc_ar, vc_tb, mz_nx, List.set_cons_zero, List.set_cons_succ, Nat.reduceAdd, Nat.reduceBEq, Nat.reduceEqDiff, Nat.reduceLeDiff, Nat.reduceLT, Nat.reduceMul, Int.reduceToNat, Bool.false_eq_true, Bool.or_self, Bool.or_true, Bool.true_or, Bool.or_false, reduceIte, Option.toList_some, Option.toList_none, List.nil_append, List.cons_append, List.length_cons, List.length_nil, true_and, and_true, Int.cast_ofNat_Int, Int.reduceEq, Int.reduceLT, Int.reduceLE, Nat.zero_le, and_self, or_true, true_or, cdS_34]
    rw [rO_up, rO_up]
    have h2 := bg_l2 m (o := o) (T := T) (S := S) (I := I) p (vU (vU (fil (m o) 0 2430 0) 0 p) 1 (-3)) none (rO m o (fil (fil (fil (vU (vU (fil (m o) 0 2430 0) 0 p) 1 (-3)) 213 10 2) 329 4 120) 3 100 1000000)) ?_ 10 0 rfl
    · rw [fil_0] at h2
      exact h2
    · skip
      refine mz_vc_ok 60 (ct := fun i => i == 21 || i == 34) ?_
      simp only [vcS0, vcS1, vcS2, vcS3, vcS4, vcS5, vcS6, vc_n0, vc_lk, vc_pop, vc_rc, vc_tsw, vc_fr, vc_ar, vc_tb, mz_nx, List.set_cons_zero, List.set_cons_succ, Nat.reduceAdd, Nat.reduceBEq, Nat.reduceEqDiff, Nat.reduceLeDiff, Nat.reduceLT, Nat.reduceMul, Int.reduceToNat, Bool.false_eq_true, Bool.or_self, Bool.or_true, Bool.true_or, Bool.or_false, reduceIte, Option.toList_some, Option.toList_none, List.nil_append, List.cons_append, List.length_cons, List.length_nil, true_and, and_true, Int.cast_ofNat_Int, Int.reduceEq, Int.reduceLT, Int.reduceLE, Nat.zero_le, and_self, or_true, true_or, cdS_34]
      have h3 := bg_l3 m (o := o) (T := T) (S := S) (I := I) p (fil (vU (vU (fil (m o) 0 2430 0) 0 p) 1 (-3)) 213 10 2) none (rO m o (fil (fil (fil (vU (vU (fil (m o) 0 2430 0) 0 p) 1 (-3)) 213 10 2) 329 4 120) 3 100 1000000)) ?_ 4 0 rfl
      · rw [fil_0] at h3
        exact h3
      · skip
        refine mz_vc_ok 60 (ct := fun i => i == 34 || i == 47) ?_
        simp only [vcS0, vcS1, vcS2, vcS3, vcS4, vcS5, vcS6, vc_n0, vc_lk, vc_pop, vc_rc, vc_tsw, vc_fr, vc_ar, vc_tb, mz_nx, List.set_cons_zero, List.set_cons_succ, Nat.reduceAdd, Nat.reduceBEq, Nat.reduceEqDiff, Nat.reduceLeDiff, Nat.reduceLT, Nat.reduceMul, Int.reduceToNat, Bool.false_eq_true, Bool.or_self, Bool.or_true, Bool.true_or, Bool.or_false, reduceIte, Option.toList_some, Option.toList_none, List.nil_append, List.cons_append, List.length_cons, List.length_nil, true_and, and_true, Int.cast_ofNat_Int, Int.reduceEq, Int.reduceLT, Int.reduceLE, Nat.zero_le, and_self, or_true, true_or, cdS_34]
        have h4 := bg_l4 m (o := o) (T := T) (S := S) (I := I) p (fil (fil (vU (vU (fil (m o) 0 2430 0) 0 p) 1 (-3)) 213 10 2) 329 4 120) 100 0 rfl
        rw [fil_0] at h4
        exact h4
