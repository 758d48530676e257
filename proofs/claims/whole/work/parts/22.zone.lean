/-! A zone: its rates by the hour. -/
def rt (R : Nat → Int) (t : Nat) : Int := R (t / 60 % 24)
def okR (R : Nat → Int) : Prop := ∀ h, h < 24 → 0 ≤ R h ∧ R h ≤ 999
theorem rt_ok {R : Nat → Int} (h : okR R) (t : Nat) : 0 ≤ rt R t ∧ rt R t ≤ 999 := h _ (Nat.mod_lt _ (by omega))
theorem rt_congr {R R' : Nat → Int} (h : ∀ j, j < 24 → R j = R' j) (t : Nat) : rt R t = rt R' t := h _ (Nat.mod_lt _ (by omega))
theorem sp_rateAt (m : mz_M) (z t : Nat) : sp 82 [mz_r 7 0 z, mz_i t] m (some (mz_i (rt (m (z + 1)) t))) m := by
  refine mz_cl_vc 20 (fun _ => false) [some (mz_r 7 0 z), some (mz_i t)] rfl ?_
  simp only [vcS0, vcS1, vcS2, vcS3, vcS4, vcS5, vcS6, vc_n0, vc_lk, vc_pop, vc_rc, vc_tsw, vc_fr, vc_ar, vc_tb, mz_nx, List.set_cons_zero, List.set_cons_succ, Nat.reduceAdd, Nat.reduceBEq, Nat.reduceEqDiff, Nat.reduceLeDiff, Nat.reduceLT, Nat.reduceMul, Int.reduceToNat, Bool.false_eq_true, Bool.or_self, Bool.or_true, Bool.true_or, Bool.or_false, reduceIte, Option.toList_some, Option.toList_none, List.nil_append, List.cons_append, List.length_cons, List.length_nil, true_and, and_true, Int.cast_ofNat_Int, Int.reduceEq, Int.reduceLT, Int.reduceLE, Nat.zero_le, and_self, or_true, true_or, cdS_82]
  refine ⟨by omega, by omega, _, _, sp_atN m (n := 24) (o := z + 1) (j := t / 60 % 24) (Nat.mod_lt _ (by omega)), ?_⟩
  simp only [vcS0, vcS1, vcS2, vcS3, vcS4, vcS5, vcS6, vc_n0, vc_lk, vc_pop, vc_rc, vc_tsw, vc_fr, vc_ar, vc_tb, mz_nx, List.set_cons_zero, List.set_cons_succ, Nat.reduceAdd, Nat.reduceBEq, Nat.reduceEqDiff, Nat.reduceLeDiff, Nat.reduceLT, Nat.reduceMul, Int.reduceToNat, Bool.false_eq_true, Bool.or_self, Bool.or_true, Bool.true_or, Bool.or_false, reduceIte, Option.toList_some, Option.toList_none, List.nil_append, List.cons_append, List.length_cons, List.length_nil, true_and, and_true, Int.cast_ofNat_Int, Int.reduceEq, Int.reduceLT, Int.reduceLE, Nat.zero_le, and_self, or_true, true_or, cdS_82]
  rfl
def cost (R : Nat → Int) (s n : Nat) : Int := sm (fun i => rt R (s + i)) n
theorem cost_ok {R : Nat → Int} (h : okR R) (s n : Nat) : 0 ≤ cost R s n ∧ cost R s n ≤ 999 * n :=
  ⟨sm_0 fun i _ => (rt_ok h _).1, sm_ub fun i _ => (rt_ok h _).2⟩
theorem cost_congr {R R' : Nat → Int} (h : ∀ j, j < 24 → R j = R' j) (s n : Nat) : cost R s n = cost R' s n := sm_congr fun i _ => rt_congr h _
theorem cost_loop (m : mz_M) (z s n : Nat) (hR : okR (m (z + 1))) (hs : s < 100000) (hn : n < 10000) : ∀ (r j : Nat), j + r = n → sx 143 4 [some (mz_r 7 0 z), some (mz_i s), some (mz_i n), some (mz_i (cost (m (z + 1)) s j)), some (mz_i j)] [] m (some (mz_i (cost (m (z + 1)) s n))) m := by
  intro r
  induction r with
  | zero =>
    intro j hj
    obtain rfl : j = n := by omega
    refine mz_vc_ok 20 (ct := fun i => i == 4) ?_
    simp only [vcS0, vcS1, vcS2, vcS3, vcS4, vcS5, vcS6, vc_n0, vc_lk, vc_pop, vc_rc, vc_tsw, vc_fr, vc_ar, vc_tb, mz_nx, List.set_cons_zero, List.set_cons_succ, Nat.reduceAdd, Nat.reduceBEq, Nat.reduceEqDiff, Nat.reduceLeDiff, Nat.reduceLT, Nat.reduceMul, Int.reduceToNat, Bool.false_eq_true, Bool.or_self, Bool.or_true, Bool.true_or, Bool.or_false, reduceIte, Option.toList_some, Option.toList_none, List.nil_append, List.cons_append, List.length_cons, List.length_nil, true_and, and_true, Int.cast_ofNat_Int, Int.reduceEq, Int.reduceLT, Int.reduceLE, Nat.zero_le, and_self, or_true, true_or, cdS_143]
    simp
  | succ r ih =>
    intro j hj
    have hc := cost_ok hR s (j + 1)
    have hr := rt_ok hR (s + j)
    simp only [cost, sm] at hc
    refine mz_vc_ok 20 (ct := fun i => i == 4) ?_
    simp only [vcS0, vcS1, vcS2, vcS3, vcS4, vcS5, vcS6, vc_n0, vc_lk, vc_pop, vc_rc, vc_tsw, vc_fr, vc_ar, vc_tb, mz_nx, List.set_cons_zero, List.set_cons_succ, Nat.reduceAdd, Nat.reduceBEq, Nat.reduceEqDiff, Nat.reduceLeDiff, Nat.reduceLT, Nat.reduceMul, Int.reduceToNat, Bool.false_eq_true, Bool.or_self, Bool.or_true, Bool.true_or, Bool.or_false, reduceIte, Option.toList_some, Option.toList_none, List.nil_append, List.cons_append, List.length_cons, List.length_nil, true_and, and_true, Int.cast_ofNat_Int, Int.reduceEq, Int.reduceLT, Int.reduceLE, Nat.zero_le, and_self, or_true, true_or, cdS_143]
    rw [if_pos (by omega)]
    refine ⟨by unfold mz_w; omega, _, _, sp_rateAt m z (s + j), ?_⟩
    simp only [vcS0, vcS1, vcS2, vcS3, vcS4, vcS5, vcS6, vc_n0, vc_lk, vc_pop, vc_rc, vc_tsw, vc_fr, vc_ar, vc_tb, mz_nx, List.set_cons_zero, List.set_cons_succ, Nat.reduceAdd, Nat.reduceBEq, Nat.reduceEqDiff, Nat.reduceLeDiff, Nat.reduceLT, Nat.reduceMul, Int.reduceToNat, Bool.false_eq_true, Bool.or_self, Bool.or_true, Bool.true_or, Bool.or_false, reduceIte, Option.toList_some, Option.toList_none, List.nil_append, List.cons_append, List.length_cons, List.length_nil, true_and, and_true, Int.cast_ofNat_Int, Int.reduceEq, Int.reduceLT, Int.reduceLE, Nat.zero_le, and_self, or_true, true_or, cdS_143]
    refine ⟨by unfold mz_w cost; omega, by unfold mz_w; omega, ?_⟩
    exact ih (j + 1) (by omega)
theorem sp_cost (m : mz_M) {z s n : Nat} (hR : okR (m (z + 1))) (hs : s < 100000) (hn : n < 10000) : sp 143 [mz_r 7 0 z, mz_i s, mz_i n] m (some (mz_i (cost (m (z + 1)) s n))) m := by
  refine mz_cl_vc 20 (fun i => i == 4) [some (mz_r 7 0 z), some (mz_i s), some (mz_i n), none, none] rfl ?_
  simp only [vcS0, vcS1, vcS2, vcS3, vcS4, vcS5, vcS6, vc_n0, vc_lk, vc_pop, vc_rc, vc_tsw, vc_fr, vc_ar, vc_tb, mz_nx, List.set_cons_zero, List.set_cons_succ, Nat.reduceAdd, Nat.reduceBEq, Nat.reduceEqDiff, Nat.reduceLeDiff, Nat.reduceLT, Nat.reduceMul, Int.reduceToNat, Bool.false_eq_true, Bool.or_self, Bool.or_true, Bool.true_or, Bool.or_false, reduceIte, Option.toList_some, Option.toList_none, List.nil_append, List.cons_append, List.length_cons, List.length_nil, true_and, and_true, Int.cast_ofNat_Int, Int.reduceEq, Int.reduceLT, Int.reduceLE, Nat.zero_le, and_self, or_true, true_or, cdS_143]
  exact cost_loop m z s n hR hs hn n 0 (by omega)
/-- until when money lasts -/
def lu (R : Nat → Int) : Nat → Int → Nat → Nat
  | 0, _, t => t
  | n + 1, left, t => if rt R t ≤ left then lu R n (left - rt R t) (t + 1) else t
theorem lu_congr {R R' : Nat → Int} (h : ∀ j, j < 24 → R j = R' j) : ∀ (n : Nat) (left : Int) (t : Nat), lu R n left t = lu R' n left t := by
  intro n
  induction n with
  | zero => intro left t; rfl
  | succ n ih => intro left t; simp only [lu, rt_congr h, ih]
theorem lu_le {R : Nat → Int} : ∀ (n : Nat) (left : Int) (t : Nat), t ≤ lu R n left t ∧ lu R n left t ≤ t + n := by
  intro n
  induction n with
  | zero => intro left t; simp [lu]
  | succ n ih =>
    intro left t
    simp only [lu]
    split
    · have := ih (left - rt R t) (t + 1); omega
    · omega
theorem lu_loop (m : mz_M) (z : Nat) (c f : Int) (lim : Nat) (hR : okR (m (z + 1))) (hl : lim < 100000) : ∀ (r t : Nat) (left : Int), r = lim - t → t < 100000 → 0 ≤ left → left ≤ 2000000 → sx 144 6 [some (mz_r 7 0 z), some (mz_i f), some (mz_i lim), some (mz_i c), some (mz_i left), some (mz_i t)] [] m (some (mz_i (lu (m (z + 1)) r left t))) m := by
  intro r
  induction r with
  | zero =>
    intro t left hr ht h1 h2
    refine mz_vc_ok 20 (ct := fun i => i == 6) ?_
    simp only [vcS0, vcS1, vcS2, vcS3, vcS4, vcS5, vcS6, vc_n0, vc_lk, vc_pop, vc_rc, vc_tsw, vc_fr, vc_ar, vc_tb, mz_nx, List.set_cons_zero, List.set_cons_succ, Nat.reduceAdd, Nat.reduceBEq, Nat.reduceEqDiff, Nat.reduceLeDiff, Nat.reduceLT, Nat.reduceMul, Int.reduceToNat, Bool.false_eq_true, Bool.or_self, Bool.or_true, Bool.true_or, Bool.or_false, reduceIte, Option.toList_some, Option.toList_none, List.nil_append, List.cons_append, List.length_cons, List.length_nil, true_and, and_true, Int.cast_ofNat_Int, Int.reduceEq, Int.reduceLT, Int.reduceLE, Nat.zero_le, and_self, or_true, true_or, cdS_144]
    rw [if_neg (by omega)]
    rfl
  | succ r ih =>
    intro t left hr ht h1 h2
    have hr9 := rt_ok hR t
    refine mz_vc_ok 30 (ct := fun i => i == 6) ?_
    simp only [vcS0, vcS1, vcS2, vcS3, vcS4, vcS5, vcS6, vc_n0, vc_lk, vc_pop, vc_rc, vc_tsw, vc_fr, vc_ar, vc_tb, mz_nx, List.set_cons_zero, List.set_cons_succ, Nat.reduceAdd, Nat.reduceBEq, Nat.reduceEqDiff, Nat.reduceLeDiff, Nat.reduceLT, Nat.reduceMul, Int.reduceToNat, Bool.false_eq_true, Bool.or_self, Bool.or_true, Bool.true_or, Bool.or_false, reduceIte, Option.toList_some, Option.toList_none, List.nil_append, List.cons_append, List.length_cons, List.length_nil, true_and, and_true, Int.cast_ofNat_Int, Int.reduceEq, Int.reduceLT, Int.reduceLE, Nat.zero_le, and_self, or_true, true_or, cdS_144]
    rw [if_pos (by omega)]
    refine ⟨_, _, sp_rateAt m z t, ?_⟩
    simp only [vcS0, vcS1, vcS2, vcS3, vcS4, vcS5, vcS6, vc_n0, vc_lk, vc_pop, vc_rc, vc_tsw, vc_fr, vc_ar, vc_tb, mz_nx, List.set_cons_zero, List.set_cons_succ, Nat.reduceAdd, Nat.reduceBEq, Nat.reduceEqDiff, Nat.reduceLeDiff, Nat.reduceLT, Nat.reduceMul, Int.reduceToNat, Bool.false_eq_true, Bool.or_self, Bool.or_true, Bool.true_or, Bool.or_false, reduceIte, Option.toList_some, Option.toList_none, List.nil_append, List.cons_append, List.length_cons, List.length_nil, true_and, and_true, Int.cast_ofNat_Int, Int.reduceEq, Int.reduceLT, Int.reduceLE, Nat.zero_le, and_self, or_true, true_or, cdS_144]
    split
    · refine ⟨_, _, sp_rateAt m z t, ?_⟩
      simp only [vcS0, vcS1, vcS2, vcS3, vcS4, vcS5, vcS6, vc_n0, vc_lk, vc_pop, vc_rc, vc_tsw, vc_fr, vc_ar, vc_tb, mz_nx, List.set_cons_zero, List.set_cons_succ, Nat.reduceAdd, Nat.reduceBEq, Nat.reduceEqDiff, Nat.reduceLeDiff, Nat.reduceLT, Nat.reduceMul, Int.reduceToNat, Bool.false_eq_true, Bool.or_self, Bool.or_true, Bool.true_or, Bool.or_false, reduceIte, Option.toList_some, Option.toList_none, List.nil_append, List.cons_append, List.length_cons, List.length_nil, true_and, and_true, Int.cast_ofNat_Int, Int.reduceEq, Int.reduceLT, Int.reduceLE, Nat.zero_le, and_self, or_true, true_or, cdS_144]
      refine ⟨by unfold mz_w; omega, by unfold mz_w; omega, ?_⟩
      have := ih (t + 1) (left - rt (m (z + 1)) t) (by omega) (by omega) (by omega) (by omega)
      rw [show lu (m (z + 1)) (r + 1) left t = lu (m (z + 1)) r (left - rt (m (z + 1)) t) (t + 1) by simp only [lu]; rw [if_pos (by assumption)]]
      exact this
    · simp only [lu]
      rw [if_neg (by assumption)]
theorem sp_lastsUntil (m : mz_M) {z f lim c : Nat} (hR : okR (m (z + 1))) (hl : lim < 100000) (hf : f < 100000) (hc : c < 30000) : sp 144 [mz_r 7 0 z, mz_i f, mz_i lim, mz_i c] m (some (mz_i (lu (m (z + 1)) (lim - f) (60 * c) f))) m := by
  refine mz_cl_vc 20 (fun i => i == 6) [some (mz_r 7 0 z), some (mz_i f), some (mz_i lim), some (mz_i c), none, none] rfl ?_
  simp only [vcS0, vcS1, vcS2, vcS3, vcS4, vcS5, vcS6, vc_n0, vc_lk, vc_pop, vc_rc, vc_tsw, vc_fr, vc_ar, vc_tb, mz_nx, List.set_cons_zero, List.set_cons_succ, Nat.reduceAdd, Nat.reduceBEq, Nat.reduceEqDiff, Nat.reduceLeDiff, Nat.reduceLT, Nat.reduceMul, Int.reduceToNat, Bool.false_eq_true, Bool.or_self, Bool.or_true, Bool.true_or, Bool.or_false, reduceIte, Option.toList_some, Option.toList_none, List.nil_append, List.cons_append, List.length_cons, List.length_nil, true_and, and_true, Int.cast_ofNat_Int, Int.reduceEq, Int.reduceLT, Int.reduceLE, Nat.zero_le, and_self, or_true, true_or, cdS_144]
  refine ⟨by unfold mz_w; omega, ?_⟩
  rw [Int.mul_comm (c : Int) 60]
  exact lu_loop m z c f lim hR hl _ f (60 * c) rfl hf (by omega) (by omega)
/-- the earliest of the least -/
def am (f : Nat → Int) (a : Nat) : Nat → Nat
  | 0 => a
  | n + 1 => if f (a + n + 1) < f (am f a n) then a + n + 1 else am f a n
theorem am_congr {f g : Nat → Int} (h : ∀ t, f t = g t) (a n : Nat) : am f a n = am g a n := by
  induction n with
  | zero => rfl
  | succ n ih => simp only [am, ih, h]
theorem am_le (f : Nat → Int) (a n : Nat) : a ≤ am f a n ∧ am f a n ≤ a + n := by
  induction n with
  | zero => simp [am]
  | succ n ih => simp only [am]; split <;> omega
def prc (R : Nat → Int) (n s : Nat) : Int := (cost R s n + 59) / 60
theorem sm_shift (f : Nat → Int) (n : Nat) : sm (fun i => f (i + 1)) n = sm f n - f 0 + f n := by
  induction n with
  | zero => simp only [sm]; omega
  | succ n ih => simp only [sm, ih]; omega
theorem cost_slide (R : Nat → Int) (s n : Nat) : cost R (s + 1) n = cost R s n + (rt R (s + n) - rt R s) := by
  have := sm_shift (fun i => rt R (s + i)) n
  have e : (fun i => rt R (s + 1 + i)) = (fun i => rt R (s + (i + 1))) := by funext i; congr 1; omega
  unfold cost
  rw [e, this]
  simp
  omega
theorem cheap_loop (m : mz_M) (z a n : Nat) (hR : okR (m (z + 1))) (ha : a < 20000) (hn : n ≤ 600) : ∀ (r j : Nat), j + r = 1439 → sx 205 14 [some (mz_r 7 0 z), some (mz_i a), some (mz_i n), some (mz_i (cost (m (z + 1)) (a + j) n)), some (mz_i (am (prc (m (z + 1)) n) a j)), some (mz_i (prc (m (z + 1)) n (am (prc (m (z + 1)) n) a j))), some (mz_i ((a + j + 1 : Nat) : Int))] [] m (some (mz_i (am (prc (m (z + 1)) n) a 1439))) m := by
  intro r
  induction r with
  | zero =>
    intro j hj
    obtain rfl : j = 1439 := by omega
    refine mz_vc_ok 20 (ct := fun i => i == 14) ?_
    simp only [vcS0, vcS1, vcS2, vcS3, vcS4, vcS5, vcS6, vc_n0, vc_lk, vc_pop, vc_rc, vc_tsw, vc_fr, vc_ar, vc_tb, mz_nx, List.set_cons_zero, List.set_cons_succ, Nat.reduceAdd, Nat.reduceBEq, Nat.reduceEqDiff, Nat.reduceLeDiff, Nat.reduceLT, Nat.reduceMul, Int.reduceToNat, Bool.false_eq_true, Bool.or_self, Bool.or_true, Bool.true_or, Bool.or_false, reduceIte, Option.toList_some, Option.toList_none, List.nil_append, List.cons_append, List.length_cons, List.length_nil, true_and, and_true, Int.cast_ofNat_Int, Int.reduceEq, Int.reduceLT, Int.reduceLE, Nat.zero_le, and_self, or_true, true_or, cdS_205]
    rw [if_neg (by omega)]
    ((repeat' refine And.intro ?_ ?_) <;> first | trivial | rfl | (unfold mz_w; omega) | omega)
  | succ r ih =>
    intro j hj
    have hr1 := rt_ok hR (a + j + n)
    have hr2 := rt_ok hR (a + j)
    have hc1 := cost_ok hR (a + j) n
    have hc2 := cost_ok hR (a + j + 1) n
    have hsl := cost_slide (m (z + 1)) (a + j) n
    refine mz_vc_ok 60 (ct := fun i => i == 14) ?_
    simp only [vcS0, vcS1, vcS2, vcS3, vcS4, vcS5, vcS6, vc_n0, vc_lk, vc_pop, vc_rc, vc_tsw, vc_fr, vc_ar, vc_tb, mz_nx, List.set_cons_zero, List.set_cons_succ, Nat.reduceAdd, Nat.reduceBEq, Nat.reduceEqDiff, Nat.reduceLeDiff, Nat.reduceLT, Nat.reduceMul, Int.reduceToNat, Bool.false_eq_true, Bool.or_self, Bool.or_true, Bool.true_or, Bool.or_false, reduceIte, Option.toList_some, Option.toList_none, List.nil_append, List.cons_append, List.length_cons, List.length_nil, true_and, and_true, Int.cast_ofNat_Int, Int.reduceEq, Int.reduceLT, Int.reduceLE, Nat.zero_le, and_self, or_true, true_or, cdS_205]
    rw [if_pos (by omega)]
    have e1 : ((a + j + 1 : Nat) : Int) - 1 + (n : Int) = ((a + j + n : Nat) : Int) := by omega
    have e2 : ((a + j + 1 : Nat) : Int) - 1 = ((a + j : Nat) : Int) := by omega
    rw [e1, e2]
    refine ⟨by unfold mz_w; omega, by unfold mz_w; omega, by unfold mz_w; omega, _, _, sp_rateAt m z (a + j + n), ?_⟩
    simp only [vcS0, vcS1, vcS2, vcS3, vcS4, vcS5, vcS6, vc_n0, vc_lk, vc_pop, vc_rc, vc_tsw, vc_fr, vc_ar, vc_tb, mz_nx, List.set_cons_zero, List.set_cons_succ, Nat.reduceAdd, Nat.reduceBEq, Nat.reduceEqDiff, Nat.reduceLeDiff, Nat.reduceLT, Nat.reduceMul, Int.reduceToNat, Bool.false_eq_true, Bool.or_self, Bool.or_true, Bool.true_or, Bool.or_false, reduceIte, Option.toList_some, Option.toList_none, List.nil_append, List.cons_append, List.length_cons, List.length_nil, true_and, and_true, Int.cast_ofNat_Int, Int.reduceEq, Int.reduceLT, Int.reduceLE, Nat.zero_le, and_self, or_true, true_or, cdS_205]
    refine ⟨by unfold mz_w; omega, _, _, sp_rateAt m z (a + j), ?_⟩
    simp only [vcS0, vcS1, vcS2, vcS3, vcS4, vcS5, vcS6, vc_n0, vc_lk, vc_pop, vc_rc, vc_tsw, vc_fr, vc_ar, vc_tb, mz_nx, List.set_cons_zero, List.set_cons_succ, Nat.reduceAdd, Nat.reduceBEq, Nat.reduceEqDiff, Nat.reduceLeDiff, Nat.reduceLT, Nat.reduceMul, Int.reduceToNat, Bool.false_eq_true, Bool.or_self, Bool.or_true, Bool.true_or, Bool.or_false, reduceIte, Option.toList_some, Option.toList_none, List.nil_append, List.cons_append, List.length_cons, List.length_nil, true_and, and_true, Int.cast_ofNat_Int, Int.reduceEq, Int.reduceLT, Int.reduceLE, Nat.zero_le, and_self, or_true, true_or, cdS_205]
    rw [← hsl]
    refine ⟨by unfold mz_w; omega, by unfold mz_w; omega, _, _, sp_fullCents m _ hc2.1 (by omega), ?_⟩
    simp only [vcS0, vcS1, vcS2, vcS3, vcS4, vcS5, vcS6, vc_n0, vc_lk, vc_pop, vc_rc, vc_tsw, vc_fr, vc_ar, vc_tb, mz_nx, List.set_cons_zero, List.set_cons_succ, Nat.reduceAdd, Nat.reduceBEq, Nat.reduceEqDiff, Nat.reduceLeDiff, Nat.reduceLT, Nat.reduceMul, Int.reduceToNat, Bool.false_eq_true, Bool.or_self, Bool.or_true, Bool.true_or, Bool.or_false, reduceIte, Option.toList_some, Option.toList_none, List.nil_append, List.cons_append, List.length_cons, List.length_nil, true_and, and_true, Int.cast_ofNat_Int, Int.reduceEq, Int.reduceLT, Int.reduceLE, Nat.zero_le, and_self, or_true, true_or, cdS_205]
    split
    · rename_i hlt
      refine ⟨_, _, sp_fullCents m _ hc2.1 (by omega), ?_⟩
      simp only [vcS0, vcS1, vcS2, vcS3, vcS4, vcS5, vcS6, vc_n0, vc_lk, vc_pop, vc_rc, vc_tsw, vc_fr, vc_ar, vc_tb, mz_nx, List.set_cons_zero, List.set_cons_succ, Nat.reduceAdd, Nat.reduceBEq, Nat.reduceEqDiff, Nat.reduceLeDiff, Nat.reduceLT, Nat.reduceMul, Int.reduceToNat, Bool.false_eq_true, Bool.or_self, Bool.or_true, Bool.true_or, Bool.or_false, reduceIte, Option.toList_some, Option.toList_none, List.nil_append, List.cons_append, List.length_cons, List.length_nil, true_and, and_true, Int.cast_ofNat_Int, Int.reduceEq, Int.reduceLT, Int.reduceLE, Nat.zero_le, and_self, or_true, true_or, cdS_205]
      refine ⟨by unfold mz_w; omega, ?_⟩
      have := ih (j + 1) (by omega)
      have e3 : am (prc (m (z + 1)) n) a (j + 1) = a + j + 1 := if_pos hlt
      rw [e3] at this
      exact this
    · rename_i hlt
      refine ⟨by unfold mz_w; omega, ?_⟩
      have := ih (j + 1) (by omega)
      have e3 : am (prc (m (z + 1)) n) a (j + 1) = am (prc (m (z + 1)) n) a j := if_neg hlt
      rw [e3] at this
      exact this
theorem sp_cheapest (m : mz_M) {z a n : Nat} (hR : okR (m (z + 1))) (ha : a < 20000) (hn : n ≤ 600) : sp 205 [mz_r 7 0 z, mz_i a, mz_i n] m (some (mz_i (am (prc (m (z + 1)) n) a 1439))) m := by
  have hc := cost_ok hR a n
  refine mz_cl_vc 60 (fun i => i == 14) [some (mz_r 7 0 z), some (mz_i a), some (mz_i n), none, none, none, none] rfl ?_
  simp only [vcS0, vcS1, vcS2, vcS3, vcS4, vcS5, vcS6, vc_n0, vc_lk, vc_pop, vc_rc, vc_tsw, vc_fr, vc_ar, vc_tb, mz_nx, List.set_cons_zero, List.set_cons_succ, Nat.reduceAdd, Nat.reduceBEq, Nat.reduceEqDiff, Nat.reduceLeDiff, Nat.reduceLT, Nat.reduceMul, Int.reduceToNat, Bool.false_eq_true, Bool.or_self, Bool.or_true, Bool.true_or, Bool.or_false, reduceIte, Option.toList_some, Option.toList_none, List.nil_append, List.cons_append, List.length_cons, List.length_nil, true_and, and_true, Int.cast_ofNat_Int, Int.reduceEq, Int.reduceLT, Int.reduceLE, Nat.zero_le, and_self, or_true, true_or, cdS_205]
  refine ⟨_, _, sp_cost m hR (by omega) (by omega), ?_⟩
  simp only [vcS0, vcS1, vcS2, vcS3, vcS4, vcS5, vcS6, vc_n0, vc_lk, vc_pop, vc_rc, vc_tsw, vc_fr, vc_ar, vc_tb, mz_nx, List.set_cons_zero, List.set_cons_succ, Nat.reduceAdd, Nat.reduceBEq, Nat.reduceEqDiff, Nat.reduceLeDiff, Nat.reduceLT, Nat.reduceMul, Int.reduceToNat, Bool.false_eq_true, Bool.or_self, Bool.or_true, Bool.true_or, Bool.or_false, reduceIte, Option.toList_some, Option.toList_none, List.nil_append, List.cons_append, List.length_cons, List.length_nil, true_and, and_true, Int.cast_ofNat_Int, Int.reduceEq, Int.reduceLT, Int.reduceLE, Nat.zero_le, and_self, or_true, true_or, cdS_205]
  refine ⟨_, _, sp_fullCents m _ hc.1 (by omega), ?_⟩
  simp only [vcS0, vcS1, vcS2, vcS3, vcS4, vcS5, vcS6, vc_n0, vc_lk, vc_pop, vc_rc, vc_tsw, vc_fr, vc_ar, vc_tb, mz_nx, List.set_cons_zero, List.set_cons_succ, Nat.reduceAdd, Nat.reduceBEq, Nat.reduceEqDiff, Nat.reduceLeDiff, Nat.reduceLT, Nat.reduceMul, Int.reduceToNat, Bool.false_eq_true, Bool.or_self, Bool.or_true, Bool.true_or, Bool.or_false, reduceIte, Option.toList_some, Option.toList_none, List.nil_append, List.cons_append, List.length_cons, List.length_nil, true_and, and_true, Int.cast_ofNat_Int, Int.reduceEq, Int.reduceLT, Int.reduceLE, Nat.zero_le, and_self, or_true, true_or, cdS_205]
  refine ⟨by unfold mz_w; omega, ?_⟩
  exact cheap_loop m z a n hR ha hn 1439 0 (by omega)
/-- how many minutes have a rate -/
def cm (R : Nat → Int) (a n : Nat) : Int := sm (fun i => if 0 < rt R (a + i) then 1 else 0) n
theorem cm_congr {R R' : Nat → Int} (h : ∀ j, j < 24 → R j = R' j) (a n : Nat) : cm R a n = cm R' a n := sm_congr fun i _ => by rw [rt_congr h]
theorem cm_ok (R : Nat → Int) (a n : Nat) : 0 ≤ cm R a n ∧ cm R a n ≤ n := by
  refine ⟨sm_0 fun i _ => by split <;> omega, ?_⟩
  have := sm_ub (f := fun i => if 0 < rt R (a + i) then 1 else 0) (n := n) (c := 1) (fun i _ => by split <;> omega)
  unfold cm
  omega
theorem cm_add (R : Nat → Int) (a b : Nat) : cm R 0 (a + b) = cm R 0 a + cm R a b := by
  induction b with
  | zero => simp [cm, sm]
  | succ b ih =>
    show sm _ (a + b + 1) = _
    unfold cm at ih ⊢
    simp only [sm, Nat.zero_add] at ih ⊢
    rw [ih]
    omega
def cbW (R : Nat → Int) (n : Nat) : Int := sm (fun h => if 0 < R h then 60 else 0) n
def cbL (R : Nat → Int) (d n : Nat) : Int := sm (fun h => if 0 < R h then max 0 (min 60 ((d : Int) - h * 60)) else 0) n
theorem cb_ok (R : Nat → Int) (d n : Nat) : (0 ≤ cbW R n ∧ cbW R n ≤ 60 * n) ∧ 0 ≤ cbL R d n ∧ cbL R d n ≤ 60 * n := by
  refine ⟨⟨sm_0 fun i _ => by split <;> omega, sm_ub fun i _ => by split <;> omega⟩, sm_0 fun i _ => by split <;> omega, sm_ub fun i _ => by split <;> omega⟩
theorem sm_one {f g : Nat → Int} {n h0 : Nat} {c : Int} (h : ∀ i, i < n → g i = f i + if i = h0 then c else 0) : sm g n = sm f n + if h0 < n then c else 0 := by
  induction n with
  | zero => simp [sm]
  | succ n ih =>
    simp only [sm]
    rw [ih (fun i hi => h i (by omega)), h n (by omega)]
    by_cases h1 : h0 < n
    · rw [if_pos h1, if_neg (by omega), if_pos (by omega)]; omega
    · by_cases h2 : n = h0
      · rw [if_neg h1, if_pos h2, if_pos (by omega)]; omega
      · rw [if_neg h1, if_neg h2, if_neg (by omega)]; omega
theorem cb_eq (R : Nat → Int) (t : Nat) : ((t / 1440 : Nat) : Int) * cbW R 24 + cbL R (t % 1440) 24 = cm R 0 t := by
  induction t with
  | zero =>
    have : cbL R 0 24 = 0 := by
      have := sm_congr (n := 24) (f := fun h => if 0 < R h then max 0 (min 60 (((0 : Nat) : Int) - h * 60)) else 0) (g := fun _ => 0) (fun i _ => by (repeat' split) <;> omega)
      unfold cbL
      rw [this, sm_const]
      omega
    simp [this, cm, sm]
  | succ t ih =>
    have hs : cm R 0 (t + 1) = cm R 0 t + if 0 < rt R t then 1 else 0 := by simp [cm, sm]
    rw [hs, ← ih]
    have hd : t / 60 % 24 = t % 1440 / 60 := by omega
    by_cases hw : t % 1440 = 1439
    · have e1 : (t + 1) / 1440 = t / 1440 + 1 := by omega
      have e2 : (t + 1) % 1440 = 0 := by omega
      have h0 : cbL R 0 24 = 0 := by
        have := sm_congr (n := 24) (f := fun h => if 0 < R h then max 0 (min 60 (((0 : Nat) : Int) - h * 60)) else 0) (g := fun _ => 0) (fun i _ => by (repeat' split) <;> omega)
        unfold cbL
        rw [this, sm_const]
        omega
      have h1 : cbW R 24 = cbL R 1439 24 + if 0 < R 23 then 1 else 0 := by
        have := sm_one (n := 24) (h0 := 23) (c := if 0 < R 23 then 1 else 0) (g := fun h => if 0 < R h then 60 else 0) (f := fun h => if 0 < R h then max 0 (min 60 (((1439 : Nat) : Int) - h * 60)) else 0) (fun i hi => by
          by_cases h3 : i = 23
          · subst h3; (repeat' split) <;> omega
          · rw [if_neg h3]; (repeat' split) <;> omega)
        rw [if_pos (by omega)] at this
        exact this
      have h4 : rt R t = R 23 := by unfold rt; rw [hd, hw]
      rw [e1, e2, h0, hw, h4, Int.natCast_succ, Int.add_mul]
      omega
    · have e1 : (t + 1) / 1440 = t / 1440 := by omega
      have e2 : (t + 1) % 1440 = t % 1440 + 1 := by omega
      have h1 : cbL R (t % 1440 + 1) 24 = cbL R (t % 1440) 24 + if 0 < R (t % 1440 / 60) then 1 else 0 := by
        have := sm_one (n := 24) (h0 := t % 1440 / 60) (c := if 0 < R (t % 1440 / 60) then 1 else 0) (g := fun h => if 0 < R h then max 0 (min 60 (((t % 1440 + 1 : Nat) : Int) - h * 60)) else 0) (f := fun h => if 0 < R h then max 0 (min 60 (((t % 1440 : Nat) : Int) - h * 60)) else 0) (fun i hi => by
          by_cases h3 : i = t % 1440 / 60
          · rw [if_pos h3, ← h3]; (repeat' split) <;> omega
          · rw [if_neg h3]; (repeat' split) <;> omega)
        rw [if_pos (by omega)] at this
        exact this
      have h4 : rt R t = R (t % 1440 / 60) := by unfold rt; rw [hd]
      rw [e1, e2, h1, h4]
      omega
theorem cb_loop (m : mz_M) (z t d : Nat) (ht : t < 100000) (hd : d < 1440) : ∀ (r j : Nat), j + r = 24 → sx 79 10 [some (mz_r 7 0 z), some (mz_i t), some (mz_i d), some (mz_i (cbW (m (z + 1)) j)), some (mz_i (cbL (m (z + 1)) d j)), some (mz_i j)] [] m (some (mz_i (((t / 1440 : Nat) : Int) * cbW (m (z + 1)) 24 + cbL (m (z + 1)) d 24))) m := by
  intro r
  induction r with
  | zero =>
    intro j hj
    obtain rfl : j = 24 := by omega
    have hb := cb_ok (m (z + 1)) d 24
    have hq : (t / 1440 : Nat) < 70 := by omega
    have hp : 0 ≤ ((t / 1440 : Nat) : Int) * cbW (m (z + 1)) 24 := Int.mul_nonneg (by omega) hb.1.1
    have hp2 : ((t / 1440 : Nat) : Int) * cbW (m (z + 1)) 24 ≤ 70 * 1440 := Int.mul_le_mul (by omega) (by omega) hb.1.1 (by omega)
    refine mz_vc_ok 40 (ct := fun i => i == 10) ?_
    simp only [vcS0, vcS1, vcS2, vcS3, vcS4, vcS5, vcS6, vc_n0, vc_lk, vc_pop, vc_rc, vc_tsw, vc_fr, vc_ar, vc_tb, mz_nx, List.set_cons_zero, List.set_cons_succ, Nat.reduceAdd, Nat.reduceBEq, Nat.reduceEqDiff, Nat.reduceLeDiff, Nat.reduceLT, Nat.reduceMul, Int.reduceToNat, Bool.false_eq_true, Bool.or_self, Bool.or_true, Bool.true_or, Bool.or_false, reduceIte, Option.toList_some, Option.toList_none, List.nil_append, List.cons_append, List.length_cons, List.length_nil, true_and, and_true, Int.cast_ofNat_Int, Int.reduceEq, Int.reduceLT, Int.reduceLE, Nat.zero_le, and_self, or_true, true_or, cdS_79]
    rw [show (t : Int) / 1440 = ((t / 1440 : Nat) : Int) by omega]
    generalize ((t / 1440 : Nat) : Int) * cbW (m (z + 1)) 24 = q at hp hp2 ⊢
    ((repeat' refine And.intro ?_ ?_) <;> first | trivial | rfl | (unfold mz_w; omega) | omega)
  | succ r ih =>
    intro j hj
    have hb := cb_ok (m (z + 1)) d j
    have hk := ih (j + 1) (by omega)
    refine mz_vc_ok 40 (ct := fun i => i == 10) ?_
    simp only [vcS0, vcS1, vcS2, vcS3, vcS4, vcS5, vcS6, vc_n0, vc_lk, vc_pop, vc_rc, vc_tsw, vc_fr, vc_ar, vc_tb, mz_nx, List.set_cons_zero, List.set_cons_succ, Nat.reduceAdd, Nat.reduceBEq, Nat.reduceEqDiff, Nat.reduceLeDiff, Nat.reduceLT, Nat.reduceMul, Int.reduceToNat, Bool.false_eq_true, Bool.or_self, Bool.or_true, Bool.true_or, Bool.or_false, reduceIte, Option.toList_some, Option.toList_none, List.nil_append, List.cons_append, List.length_cons, List.length_nil, true_and, and_true, Int.cast_ofNat_Int, Int.reduceEq, Int.reduceLT, Int.reduceLE, Nat.zero_le, and_self, or_true, true_or, cdS_79]
    rw [if_pos (by omega), Int.toNat_natCast]
    refine ⟨by omega, ?_⟩
    split
    · rename_i hle
      refine ⟨by unfold mz_w; omega, ?_⟩
      have e1 : cbW (m (z + 1)) (j + 1) = cbW (m (z + 1)) j := by simp only [cbW, sm]; rw [if_neg (by omega)]; omega
      have e2 : cbL (m (z + 1)) d (j + 1) = cbL (m (z + 1)) d j := by simp only [cbL, sm]; rw [if_neg (by omega)]; omega
      rw [e1, e2] at hk
      exact hk
    · rename_i hle
      have e1 : cbW (m (z + 1)) (j + 1) = cbW (m (z + 1)) j + 60 := by simp only [cbW, sm]; rw [if_pos (by omega)]
      have e2 : cbL (m (z + 1)) d (j + 1) = cbL (m (z + 1)) d j + max 0 (min 60 ((d : Int) - j * 60)) := by simp only [cbL, sm]; rw [if_pos (by omega)]
      rw [e1, e2] at hk
      refine ⟨by unfold mz_w; omega, by unfold mz_w; omega, by unfold mz_w; omega, by unfold mz_w; omega, by unfold mz_w; omega, ?_⟩
      exact hk
theorem sp_chargedBefore (m : mz_M) {z t : Nat} (ht : t < 100000) : sp 79 [mz_r 7 0 z, mz_i t] m (some (mz_i (cm (m (z + 1)) 0 t))) m := by
  refine mz_cl_vc 20 (fun i => i == 10) [some (mz_r 7 0 z), some (mz_i t), none, none, none, none] rfl ?_
  simp only [vcS0, vcS1, vcS2, vcS3, vcS4, vcS5, vcS6, vc_n0, vc_lk, vc_pop, vc_rc, vc_tsw, vc_fr, vc_ar, vc_tb, mz_nx, List.set_cons_zero, List.set_cons_succ, Nat.reduceAdd, Nat.reduceBEq, Nat.reduceEqDiff, Nat.reduceLeDiff, Nat.reduceLT, Nat.reduceMul, Int.reduceToNat, Bool.false_eq_true, Bool.or_self, Bool.or_true, Bool.true_or, Bool.or_false, reduceIte, Option.toList_some, Option.toList_none, List.nil_append, List.cons_append, List.length_cons, List.length_nil, true_and, and_true, Int.cast_ofNat_Int, Int.reduceEq, Int.reduceLT, Int.reduceLE, Nat.zero_le, and_self, or_true, true_or, cdS_79]
  refine ⟨by omega, ?_⟩
  rw [← cb_eq]
  exact cb_loop m z t (t % 1440) ht (by omega) 24 0 (by omega)
theorem sp_chargedMinutes (m : mz_M) {z f t : Nat} (hf : f < 100000) (ht : t < 100000) : sp 141 [mz_r 7 0 z, mz_i f, mz_i t] m (some (mz_i (cm (m (z + 1)) f (t - f)))) m := by
  refine mz_cl_vc 30 (fun _ => false) [some (mz_r 7 0 z), some (mz_i f), some (mz_i t)] rfl ?_
  simp only [vcS0, vcS1, vcS2, vcS3, vcS4, vcS5, vcS6, vc_n0, vc_lk, vc_pop, vc_rc, vc_tsw, vc_fr, vc_ar, vc_tb, mz_nx, List.set_cons_zero, List.set_cons_succ, Nat.reduceAdd, Nat.reduceBEq, Nat.reduceEqDiff, Nat.reduceLeDiff, Nat.reduceLT, Nat.reduceMul, Int.reduceToNat, Bool.false_eq_true, Bool.or_self, Bool.or_true, Bool.true_or, Bool.or_false, reduceIte, Option.toList_some, Option.toList_none, List.nil_append, List.cons_append, List.length_cons, List.length_nil, true_and, and_true, Int.cast_ofNat_Int, Int.reduceEq, Int.reduceLT, Int.reduceLE, Nat.zero_le, and_self, or_true, true_or, cdS_141]
  split
  · refine ⟨_, _, sp_chargedBefore m ht, ?_⟩
    simp only [vcS0, vcS1, vcS2, vcS3, vcS4, vcS5, vcS6, vc_n0, vc_lk, vc_pop, vc_rc, vc_tsw, vc_fr, vc_ar, vc_tb, mz_nx, List.set_cons_zero, List.set_cons_succ, Nat.reduceAdd, Nat.reduceBEq, Nat.reduceEqDiff, Nat.reduceLeDiff, Nat.reduceLT, Nat.reduceMul, Int.reduceToNat, Bool.false_eq_true, Bool.or_self, Bool.or_true, Bool.true_or, Bool.or_false, reduceIte, Option.toList_some, Option.toList_none, List.nil_append, List.cons_append, List.length_cons, List.length_nil, true_and, and_true, Int.cast_ofNat_Int, Int.reduceEq, Int.reduceLT, Int.reduceLE, Nat.zero_le, and_self, or_true, true_or, cdS_141]
    refine ⟨_, _, sp_chargedBefore m hf, ?_⟩
    simp only [vcS0, vcS1, vcS2, vcS3, vcS4, vcS5, vcS6, vc_n0, vc_lk, vc_pop, vc_rc, vc_tsw, vc_fr, vc_ar, vc_tb, mz_nx, List.set_cons_zero, List.set_cons_succ, Nat.reduceAdd, Nat.reduceBEq, Nat.reduceEqDiff, Nat.reduceLeDiff, Nat.reduceLT, Nat.reduceMul, Int.reduceToNat, Bool.false_eq_true, Bool.or_self, Bool.or_true, Bool.true_or, Bool.or_false, reduceIte, Option.toList_some, Option.toList_none, List.nil_append, List.cons_append, List.length_cons, List.length_nil, true_and, and_true, Int.cast_ofNat_Int, Int.reduceEq, Int.reduceLT, Int.reduceLE, Nat.zero_le, and_self, or_true, true_or, cdS_141]
    have h := cm_add (m (z + 1)) f (t - f)
    rw [show f + (t - f) = t by omega] at h
    have := cm_ok (m (z + 1)) f (t - f)
    rw [h]
    refine ⟨by unfold mz_w; omega, ?_⟩
    congr 2
    omega
  · rw [show t - f = 0 by omega]
    rfl
theorem sp_zclear (m : mz_M) (z : Nat) : sp 80 [mz_r 7 0 z] m none (mz_up (fun a j => if a = z + 1 ∧ j < 24 then 0 else m a j) z 1 120) := by
  refine mz_cl_vc 20 (fun _ => false) [some (mz_r 7 0 z)] rfl ?_
  simp only [vcS0, vcS1, vcS2, vcS3, vcS4, vcS5, vcS6, vc_n0, vc_lk, vc_pop, vc_rc, vc_tsw, vc_fr, vc_ar, vc_tb, mz_nx, List.set_cons_zero, List.set_cons_succ, Nat.reduceAdd, Nat.reduceBEq, Nat.reduceEqDiff, Nat.reduceLeDiff, Nat.reduceLT, Nat.reduceMul, Int.reduceToNat, Bool.false_eq_true, Bool.or_self, Bool.or_true, Bool.true_or, Bool.or_false, reduceIte, Option.toList_some, Option.toList_none, List.nil_append, List.cons_append, List.length_cons, List.length_nil, true_and, and_true, Int.cast_ofNat_Int, Int.reduceEq, Int.reduceLT, Int.reduceLE, Nat.zero_le, and_self, or_true, true_or, cdS_80]
  refine ⟨_, _, sp_fill m 24 (z + 1) 0 (by omega), ?_⟩
  simp only [vcS0, vcS1, vcS2, vcS3, vcS4, vcS5, vcS6, vc_n0, vc_lk, vc_pop, vc_rc, vc_tsw, vc_fr, vc_ar, vc_tb, mz_nx, List.set_cons_zero, List.set_cons_succ, Nat.reduceAdd, Nat.reduceBEq, Nat.reduceEqDiff, Nat.reduceLeDiff, Nat.reduceLT, Nat.reduceMul, Int.reduceToNat, Bool.false_eq_true, Bool.or_self, Bool.or_true, Bool.true_or, Bool.or_false, reduceIte, Option.toList_some, Option.toList_none, List.nil_append, List.cons_append, List.length_cons, List.length_nil, true_and, and_true, Int.cast_ofNat_Int, Int.reduceEq, Int.reduceLT, Int.reduceLE, Nat.zero_le, and_self, or_true, true_or, cdS_80]
theorem sp_zcopy (m : mz_M) {z w : Nat} (h : w ≠ z + 1) : sp 142 [mz_r 7 0 z, mz_r 7 0 w] m none (mz_up (mz_cp m (w + 1) (z + 1) 24) z 1 (m w 1)) := by
  refine mz_cl_vc 20 (fun _ => false) [some (mz_r 7 0 z), some (mz_r 7 0 w)] rfl ?_
  simp only [vcS0, vcS1, vcS2, vcS3, vcS4, vcS5, vcS6, vc_n0, vc_lk, vc_pop, vc_rc, vc_tsw, vc_fr, vc_ar, vc_tb, mz_nx, List.set_cons_zero, List.set_cons_succ, Nat.reduceAdd, Nat.reduceBEq, Nat.reduceEqDiff, Nat.reduceLeDiff, Nat.reduceLT, Nat.reduceMul, Int.reduceToNat, Bool.false_eq_true, Bool.or_self, Bool.or_true, Bool.true_or, Bool.or_false, reduceIte, Option.toList_some, Option.toList_none, List.nil_append, List.cons_append, List.length_cons, List.length_nil, true_and, and_true, Int.cast_ofNat_Int, Int.reduceEq, Int.reduceLT, Int.reduceLE, Nat.zero_le, and_self, or_true, true_or, cdS_142]
  refine ⟨_, _, sp_copyRow m 24 (w + 1) (z + 1), ?_⟩
  simp only [vcS0, vcS1, vcS2, vcS3, vcS4, vcS5, vcS6, vc_n0, vc_lk, vc_pop, vc_rc, vc_tsw, vc_fr, vc_ar, vc_tb, mz_nx, List.set_cons_zero, List.set_cons_succ, Nat.reduceAdd, Nat.reduceBEq, Nat.reduceEqDiff, Nat.reduceLeDiff, Nat.reduceLT, Nat.reduceMul, Int.reduceToNat, Bool.false_eq_true, Bool.or_self, Bool.or_true, Bool.true_or, Bool.or_false, reduceIte, Option.toList_some, Option.toList_none, List.nil_append, List.cons_append, List.length_cons, List.length_nil, true_and, and_true, Int.cast_ofNat_Int, Int.reduceEq, Int.reduceLT, Int.reduceLE, Nat.zero_le, and_self, or_true, true_or, cdS_142]
  have : mz_cp m (w + 1) (z + 1) 24 w 1 = m w 1 := by unfold mz_cp; rw [if_neg (by omega)]
  rw [this]
def setR (m : mz_M) (o f t : Nat) (c : Int) : mz_M := fun a j => if a = o ∧ f ≤ j ∧ j < t then c else m a j
theorem setR_loop (z : Nat) (c : Int) (f t : Nat) (x : Int) (ht : t ≤ 24) : ∀ (r j : Nat) (m : mz_M), r = t - j → sx 83 2 [some (mz_r 7 0 z), some (mz_i x), some (mz_i t), some (mz_i c), some (mz_i j)] [] m none (setR m (z + 1) j t c) := by
  intro r
  induction r with
  | zero =>
    intro j m hj
    have e : setR m (z + 1) j t c = m := by funext a i; unfold setR; rw [if_neg (by omega)]
    rw [e]
    refine mz_vc_ok 20 (ct := fun i => i == 2) ?_
    simp only [vcS0, vcS1, vcS2, vcS3, vcS4, vcS5, vcS6, vc_n0, vc_lk, vc_pop, vc_rc, vc_tsw, vc_fr, vc_ar, vc_tb, mz_nx, List.set_cons_zero, List.set_cons_succ, Nat.reduceAdd, Nat.reduceBEq, Nat.reduceEqDiff, Nat.reduceLeDiff, Nat.reduceLT, Nat.reduceMul, Int.reduceToNat, Bool.false_eq_true, Bool.or_self, Bool.or_true, Bool.true_or, Bool.or_false, reduceIte, Option.toList_some, Option.toList_none, List.nil_append, List.cons_append, List.length_cons, List.length_nil, true_and, and_true, Int.cast_ofNat_Int, Int.reduceEq, Int.reduceLT, Int.reduceLE, Nat.zero_le, and_self, or_true, true_or, cdS_83]
    rw [if_neg (by omega)]
    trivial
  | succ r ih =>
    intro j m hj
    have e : setR m (z + 1) j t c = setR (mz_up m (z + 1) j c) (z + 1) (j + 1) t c := by
      funext a i
      unfold setR mz_up
      grind
    rw [e]
    refine mz_vc_ok 20 (ct := fun i => i == 2) ?_
    simp only [vcS0, vcS1, vcS2, vcS3, vcS4, vcS5, vcS6, vc_n0, vc_lk, vc_pop, vc_rc, vc_tsw, vc_fr, vc_ar, vc_tb, mz_nx, List.set_cons_zero, List.set_cons_succ, Nat.reduceAdd, Nat.reduceBEq, Nat.reduceEqDiff, Nat.reduceLeDiff, Nat.reduceLT, Nat.reduceMul, Int.reduceToNat, Bool.false_eq_true, Bool.or_self, Bool.or_true, Bool.true_or, Bool.or_false, reduceIte, Option.toList_some, Option.toList_none, List.nil_append, List.cons_append, List.length_cons, List.length_nil, true_and, and_true, Int.cast_ofNat_Int, Int.reduceEq, Int.reduceLT, Int.reduceLE, Nat.zero_le, and_self, or_true, true_or, cdS_83]
    rw [if_pos (by omega)]
    refine ⟨_, _, sp_putN m (n := 24) (o := z + 1) (j := j) c (by omega), ?_⟩
    simp only [vcS0, vcS1, vcS2, vcS3, vcS4, vcS5, vcS6, vc_n0, vc_lk, vc_pop, vc_rc, vc_tsw, vc_fr, vc_ar, vc_tb, mz_nx, List.set_cons_zero, List.set_cons_succ, Nat.reduceAdd, Nat.reduceBEq, Nat.reduceEqDiff, Nat.reduceLeDiff, Nat.reduceLT, Nat.reduceMul, Int.reduceToNat, Bool.false_eq_true, Bool.or_self, Bool.or_true, Bool.true_or, Bool.or_false, reduceIte, Option.toList_some, Option.toList_none, List.nil_append, List.cons_append, List.length_cons, List.length_nil, true_and, and_true, Int.cast_ofNat_Int, Int.reduceEq, Int.reduceLT, Int.reduceLE, Nat.zero_le, and_self, or_true, true_or, cdS_83]
    refine ⟨by unfold mz_w; omega, ?_⟩
    exact ih (j + 1) _ (by omega)
theorem sp_setRates (m : mz_M) {z f t : Nat} (c : Int) (ht : t ≤ 24) : sp 83 [mz_r 7 0 z, mz_i f, mz_i t, mz_i c] m none (setR m (z + 1) f t c) := by
  refine mz_cl_vc 20 (fun i => i == 2) [some (mz_r 7 0 z), some (mz_i f), some (mz_i t), some (mz_i c), none] rfl ?_
  simp only [vcS0, vcS1, vcS2, vcS3, vcS4, vcS5, vcS6, vc_n0, vc_lk, vc_pop, vc_rc, vc_tsw, vc_fr, vc_ar, vc_tb, mz_nx, List.set_cons_zero, List.set_cons_succ, Nat.reduceAdd, Nat.reduceBEq, Nat.reduceEqDiff, Nat.reduceLeDiff, Nat.reduceLT, Nat.reduceMul, Int.reduceToNat, Bool.false_eq_true, Bool.or_self, Bool.or_true, Bool.true_or, Bool.or_false, reduceIte, Option.toList_some, Option.toList_none, List.nil_append, List.cons_append, List.length_cons, List.length_nil, true_and, and_true, Int.cast_ofNat_Int, Int.reduceEq, Int.reduceLT, Int.reduceLE, Nat.zero_le, and_self, or_true, true_or, cdS_83]
  exact setR_loop z c f t f ht _ f m rfl
