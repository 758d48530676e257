/-! The constructors: what they call, in any state. -/
abbrev gi (T S : Nat) (I : Nat → Nat → Bool) (k : Nat) (as : List mz_V) (m : mz_M) (r : Option mz_V) (m' : mz_M) : Prop := mz_cl k as (gS T S I m) r (gS T S I m')
abbrev gix (T S : Nat) (I : Nat → Nat → Bool) (k i : Nat) (ls : mz_Ls) (st : List mz_V) (m : mz_M) (r : Option mz_V) (m' : mz_M) : Prop := mz_ex k i ls st (gS T S I m) r (gS T S I m')
theorem gi_at {Tq Sq : Nat} {Iq : Nat → Nat → Bool} (m : mz_M) (n o : Nat) (j : Int) : gi Tq Sq Iq 23 [mz_r 100 n o, mz_i j] m (some (mz_i (if 0 ≤ j ∧ j < n then m o j.toNat else 0))) m := by
  refine mz_cl_vc 20 (fun _ => false) [some (mz_r 100 n o), some (mz_i j)] rfl ?_
  simp only [vcS0, vcS1, vcS2, vcS3, vcS4, vcS5, vcS6, vc_n0, vc_lk, vc_pop, vc_rc, vc_tsw, vc_fr, vc_ar, vc_tb, mz_nx, List.set_cons_zero, List.set_cons_succ, Nat.reduceAdd, Nat.reduceBEq, Nat.reduceEqDiff, Nat.reduceLeDiff, Nat.reduceLT, Nat.reduceMul, Int.reduceToNat, Bool.false_eq_true, Bool.or_self, Bool.or_true, Bool.true_or, Bool.or_false, reduceIte, Option.toList_some, Option.toList_none, List.nil_append, List.cons_append, List.length_cons, List.length_nil, true_and, and_true, Int.cast_ofNat_Int, Int.reduceEq, Int.reduceLT, Int.reduceLE, Nat.zero_le, and_self, or_true, true_or, cdS_23]
  grind
theorem gi_atN {Tq Sq : Nat} {Iq : Nat → Nat → Bool} (m : mz_M) {n o j : Nat} (h : j < n) : gi Tq Sq Iq 23 [mz_r 100 n o, mz_i j] m (some (mz_i (m o j))) m := by
  have := gi_at (Tq := Tq) (Sq := Sq) (Iq := Iq) m n o j
  rwa [if_pos (by omega), Int.toNat_natCast] at this
theorem gi_put {Tq Sq : Nat} {Iq : Nat → Nat → Bool} (m : mz_M) (n o : Nat) (j v : Int) : gi Tq Sq Iq 31 [mz_r 100 n o, mz_i j, mz_i v] m none (if 0 ≤ j ∧ j < n then mz_up m o j.toNat v else m) := by
  refine mz_cl_vc 20 (fun _ => false) [some (mz_r 100 n o), some (mz_i j), some (mz_i v)] rfl ?_
  simp only [vcS0, vcS1, vcS2, vcS3, vcS4, vcS5, vcS6, vc_n0, vc_lk, vc_pop, vc_rc, vc_tsw, vc_fr, vc_ar, vc_tb, mz_nx, List.set_cons_zero, List.set_cons_succ, Nat.reduceAdd, Nat.reduceBEq, Nat.reduceEqDiff, Nat.reduceLeDiff, Nat.reduceLT, Nat.reduceMul, Int.reduceToNat, Bool.false_eq_true, Bool.or_self, Bool.or_true, Bool.true_or, Bool.or_false, reduceIte, Option.toList_some, Option.toList_none, List.nil_append, List.cons_append, List.length_cons, List.length_nil, true_and, and_true, Int.cast_ofNat_Int, Int.reduceEq, Int.reduceLT, Int.reduceLE, Nat.zero_le, and_self, or_true, true_or, cdS_31]
  grind
theorem gi_putN {Tq Sq : Nat} {Iq : Nat → Nat → Bool} (m : mz_M) {n o j : Nat} (v : Int) (h : j < n) : gi Tq Sq Iq 31 [mz_r 100 n o, mz_i j, mz_i v] m none (mz_up m o j v) := by
  have := gi_put (Tq := Tq) (Sq := Sq) (Iq := Iq) m n o j v
  rwa [if_pos (by omega), Int.toNat_natCast] at this
theorem gi_copyRow {Tq Sq : Nat} {Iq : Nat → Nat → Bool} (m : mz_M) (n o d : Nat) : gi Tq Sq Iq 85 [mz_r 100 n o, mz_r 100 n d] m none (mz_cp m o d n) := by
  refine mz_cl_vc 20 (fun _ => false) [some (mz_r 100 n o), some (mz_r 100 n d)] rfl ?_
  simp only [vcS0, vcS1, vcS2, vcS3, vcS4, vcS5, vcS6, vc_n0, vc_lk, vc_pop, vc_rc, vc_tsw, vc_fr, vc_ar, vc_tb, mz_nx, List.set_cons_zero, List.set_cons_succ, Nat.reduceAdd, Nat.reduceBEq, Nat.reduceEqDiff, Nat.reduceLeDiff, Nat.reduceLT, Nat.reduceMul, Int.reduceToNat, Bool.false_eq_true, Bool.or_self, Bool.or_true, Bool.true_or, Bool.or_false, reduceIte, Option.toList_some, Option.toList_none, List.nil_append, List.cons_append, List.length_cons, List.length_nil, true_and, and_true, Int.cast_ofNat_Int, Int.reduceEq, Int.reduceLT, Int.reduceLE, Nat.zero_le, and_self, or_true, true_or, cdS_85]
  rw [show (min (n : Int) n).toNat = n by omega]
  grind
theorem gi_fill_loop {Tq Sq : Nat} {Iq : Nat → Nat → Bool} (n o : Nat) (v : Int) (hn : n < 100000) : ∀ (r j : Nat) (m : mz_M), j + r = n → gix Tq Sq Iq 4 5 [some (mz_r 100 n o), some (mz_i v), some (mz_i j), some (mz_i n)] [] m none (fun a i => if a = o ∧ j ≤ i ∧ i < n then v else m a i) := by
  intro r
  induction r with
  | zero =>
    intro j m hj
    have e : (fun a i => if a = o ∧ j ≤ i ∧ i < n then v else m a i) = m := by funext a i; rw [if_neg (by omega)]
    rw [e]
    refine mz_vc_ok 20 (ct := fun i => i == 5) ?_
    simp only [vcS0, vcS1, vcS2, vcS3, vcS4, vcS5, vcS6, vc_n0, vc_lk, vc_pop, vc_rc, vc_tsw, vc_fr, vc_ar, vc_tb, mz_nx, List.set_cons_zero, List.set_cons_succ, Nat.reduceAdd, Nat.reduceBEq, Nat.reduceEqDiff, Nat.reduceLeDiff, Nat.reduceLT, Nat.reduceMul, Int.reduceToNat, Bool.false_eq_true, Bool.or_self, Bool.or_true, Bool.true_or, Bool.or_false, reduceIte, Option.toList_some, Option.toList_none, List.nil_append, List.cons_append, List.length_cons, List.length_nil, true_and, and_true, Int.cast_ofNat_Int, Int.reduceEq, Int.reduceLT, Int.reduceLE, Nat.zero_le, and_self, or_true, true_or, cdS_4]
    rw [if_neg (by omega)]
    trivial
  | succ r ih =>
    intro j m hj
    have e : (fun a i => if a = o ∧ j ≤ i ∧ i < n then v else m a i) = (fun a i => if a = o ∧ j + 1 ≤ i ∧ i < n then v else mz_up m o j v a i) := by
      funext a i
      unfold mz_up
      grind
    rw [e]
    refine mz_vc_ok 20 (ct := fun i => i == 5) ?_
    simp only [vcS0, vcS1, vcS2, vcS3, vcS4, vcS5, vcS6, vc_n0, vc_lk, vc_pop, vc_rc, vc_tsw, vc_fr, vc_ar, vc_tb, mz_nx, List.set_cons_zero, List.set_cons_succ, Nat.reduceAdd, Nat.reduceBEq, Nat.reduceEqDiff, Nat.reduceLeDiff, Nat.reduceLT, Nat.reduceMul, Int.reduceToNat, Bool.false_eq_true, Bool.or_self, Bool.or_true, Bool.true_or, Bool.or_false, reduceIte, Option.toList_some, Option.toList_none, List.nil_append, List.cons_append, List.length_cons, List.length_nil, true_and, and_true, Int.cast_ofNat_Int, Int.reduceEq, Int.reduceLT, Int.reduceLE, Nat.zero_le, and_self, or_true, true_or, cdS_4]
    rw [if_pos (by omega)]
    refine ⟨by omega, by unfold mz_w; omega, ?_⟩
    exact ih (j + 1) _ (by omega)
theorem gi_fill {Tq Sq : Nat} {Iq : Nat → Nat → Bool} (m : mz_M) (n o : Nat) (v : Int) (hn : n < 100000) : gi Tq Sq Iq 4 [mz_r 100 n o, mz_i v] m none (fun a j => if a = o ∧ j < n then v else m a j) := by
  refine mz_cl_vc 20 (fun i => i == 5) [some (mz_r 100 n o), some (mz_i v), none, none] rfl ?_
  simp only [vcS0, vcS1, vcS2, vcS3, vcS4, vcS5, vcS6, vc_n0, vc_lk, vc_pop, vc_rc, vc_tsw, vc_fr, vc_ar, vc_tb, mz_nx, List.set_cons_zero, List.set_cons_succ, Nat.reduceAdd, Nat.reduceBEq, Nat.reduceEqDiff, Nat.reduceLeDiff, Nat.reduceLT, Nat.reduceMul, Int.reduceToNat, Bool.false_eq_true, Bool.or_self, Bool.or_true, Bool.true_or, Bool.or_false, reduceIte, Option.toList_some, Option.toList_none, List.nil_append, List.cons_append, List.length_cons, List.length_nil, true_and, and_true, Int.cast_ofNat_Int, Int.reduceEq, Int.reduceLT, Int.reduceLE, Nat.zero_le, and_self, or_true, true_or, cdS_4]
  have := gi_fill_loop (Tq := Tq) (Sq := Sq) (Iq := Iq) n o v hn n 0 m (by omega)
  simpa using this

theorem gi_zclear {Tq Sq : Nat} {Iq : Nat → Nat → Bool} (m : mz_M) (z : Nat) (hI : Iq z 0 = true) : gi Tq Sq Iq 80 [mz_r 7 0 z] m none (mz_up (fun a j => if a = z + 1 ∧ j < 24 then 0 else m a j) z 1 120) := by
  refine mz_cl_vc 20 (fun _ => false) [some (mz_r 7 0 z)] rfl ?_
  simp only [vcS0, vcS1, vcS2, vcS3, vcS4, vcS5, vcS6, vc_n0, vc_lk, vc_pop, vc_rc, vc_tsw, vc_fr, vc_ar, vc_tb, mz_nx, List.set_cons_zero, List.set_cons_succ, Nat.reduceAdd, Nat.reduceBEq, Nat.reduceEqDiff, Nat.reduceLeDiff, Nat.reduceLT, Nat.reduceMul, Int.reduceToNat, Bool.false_eq_true, Bool.or_self, Bool.or_true, Bool.true_or, Bool.or_false, reduceIte, Option.toList_some, Option.toList_none, List.nil_append, List.cons_append, List.length_cons, List.length_nil, true_and, and_true, Int.cast_ofNat_Int, Int.reduceEq, Int.reduceLT, Int.reduceLE, Nat.zero_le, and_self, or_true, true_or, cdS_80, hI]
  refine ⟨_, _, gi_fill m 24 (z + 1) 0 (by omega), ?_⟩
  simp only [vcS0, vcS1, vcS2, vcS3, vcS4, vcS5, vcS6, vc_n0, vc_lk, vc_pop, vc_rc, vc_tsw, vc_fr, vc_ar, vc_tb, mz_nx, List.set_cons_zero, List.set_cons_succ, Nat.reduceAdd, Nat.reduceBEq, Nat.reduceEqDiff, Nat.reduceLeDiff, Nat.reduceLT, Nat.reduceMul, Int.reduceToNat, Bool.false_eq_true, Bool.or_self, Bool.or_true, Bool.true_or, Bool.or_false, reduceIte, Option.toList_some, Option.toList_none, List.nil_append, List.cons_append, List.length_cons, List.length_nil, true_and, and_true, Int.cast_ofNat_Int, Int.reduceEq, Int.reduceLT, Int.reduceLE, Nat.zero_le, and_self, or_true, true_or, cdS_80, hI]
theorem gi_way {Tq Sq : Nat} {Iq : Nat → Nat → Bool} (m : mz_M) {w f t : Nat} (hf : f < 10) (ht : t < 10) (hI : ∀ k, 3 ≤ k → k ≤ 8 → Iq w k = true) : gi Tq Sq Iq 71 [mz_r 4 0 w, mz_i f, mz_i t] m (some (mz_i (m (w + 5) (10 * f + t)))) m := by
  refine mz_cl_vc 40 (fun _ => false) [some (mz_r 4 0 w), some (mz_i f), some (mz_i t)] rfl ?_
  simp only [vcS0, vcS1, vcS2, vcS3, vcS4, vcS5, vcS6, vc_n0, vc_lk, vc_pop, vc_rc, vc_tsw, vc_fr, vc_ar, vc_tb, mz_nx, List.set_cons_zero, List.set_cons_succ, Nat.reduceAdd, Nat.reduceBEq, Nat.reduceEqDiff, Nat.reduceLeDiff, Nat.reduceLT, Nat.reduceMul, Int.reduceToNat, Bool.false_eq_true, Bool.or_self, Bool.or_true, Bool.true_or, Bool.or_false, reduceIte, Option.toList_some, Option.toList_none, List.nil_append, List.cons_append, List.length_cons, List.length_nil, true_and, and_true, Int.cast_ofNat_Int, Int.reduceEq, Int.reduceLT, Int.reduceLE, Nat.zero_le, and_self, or_true, true_or, cdS_71, hI]
  rw [show (f : Int) * 10 + t = ((10 * f + t : Nat) : Int) by omega]
  refine ⟨by unfold mz_w; omega, by unfold mz_w; omega, ?_⟩
  refine ⟨_, _, gi_atN m (by omega), ?_⟩
  simp only [vcS0, vcS1, vcS2, vcS3, vcS4, vcS5, vcS6, vc_n0, vc_lk, vc_pop, vc_rc, vc_tsw, vc_fr, vc_ar, vc_tb, mz_nx, List.set_cons_zero, List.set_cons_succ, Nat.reduceAdd, Nat.reduceBEq, Nat.reduceEqDiff, Nat.reduceLeDiff, Nat.reduceLT, Nat.reduceMul, Int.reduceToNat, Bool.false_eq_true, Bool.or_self, Bool.or_true, Bool.true_or, Bool.or_false, reduceIte, Option.toList_some, Option.toList_none, List.nil_append, List.cons_append, List.length_cons, List.length_nil, true_and, and_true, Int.cast_ofNat_Int, Int.reduceEq, Int.reduceLT, Int.reduceLE, Nat.zero_le, and_self, or_true, true_or, cdS_71, hI]
theorem gi_fw_loop {Tq Sq : Nat} {Iq : Nat → Nat → Bool} (m : mz_M) (w : Nat) (T : Nat → Int) (hT : fwO T) (hI : ∀ k, 3 ≤ k → k ≤ 8 → Iq w k = true) : ∀ (r o f t : Nat) (x : Option mz_V), o < 10 → f < 10 → t ≤ 10 → 11 * (10 * o + f) + t + r = 1100 → gix Tq Sq Iq 134 33 [some (mz_r 4 0 w), some (mz_i o), some (mz_i f), some (mz_i t), x] [] (rowS m (w + 5) 100 (fwN T (100 * o + 10 * f + t))) none (rowS m (w + 5) 100 (fwN T 1000)) := by
  intro r
  induction r with
  | zero => intros; omega
  | succ r ih =>
    intro o f t x ho hf ht hm
    by_cases h10 : t = 10
    · subst h10
      refine mz_vc_ok 60 (ct := fun i => i == 33) ?_
      simp only [vcS0, vcS1, vcS2, vcS3, vcS4, vcS5, vcS6, vc_n0, vc_lk, vc_pop, vc_rc, vc_tsw, vc_fr, vc_ar, vc_tb, mz_nx, List.set_cons_zero, List.set_cons_succ, Nat.reduceAdd, Nat.reduceBEq, Nat.reduceEqDiff, Nat.reduceLeDiff, Nat.reduceLT, Nat.reduceMul, Int.reduceToNat, Bool.false_eq_true, Bool.or_self, Bool.or_true, Bool.true_or, Bool.or_false, reduceIte, Option.toList_some, Option.toList_none, List.nil_append, List.cons_append, List.length_cons, List.length_nil, true_and, and_true, Int.cast_ofNat_Int, Int.reduceEq, Int.reduceLT, Int.reduceLE, Nat.zero_le, and_self, or_true, true_or, cdS_134, hI]
      by_cases hf9 : f = 9
      · subst hf9
        simp
        by_cases ho9 : o = 9
        · subst ho9
          simp [mz_w]
        · have := ih (o + 1) 0 0 x (by omega) (by omega) (by omega) (by omega)
          rw [show 100 * (o + 1) + 10 * 0 + 0 = 100 * o + 10 * 9 + 10 by omega] at this
          rw [if_pos (by omega)]
          exact ⟨by simp [mz_w], (by unfold mz_w; omega), this⟩
      · have := ih o (f + 1) 0 x (by omega) (by omega) (by omega) (by omega)
        rw [show 100 * o + 10 * (f + 1) + 0 = 100 * o + 10 * f + 10 by omega] at this
        rw [if_pos (by omega)]
        exact ⟨(by unfold mz_w; omega), this⟩
    · have hok := fwN_ok hT (100 * o + 10 * f + t) (by omega)
      have e : fwN T (100 * o + 10 * f + (t + 1)) = fwS (fwN T (100 * o + 10 * f + t)) o f t := by
        show fwN T ((100 * o + 10 * f + t) + 1) = _
        rw [fwN, show (100 * o + 10 * f + t) / 100 = o by omega, show (100 * o + 10 * f + t) / 10 % 10 = f by omega, show (100 * o + 10 * f + t) % 10 = t by omega]
      have hk := fun y => ih o f (t + 1) y ho hf (by omega) (by omega)
      rw [e] at hk
      generalize hU : fwN T (100 * o + 10 * f + t) = U at hok hk ⊢
      have h1 := hok (10 * f + o) (by omega)
      have h2 := hok (10 * o + t) (by omega)
      have h3 := hok (10 * f + t) (by omega)
      refine mz_vc_ok 60 (ct := fun i => i == 33) ?_
      simp only [vcS0, vcS1, vcS2, vcS3, vcS4, vcS5, vcS6, vc_n0, vc_lk, vc_pop, vc_rc, vc_tsw, vc_fr, vc_ar, vc_tb, mz_nx, List.set_cons_zero, List.set_cons_succ, Nat.reduceAdd, Nat.reduceBEq, Nat.reduceEqDiff, Nat.reduceLeDiff, Nat.reduceLT, Nat.reduceMul, Int.reduceToNat, Bool.false_eq_true, Bool.or_self, Bool.or_true, Bool.true_or, Bool.or_false, reduceIte, Option.toList_some, Option.toList_none, List.nil_append, List.cons_append, List.length_cons, List.length_nil, true_and, and_true, Int.cast_ofNat_Int, Int.reduceEq, Int.reduceLT, Int.reduceLE, Nat.zero_le, and_self, or_true, true_or, cdS_134, hI]
      rw [if_pos (by omega)]
      refine ⟨_, _, gi_way (hI := hI) _ hf ho, ?_⟩
      simp only [vcS0, vcS1, vcS2, vcS3, vcS4, vcS5, vcS6, vc_n0, vc_lk, vc_pop, vc_rc, vc_tsw, vc_fr, vc_ar, vc_tb, mz_nx, List.set_cons_zero, List.set_cons_succ, Nat.reduceAdd, Nat.reduceBEq, Nat.reduceEqDiff, Nat.reduceLeDiff, Nat.reduceLT, Nat.reduceMul, Int.reduceToNat, Bool.false_eq_true, Bool.or_self, Bool.or_true, Bool.true_or, Bool.or_false, reduceIte, Option.toList_some, Option.toList_none, List.nil_append, List.cons_append, List.length_cons, List.length_nil, true_and, and_true, Int.cast_ofNat_Int, Int.reduceEq, Int.reduceLT, Int.reduceLE, Nat.zero_le, and_self, or_true, true_or, cdS_134, hI]
      refine ⟨_, _, gi_way (hI := hI) _ ho (by omega), ?_⟩
      simp only [vcS0, vcS1, vcS2, vcS3, vcS4, vcS5, vcS6, vc_n0, vc_lk, vc_pop, vc_rc, vc_tsw, vc_fr, vc_ar, vc_tb, mz_nx, List.set_cons_zero, List.set_cons_succ, Nat.reduceAdd, Nat.reduceBEq, Nat.reduceEqDiff, Nat.reduceLeDiff, Nat.reduceLT, Nat.reduceMul, Int.reduceToNat, Bool.false_eq_true, Bool.or_self, Bool.or_true, Bool.true_or, Bool.or_false, reduceIte, Option.toList_some, Option.toList_none, List.nil_append, List.cons_append, List.length_cons, List.length_nil, true_and, and_true, Int.cast_ofNat_Int, Int.reduceEq, Int.reduceLT, Int.reduceLE, Nat.zero_le, and_self, or_true, true_or, cdS_134, hI]
      rw [rowS_at (by omega), rowS_at (by omega)]
      refine ⟨by unfold mz_w; omega, ?_⟩
      refine ⟨_, _, gi_way (hI := hI) _ hf (by omega), ?_⟩
      simp only [vcS0, vcS1, vcS2, vcS3, vcS4, vcS5, vcS6, vc_n0, vc_lk, vc_pop, vc_rc, vc_tsw, vc_fr, vc_ar, vc_tb, mz_nx, List.set_cons_zero, List.set_cons_succ, Nat.reduceAdd, Nat.reduceBEq, Nat.reduceEqDiff, Nat.reduceLeDiff, Nat.reduceLT, Nat.reduceMul, Int.reduceToNat, Bool.false_eq_true, Bool.or_self, Bool.or_true, Bool.true_or, Bool.or_false, reduceIte, Option.toList_some, Option.toList_none, List.nil_append, List.cons_append, List.length_cons, List.length_nil, true_and, and_true, Int.cast_ofNat_Int, Int.reduceEq, Int.reduceLT, Int.reduceLE, Nat.zero_le, and_self, or_true, true_or, cdS_134, hI]
      rw [rowS_at (by omega)]
      by_cases hb : U (10 * f + t) ≤ U (10 * f + o) + U (10 * o + t)
      · rw [if_neg (by omega)]
        refine ⟨by unfold mz_w; omega, ?_⟩
        have e2 : fwS U o f t = U := by
          funext j
          unfold fwS
          split
          · subst j; omega
          · rfl
        rw [e2] at hk
        exact hk _
      · rw [if_pos (by omega), show (f : Int) * 10 + t = ((10 * f + t : Nat) : Int) by omega]
        refine ⟨by unfold mz_w; omega, by unfold mz_w; omega, ?_⟩
        refine ⟨_, _, gi_putN _ _ (by omega), ?_⟩
        simp only [vcS0, vcS1, vcS2, vcS3, vcS4, vcS5, vcS6, vc_n0, vc_lk, vc_pop, vc_rc, vc_tsw, vc_fr, vc_ar, vc_tb, mz_nx, List.set_cons_zero, List.set_cons_succ, Nat.reduceAdd, Nat.reduceBEq, Nat.reduceEqDiff, Nat.reduceLeDiff, Nat.reduceLT, Nat.reduceMul, Int.reduceToNat, Bool.false_eq_true, Bool.or_self, Bool.or_true, Bool.true_or, Bool.or_false, reduceIte, Option.toList_some, Option.toList_none, List.nil_append, List.cons_append, List.length_cons, List.length_nil, true_and, and_true, Int.cast_ofNat_Int, Int.reduceEq, Int.reduceLT, Int.reduceLE, Nat.zero_le, and_self, or_true, true_or, cdS_134, hI]
        refine ⟨by unfold mz_w; omega, ?_⟩
        rw [rowS_up (by omega)]
        have e2 : fwS U o f t = fun i => if i = 10 * f + t then U (10 * f + o) + U (10 * o + t) else U i := by
          funext j
          unfold fwS
          split
          · subst j; omega
          · rfl
        rw [e2] at hk
        exact hk _
set_option maxRecDepth 8000 in
theorem gi_dg_loop {Tq Sq : Nat} {Iq : Nat → Nat → Bool} (m : mz_M) (w : Nat) (T : Nat → Int) (hT : fwO T) (hI : ∀ k, 3 ≤ k → k ≤ 8 → Iq w k = true) : ∀ (r j : Nat), j + r = 10 → gix Tq Sq Iq 134 7 [some (mz_r 4 0 w), some (mz_i j), none, none, none] [] (rowS m (w + 5) 100 (dgR T j)) none (rowS m (w + 5) 100 (fwN (dgR T 10) 1000)) := by
  intro r
  induction r with
  | zero =>
    intro j hj
    obtain rfl : j = 10 := by omega
    refine mz_vc_ok 60 (ct := fun i => i == 33) ?_
    simp only [vcS0, vcS1, vcS2, vcS3, vcS4, vcS5, vcS6, vc_n0, vc_lk, vc_pop, vc_rc, vc_tsw, vc_fr, vc_ar, vc_tb, mz_nx, List.set_cons_zero, List.set_cons_succ, Nat.reduceAdd, Nat.reduceBEq, Nat.reduceEqDiff, Nat.reduceLeDiff, Nat.reduceLT, Nat.reduceMul, Int.reduceToNat, Bool.false_eq_true, Bool.or_self, Bool.or_true, Bool.true_or, Bool.or_false, reduceIte, Option.toList_some, Option.toList_none, List.nil_append, List.cons_append, List.length_cons, List.length_nil, true_and, and_true, Int.cast_ofNat_Int, Int.reduceEq, Int.reduceLT, Int.reduceLE, Nat.zero_le, and_self, or_true, true_or, cdS_134, hI]
    have hT2 : fwO (dgR T 10) := by
      intro j hj
      have := hT j hj
      unfold dgR
      split <;> omega
    have := gi_fw_loop (Tq := Tq) (Sq := Sq) (Iq := Iq) (hI := hI) m w (dgR T 10) hT2 1100 0 0 0 none (by omega) (by omega) (by omega) (by omega)
    exact this
  | succ r ih =>
    intro j hj
    have hk := ih (j + 1) (by omega)
    refine mz_vc_ok 60 (ct := fun i => i == 7) ?_
    simp only [vcS0, vcS1, vcS2, vcS3, vcS4, vcS5, vcS6, vc_n0, vc_lk, vc_pop, vc_rc, vc_tsw, vc_fr, vc_ar, vc_tb, mz_nx, List.set_cons_zero, List.set_cons_succ, Nat.reduceAdd, Nat.reduceBEq, Nat.reduceEqDiff, Nat.reduceLeDiff, Nat.reduceLT, Nat.reduceMul, Int.reduceToNat, Bool.false_eq_true, Bool.or_self, Bool.or_true, Bool.true_or, Bool.or_false, reduceIte, Option.toList_some, Option.toList_none, List.nil_append, List.cons_append, List.length_cons, List.length_nil, true_and, and_true, Int.cast_ofNat_Int, Int.reduceEq, Int.reduceLT, Int.reduceLE, Nat.zero_le, and_self, or_true, true_or, cdS_134, hI]
    rw [if_pos (by omega), show (j : Int) * 10 + j = ((11 * j : Nat) : Int) by omega]
    refine ⟨(by unfold mz_w; omega), (by unfold mz_w; omega), ?_⟩
    refine ⟨_, _, gi_putN _ _ (by omega), ?_⟩
    simp only [vcS0, vcS1, vcS2, vcS3, vcS4, vcS5, vcS6, vc_n0, vc_lk, vc_pop, vc_rc, vc_tsw, vc_fr, vc_ar, vc_tb, mz_nx, List.set_cons_zero, List.set_cons_succ, Nat.reduceAdd, Nat.reduceBEq, Nat.reduceEqDiff, Nat.reduceLeDiff, Nat.reduceLT, Nat.reduceMul, Int.reduceToNat, Bool.false_eq_true, Bool.or_self, Bool.or_true, Bool.true_or, Bool.or_false, reduceIte, Option.toList_some, Option.toList_none, List.nil_append, List.cons_append, List.length_cons, List.length_nil, true_and, and_true, Int.cast_ofNat_Int, Int.reduceEq, Int.reduceLT, Int.reduceLE, Nat.zero_le, and_self, or_true, true_or, cdS_134, hI]
    refine ⟨(by unfold mz_w; omega), ?_⟩
    rw [rowS_up (by omega)]
    have e2 : dgR T (j + 1) = fun i => if i = 11 * j then 0 else dgR T j i := by
      funext i
      unfold dgR
      grind
    rw [e2] at hk
    exact hk
set_option maxRecDepth 8000 in
theorem gi_findWays {Tq Sq : Nat} {Iq : Nat → Nat → Bool} (m : mz_M) (w : Nat) (hR : fwO (m (w + 4))) (hI : ∀ k, 3 ≤ k → k ≤ 8 → Iq w k = true) : gi Tq Sq Iq 134 [mz_r 4 0 w] m none (rowS m (w + 5) 100 (fwT (m (w + 4)))) := by
  refine mz_cl_vc 60 (fun i => i == 7) [some (mz_r 4 0 w), none, none, none, none] rfl ?_
  simp only [vcS0, vcS1, vcS2, vcS3, vcS4, vcS5, vcS6, vc_n0, vc_lk, vc_pop, vc_rc, vc_tsw, vc_fr, vc_ar, vc_tb, mz_nx, List.set_cons_zero, List.set_cons_succ, Nat.reduceAdd, Nat.reduceBEq, Nat.reduceEqDiff, Nat.reduceLeDiff, Nat.reduceLT, Nat.reduceMul, Int.reduceToNat, Bool.false_eq_true, Bool.or_self, Bool.or_true, Bool.true_or, Bool.or_false, reduceIte, Option.toList_some, Option.toList_none, List.nil_append, List.cons_append, List.length_cons, List.length_nil, true_and, and_true, Int.cast_ofNat_Int, Int.reduceEq, Int.reduceLT, Int.reduceLE, Nat.zero_le, and_self, or_true, true_or, cdS_134, hI]
  refine ⟨_, _, gi_copyRow m 100 (w + 4) (w + 5), ?_⟩
  simp only [vcS0, vcS1, vcS2, vcS3, vcS4, vcS5, vcS6, vc_n0, vc_lk, vc_pop, vc_rc, vc_tsw, vc_fr, vc_ar, vc_tb, mz_nx, List.set_cons_zero, List.set_cons_succ, Nat.reduceAdd, Nat.reduceBEq, Nat.reduceEqDiff, Nat.reduceLeDiff, Nat.reduceLT, Nat.reduceMul, Int.reduceToNat, Bool.false_eq_true, Bool.or_self, Bool.or_true, Bool.true_or, Bool.or_false, reduceIte, Option.toList_some, Option.toList_none, List.nil_append, List.cons_append, List.length_cons, List.length_nil, true_and, and_true, Int.cast_ofNat_Int, Int.reduceEq, Int.reduceLT, Int.reduceLE, Nat.zero_le, and_self, or_true, true_or, cdS_134, hI]
  have := gi_dg_loop (Tq := Tq) (Sq := Sq) (Iq := Iq) (hI := hI) m w (m (w + 4)) hR 10 0 rfl
  rw [show dgR (m (w + 4)) 0 = m (w + 4) by funext j; simp [dgR]] at this
  exact this

set_option maxRecDepth 20000 in
theorem gi_tclear {Tq Sq : Nat} {Iq : Nat → Nat → Bool} (m : mz_M) (w : Nat) (hI : ∀ k, 3 ≤ k → k ≤ 8 → Iq w k = true) (hA : ∀ k, k < 4 → Iq (w + 6) k = true) (hB : ∀ z, z < 4 → Iq (w + 7 + 2 * z) 0 = true) : gi Tq Sq Iq 190 [mz_r 4 0 w] m none (tC w m) := by
  refine mz_cl_vc 150 (fun _ => false) [some (mz_r 4 0 w), none, none, none, none] rfl ?_
  simp only [vcS0, vcS1, vcS2, vcS3, vcS4, vcS5, vcS6, vc_n0, vc_lk, vc_pop, vc_rc, vc_tsw, vc_fr, vc_ar, vc_tb, mz_nx, List.set_cons_zero, List.set_cons_succ, Nat.reduceAdd, Nat.reduceBEq, Nat.reduceEqDiff, Nat.reduceLeDiff, Nat.reduceLT, Nat.reduceMul, Int.reduceToNat, Bool.false_eq_true, Bool.or_self, Bool.or_true, Bool.true_or, Bool.or_false, reduceIte, Option.toList_some, Option.toList_none, List.nil_append, List.cons_append, List.length_cons, List.length_nil, true_and, and_true, Int.cast_ofNat_Int, Int.reduceEq, Int.reduceLT, Int.reduceLE, Nat.zero_le, and_self, or_true, true_or, cdS_190, Int.reduceAdd, hI, hA]
  refine ⟨_, _, gi_fill _ 10 (w + 1) 0 (by omega), ?_⟩
  simp only [vcS0, vcS1, vcS2, vcS3, vcS4, vcS5, vcS6, vc_n0, vc_lk, vc_pop, vc_rc, vc_tsw, vc_fr, vc_ar, vc_tb, mz_nx, List.set_cons_zero, List.set_cons_succ, Nat.reduceAdd, Nat.reduceBEq, Nat.reduceEqDiff, Nat.reduceLeDiff, Nat.reduceLT, Nat.reduceMul, Int.reduceToNat, Bool.false_eq_true, Bool.or_self, Bool.or_true, Bool.true_or, Bool.or_false, reduceIte, Option.toList_some, Option.toList_none, List.nil_append, List.cons_append, List.length_cons, List.length_nil, true_and, and_true, Int.cast_ofNat_Int, Int.reduceEq, Int.reduceLT, Int.reduceLE, Nat.zero_le, and_self, or_true, true_or, cdS_190, Int.reduceAdd, hI, hA]
  refine ⟨_, _, gi_fill _ 10 (w + 2) 2 (by omega), ?_⟩
  simp only [vcS0, vcS1, vcS2, vcS3, vcS4, vcS5, vcS6, vc_n0, vc_lk, vc_pop, vc_rc, vc_tsw, vc_fr, vc_ar, vc_tb, mz_nx, List.set_cons_zero, List.set_cons_succ, Nat.reduceAdd, Nat.reduceBEq, Nat.reduceEqDiff, Nat.reduceLeDiff, Nat.reduceLT, Nat.reduceMul, Int.reduceToNat, Bool.false_eq_true, Bool.or_self, Bool.or_true, Bool.true_or, Bool.or_false, reduceIte, Option.toList_some, Option.toList_none, List.nil_append, List.cons_append, List.length_cons, List.length_nil, true_and, and_true, Int.cast_ofNat_Int, Int.reduceEq, Int.reduceLT, Int.reduceLE, Nat.zero_le, and_self, or_true, true_or, cdS_190, Int.reduceAdd, hI, hA]
  refine ⟨_, _, gi_fill _ 10 (w + 3) 0 (by omega), ?_⟩
  simp only [vcS0, vcS1, vcS2, vcS3, vcS4, vcS5, vcS6, vc_n0, vc_lk, vc_pop, vc_rc, vc_tsw, vc_fr, vc_ar, vc_tb, mz_nx, List.set_cons_zero, List.set_cons_succ, Nat.reduceAdd, Nat.reduceBEq, Nat.reduceEqDiff, Nat.reduceLeDiff, Nat.reduceLT, Nat.reduceMul, Int.reduceToNat, Bool.false_eq_true, Bool.or_self, Bool.or_true, Bool.true_or, Bool.or_false, reduceIte, Option.toList_some, Option.toList_none, List.nil_append, List.cons_append, List.length_cons, List.length_nil, true_and, and_true, Int.cast_ofNat_Int, Int.reduceEq, Int.reduceLT, Int.reduceLE, Nat.zero_le, and_self, or_true, true_or, cdS_190, Int.reduceAdd, hI, hA]
  refine ⟨_, _, gi_fill _ 100 (w + 4) 1000000 (by omega), ?_⟩
  simp only [vcS0, vcS1, vcS2, vcS3, vcS4, vcS5, vcS6, vc_n0, vc_lk, vc_pop, vc_rc, vc_tsw, vc_fr, vc_ar, vc_tb, mz_nx, List.set_cons_zero, List.set_cons_succ, Nat.reduceAdd, Nat.reduceBEq, Nat.reduceEqDiff, Nat.reduceLeDiff, Nat.reduceLT, Nat.reduceMul, Int.reduceToNat, Bool.false_eq_true, Bool.or_self, Bool.or_true, Bool.true_or, Bool.or_false, reduceIte, Option.toList_some, Option.toList_none, List.nil_append, List.cons_append, List.length_cons, List.length_nil, true_and, and_true, Int.cast_ofNat_Int, Int.reduceEq, Int.reduceLT, Int.reduceLE, Nat.zero_le, and_self, or_true, true_or, cdS_190, Int.reduceAdd, hI, hA]
  refine ⟨_, _, gi_zclear (hI := hB 0 (by omega)) _ (w + 7), ?_⟩
  simp only [vcS0, vcS1, vcS2, vcS3, vcS4, vcS5, vcS6, vc_n0, vc_lk, vc_pop, vc_rc, vc_tsw, vc_fr, vc_ar, vc_tb, mz_nx, List.set_cons_zero, List.set_cons_succ, Nat.reduceAdd, Nat.reduceBEq, Nat.reduceEqDiff, Nat.reduceLeDiff, Nat.reduceLT, Nat.reduceMul, Int.reduceToNat, Bool.false_eq_true, Bool.or_self, Bool.or_true, Bool.true_or, Bool.or_false, reduceIte, Option.toList_some, Option.toList_none, List.nil_append, List.cons_append, List.length_cons, List.length_nil, true_and, and_true, Int.cast_ofNat_Int, Int.reduceEq, Int.reduceLT, Int.reduceLE, Nat.zero_le, and_self, or_true, true_or, cdS_190, Int.reduceAdd, hI, hA]
  refine ⟨by simp [mz_w], ?_⟩
  refine ⟨_, _, gi_zclear (hI := hB 1 (by omega)) _ (w + 9), ?_⟩
  simp only [vcS0, vcS1, vcS2, vcS3, vcS4, vcS5, vcS6, vc_n0, vc_lk, vc_pop, vc_rc, vc_tsw, vc_fr, vc_ar, vc_tb, mz_nx, List.set_cons_zero, List.set_cons_succ, Nat.reduceAdd, Nat.reduceBEq, Nat.reduceEqDiff, Nat.reduceLeDiff, Nat.reduceLT, Nat.reduceMul, Int.reduceToNat, Bool.false_eq_true, Bool.or_self, Bool.or_true, Bool.true_or, Bool.or_false, reduceIte, Option.toList_some, Option.toList_none, List.nil_append, List.cons_append, List.length_cons, List.length_nil, true_and, and_true, Int.cast_ofNat_Int, Int.reduceEq, Int.reduceLT, Int.reduceLE, Nat.zero_le, and_self, or_true, true_or, cdS_190, Int.reduceAdd, hI, hA]
  refine ⟨by simp [mz_w], ?_⟩
  refine ⟨_, _, gi_zclear (hI := hB 2 (by omega)) _ (w + 11), ?_⟩
  simp only [vcS0, vcS1, vcS2, vcS3, vcS4, vcS5, vcS6, vc_n0, vc_lk, vc_pop, vc_rc, vc_tsw, vc_fr, vc_ar, vc_tb, mz_nx, List.set_cons_zero, List.set_cons_succ, Nat.reduceAdd, Nat.reduceBEq, Nat.reduceEqDiff, Nat.reduceLeDiff, Nat.reduceLT, Nat.reduceMul, Int.reduceToNat, Bool.false_eq_true, Bool.or_self, Bool.or_true, Bool.true_or, Bool.or_false, reduceIte, Option.toList_some, Option.toList_none, List.nil_append, List.cons_append, List.length_cons, List.length_nil, true_and, and_true, Int.cast_ofNat_Int, Int.reduceEq, Int.reduceLT, Int.reduceLE, Nat.zero_le, and_self, or_true, true_or, cdS_190, Int.reduceAdd, hI, hA]
  refine ⟨by simp [mz_w], ?_⟩
  refine ⟨_, _, gi_zclear (hI := hB 3 (by omega)) _ (w + 13), ?_⟩
  simp only [vcS0, vcS1, vcS2, vcS3, vcS4, vcS5, vcS6, vc_n0, vc_lk, vc_pop, vc_rc, vc_tsw, vc_fr, vc_ar, vc_tb, mz_nx, List.set_cons_zero, List.set_cons_succ, Nat.reduceAdd, Nat.reduceBEq, Nat.reduceEqDiff, Nat.reduceLeDiff, Nat.reduceLT, Nat.reduceMul, Int.reduceToNat, Bool.false_eq_true, Bool.or_self, Bool.or_true, Bool.true_or, Bool.or_false, reduceIte, Option.toList_some, Option.toList_none, List.nil_append, List.cons_append, List.length_cons, List.length_nil, true_and, and_true, Int.cast_ofNat_Int, Int.reduceEq, Int.reduceLT, Int.reduceLE, Nat.zero_le, and_self, or_true, true_or, cdS_190, Int.reduceAdd, hI, hA]
  refine ⟨by simp [mz_w], ?_⟩
  refine ⟨_, _, gi_findWays (hI := hI) _ w ?_, ?_⟩
  · intro j hj
    simp [up_at, hj]
  simp only [vcS0, vcS1, vcS2, vcS3, vcS4, vcS5, vcS6, vc_n0, vc_lk, vc_pop, vc_rc, vc_tsw, vc_fr, vc_ar, vc_tb, mz_nx, List.set_cons_zero, List.set_cons_succ, Nat.reduceAdd, Nat.reduceBEq, Nat.reduceEqDiff, Nat.reduceLeDiff, Nat.reduceLT, Nat.reduceMul, Int.reduceToNat, Bool.false_eq_true, Bool.or_self, Bool.or_true, Bool.true_or, Bool.or_false, reduceIte, Option.toList_some, Option.toList_none, List.nil_append, List.cons_append, List.length_cons, List.length_nil, true_and, and_true, Int.cast_ofNat_Int, Int.reduceEq, Int.reduceLT, Int.reduceLE, Nat.zero_le, and_self, or_true, true_or, cdS_190, Int.reduceAdd, hI, hA]
  apply congrArg
  funext a j
  by_cases h5 : a = w + 5 ∧ j < 100
  · obtain ⟨rfl, h5⟩ := h5
    rw [rowS_at h5]
    refine (fwT_congr (U := fun _ => 1000000) (fun i hi => ?_) j h5).trans ?_
    · simp [up_at, hi]
    · simp [tC, h5]
  · unfold rowS tC mz_up
    rw [if_neg h5]
    grind (splits := 60)
