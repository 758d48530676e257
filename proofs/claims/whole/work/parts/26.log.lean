def mxp (f : Nat → Int) : Nat → Int × Int
  | 0 => (-1, 0)
  | p + 1 => if (mxp f p).2 < f p then ((p : Int), f p) else mxp f p
def pkT (m : mz_M) (l : Nat) (d : Int) (n p : Nat) : Int := sm (fun i => if (m (l + 2) i = 1 ∧ m (l + 1) i / 1440 = d) ∧ m (l + 4) i = p then 1 else 0) n
theorem mp_loop2 (m : mz_M) {l : Nat} (d : Int) (F : Nat → Int) : ∀ (r j : Nat), j + r = 10 → sx 127 39 [some (mz_r 1 0 l), some (mz_i d), some (mz_i (mxp F j).1), some (mz_i (mxp F j).2), some (mz_i j)] [] (rowS m (l + 6) 10 F) (some (mz_i (mxp F 10).1)) (rowS m (l + 6) 10 F) := by
  intro r
  induction r with
  | zero =>
    intro j hj
    obtain rfl : j = 10 := by omega
    refine mz_vc_ok 60 (ct := fun i => i == 39) ?_
    simp only [vcS0, vcS1, vcS2, vcS3, vcS4, vcS5, vcS6, vc_n0, vc_lk, vc_pop, vc_rc, vc_tsw, vc_fr, vc_ar, vc_tb, mz_nx, List.set_cons_zero, List.set_cons_succ, Nat.reduceAdd, Nat.reduceBEq, Nat.reduceEqDiff, Nat.reduceLeDiff, Nat.reduceLT, Nat.reduceMul, Int.reduceToNat, Bool.false_eq_true, Bool.or_self, Bool.or_true, Bool.true_or, Bool.or_false, reduceIte, Option.toList_some, Option.toList_none, List.nil_append, List.cons_append, List.length_cons, List.length_nil, true_and, and_true, Int.cast_ofNat_Int, Int.reduceEq, Int.reduceLT, Int.reduceLE, Nat.zero_le, and_self, or_true, true_or, cdS_127]
  | succ r ih =>
    intro j hj
    have hk := ih (j + 1) (by omega)
    refine mz_vc_ok 60 (ct := fun i => i == 39) ?_
    simp only [vcS0, vcS1, vcS2, vcS3, vcS4, vcS5, vcS6, vc_n0, vc_lk, vc_pop, vc_rc, vc_tsw, vc_fr, vc_ar, vc_tb, mz_nx, List.set_cons_zero, List.set_cons_succ, Nat.reduceAdd, Nat.reduceBEq, Nat.reduceEqDiff, Nat.reduceLeDiff, Nat.reduceLT, Nat.reduceMul, Int.reduceToNat, Bool.false_eq_true, Bool.or_self, Bool.or_true, Bool.true_or, Bool.or_false, reduceIte, Option.toList_some, Option.toList_none, List.nil_append, List.cons_append, List.length_cons, List.length_nil, true_and, and_true, Int.cast_ofNat_Int, Int.reduceEq, Int.reduceLT, Int.reduceLE, Nat.zero_le, and_self, or_true, true_or, cdS_127]
    rw [if_pos (by omega), Int.toNat_natCast, rowS_at (by omega)]
    rw [mxp] at hk
    refine ⟨by omega, ?_⟩
    by_cases h1 : (mxp F j).2 < F j
    · rw [if_neg (by omega)]
      rw [if_pos h1] at hk
      exact ⟨by omega, (by unfold mz_w; omega), hk⟩
    · rw [if_pos (by omega)]
      rw [if_neg h1] at hk
      exact ⟨(by unfold mz_w; omega), hk⟩
theorem mp_loop (m : mz_M) {l n : Nat} {d : Int} (h : lgO m l n) (hp : ∀ i, i < n → m (l + 2) i = 1 → m (l + 4) i < 10) : ∀ (r j : Nat) (x : Option mz_V), j + r = n → sx 127 6 [some (mz_r 1 0 l), some (mz_i d), some (mz_i j), x, none] [] (rowS m (l + 6) 10 (pkT m l d j)) (some (mz_i (mxp (pkT m l d n) 10).1)) (rowS m (l + 6) 10 (pkT m l d n)) := by
  intro r
  induction r with
  | zero =>
    intro j x hj
    obtain rfl : j = n := by omega
    refine mz_vc_ok 60 (ct := fun i => i == 6 || i == 39) ?_
    simp only [vcS0, vcS1, vcS2, vcS3, vcS4, vcS5, vcS6, vc_n0, vc_lk, vc_pop, vc_rc, vc_tsw, vc_fr, vc_ar, vc_tb, mz_nx, List.set_cons_zero, List.set_cons_succ, Nat.reduceAdd, Nat.reduceBEq, Nat.reduceEqDiff, Nat.reduceLeDiff, Nat.reduceLT, Nat.reduceMul, Int.reduceToNat, Bool.false_eq_true, Bool.or_self, Bool.or_true, Bool.true_or, Bool.or_false, reduceIte, Option.toList_some, Option.toList_none, List.nil_append, List.cons_append, List.length_cons, List.length_nil, true_and, and_true, Int.cast_ofNat_Int, Int.reduceEq, Int.reduceLT, Int.reduceLE, Nat.zero_le, and_self, or_true, true_or, cdS_127]
    rw [rowS_o (by omega), if_neg (by have := h.1; omega)]
    exact mp_loop2 m d (pkT m l d j) 10 0 rfl
  | succ r ih =>
    intro j x hj
    have hk := fun x => ih (j + 1) x (by omega)
    have hj2 := h.2.2 j (by omega)
    have hn := h.2.1
    have hpj := hp j (by omega)
    obtain ⟨c, hc⟩ := Int.eq_ofNat_of_zero_le hj2.2.2.1
    refine mz_vc_ok 60 (ct := fun i => i == 6) ?_
    simp only [vcS0, vcS1, vcS2, vcS3, vcS4, vcS5, vcS6, vc_n0, vc_lk, vc_pop, vc_rc, vc_tsw, vc_fr, vc_ar, vc_tb, mz_nx, List.set_cons_zero, List.set_cons_succ, Nat.reduceAdd, Nat.reduceBEq, Nat.reduceEqDiff, Nat.reduceLeDiff, Nat.reduceLT, Nat.reduceMul, Int.reduceToNat, Bool.false_eq_true, Bool.or_self, Bool.or_true, Bool.true_or, Bool.or_false, reduceIte, Option.toList_some, Option.toList_none, List.nil_append, List.cons_append, List.length_cons, List.length_nil, true_and, and_true, Int.cast_ofNat_Int, Int.reduceEq, Int.reduceLT, Int.reduceLE, Nat.zero_le, and_self, or_true, true_or, cdS_127]
    rw [rowS_o (by omega), if_pos (by have := h.1; omega)]
    have hon := sp_isOn (rowS m (l + 6) 10 (pkT m l d j)) (l := l) (e := j) (d := d) (k := 1) (by omega) (by rw [rowS_o (by omega)]; exact hj2.1.1)
    rw [rowS_o (by omega), rowS_o (by omega)] at hon
    refine ⟨_, _, hon, ?_⟩
    by_cases h1 : m (l + 2) j = 1 ∧ m (l + 1) j / 1440 = d
    · rw [if_pos h1]
      have hc10 := hpj h1.1
      simp only [vcS0, vcS1, vcS2, vcS3, vcS4, vcS5, vcS6, vc_n0, vc_lk, vc_pop, vc_rc, vc_tsw, vc_fr, vc_ar, vc_tb, mz_nx, List.set_cons_zero, List.set_cons_succ, Nat.reduceAdd, Nat.reduceBEq, Nat.reduceEqDiff, Nat.reduceLeDiff, Nat.reduceLT, Nat.reduceMul, Int.reduceToNat, Bool.false_eq_true, Bool.or_self, Bool.or_true, Bool.true_or, Bool.or_false, reduceIte, Option.toList_some, Option.toList_none, List.nil_append, List.cons_append, List.length_cons, List.length_nil, true_and, and_true, Int.cast_ofNat_Int, Int.reduceEq, Int.reduceLT, Int.reduceLE, Nat.zero_le, and_self, or_true, true_or, cdS_127]
      refine ⟨_, _, sp_atN _ (show j < 400 by omega), ?_⟩
      simp only [vcS0, vcS1, vcS2, vcS3, vcS4, vcS5, vcS6, vc_n0, vc_lk, vc_pop, vc_rc, vc_tsw, vc_fr, vc_ar, vc_tb, mz_nx, List.set_cons_zero, List.set_cons_succ, Nat.reduceAdd, Nat.reduceBEq, Nat.reduceEqDiff, Nat.reduceLeDiff, Nat.reduceLT, Nat.reduceMul, Int.reduceToNat, Bool.false_eq_true, Bool.or_self, Bool.or_true, Bool.true_or, Bool.or_false, reduceIte, Option.toList_some, Option.toList_none, List.nil_append, List.cons_append, List.length_cons, List.length_nil, true_and, and_true, Int.cast_ofNat_Int, Int.reduceEq, Int.reduceLT, Int.reduceLE, Nat.zero_le, and_self, or_true, true_or, cdS_127]
      rw [rowS_o (by omega), hc]
      refine ⟨_, _, sp_atN _ (show c < 10 by omega), ?_⟩
      simp only [vcS0, vcS1, vcS2, vcS3, vcS4, vcS5, vcS6, vc_n0, vc_lk, vc_pop, vc_rc, vc_tsw, vc_fr, vc_ar, vc_tb, mz_nx, List.set_cons_zero, List.set_cons_succ, Nat.reduceAdd, Nat.reduceBEq, Nat.reduceEqDiff, Nat.reduceLeDiff, Nat.reduceLT, Nat.reduceMul, Int.reduceToNat, Bool.false_eq_true, Bool.or_self, Bool.or_true, Bool.true_or, Bool.or_false, reduceIte, Option.toList_some, Option.toList_none, List.nil_append, List.cons_append, List.length_cons, List.length_nil, true_and, and_true, Int.cast_ofNat_Int, Int.reduceEq, Int.reduceLT, Int.reduceLE, Nat.zero_le, and_self, or_true, true_or, cdS_127]
      rw [rowS_at (by omega)]
      have h0 : 0 ≤ pkT m l d j c := sm_0 fun i hi => by split <;> omega
      have h2 : pkT m l d j c ≤ 1 * j := sm_ub fun i hi => by split <;> omega
      refine ⟨(by unfold mz_w; omega), ?_⟩
      refine ⟨_, _, sp_putN _ _ (show c < 10 by omega), ?_⟩
      simp only [vcS0, vcS1, vcS2, vcS3, vcS4, vcS5, vcS6, vc_n0, vc_lk, vc_pop, vc_rc, vc_tsw, vc_fr, vc_ar, vc_tb, mz_nx, List.set_cons_zero, List.set_cons_succ, Nat.reduceAdd, Nat.reduceBEq, Nat.reduceEqDiff, Nat.reduceLeDiff, Nat.reduceLT, Nat.reduceMul, Int.reduceToNat, Bool.false_eq_true, Bool.or_self, Bool.or_true, Bool.true_or, Bool.or_false, reduceIte, Option.toList_some, Option.toList_none, List.nil_append, List.cons_append, List.length_cons, List.length_nil, true_and, and_true, Int.cast_ofNat_Int, Int.reduceEq, Int.reduceLT, Int.reduceLE, Nat.zero_le, and_self, or_true, true_or, cdS_127]
      refine ⟨(by unfold mz_w; omega), ?_⟩
      rw [rowS_up (by omega)]
      have e : pkT m l d (j + 1) = fun i => if i = c then pkT m l d j c + 1 else pkT m l d j i := by
        funext i
        show pkT m l d j i + (if (m (l + 2) j = 1 ∧ m (l + 1) j / 1440 = d) ∧ m (l + 4) j = i then 1 else 0) = _
        rw [hc]
        by_cases hi : i = c
        · rw [if_pos hi, if_pos ⟨h1, by omega⟩, hi]
        · rw [if_neg hi, if_neg (by omega), Int.add_zero]
      rw [e] at hk
      exact hk _
    · rw [if_neg h1]
      simp only [vcS0, vcS1, vcS2, vcS3, vcS4, vcS5, vcS6, vc_n0, vc_lk, vc_pop, vc_rc, vc_tsw, vc_fr, vc_ar, vc_tb, mz_nx, List.set_cons_zero, List.set_cons_succ, Nat.reduceAdd, Nat.reduceBEq, Nat.reduceEqDiff, Nat.reduceLeDiff, Nat.reduceLT, Nat.reduceMul, Int.reduceToNat, Bool.false_eq_true, Bool.or_self, Bool.or_true, Bool.true_or, Bool.or_false, reduceIte, Option.toList_some, Option.toList_none, List.nil_append, List.cons_append, List.length_cons, List.length_nil, true_and, and_true, Int.cast_ofNat_Int, Int.reduceEq, Int.reduceLT, Int.reduceLE, Nat.zero_le, and_self, or_true, true_or, cdS_127]
      refine ⟨(by unfold mz_w; omega), ?_⟩
      have e : pkT m l d (j + 1) = pkT m l d j := by
        funext i
        show pkT m l d j i + (if (m (l + 2) j = 1 ∧ m (l + 1) j / 1440 = d) ∧ m (l + 4) j = i then 1 else 0) = _
        rw [if_neg (fun x => h1 x.1), Int.add_zero]
      rw [e] at hk
      exact hk _
theorem sp_mostParks (m : mz_M) {l n : Nat} {d : Int} (h : lgO m l n) (hp : ∀ i, i < n → m (l + 2) i = 1 → m (l + 4) i < 10) : sp 127 [mz_r 1 0 l, mz_i d] m (some (mz_i (mxp (pkT m l d n) 10).1)) (rowS m (l + 6) 10 (pkT m l d n)) := by
  refine mz_cl_vc 60 (fun i => i == 6) [some (mz_r 1 0 l), some (mz_i d), none, none, none] rfl ?_
  simp only [vcS0, vcS1, vcS2, vcS3, vcS4, vcS5, vcS6, vc_n0, vc_lk, vc_pop, vc_rc, vc_tsw, vc_fr, vc_ar, vc_tb, mz_nx, List.set_cons_zero, List.set_cons_succ, Nat.reduceAdd, Nat.reduceBEq, Nat.reduceEqDiff, Nat.reduceLeDiff, Nat.reduceLT, Nat.reduceMul, Int.reduceToNat, Bool.false_eq_true, Bool.or_self, Bool.or_true, Bool.true_or, Bool.or_false, reduceIte, Option.toList_some, Option.toList_none, List.nil_append, List.cons_append, List.length_cons, List.length_nil, true_and, and_true, Int.cast_ofNat_Int, Int.reduceEq, Int.reduceLT, Int.reduceLE, Nat.zero_le, and_self, or_true, true_or, cdS_127]
  refine ⟨_, _, sp_fill m 10 (l + 6) 0 (by omega), ?_⟩
  simp only [vcS0, vcS1, vcS2, vcS3, vcS4, vcS5, vcS6, vc_n0, vc_lk, vc_pop, vc_rc, vc_tsw, vc_fr, vc_ar, vc_tb, mz_nx, List.set_cons_zero, List.set_cons_succ, Nat.reduceAdd, Nat.reduceBEq, Nat.reduceEqDiff, Nat.reduceLeDiff, Nat.reduceLT, Nat.reduceMul, Int.reduceToNat, Bool.false_eq_true, Bool.or_self, Bool.or_true, Bool.true_or, Bool.or_false, reduceIte, Option.toList_some, Option.toList_none, List.nil_append, List.cons_append, List.length_cons, List.length_nil, true_and, and_true, Int.cast_ofNat_Int, Int.reduceEq, Int.reduceLT, Int.reduceLE, Nat.zero_le, and_self, or_true, true_or, cdS_127]
  have := mp_loop m (d := d) h hp n 0 none (by omega)
  exact this
