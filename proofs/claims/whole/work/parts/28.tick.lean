/-! Tickets that would be written. -/
def caO (m : mz_M) (k : Nat) : Prop := (0 ≤ m k 2 ∧ m k 2 < 10) ∧ (0 ≤ m k 3 ∧ m k 3 < 20000) ∧ (0 ≤ m k 5 ∧ m k 5 ≤ 1000 ∧ 0 ≤ m k 6 ∧ m k 6 ≤ 1000)
def ovr (m : mz_M) (u k t : Nat) : Int := cm (m (zoA m u (m k 2).toNat + 1)) (m k 3).toNat (t - (m k 3).toNat)
def tkF (m : mz_M) (u k t : Nat) : Int := if m k 1 ≠ 1 ∨ (0 < m k 5 ∧ (t : Int) - 120 < m k 7) then 0 else if 0 < ovr m u k t then fnB (ovr m u k t) + 500 * min 5 (m k 5 - m k 6) else 0
theorem sp_ticketFor (m : mz_M) {u k t : Nat} (h : caO m k) (ht : t < 20000) : sp 203 [mz_r 6 0 u, mz_r 0 0 k, mz_i t] m (some (mz_i (tkF m u k t))) m := by
  obtain ⟨p, hp⟩ := nat_i h.1.1
  obtain ⟨f, hf⟩ := nat_i h.2.1.1
  have hov : ovr m u k t = cm (m (zoA m u p + 1)) f (t - f) := by unfold ovr; rw [hp, hf, Int.toNat_natCast, Int.toNat_natCast]
  have hh := h.2.1
  unfold tkF
  refine mz_cl_vc 60 (fun _ => false) [some (mz_r 6 0 u), some (mz_r 0 0 k), some (mz_i t), none] rfl ?_
  simp only [vcS0, vcS1, vcS2, vcS3, vcS4, vcS5, vcS6, vc_n0, vc_lk, vc_pop, vc_rc, vc_tsw, vc_fr, vc_ar, vc_tb, mz_nx, List.set_cons_zero, List.set_cons_succ, Nat.reduceAdd, Nat.reduceBEq, Nat.reduceEqDiff, Nat.reduceLeDiff, Nat.reduceLT, Nat.reduceMul, Int.reduceToNat, Bool.false_eq_true, Bool.or_self, Bool.or_true, Bool.true_or, Bool.or_false, reduceIte, Option.toList_some, Option.toList_none, List.nil_append, List.cons_append, List.length_cons, List.length_nil, true_and, and_true, Int.cast_ofNat_Int, Int.reduceEq, Int.reduceLT, Int.reduceLE, Nat.zero_le, and_self, or_true, true_or, cdS_203]
  by_cases h1 : m k 1 = 1
  · simp only [h1, true_and, if_true, ne_eq, not_true, false_or]
    refine ⟨_, _, sp_hadShortly m k t (by omega), ?_⟩
    by_cases h2 : 0 < m k 5 ∧ (t : Int) - 120 < m k 7
    · rw [if_pos h2, if_pos h2]
      simp only [vcS0, vcS1, vcS2, vcS3, vcS4, vcS5, vcS6, vc_n0, vc_lk, vc_pop, vc_rc, vc_tsw, vc_fr, vc_ar, vc_tb, mz_nx, List.set_cons_zero, List.set_cons_succ, Nat.reduceAdd, Nat.reduceBEq, Nat.reduceEqDiff, Nat.reduceLeDiff, Nat.reduceLT, Nat.reduceMul, Int.reduceToNat, Bool.false_eq_true, Bool.or_self, Bool.or_true, Bool.true_or, Bool.or_false, reduceIte, Option.toList_some, Option.toList_none, List.nil_append, List.cons_append, List.length_cons, List.length_nil, true_and, and_true, Int.cast_ofNat_Int, Int.reduceEq, Int.reduceLT, Int.reduceLE, Nat.zero_le, and_self, or_true, true_or, cdS_203]
    · rw [if_neg h2, if_neg h2]
      simp only [vcS0, vcS1, vcS2, vcS3, vcS4, vcS5, vcS6, vc_n0, vc_lk, vc_pop, vc_rc, vc_tsw, vc_fr, vc_ar, vc_tb, mz_nx, List.set_cons_zero, List.set_cons_succ, Nat.reduceAdd, Nat.reduceBEq, Nat.reduceEqDiff, Nat.reduceLeDiff, Nat.reduceLT, Nat.reduceMul, Int.reduceToNat, Bool.false_eq_true, Bool.or_self, Bool.or_true, Bool.true_or, Bool.or_false, reduceIte, Option.toList_some, Option.toList_none, List.nil_append, List.cons_append, List.length_cons, List.length_nil, true_and, and_true, Int.cast_ofNat_Int, Int.reduceEq, Int.reduceLT, Int.reduceLE, Nat.zero_le, and_self, or_true, true_or, cdS_203]
      rw [hp]
      refine ⟨_, _, sp_zoneAtW m u p, ?_⟩
      simp only [vcS0, vcS1, vcS2, vcS3, vcS4, vcS5, vcS6, vc_n0, vc_lk, vc_pop, vc_rc, vc_tsw, vc_fr, vc_ar, vc_tb, mz_nx, List.set_cons_zero, List.set_cons_succ, Nat.reduceAdd, Nat.reduceBEq, Nat.reduceEqDiff, Nat.reduceLeDiff, Nat.reduceLT, Nat.reduceMul, Int.reduceToNat, Bool.false_eq_true, Bool.or_self, Bool.or_true, Bool.true_or, Bool.or_false, reduceIte, Option.toList_some, Option.toList_none, List.nil_append, List.cons_append, List.length_cons, List.length_nil, true_and, and_true, Int.cast_ofNat_Int, Int.reduceEq, Int.reduceLT, Int.reduceLE, Nat.zero_le, and_self, or_true, true_or, cdS_203]
      rw [hf]
      refine ⟨_, _, sp_chargedMinutes m (by omega) (by omega), ?_⟩
      simp only [vcS0, vcS1, vcS2, vcS3, vcS4, vcS5, vcS6, vc_n0, vc_lk, vc_pop, vc_rc, vc_tsw, vc_fr, vc_ar, vc_tb, mz_nx, List.set_cons_zero, List.set_cons_succ, Nat.reduceAdd, Nat.reduceBEq, Nat.reduceEqDiff, Nat.reduceLeDiff, Nat.reduceLT, Nat.reduceMul, Int.reduceToNat, Bool.false_eq_true, Bool.or_self, Bool.or_true, Bool.true_or, Bool.or_false, reduceIte, Option.toList_some, Option.toList_none, List.nil_append, List.cons_append, List.length_cons, List.length_nil, true_and, and_true, Int.cast_ofNat_Int, Int.reduceEq, Int.reduceLT, Int.reduceLE, Nat.zero_le, and_self, or_true, true_or, cdS_203]
      rw [← hov]
      by_cases h3 : 0 < ovr m u k t
      · rw [if_neg (by omega), if_pos h3]
        refine ⟨_, _, sp_fineFor m k _ h.2.2, ?_⟩
        simp only [vcS0, vcS1, vcS2, vcS3, vcS4, vcS5, vcS6, vc_n0, vc_lk, vc_pop, vc_rc, vc_tsw, vc_fr, vc_ar, vc_tb, mz_nx, List.set_cons_zero, List.set_cons_succ, Nat.reduceAdd, Nat.reduceBEq, Nat.reduceEqDiff, Nat.reduceLeDiff, Nat.reduceLT, Nat.reduceMul, Int.reduceToNat, Bool.false_eq_true, Bool.or_self, Bool.or_true, Bool.true_or, Bool.or_false, reduceIte, Option.toList_some, Option.toList_none, List.nil_append, List.cons_append, List.length_cons, List.length_nil, true_and, and_true, Int.cast_ofNat_Int, Int.reduceEq, Int.reduceLT, Int.reduceLE, Nat.zero_le, and_self, or_true, true_or, cdS_203]
      · rw [if_pos (by omega), if_neg h3]
  · simp only [h1, if_false, ne_eq, not_false_iff, true_or, if_true]
theorem tkF_ok {m : mz_M} {k : Nat} (u t : Nat) (h : caO m k) (h2 : m k 6 ≤ m k 5) : 0 ≤ tkF m u k t ∧ tkF m u k t ≤ 8500 := by
  unfold tkF fnB
  have := h.2.2
  (repeat' split) <;> omega
def tkN (m : mz_M) (u p t c : Nat) : Int := if (m (u + 24 + c) 1 = 1 ∧ m (u + 24 + c) 2 = p) ∧ 0 < tkF m u (u + 24 + c) t then 1 else 0
theorem ct_loop (m : mz_M) {u p t : Nat} (h : ∀ c, c < 16 → caO m (u + 24 + c)) (ht : t < 20000) : ∀ (r j : Nat) (x : Option mz_V), j + r = 16 → sx 242 10 [some (mz_r 6 0 u), some (mz_i p), some (mz_i t), some (mz_i (sm (tkN m u p t) j)), some (mz_r 104 16 (u + 16)), some (mz_i 16), some (mz_i j), x] [] m (some (mz_i (sm (tkN m u p t) 16))) m := by
  intro r
  induction r with
  | zero =>
    intro j x hj
    obtain rfl : j = 16 := by omega
    refine mz_vc_ok 60 (ct := fun i => i == 10) ?_
    simp only [vcS0, vcS1, vcS2, vcS3, vcS4, vcS5, vcS6, vc_n0, vc_lk, vc_pop, vc_rc, vc_tsw, vc_fr, vc_ar, vc_tb, mz_nx, List.set_cons_zero, List.set_cons_succ, Nat.reduceAdd, Nat.reduceBEq, Nat.reduceEqDiff, Nat.reduceLeDiff, Nat.reduceLT, Nat.reduceMul, Int.reduceToNat, Bool.false_eq_true, Bool.or_self, Bool.or_true, Bool.true_or, Bool.or_false, reduceIte, Option.toList_some, Option.toList_none, List.nil_append, List.cons_append, List.length_cons, List.length_nil, true_and, and_true, Int.cast_ofNat_Int, Int.reduceEq, Int.reduceLT, Int.reduceLE, Nat.zero_le, and_self, or_true, true_or, cdS_242]
  | succ r ih =>
    intro j x hj
    have hk := fun x => ih (j + 1) x (by omega)
    have h0 : 0 ≤ sm (tkN m u p t) j := sm_0 fun i hi => by unfold tkN; split <;> omega
    have h1 : sm (tkN m u p t) j ≤ 1 * j := sm_ub fun i hi => by unfold tkN; split <;> omega
    have e : sm (tkN m u p t) (j + 1) = sm (tkN m u p t) j + tkN m u p t j := rfl
    refine mz_vc_ok 60 (ct := fun i => i == 10) ?_
    simp only [vcS0, vcS1, vcS2, vcS3, vcS4, vcS5, vcS6, vc_n0, vc_lk, vc_pop, vc_rc, vc_tsw, vc_fr, vc_ar, vc_tb, mz_nx, List.set_cons_zero, List.set_cons_succ, Nat.reduceAdd, Nat.reduceBEq, Nat.reduceEqDiff, Nat.reduceLeDiff, Nat.reduceLT, Nat.reduceMul, Int.reduceToNat, Bool.false_eq_true, Bool.or_self, Bool.or_true, Bool.true_or, Bool.or_false, reduceIte, Option.toList_some, Option.toList_none, List.nil_append, List.cons_append, List.length_cons, List.length_nil, true_and, and_true, Int.cast_ofNat_Int, Int.reduceEq, Int.reduceLT, Int.reduceLE, Nat.zero_le, and_self, or_true, true_or, cdS_242]
    rw [if_pos (by omega), Int.toNat_natCast, show u + 16 + (8 + 1 * j) = u + 24 + j by omega]
    refine ⟨by omega, ?_⟩
    refine ⟨_, _, sp_isAt m _ _ _, ?_⟩
    unfold tkN at e
    by_cases h2 : m (u + 24 + j) 1 = 1 ∧ m (u + 24 + j) 2 = p
    · rw [if_pos h2]
      simp only [vcS0, vcS1, vcS2, vcS3, vcS4, vcS5, vcS6, vc_n0, vc_lk, vc_pop, vc_rc, vc_tsw, vc_fr, vc_ar, vc_tb, mz_nx, List.set_cons_zero, List.set_cons_succ, Nat.reduceAdd, Nat.reduceBEq, Nat.reduceEqDiff, Nat.reduceLeDiff, Nat.reduceLT, Nat.reduceMul, Int.reduceToNat, Bool.false_eq_true, Bool.or_self, Bool.or_true, Bool.true_or, Bool.or_false, reduceIte, Option.toList_some, Option.toList_none, List.nil_append, List.cons_append, List.length_cons, List.length_nil, true_and, and_true, Int.cast_ofNat_Int, Int.reduceEq, Int.reduceLT, Int.reduceLE, Nat.zero_le, and_self, or_true, true_or, cdS_242]
      refine ⟨_, _, sp_ticketFor m (h j (by omega)) ht, ?_⟩
      simp only [vcS0, vcS1, vcS2, vcS3, vcS4, vcS5, vcS6, vc_n0, vc_lk, vc_pop, vc_rc, vc_tsw, vc_fr, vc_ar, vc_tb, mz_nx, List.set_cons_zero, List.set_cons_succ, Nat.reduceAdd, Nat.reduceBEq, Nat.reduceEqDiff, Nat.reduceLeDiff, Nat.reduceLT, Nat.reduceMul, Int.reduceToNat, Bool.false_eq_true, Bool.or_self, Bool.or_true, Bool.true_or, Bool.or_false, reduceIte, Option.toList_some, Option.toList_none, List.nil_append, List.cons_append, List.length_cons, List.length_nil, true_and, and_true, Int.cast_ofNat_Int, Int.reduceEq, Int.reduceLT, Int.reduceLE, Nat.zero_le, and_self, or_true, true_or, cdS_242]
      by_cases h3 : 0 < tkF m u (u + 24 + j) t
      · rw [if_neg (by omega)]
        rw [if_pos ⟨h2, h3⟩] at e
        unfold tkN at hk h0 h1 ⊢
        rw [e] at hk
        exact ⟨(by unfold mz_w; omega), (by unfold mz_w; omega), hk _⟩
      · rw [if_pos (by omega)]
        rw [if_neg (fun x => h3 x.2), Int.add_zero] at e
        unfold tkN at hk ⊢
        rw [e] at hk
        exact ⟨(by unfold mz_w; omega), hk _⟩
    · rw [if_neg h2]
      simp only [vcS0, vcS1, vcS2, vcS3, vcS4, vcS5, vcS6, vc_n0, vc_lk, vc_pop, vc_rc, vc_tsw, vc_fr, vc_ar, vc_tb, mz_nx, List.set_cons_zero, List.set_cons_succ, Nat.reduceAdd, Nat.reduceBEq, Nat.reduceEqDiff, Nat.reduceLeDiff, Nat.reduceLT, Nat.reduceMul, Int.reduceToNat, Bool.false_eq_true, Bool.or_self, Bool.or_true, Bool.true_or, Bool.or_false, reduceIte, Option.toList_some, Option.toList_none, List.nil_append, List.cons_append, List.length_cons, List.length_nil, true_and, and_true, Int.cast_ofNat_Int, Int.reduceEq, Int.reduceLT, Int.reduceLE, Nat.zero_le, and_self, or_true, true_or, cdS_242]
      rw [if_neg (fun x => h2 x.1), Int.add_zero] at e
      unfold tkN at hk ⊢
      rw [e] at hk
      exact ⟨(by unfold mz_w; omega), hk _⟩
theorem sp_countTickets (m : mz_M) {u p t : Nat} (h : ∀ c, c < 16 → caO m (u + 24 + c)) (ht : t < 20000) : sp 242 [mz_r 6 0 u, mz_i p, mz_i t] m (some (mz_i (sm (tkN m u p t) 16))) m := by
  refine mz_cl_vc 60 (fun i => i == 10) [some (mz_r 6 0 u), some (mz_i p), some (mz_i t), none, none, none, none, none] rfl ?_
  simp only [vcS0, vcS1, vcS2, vcS3, vcS4, vcS5, vcS6, vc_n0, vc_lk, vc_pop, vc_rc, vc_tsw, vc_fr, vc_ar, vc_tb, mz_nx, List.set_cons_zero, List.set_cons_succ, Nat.reduceAdd, Nat.reduceBEq, Nat.reduceEqDiff, Nat.reduceLeDiff, Nat.reduceLT, Nat.reduceMul, Int.reduceToNat, Bool.false_eq_true, Bool.or_self, Bool.or_true, Bool.true_or, Bool.or_false, reduceIte, Option.toList_some, Option.toList_none, List.nil_append, List.cons_append, List.length_cons, List.length_nil, true_and, and_true, Int.cast_ofNat_Int, Int.reduceEq, Int.reduceLT, Int.reduceLE, Nat.zero_le, and_self, or_true, true_or, cdS_242]
  exact ct_loop m h ht 16 0 none rfl
def tkS (m : mz_M) (u p t c : Nat) : Int := if m (u + 24 + c) 1 = 1 ∧ m (u + 24 + c) 2 = p then tkF m u (u + 24 + c) t else 0
theorem tks_ok {m : mz_M} {u p t c : Nat} (h : caO m (u + 24 + c)) (h2 : m (u + 24 + c) 6 ≤ m (u + 24 + c) 5) : 0 ≤ tkS m u p t c ∧ tkS m u p t c ≤ 8500 := by
  have := tkF_ok u t h h2
  unfold tkS
  split <;> omega
theorem ts_loop (m : mz_M) {u p t : Nat} (h : ∀ c, c < 16 → caO m (u + 24 + c) ∧ m (u + 24 + c) 6 ≤ m (u + 24 + c) 5) (ht : t < 20000) : ∀ (r j : Nat) (x : Option mz_V), j + r = 16 → sx 244 10 [some (mz_r 6 0 u), some (mz_i p), some (mz_i t), some (mz_i (sm (tkS m u p t) j)), some (mz_r 104 16 (u + 16)), some (mz_i 16), some (mz_i j), x] [] m (some (mz_i (sm (tkS m u p t) 16))) m := by
  intro r
  induction r with
  | zero =>
    intro j x hj
    obtain rfl : j = 16 := by omega
    refine mz_vc_ok 60 (ct := fun i => i == 10) ?_
    simp only [vcS0, vcS1, vcS2, vcS3, vcS4, vcS5, vcS6, vc_n0, vc_lk, vc_pop, vc_rc, vc_tsw, vc_fr, vc_ar, vc_tb, mz_nx, List.set_cons_zero, List.set_cons_succ, Nat.reduceAdd, Nat.reduceBEq, Nat.reduceEqDiff, Nat.reduceLeDiff, Nat.reduceLT, Nat.reduceMul, Int.reduceToNat, Bool.false_eq_true, Bool.or_self, Bool.or_true, Bool.true_or, Bool.or_false, reduceIte, Option.toList_some, Option.toList_none, List.nil_append, List.cons_append, List.length_cons, List.length_nil, true_and, and_true, Int.cast_ofNat_Int, Int.reduceEq, Int.reduceLT, Int.reduceLE, Nat.zero_le, and_self, or_true, true_or, cdS_244]
  | succ r ih =>
    intro j x hj
    have hk := fun x => ih (j + 1) x (by omega)
    have hcj := h j (by omega)
    have h0 : 0 ≤ sm (tkS m u p t) j := sm_0 fun i hi => (tks_ok (h i (by omega)).1 (h i (by omega)).2).1
    have h1 : sm (tkS m u p t) j ≤ 8500 * j := sm_ub fun i hi => (tks_ok (h i (by omega)).1 (h i (by omega)).2).2
    have e : sm (tkS m u p t) (j + 1) = sm (tkS m u p t) j + tkS m u p t j := rfl
    refine mz_vc_ok 60 (ct := fun i => i == 10) ?_
    simp only [vcS0, vcS1, vcS2, vcS3, vcS4, vcS5, vcS6, vc_n0, vc_lk, vc_pop, vc_rc, vc_tsw, vc_fr, vc_ar, vc_tb, mz_nx, List.set_cons_zero, List.set_cons_succ, Nat.reduceAdd, Nat.reduceBEq, Nat.reduceEqDiff, Nat.reduceLeDiff, Nat.reduceLT, Nat.reduceMul, Int.reduceToNat, Bool.false_eq_true, Bool.or_self, Bool.or_true, Bool.true_or, Bool.or_false, reduceIte, Option.toList_some, Option.toList_none, List.nil_append, List.cons_append, List.length_cons, List.length_nil, true_and, and_true, Int.cast_ofNat_Int, Int.reduceEq, Int.reduceLT, Int.reduceLE, Nat.zero_le, and_self, or_true, true_or, cdS_244]
    rw [if_pos (by omega), Int.toNat_natCast, show u + 16 + (8 + 1 * j) = u + 24 + j by omega]
    refine ⟨by omega, ?_⟩
    refine ⟨_, _, sp_isAt m _ _ _, ?_⟩
    by_cases h2 : m (u + 24 + j) 1 = 1 ∧ m (u + 24 + j) 2 = p
    · rw [if_pos h2]
      simp only [vcS0, vcS1, vcS2, vcS3, vcS4, vcS5, vcS6, vc_n0, vc_lk, vc_pop, vc_rc, vc_tsw, vc_fr, vc_ar, vc_tb, mz_nx, List.set_cons_zero, List.set_cons_succ, Nat.reduceAdd, Nat.reduceBEq, Nat.reduceEqDiff, Nat.reduceLeDiff, Nat.reduceLT, Nat.reduceMul, Int.reduceToNat, Bool.false_eq_true, Bool.or_self, Bool.or_true, Bool.true_or, Bool.or_false, reduceIte, Option.toList_some, Option.toList_none, List.nil_append, List.cons_append, List.length_cons, List.length_nil, true_and, and_true, Int.cast_ofNat_Int, Int.reduceEq, Int.reduceLT, Int.reduceLE, Nat.zero_le, and_self, or_true, true_or, cdS_244]
      refine ⟨_, _, sp_ticketFor m hcj.1 ht, ?_⟩
      simp only [vcS0, vcS1, vcS2, vcS3, vcS4, vcS5, vcS6, vc_n0, vc_lk, vc_pop, vc_rc, vc_tsw, vc_fr, vc_ar, vc_tb, mz_nx, List.set_cons_zero, List.set_cons_succ, Nat.reduceAdd, Nat.reduceBEq, Nat.reduceEqDiff, Nat.reduceLeDiff, Nat.reduceLT, Nat.reduceMul, Int.reduceToNat, Bool.false_eq_true, Bool.or_self, Bool.or_true, Bool.true_or, Bool.or_false, reduceIte, Option.toList_some, Option.toList_none, List.nil_append, List.cons_append, List.length_cons, List.length_nil, true_and, and_true, Int.cast_ofNat_Int, Int.reduceEq, Int.reduceLT, Int.reduceLE, Nat.zero_le, and_self, or_true, true_or, cdS_244]
      have h3 := tkF_ok u t hcj.1 hcj.2
      rw [e, show tkS m u p t j = tkF m u (u + 24 + j) t from if_pos h2] at hk
      exact ⟨(by unfold mz_w; omega), (by unfold mz_w; omega), hk _⟩
    · rw [if_neg h2]
      simp only [vcS0, vcS1, vcS2, vcS3, vcS4, vcS5, vcS6, vc_n0, vc_lk, vc_pop, vc_rc, vc_tsw, vc_fr, vc_ar, vc_tb, mz_nx, List.set_cons_zero, List.set_cons_succ, Nat.reduceAdd, Nat.reduceBEq, Nat.reduceEqDiff, Nat.reduceLeDiff, Nat.reduceLT, Nat.reduceMul, Int.reduceToNat, Bool.false_eq_true, Bool.or_self, Bool.or_true, Bool.true_or, Bool.or_false, reduceIte, Option.toList_some, Option.toList_none, List.nil_append, List.cons_append, List.length_cons, List.length_nil, true_and, and_true, Int.cast_ofNat_Int, Int.reduceEq, Int.reduceLT, Int.reduceLE, Nat.zero_le, and_self, or_true, true_or, cdS_244]
      rw [e, show tkS m u p t j = 0 from if_neg h2, Int.add_zero] at hk
      exact ⟨(by unfold mz_w; omega), hk _⟩
theorem sp_ticketSum (m : mz_M) {u p t : Nat} (h : ∀ c, c < 16 → caO m (u + 24 + c) ∧ m (u + 24 + c) 6 ≤ m (u + 24 + c) 5) (ht : t < 20000) : sp 244 [mz_r 6 0 u, mz_i p, mz_i t] m (some (mz_i (sm (tkS m u p t) 16))) m := by
  refine mz_cl_vc 60 (fun i => i == 10) [some (mz_r 6 0 u), some (mz_i p), some (mz_i t), none, none, none, none, none] rfl ?_
  simp only [vcS0, vcS1, vcS2, vcS3, vcS4, vcS5, vcS6, vc_n0, vc_lk, vc_pop, vc_rc, vc_tsw, vc_fr, vc_ar, vc_tb, mz_nx, List.set_cons_zero, List.set_cons_succ, Nat.reduceAdd, Nat.reduceBEq, Nat.reduceEqDiff, Nat.reduceLeDiff, Nat.reduceLT, Nat.reduceMul, Int.reduceToNat, Bool.false_eq_true, Bool.or_self, Bool.or_true, Bool.true_or, Bool.or_false, reduceIte, Option.toList_some, Option.toList_none, List.nil_append, List.cons_append, List.length_cons, List.length_nil, true_and, and_true, Int.cast_ofNat_Int, Int.reduceEq, Int.reduceLT, Int.reduceLE, Nat.zero_le, and_self, or_true, true_or, cdS_244]
  exact ts_loop m h ht 16 0 none rfl
def bwt (F : Nat → Int) : Nat → Int × Int
  | 0 => (0, 0)
  | w + 1 => if (bwt F w).2 < F w then ((w : Int), F w) else bwt F w
theorem bw_loop (m : mz_M) {u p t n : Nat} (h : ∀ c, c < 16 → caO m (u + 24 + c) ∧ m (u + 24 + c) 6 ≤ m (u + 24 + c) 5) (h3 : m u 3 = t) (ht : t + n < 20000) : ∀ (r j : Nat) (x : Option mz_V), j + r = n + 1 → sx 265 6 [some (mz_r 6 0 u), some (mz_i p), some (mz_i n), some (mz_i (bwt (fun w => sm (tkS m u p (t + w)) 16) j).1), some (mz_i (bwt (fun w => sm (tkS m u p (t + w)) 16) j).2), some (mz_i j), x] [] m (some (mz_i (bwt (fun w => sm (tkS m u p (t + w)) 16) (n + 1)).1)) m := by
  intro r
  induction r with
  | zero =>
    intro j x hj
    obtain rfl : j = n + 1 := by omega
    refine mz_vc_ok 60 (ct := fun i => i == 6) ?_
    simp only [vcS0, vcS1, vcS2, vcS3, vcS4, vcS5, vcS6, vc_n0, vc_lk, vc_pop, vc_rc, vc_tsw, vc_fr, vc_ar, vc_tb, mz_nx, List.set_cons_zero, List.set_cons_succ, Nat.reduceAdd, Nat.reduceBEq, Nat.reduceEqDiff, Nat.reduceLeDiff, Nat.reduceLT, Nat.reduceMul, Int.reduceToNat, Bool.false_eq_true, Bool.or_self, Bool.or_true, Bool.true_or, Bool.or_false, reduceIte, Option.toList_some, Option.toList_none, List.nil_append, List.cons_append, List.length_cons, List.length_nil, true_and, and_true, Int.cast_ofNat_Int, Int.reduceEq, Int.reduceLT, Int.reduceLE, Nat.zero_le, and_self, or_true, true_or, cdS_265]
    rw [if_neg (by omega)]
    trivial
  | succ r ih =>
    intro j x hj
    have hk := fun x => ih (j + 1) x (by omega)
    refine mz_vc_ok 60 (ct := fun i => i == 6) ?_
    simp only [vcS0, vcS1, vcS2, vcS3, vcS4, vcS5, vcS6, vc_n0, vc_lk, vc_pop, vc_rc, vc_tsw, vc_fr, vc_ar, vc_tb, mz_nx, List.set_cons_zero, List.set_cons_succ, Nat.reduceAdd, Nat.reduceBEq, Nat.reduceEqDiff, Nat.reduceLeDiff, Nat.reduceLT, Nat.reduceMul, Int.reduceToNat, Bool.false_eq_true, Bool.or_self, Bool.or_true, Bool.true_or, Bool.or_false, reduceIte, Option.toList_some, Option.toList_none, List.nil_append, List.cons_append, List.length_cons, List.length_nil, true_and, and_true, Int.cast_ofNat_Int, Int.reduceEq, Int.reduceLT, Int.reduceLE, Nat.zero_le, and_self, or_true, true_or, cdS_265]
    rw [if_pos (by omega), h3]
    refine ⟨(by unfold mz_w; omega), ?_⟩
    refine ⟨_, _, sp_ticketSum m (t := t + j) h (by omega), ?_⟩
    simp only [vcS0, vcS1, vcS2, vcS3, vcS4, vcS5, vcS6, vc_n0, vc_lk, vc_pop, vc_rc, vc_tsw, vc_fr, vc_ar, vc_tb, mz_nx, List.set_cons_zero, List.set_cons_succ, Nat.reduceAdd, Nat.reduceBEq, Nat.reduceEqDiff, Nat.reduceLeDiff, Nat.reduceLT, Nat.reduceMul, Int.reduceToNat, Bool.false_eq_true, Bool.or_self, Bool.or_true, Bool.true_or, Bool.or_false, reduceIte, Option.toList_some, Option.toList_none, List.nil_append, List.cons_append, List.length_cons, List.length_nil, true_and, and_true, Int.cast_ofNat_Int, Int.reduceEq, Int.reduceLT, Int.reduceLE, Nat.zero_le, and_self, or_true, true_or, cdS_265]
    rw [bwt] at hk
    by_cases hb : (bwt (fun w => sm (tkS m u p (t + w)) 16) j).2 < sm (tkS m u p (t + j)) 16
    · rw [if_neg (by omega)]
      rw [if_pos hb] at hk
      exact ⟨(by unfold mz_w; omega), hk _⟩
    · rw [if_pos (by omega)]
      rw [if_neg hb] at hk
      exact ⟨(by unfold mz_w; omega), hk _⟩
theorem sp_bestWait (m : mz_M) {u p t n : Nat} (h : ∀ c, c < 16 → caO m (u + 24 + c) ∧ m (u + 24 + c) 6 ≤ m (u + 24 + c) 5) (h3 : m u 3 = t) (ht : t + n < 20000) : sp 265 [mz_r 6 0 u, mz_i p, mz_i n] m (some (mz_i (bwt (fun w => sm (tkS m u p (t + w)) 16) (n + 1)).1)) m := by
  refine mz_cl_vc 60 (fun i => i == 6) [some (mz_r 6 0 u), some (mz_i p), some (mz_i n), none, none, none, none] rfl ?_
  simp only [vcS0, vcS1, vcS2, vcS3, vcS4, vcS5, vcS6, vc_n0, vc_lk, vc_pop, vc_rc, vc_tsw, vc_fr, vc_ar, vc_tb, mz_nx, List.set_cons_zero, List.set_cons_succ, Nat.reduceAdd, Nat.reduceBEq, Nat.reduceEqDiff, Nat.reduceLeDiff, Nat.reduceLT, Nat.reduceMul, Int.reduceToNat, Bool.false_eq_true, Bool.or_self, Bool.or_true, Bool.true_or, Bool.or_false, reduceIte, Option.toList_some, Option.toList_none, List.nil_append, List.cons_append, List.length_cons, List.length_nil, true_and, and_true, Int.cast_ofNat_Int, Int.reduceEq, Int.reduceLT, Int.reduceLE, Nat.zero_le, and_self, or_true, true_or, cdS_265]
  exact bw_loop m h h3 ht (n + 1) 0 none (by omega)
