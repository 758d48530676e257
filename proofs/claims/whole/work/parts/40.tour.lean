/-! The tour planner. -/
theorem sp_stateIndex (m : mz_M) {a b c : Nat} (ha : a < 100000) (hb : b < 100) (hc : c < 100) : sp 13 [mz_i a, mz_i b, mz_i c] m (some (mz_i ((a * 7 + b) * 2 + c : Nat))) m := by
  refine mz_cl_vc 20 (fun _ => false) [some (mz_i a), some (mz_i b), some (mz_i c)] rfl ?_
  simp only [vcS0, vcS1, vcS2, vcS3, vcS4, vcS5, vcS6, vc_n0, vc_lk, vc_pop, vc_rc, vc_tsw, vc_fr, vc_ar, vc_tb, mz_nx, List.set_cons_zero, List.set_cons_succ, Nat.reduceAdd, Nat.reduceBEq, Nat.reduceEqDiff, Nat.reduceLeDiff, Nat.reduceLT, Nat.reduceMul, Int.reduceToNat, Bool.false_eq_true, Bool.or_self, Bool.or_true, Bool.true_or, Bool.or_false, reduceIte, Option.toList_some, Option.toList_none, List.nil_append, List.cons_append, List.length_cons, List.length_nil, true_and, and_true, Int.cast_ofNat_Int, Int.reduceEq, Int.reduceLT, Int.reduceLE, Nat.zero_le, and_self, or_true, true_or, cdS_13]
  refine ⟨(by unfold mz_w; omega), (by unfold mz_w; omega), (by unfold mz_w; omega), (by unfold mz_w; omega), ?_⟩
  congr 2
theorem sp_tripIndex (m : mz_M) {a b c : Nat} (ha : a < 100000) (hb : b < 100) (hc : c < 100) : sp 14 [mz_i a, mz_i b, mz_i c] m (some (mz_i ((a * 6 + b) * 2 + c : Nat))) m := by
  refine mz_cl_vc 20 (fun _ => false) [some (mz_i a), some (mz_i b), some (mz_i c)] rfl ?_
  simp only [vcS0, vcS1, vcS2, vcS3, vcS4, vcS5, vcS6, vc_n0, vc_lk, vc_pop, vc_rc, vc_tsw, vc_fr, vc_ar, vc_tb, mz_nx, List.set_cons_zero, List.set_cons_succ, Nat.reduceAdd, Nat.reduceBEq, Nat.reduceEqDiff, Nat.reduceLeDiff, Nat.reduceLT, Nat.reduceMul, Int.reduceToNat, Bool.false_eq_true, Bool.or_self, Bool.or_true, Bool.true_or, Bool.or_false, reduceIte, Option.toList_some, Option.toList_none, List.nil_append, List.cons_append, List.length_cons, List.length_nil, true_and, and_true, Int.cast_ofNat_Int, Int.reduceEq, Int.reduceLT, Int.reduceLE, Nat.zero_le, and_self, or_true, true_or, cdS_14]
  refine ⟨(by unfold mz_w; omega), (by unfold mz_w; omega), (by unfold mz_w; omega), (by unfold mz_w; omega), ?_⟩
  congr 2
def adT (m : mz_M) (q f i t : Nat) : mz_M :=
  mz_up (mz_up (mz_up (mz_up m (q + 7) (m q 11).toNat (m (q + 1) i)) (q + 8) (m q 11).toNat (m (q + 3) t)) (q + 9) (m q 11).toNat (m (q + 5) ((f * 6 + i) * 2 + t))) q 11 (m q 11 + 1)
theorem sp_addTrip (m : mz_M) {q f i t : Nat} (hf : f < 2) (hi : i < 6) (ht : t < 2) (h : 0 ≤ m q 11 ∧ m q 11 < 6) : sp 64 [mz_r 3 0 q, mz_i f, mz_i i, mz_i t] m none (adT m q f i t) := by
  obtain ⟨n, hn⟩ := nat_i h.1
  unfold adT
  rw [hn, Int.toNat_natCast]
  refine mz_cl_vc 60 (fun _ => false) [some (mz_r 3 0 q), some (mz_i f), some (mz_i i), some (mz_i t)] rfl ?_
  simp only [vcS0, vcS1, vcS2, vcS3, vcS4, vcS5, vcS6, vc_n0, vc_lk, vc_pop, vc_rc, vc_tsw, vc_fr, vc_ar, vc_tb, mz_nx, List.set_cons_zero, List.set_cons_succ, Nat.reduceAdd, Nat.reduceBEq, Nat.reduceEqDiff, Nat.reduceLeDiff, Nat.reduceLT, Nat.reduceMul, Int.reduceToNat, Bool.false_eq_true, Bool.or_self, Bool.or_true, Bool.true_or, Bool.or_false, reduceIte, Option.toList_some, Option.toList_none, List.nil_append, List.cons_append, List.length_cons, List.length_nil, true_and, and_true, Int.cast_ofNat_Int, Int.reduceEq, Int.reduceLT, Int.reduceLE, Nat.zero_le, and_self, or_true, true_or, cdS_64]
  refine ⟨_, _, sp_atN (n := 6) (o := q + 1) _ hi, ?_⟩
  simp only [vcS0, vcS1, vcS2, vcS3, vcS4, vcS5, vcS6, vc_n0, vc_lk, vc_pop, vc_rc, vc_tsw, vc_fr, vc_ar, vc_tb, mz_nx, List.set_cons_zero, List.set_cons_succ, Nat.reduceAdd, Nat.reduceBEq, Nat.reduceEqDiff, Nat.reduceLeDiff, Nat.reduceLT, Nat.reduceMul, Int.reduceToNat, Bool.false_eq_true, Bool.or_self, Bool.or_true, Bool.true_or, Bool.or_false, reduceIte, Option.toList_some, Option.toList_none, List.nil_append, List.cons_append, List.length_cons, List.length_nil, true_and, and_true, Int.cast_ofNat_Int, Int.reduceEq, Int.reduceLT, Int.reduceLE, Nat.zero_le, and_self, or_true, true_or, cdS_64]
  rw [hn]
  refine ⟨_, _, sp_putN (n := 6) (o := q + 7) _ _ (show n < 6 by omega), ?_⟩
  simp only [vcS0, vcS1, vcS2, vcS3, vcS4, vcS5, vcS6, vc_n0, vc_lk, vc_pop, vc_rc, vc_tsw, vc_fr, vc_ar, vc_tb, mz_nx, List.set_cons_zero, List.set_cons_succ, Nat.reduceAdd, Nat.reduceBEq, Nat.reduceEqDiff, Nat.reduceLeDiff, Nat.reduceLT, Nat.reduceMul, Int.reduceToNat, Bool.false_eq_true, Bool.or_self, Bool.or_true, Bool.true_or, Bool.or_false, reduceIte, Option.toList_some, Option.toList_none, List.nil_append, List.cons_append, List.length_cons, List.length_nil, true_and, and_true, Int.cast_ofNat_Int, Int.reduceEq, Int.reduceLT, Int.reduceLE, Nat.zero_le, and_self, or_true, true_or, cdS_64]
  refine ⟨_, _, sp_atN (n := 2) (o := q + 3) _ ht, ?_⟩
  simp only [vcS0, vcS1, vcS2, vcS3, vcS4, vcS5, vcS6, vc_n0, vc_lk, vc_pop, vc_rc, vc_tsw, vc_fr, vc_ar, vc_tb, mz_nx, List.set_cons_zero, List.set_cons_succ, Nat.reduceAdd, Nat.reduceBEq, Nat.reduceEqDiff, Nat.reduceLeDiff, Nat.reduceLT, Nat.reduceMul, Int.reduceToNat, Bool.false_eq_true, Bool.or_self, Bool.or_true, Bool.true_or, Bool.or_false, reduceIte, Option.toList_some, Option.toList_none, List.nil_append, List.cons_append, List.length_cons, List.length_nil, true_and, and_true, Int.cast_ofNat_Int, Int.reduceEq, Int.reduceLT, Int.reduceLE, Nat.zero_le, and_self, or_true, true_or, cdS_64]
  simp (disch := omega) only [up_o]
  rw [hn]
  refine ⟨_, _, sp_putN (n := 6) (o := q + 8) _ _ (show n < 6 by omega), ?_⟩
  simp only [vcS0, vcS1, vcS2, vcS3, vcS4, vcS5, vcS6, vc_n0, vc_lk, vc_pop, vc_rc, vc_tsw, vc_fr, vc_ar, vc_tb, mz_nx, List.set_cons_zero, List.set_cons_succ, Nat.reduceAdd, Nat.reduceBEq, Nat.reduceEqDiff, Nat.reduceLeDiff, Nat.reduceLT, Nat.reduceMul, Int.reduceToNat, Bool.false_eq_true, Bool.or_self, Bool.or_true, Bool.true_or, Bool.or_false, reduceIte, Option.toList_some, Option.toList_none, List.nil_append, List.cons_append, List.length_cons, List.length_nil, true_and, and_true, Int.cast_ofNat_Int, Int.reduceEq, Int.reduceLT, Int.reduceLE, Nat.zero_le, and_self, or_true, true_or, cdS_64]
  refine ⟨_, _, sp_tripIndex _ (by omega) (by omega) (by omega), ?_⟩
  simp only [vcS0, vcS1, vcS2, vcS3, vcS4, vcS5, vcS6, vc_n0, vc_lk, vc_pop, vc_rc, vc_tsw, vc_fr, vc_ar, vc_tb, mz_nx, List.set_cons_zero, List.set_cons_succ, Nat.reduceAdd, Nat.reduceBEq, Nat.reduceEqDiff, Nat.reduceLeDiff, Nat.reduceLT, Nat.reduceMul, Int.reduceToNat, Bool.false_eq_true, Bool.or_self, Bool.or_true, Bool.true_or, Bool.or_false, reduceIte, Option.toList_some, Option.toList_none, List.nil_append, List.cons_append, List.length_cons, List.length_nil, true_and, and_true, Int.cast_ofNat_Int, Int.reduceEq, Int.reduceLT, Int.reduceLE, Nat.zero_le, and_self, or_true, true_or, cdS_64]
  refine ⟨_, _, sp_atN (n := 24) (o := q + 5) _ (show (f * 6 + i) * 2 + t < 24 by omega), ?_⟩
  simp only [vcS0, vcS1, vcS2, vcS3, vcS4, vcS5, vcS6, vc_n0, vc_lk, vc_pop, vc_rc, vc_tsw, vc_fr, vc_ar, vc_tb, mz_nx, List.set_cons_zero, List.set_cons_succ, Nat.reduceAdd, Nat.reduceBEq, Nat.reduceEqDiff, Nat.reduceLeDiff, Nat.reduceLT, Nat.reduceMul, Int.reduceToNat, Bool.false_eq_true, Bool.or_self, Bool.or_true, Bool.true_or, Bool.or_false, reduceIte, Option.toList_some, Option.toList_none, List.nil_append, List.cons_append, List.length_cons, List.length_nil, true_and, and_true, Int.cast_ofNat_Int, Int.reduceEq, Int.reduceLT, Int.reduceLE, Nat.zero_le, and_self, or_true, true_or, cdS_64]
  simp (disch := omega) only [up_o]
  rw [hn]
  refine ⟨_, _, sp_putN (n := 6) (o := q + 9) _ _ (show n < 6 by omega), ?_⟩
  simp only [vcS0, vcS1, vcS2, vcS3, vcS4, vcS5, vcS6, vc_n0, vc_lk, vc_pop, vc_rc, vc_tsw, vc_fr, vc_ar, vc_tb, mz_nx, List.set_cons_zero, List.set_cons_succ, Nat.reduceAdd, Nat.reduceBEq, Nat.reduceEqDiff, Nat.reduceLeDiff, Nat.reduceLT, Nat.reduceMul, Int.reduceToNat, Bool.false_eq_true, Bool.or_self, Bool.or_true, Bool.true_or, Bool.or_false, reduceIte, Option.toList_some, Option.toList_none, List.nil_append, List.cons_append, List.length_cons, List.length_nil, true_and, and_true, Int.cast_ofNat_Int, Int.reduceEq, Int.reduceLT, Int.reduceLE, Nat.zero_le, and_self, or_true, true_or, cdS_64]
  simp (disch := omega) only [up_o]
  rw [hn]
  exact ⟨(by unfold mz_w; omega), rfl⟩
theorem wl_loop (m : mz_M) {q n : Nat} (hn : n ≤ 6) (h : m q 11 = n) (hT : ∀ i, i < n → 0 ≤ m (q + 9) i ∧ m (q + 9) i ≤ 10000000) : ∀ (r j : Nat), j + r = n → sx 67 4 [some (mz_r 3 0 q), some (mz_i (sm (m (q + 9)) j)), some (mz_i j)] [] m (some (mz_i (sm (m (q + 9)) n))) m := by
  intro r
  induction r with
  | zero =>
    intro j hj
    obtain rfl : j = n := by omega
    refine mz_vc_ok 40 (ct := fun i => i == 4) ?_
    simp only [vcS0, vcS1, vcS2, vcS3, vcS4, vcS5, vcS6, vc_n0, vc_lk, vc_pop, vc_rc, vc_tsw, vc_fr, vc_ar, vc_tb, mz_nx, List.set_cons_zero, List.set_cons_succ, Nat.reduceAdd, Nat.reduceBEq, Nat.reduceEqDiff, Nat.reduceLeDiff, Nat.reduceLT, Nat.reduceMul, Int.reduceToNat, Bool.false_eq_true, Bool.or_self, Bool.or_true, Bool.true_or, Bool.or_false, reduceIte, Option.toList_some, Option.toList_none, List.nil_append, List.cons_append, List.length_cons, List.length_nil, true_and, and_true, Int.cast_ofNat_Int, Int.reduceEq, Int.reduceLT, Int.reduceLE, Nat.zero_le, and_self, or_true, true_or, cdS_67]
    rw [if_neg (by omega)]
    trivial
  | succ r ih =>
    intro j hj
    have hk := ih (j + 1) (by omega)
    have hs0 : 0 ≤ sm (m (q + 9)) j := sm_0 fun i hi => (hT i (by omega)).1
    have hs1 : sm (m (q + 9)) j ≤ 10000000 * j := sm_ub fun i hi => (hT i (by omega)).2
    have hj2 := hT j (by omega)
    refine mz_vc_ok 40 (ct := fun i => i == 4) ?_
    simp only [vcS0, vcS1, vcS2, vcS3, vcS4, vcS5, vcS6, vc_n0, vc_lk, vc_pop, vc_rc, vc_tsw, vc_fr, vc_ar, vc_tb, mz_nx, List.set_cons_zero, List.set_cons_succ, Nat.reduceAdd, Nat.reduceBEq, Nat.reduceEqDiff, Nat.reduceLeDiff, Nat.reduceLT, Nat.reduceMul, Int.reduceToNat, Bool.false_eq_true, Bool.or_self, Bool.or_true, Bool.true_or, Bool.or_false, reduceIte, Option.toList_some, Option.toList_none, List.nil_append, List.cons_append, List.length_cons, List.length_nil, true_and, and_true, Int.cast_ofNat_Int, Int.reduceEq, Int.reduceLT, Int.reduceLE, Nat.zero_le, and_self, or_true, true_or, cdS_67]
    rw [if_pos (by omega)]
    refine ⟨_, _, sp_atN (n := 6) (o := q + 9) _ (show j < 6 by omega), ?_⟩
    simp only [vcS0, vcS1, vcS2, vcS3, vcS4, vcS5, vcS6, vc_n0, vc_lk, vc_pop, vc_rc, vc_tsw, vc_fr, vc_ar, vc_tb, mz_nx, List.set_cons_zero, List.set_cons_succ, Nat.reduceAdd, Nat.reduceBEq, Nat.reduceEqDiff, Nat.reduceLeDiff, Nat.reduceLT, Nat.reduceMul, Int.reduceToNat, Bool.false_eq_true, Bool.or_self, Bool.or_true, Bool.true_or, Bool.or_false, reduceIte, Option.toList_some, Option.toList_none, List.nil_append, List.cons_append, List.length_cons, List.length_nil, true_and, and_true, Int.cast_ofNat_Int, Int.reduceEq, Int.reduceLT, Int.reduceLE, Nat.zero_le, and_self, or_true, true_or, cdS_67]
    exact ⟨(by unfold mz_w; omega), (by unfold mz_w; omega), hk⟩
theorem sp_wholeLength (m : mz_M) {q n : Nat} (hn : n ≤ 6) (h : m q 11 = n) (hT : ∀ i, i < n → 0 ≤ m (q + 9) i ∧ m (q + 9) i ≤ 10000000) : sp 67 [mz_r 3 0 q] m (some (mz_i (sm (m (q + 9)) n))) m := by
  refine mz_cl_vc 40 (fun i => i == 4) [some (mz_r 3 0 q), none, none] rfl ?_
  simp only [vcS0, vcS1, vcS2, vcS3, vcS4, vcS5, vcS6, vc_n0, vc_lk, vc_pop, vc_rc, vc_tsw, vc_fr, vc_ar, vc_tb, mz_nx, List.set_cons_zero, List.set_cons_succ, Nat.reduceAdd, Nat.reduceBEq, Nat.reduceEqDiff, Nat.reduceLeDiff, Nat.reduceLT, Nat.reduceMul, Int.reduceToNat, Bool.false_eq_true, Bool.or_self, Bool.or_true, Bool.true_or, Bool.or_false, reduceIte, Option.toList_some, Option.toList_none, List.nil_append, List.cons_append, List.length_cons, List.length_nil, true_and, and_true, Int.cast_ofNat_Int, Int.reduceEq, Int.reduceLT, Int.reduceLE, Nat.zero_le, and_self, or_true, true_or, cdS_67]
  exact wl_loop m hn h hT n 0 (by omega)
/-- clamped before another one -/
def ccP (m : mz_M) (u k a c : Nat) : Prop := a / 2 ^ c % 2 = 1 ∧ (m (u + 24 + c) 4 < m k 4 ∨ m (u + 24 + c) 4 = m k 4 ∧ (c : Int) < m k 0)
def ccN (m : mz_M) (u k a c : Nat) : Int := if a / 2 ^ c % 2 = 1 ∧ (m (u + 24 + c) 4 < m k 4 ∨ m (u + 24 + c) 4 = m k 4 ∧ (c : Int) < m k 0) then 1 else 0
theorem cc_loop (m : mz_M) {q u k a : Nat} (h : cnO m u) (ha : a < 65536) : ∀ (r j : Nat) (x y : Option mz_V), j + r = 16 → sx 65 10 [some (mz_r 3 0 q), some (mz_r 0 0 k), some (mz_i a), some (mz_r 6 0 u), some (mz_i (sm (ccN m u k a) j)), some (mz_r 104 16 (u + 16)), some (mz_i 16), some (mz_i j), x, y] [] m (some (mz_i (sm (ccN m u k a) 16))) m := by
  intro r
  induction r with
  | zero =>
    intro j x y hj
    obtain rfl : j = 16 := by omega
    refine mz_vc_ok 60 (ct := fun i => i == 10) ?_
    simp only [vcS0, vcS1, vcS2, vcS3, vcS4, vcS5, vcS6, vc_n0, vc_lk, vc_pop, vc_rc, vc_tsw, vc_fr, vc_ar, vc_tb, mz_nx, List.set_cons_zero, List.set_cons_succ, Nat.reduceAdd, Nat.reduceBEq, Nat.reduceEqDiff, Nat.reduceLeDiff, Nat.reduceLT, Nat.reduceMul, Int.reduceToNat, Bool.false_eq_true, Bool.or_self, Bool.or_true, Bool.true_or, Bool.or_false, reduceIte, Option.toList_some, Option.toList_none, List.nil_append, List.cons_append, List.length_cons, List.length_nil, true_and, and_true, Int.cast_ofNat_Int, Int.reduceEq, Int.reduceLT, Int.reduceLE, Nat.zero_le, and_self, or_true, true_or, cdS_65]
  | succ r ih =>
    intro j x y hj
    have hk := fun x y => ih (j + 1) x y (by omega)
    have hc := h j (by omega)
    have h0 : 0 ≤ sm (ccN m u k a) j := sm_0 fun i hi => by unfold ccN; split <;> omega
    have h1 : sm (ccN m u k a) j ≤ 1 * j := sm_ub fun i hi => by unfold ccN; split <;> omega
    rw [sm] at hk
    have tail : ∀ z : Int, (z = if m (u + 24 + j) 4 < m k 4 ∨ m (u + 24 + j) 4 = m k 4 ∧ (j : Int) < m k 0 then 1 else 0) → sx 65 35 [some (mz_r 3 0 q), some (mz_r 0 0 k), some (mz_i a), some (mz_r 6 0 u), some (mz_i (sm (ccN m u k a) j)), some (mz_r 104 16 (u + 16)), some (mz_i 16), some (mz_i j), some (mz_r 0 0 (u + 24 + j)), y] [mz_i z] m (some (mz_i (sm (ccN m u k a) 16))) m := by
      intro z hz
      refine mz_vc_ok 60 (ct := fun i => i == 10) ?_
      simp only [vcS0, vcS1, vcS2, vcS3, vcS4, vcS5, vcS6, vc_n0, vc_lk, vc_pop, vc_rc, vc_tsw, vc_fr, vc_ar, vc_tb, mz_nx, List.set_cons_zero, List.set_cons_succ, Nat.reduceAdd, Nat.reduceBEq, Nat.reduceEqDiff, Nat.reduceLeDiff, Nat.reduceLT, Nat.reduceMul, Int.reduceToNat, Bool.false_eq_true, Bool.or_self, Bool.or_true, Bool.true_or, Bool.or_false, reduceIte, Option.toList_some, Option.toList_none, List.nil_append, List.cons_append, List.length_cons, List.length_nil, true_and, and_true, Int.cast_ofNat_Int, Int.reduceEq, Int.reduceLT, Int.reduceLE, Nat.zero_le, and_self, or_true, true_or, cdS_65]
      rw [hc]
      refine ⟨_, _, sp_contains m (by omega) (by omega), ?_⟩
      by_cases h2 : a / 2 ^ j % 2 = 1
      · rw [if_pos h2]
        simp only [vcS0, vcS1, vcS2, vcS3, vcS4, vcS5, vcS6, vc_n0, vc_lk, vc_pop, vc_rc, vc_tsw, vc_fr, vc_ar, vc_tb, mz_nx, List.set_cons_zero, List.set_cons_succ, Nat.reduceAdd, Nat.reduceBEq, Nat.reduceEqDiff, Nat.reduceLeDiff, Nat.reduceLT, Nat.reduceMul, Int.reduceToNat, Bool.false_eq_true, Bool.or_self, Bool.or_true, Bool.true_or, Bool.or_false, reduceIte, Option.toList_some, Option.toList_none, List.nil_append, List.cons_append, List.length_cons, List.length_nil, true_and, and_true, Int.cast_ofNat_Int, Int.reduceEq, Int.reduceLT, Int.reduceLE, Nat.zero_le, and_self, or_true, true_or, cdS_65]
        by_cases h3 : m (u + 24 + j) 4 < m k 4 ∨ m (u + 24 + j) 4 = m k 4 ∧ (j : Int) < m k 0
        · rw [if_pos h3] at hz
          rw [if_neg (by omega)]
          rw [show ccN m u k a j = 1 from if_pos ⟨h2, h3⟩] at hk
          exact ⟨(by unfold mz_w; omega), (by unfold mz_w; omega), hk _ _⟩
        · rw [if_neg h3] at hz
          rw [if_pos hz]
          rw [show ccN m u k a j = 0 from if_neg (fun h => h3 h.2), Int.add_zero] at hk
          exact ⟨(by unfold mz_w; omega), hk _ _⟩
      · rw [if_neg h2]
        simp only [vcS0, vcS1, vcS2, vcS3, vcS4, vcS5, vcS6, vc_n0, vc_lk, vc_pop, vc_rc, vc_tsw, vc_fr, vc_ar, vc_tb, mz_nx, List.set_cons_zero, List.set_cons_succ, Nat.reduceAdd, Nat.reduceBEq, Nat.reduceEqDiff, Nat.reduceLeDiff, Nat.reduceLT, Nat.reduceMul, Int.reduceToNat, Bool.false_eq_true, Bool.or_self, Bool.or_true, Bool.true_or, Bool.or_false, reduceIte, Option.toList_some, Option.toList_none, List.nil_append, List.cons_append, List.length_cons, List.length_nil, true_and, and_true, Int.cast_ofNat_Int, Int.reduceEq, Int.reduceLT, Int.reduceLE, Nat.zero_le, and_self, or_true, true_or, cdS_65]
        rw [show ccN m u k a j = 0 from if_neg (fun h => h2 h.1), Int.add_zero] at hk
        exact ⟨(by unfold mz_w; omega), hk _ _⟩
    refine mz_vc_ok 60 (ct := fun i => i == 10 || i == 35) ?_
    simp only [vcS0, vcS1, vcS2, vcS3, vcS4, vcS5, vcS6, vc_n0, vc_lk, vc_pop, vc_rc, vc_tsw, vc_fr, vc_ar, vc_tb, mz_nx, List.set_cons_zero, List.set_cons_succ, Nat.reduceAdd, Nat.reduceBEq, Nat.reduceEqDiff, Nat.reduceLeDiff, Nat.reduceLT, Nat.reduceMul, Int.reduceToNat, Bool.false_eq_true, Bool.or_self, Bool.or_true, Bool.true_or, Bool.or_false, reduceIte, Option.toList_some, Option.toList_none, List.nil_append, List.cons_append, List.length_cons, List.length_nil, true_and, and_true, Int.cast_ofNat_Int, Int.reduceEq, Int.reduceLT, Int.reduceLE, Nat.zero_le, and_self, or_true, true_or, cdS_65]
    rw [if_pos (by omega), Int.toNat_natCast, show u + 16 + (8 + 1 * j) = u + 24 + j by omega, hc]
    refine ⟨by omega, ?_⟩
    by_cases h2 : m (u + 24 + j) 4 < m k 4
    · rw [if_pos h2]
      exact tail 1 (by rw [if_pos (Or.inl h2)])
    · rw [if_neg h2]
      by_cases h3 : m (u + 24 + j) 4 = m k 4
      · rw [if_pos h3]
        by_cases h4 : (j : Int) < m k 0
        · rw [if_pos h4]
          exact tail 1 (by rw [if_pos (Or.inr ⟨h3, h4⟩)])
        · rw [if_neg h4]
          exact tail 0 (by rw [if_neg (fun h => h.elim h2 (fun h => h4 h.2))])
      · rw [if_neg h3]
        exact tail 0 (by rw [if_neg (fun h => h.elim h2 (fun h => h3 h.1))])
theorem sp_countBefore (m : mz_M) {q u k a : Nat} (h : cnO m u) (ha : a < 65536) : sp 65 [mz_r 3 0 q, mz_r 0 0 k, mz_i a, mz_r 6 0 u] m (some (mz_i (sm (ccN m u k a) 16))) m := by
  refine mz_cl_vc 60 (fun i => i == 10) [some (mz_r 3 0 q), some (mz_r 0 0 k), some (mz_i a), some (mz_r 6 0 u), none, none, none, none, none, none] rfl ?_
  simp only [vcS0, vcS1, vcS2, vcS3, vcS4, vcS5, vcS6, vc_n0, vc_lk, vc_pop, vc_rc, vc_tsw, vc_fr, vc_ar, vc_tb, mz_nx, List.set_cons_zero, List.set_cons_succ, Nat.reduceAdd, Nat.reduceBEq, Nat.reduceEqDiff, Nat.reduceLeDiff, Nat.reduceLT, Nat.reduceMul, Int.reduceToNat, Bool.false_eq_true, Bool.or_self, Bool.or_true, Bool.true_or, Bool.or_false, reduceIte, Option.toList_some, Option.toList_none, List.nil_append, List.cons_append, List.length_cons, List.length_nil, true_and, and_true, Int.cast_ofNat_Int, Int.reduceEq, Int.reduceLT, Int.reduceLE, Nat.zero_le, and_self, or_true, true_or, cdS_65]
  exact cc_loop m h ha 16 0 none none rfl
