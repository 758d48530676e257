/-! The world: what changes it. -/
theorem lgA_o {l a j : Nat} {t k c x : Int} {m : mz_M} (h : a < l ∨ l + 4 < a) : lgA l t k c x m a j = m a j := by
  unfold lgA
  split
  · rw [up_o (by omega), up_o (by omega), up_o (by omega), up_o (by omega), up_o (by omega)]
  · rfl
theorem lgA_z {l : Nat} {t k c x : Int} {m : mz_M} : lgA l t k c x m l 0 = if m l 0 < 400 then m l 0 + 1 else m l 0 := by
  unfold lgA
  split
  · rw [up_s]
  · rfl
theorem lgA_s {l a j : Nat} {t k c x : Int} {m : mz_M} (h0 : 0 ≤ m l 0) (h : (j : Int) < m l 0) (h2 : l < a) : lgA l t k c x m a j = m a j := by
  unfold lgA
  split
  · rw [up_o (by omega), up_k (by omega), up_k (by omega), up_k (by omega), up_k (by omega)]
  · rfl
theorem sp_note (m : mz_M) {u k : Nat} {d x : Int} (h : 0 ≤ m (u + 17) 0) : sp 140 [mz_r 6 0 u, mz_i d, mz_r 0 0 k, mz_i x] m none (lgA (u + 17) (m u 3) d (m k 0) x m) := by
  refine mz_cl_vc 60 (fun _ => false) [some (mz_r 6 0 u), some (mz_i d), some (mz_r 0 0 k), some (mz_i x)] rfl ?_
  simp only [vcS0, vcS1, vcS2, vcS3, vcS4, vcS5, vcS6, vc_n0, vc_lk, vc_pop, vc_rc, vc_tsw, vc_fr, vc_ar, vc_tb, mz_nx, List.set_cons_zero, List.set_cons_succ, Nat.reduceAdd, Nat.reduceBEq, Nat.reduceEqDiff, Nat.reduceLeDiff, Nat.reduceLT, Nat.reduceMul, Int.reduceToNat, Bool.false_eq_true, Bool.or_self, Bool.or_true, Bool.true_or, Bool.or_false, reduceIte, Option.toList_some, Option.toList_none, List.nil_append, List.cons_append, List.length_cons, List.length_nil, true_and, and_true, Int.cast_ofNat_Int, Int.reduceEq, Int.reduceLT, Int.reduceLE, Nat.zero_le, and_self, or_true, true_or, cdS_140]
  refine ⟨_, _, sp_ladd m h, ?_⟩
  simp only [vcS0, vcS1, vcS2, vcS3, vcS4, vcS5, vcS6, vc_n0, vc_lk, vc_pop, vc_rc, vc_tsw, vc_fr, vc_ar, vc_tb, mz_nx, List.set_cons_zero, List.set_cons_succ, Nat.reduceAdd, Nat.reduceBEq, Nat.reduceEqDiff, Nat.reduceLeDiff, Nat.reduceLT, Nat.reduceMul, Int.reduceToNat, Bool.false_eq_true, Bool.or_self, Bool.or_true, Bool.true_or, Bool.or_false, reduceIte, Option.toList_some, Option.toList_none, List.nil_append, List.cons_append, List.length_cons, List.length_nil, true_and, and_true, Int.cast_ofNat_Int, Int.reduceEq, Int.reduceLT, Int.reduceLE, Nat.zero_le, and_self, or_true, true_or, cdS_140]
def pcS (u k : Nat) (p : Int) (m : mz_M) : mz_M := lgA (u + 17) (m u 3) 1 (m k 0) p (mz_up (mz_up (mz_up m k 1 1) k 2 p) k 3 (m u 3))
theorem sp_putCar (m : mz_M) {u k : Nat} {p : Int} (h : 0 ≤ m (u + 17) 0) (hk : u + 24 ≤ k) : sp 200 [mz_r 6 0 u, mz_r 0 0 k, mz_i p] m none (pcS u k p m) := by
  unfold pcS
  refine mz_cl_vc 60 (fun _ => false) [some (mz_r 6 0 u), some (mz_r 0 0 k), some (mz_i p)] rfl ?_
  simp only [vcS0, vcS1, vcS2, vcS3, vcS4, vcS5, vcS6, vc_n0, vc_lk, vc_pop, vc_rc, vc_tsw, vc_fr, vc_ar, vc_tb, mz_nx, List.set_cons_zero, List.set_cons_succ, Nat.reduceAdd, Nat.reduceBEq, Nat.reduceEqDiff, Nat.reduceLeDiff, Nat.reduceLT, Nat.reduceMul, Int.reduceToNat, Bool.false_eq_true, Bool.or_self, Bool.or_true, Bool.true_or, Bool.or_false, reduceIte, Option.toList_some, Option.toList_none, List.nil_append, List.cons_append, List.length_cons, List.length_nil, true_and, and_true, Int.cast_ofNat_Int, Int.reduceEq, Int.reduceLT, Int.reduceLE, Nat.zero_le, and_self, or_true, true_or, cdS_200]
  have hn := sp_note (mz_up (mz_up (mz_up m k 1 1) k 2 p) k 3 (m u 3)) (u := u) (k := k) (d := 1) (x := p) (by rw [up_o (by omega), up_o (by omega), up_o (by omega)]; exact h)
  simp (disch := omega) only [up_o, up_k] at hn ⊢
  refine ⟨_, _, hn, ?_⟩
  simp only [vcS0, vcS1, vcS2, vcS3, vcS4, vcS5, vcS6, vc_n0, vc_lk, vc_pop, vc_rc, vc_tsw, vc_fr, vc_ar, vc_tb, mz_nx, List.set_cons_zero, List.set_cons_succ, Nat.reduceAdd, Nat.reduceBEq, Nat.reduceEqDiff, Nat.reduceLeDiff, Nat.reduceLT, Nat.reduceMul, Int.reduceToNat, Bool.false_eq_true, Bool.or_self, Bool.or_true, Bool.true_or, Bool.or_false, reduceIte, Option.toList_some, Option.toList_none, List.nil_append, List.cons_append, List.length_cons, List.length_nil, true_and, and_true, Int.cast_ofNat_Int, Int.reduceEq, Int.reduceLT, Int.reduceLE, Nat.zero_le, and_self, or_true, true_or, cdS_200]
def btS (u k : Nat) (p : Int) (m : mz_M) : mz_M := lgA (u + 17) (m u 3) 10 (m k 0) 15000 (mz_up (mz_up (mz_up (mz_up m k 1 3) k 2 p) k 9 (m k 9 + 15000)) u 4 p)
theorem sp_bringToPound (m : mz_M) {u k : Nat} {p : Int} (h : 0 ≤ m (u + 17) 0) (hk : u + 24 ≤ k) (h9 : 0 ≤ m k 9 ∧ m k 9 ≤ 100000000) : sp 196 [mz_r 6 0 u, mz_r 0 0 k, mz_i p] m none (btS u k p m) := by
  unfold btS
  refine mz_cl_vc 60 (fun _ => false) [some (mz_r 6 0 u), some (mz_r 0 0 k), some (mz_i p)] rfl ?_
  simp only [vcS0, vcS1, vcS2, vcS3, vcS4, vcS5, vcS6, vc_n0, vc_lk, vc_pop, vc_rc, vc_tsw, vc_fr, vc_ar, vc_tb, mz_nx, List.set_cons_zero, List.set_cons_succ, Nat.reduceAdd, Nat.reduceBEq, Nat.reduceEqDiff, Nat.reduceLeDiff, Nat.reduceLT, Nat.reduceMul, Int.reduceToNat, Bool.false_eq_true, Bool.or_self, Bool.or_true, Bool.true_or, Bool.or_false, reduceIte, Option.toList_some, Option.toList_none, List.nil_append, List.cons_append, List.length_cons, List.length_nil, true_and, and_true, Int.cast_ofNat_Int, Int.reduceEq, Int.reduceLT, Int.reduceLE, Nat.zero_le, and_self, or_true, true_or, cdS_196]
  have hn := sp_note (mz_up (mz_up (mz_up (mz_up m k 1 3) k 2 p) k 9 (m k 9 + 15000)) u 4 p) (u := u) (k := k) (d := 10) (x := 15000) (by rw [up_o (by omega), up_o (by omega), up_o (by omega), up_o (by omega)]; exact h)
  simp (disch := omega) only [up_o, up_k] at hn ⊢
  refine ⟨(by unfold mz_w; omega), ?_⟩
  refine ⟨_, _, hn, ?_⟩
  simp only [vcS0, vcS1, vcS2, vcS3, vcS4, vcS5, vcS6, vc_n0, vc_lk, vc_pop, vc_rc, vc_tsw, vc_fr, vc_ar, vc_tb, mz_nx, List.set_cons_zero, List.set_cons_succ, Nat.reduceAdd, Nat.reduceBEq, Nat.reduceEqDiff, Nat.reduceLeDiff, Nat.reduceLT, Nat.reduceMul, Int.reduceToNat, Bool.false_eq_true, Bool.or_self, Bool.or_true, Bool.true_or, Bool.or_false, reduceIte, Option.toList_some, Option.toList_none, List.nil_append, List.cons_append, List.length_cons, List.length_nil, true_and, and_true, Int.cast_ofNat_Int, Int.reduceEq, Int.reduceLT, Int.reduceLE, Nat.zero_le, and_self, or_true, true_or, cdS_196]
def rlS (u k : Nat) (m : mz_M) : mz_M :=
  if m k 1 = 2 then lgA (u + 17) (m u 3) 9 (m k 0) (m k 2) (mz_up (mz_up m k 1 1) k 3 (m u 3))
  else if m k 1 = 3 then lgA (u + 17) (m u 3) 9 (m k 0) (m k 2) (mz_up m k 1 0) else m
theorem sp_release (m : mz_M) {u k : Nat} (h : 0 ≤ m (u + 17) 0) (hk : u + 24 ≤ k) : sp 201 [mz_r 6 0 u, mz_r 0 0 k] m none (rlS u k m) := by
  unfold rlS
  refine mz_cl_vc 60 (fun _ => false) [some (mz_r 6 0 u), some (mz_r 0 0 k)] rfl ?_
  simp only [vcS0, vcS1, vcS2, vcS3, vcS4, vcS5, vcS6, vc_n0, vc_lk, vc_pop, vc_rc, vc_tsw, vc_fr, vc_ar, vc_tb, mz_nx, List.set_cons_zero, List.set_cons_succ, Nat.reduceAdd, Nat.reduceBEq, Nat.reduceEqDiff, Nat.reduceLeDiff, Nat.reduceLT, Nat.reduceMul, Int.reduceToNat, Bool.false_eq_true, Bool.or_self, Bool.or_true, Bool.true_or, Bool.or_false, reduceIte, Option.toList_some, Option.toList_none, List.nil_append, List.cons_append, List.length_cons, List.length_nil, true_and, and_true, Int.cast_ofNat_Int, Int.reduceEq, Int.reduceLT, Int.reduceLE, Nat.zero_le, and_self, or_true, true_or, cdS_201]
  by_cases h1 : m k 1 = 2
  · rw [if_pos h1, if_pos h1]
    have hn := sp_note (mz_up (mz_up m k 1 1) k 3 (m u 3)) (u := u) (k := k) (d := 9) (x := m k 2) (by rw [up_o (by omega), up_o (by omega)]; exact h)
    simp (disch := omega) only [up_o, up_k] at hn ⊢
    refine ⟨_, _, hn, ?_⟩
    simp only [vcS0, vcS1, vcS2, vcS3, vcS4, vcS5, vcS6, vc_n0, vc_lk, vc_pop, vc_rc, vc_tsw, vc_fr, vc_ar, vc_tb, mz_nx, List.set_cons_zero, List.set_cons_succ, Nat.reduceAdd, Nat.reduceBEq, Nat.reduceEqDiff, Nat.reduceLeDiff, Nat.reduceLT, Nat.reduceMul, Int.reduceToNat, Bool.false_eq_true, Bool.or_self, Bool.or_true, Bool.true_or, Bool.or_false, reduceIte, Option.toList_some, Option.toList_none, List.nil_append, List.cons_append, List.length_cons, List.length_nil, true_and, and_true, Int.cast_ofNat_Int, Int.reduceEq, Int.reduceLT, Int.reduceLE, Nat.zero_le, and_self, or_true, true_or, cdS_201]
  · rw [if_neg h1, if_neg h1]
    by_cases h2 : m k 1 = 3
    · rw [if_pos h2, if_pos h2]
      have hn := sp_note (mz_up m k 1 0) (u := u) (k := k) (d := 9) (x := m k 2) (by rw [up_o (by omega)]; exact h)
      simp (disch := omega) only [up_o, up_k] at hn ⊢
      refine ⟨_, _, hn, ?_⟩
      simp only [vcS0, vcS1, vcS2, vcS3, vcS4, vcS5, vcS6, vc_n0, vc_lk, vc_pop, vc_rc, vc_tsw, vc_fr, vc_ar, vc_tb, mz_nx, List.set_cons_zero, List.set_cons_succ, Nat.reduceAdd, Nat.reduceBEq, Nat.reduceEqDiff, Nat.reduceLeDiff, Nat.reduceLT, Nat.reduceMul, Int.reduceToNat, Bool.false_eq_true, Bool.or_self, Bool.or_true, Bool.true_or, Bool.or_false, reduceIte, Option.toList_some, Option.toList_none, List.nil_append, List.cons_append, List.length_cons, List.length_nil, true_and, and_true, Int.cast_ofNat_Int, Int.reduceEq, Int.reduceLT, Int.reduceLE, Nat.zero_le, and_self, or_true, true_or, cdS_201]
    · rw [if_neg h2, if_neg h2]
def pfS (u k : Nat) (m : mz_M) : mz_M :=
  if m k 5 = m k 6 ∧ 0 < m k 9 ∧ m k 9 ≤ m k 10 then lgA (u + 17) (m u 3) 8 (m k 0) (m k 9) (mz_up (mz_up m k 10 (m k 10 - m k 9)) k 9 0) else m
theorem sp_payFees (m : mz_M) {u k : Nat} (h : 0 ≤ m (u + 17) 0) (hk : u + 24 ≤ k) (ht : 0 ≤ m k 5 ∧ m k 5 ≤ 1000 ∧ 0 ≤ m k 6 ∧ m k 6 ≤ 1000) (hc : m k 10 ≤ 100000000) : sp 198 [mz_r 6 0 u, mz_r 0 0 k] m none (pfS u k m) := by
  unfold pfS
  refine mz_cl_vc 60 (fun _ => false) [some (mz_r 6 0 u), some (mz_r 0 0 k), none] rfl ?_
  simp only [vcS0, vcS1, vcS2, vcS3, vcS4, vcS5, vcS6, vc_n0, vc_lk, vc_pop, vc_rc, vc_tsw, vc_fr, vc_ar, vc_tb, mz_nx, List.set_cons_zero, List.set_cons_succ, Nat.reduceAdd, Nat.reduceBEq, Nat.reduceEqDiff, Nat.reduceLeDiff, Nat.reduceLT, Nat.reduceMul, Int.reduceToNat, Bool.false_eq_true, Bool.or_self, Bool.or_true, Bool.true_or, Bool.or_false, reduceIte, Option.toList_some, Option.toList_none, List.nil_append, List.cons_append, List.length_cons, List.length_nil, true_and, and_true, Int.cast_ofNat_Int, Int.reduceEq, Int.reduceLT, Int.reduceLE, Nat.zero_le, and_self, or_true, true_or, cdS_198]
  refine ⟨_, _, sp_unpaidTickets m k ht, ?_⟩
  simp only [vcS0, vcS1, vcS2, vcS3, vcS4, vcS5, vcS6, vc_n0, vc_lk, vc_pop, vc_rc, vc_tsw, vc_fr, vc_ar, vc_tb, mz_nx, List.set_cons_zero, List.set_cons_succ, Nat.reduceAdd, Nat.reduceBEq, Nat.reduceEqDiff, Nat.reduceLeDiff, Nat.reduceLT, Nat.reduceMul, Int.reduceToNat, Bool.false_eq_true, Bool.or_self, Bool.or_true, Bool.true_or, Bool.or_false, reduceIte, Option.toList_some, Option.toList_none, List.nil_append, List.cons_append, List.length_cons, List.length_nil, true_and, and_true, Int.cast_ofNat_Int, Int.reduceEq, Int.reduceLT, Int.reduceLE, Nat.zero_le, and_self, or_true, true_or, cdS_198]
  by_cases h1 : m k 5 = m k 6
  · rw [if_pos (by omega)]
    by_cases h2 : 0 < m k 9
    · rw [if_neg (by omega)]
      by_cases h3 : m k 9 ≤ m k 10
      · rw [if_neg (by omega), if_pos ⟨h1, h2, h3⟩]
        have hn := sp_note (mz_up (mz_up m k 10 (m k 10 - m k 9)) k 9 0) (u := u) (k := k) (d := 8) (x := m k 9) (by rw [up_o (by omega), up_o (by omega)]; exact h)
        simp (disch := omega) only [up_o, up_k] at hn ⊢
        refine ⟨(by unfold mz_w; omega), ?_⟩
        refine ⟨_, _, hn, ?_⟩
        simp only [vcS0, vcS1, vcS2, vcS3, vcS4, vcS5, vcS6, vc_n0, vc_lk, vc_pop, vc_rc, vc_tsw, vc_fr, vc_ar, vc_tb, mz_nx, List.set_cons_zero, List.set_cons_succ, Nat.reduceAdd, Nat.reduceBEq, Nat.reduceEqDiff, Nat.reduceLeDiff, Nat.reduceLT, Nat.reduceMul, Int.reduceToNat, Bool.false_eq_true, Bool.or_self, Bool.or_true, Bool.true_or, Bool.or_false, reduceIte, Option.toList_some, Option.toList_none, List.nil_append, List.cons_append, List.length_cons, List.length_nil, true_and, and_true, Int.cast_ofNat_Int, Int.reduceEq, Int.reduceLT, Int.reduceLE, Nat.zero_le, and_self, or_true, true_or, cdS_198]
      · rw [if_pos (by omega), if_neg (by omega)]
    · rw [if_pos (by omega), if_neg (by omega)]
  · rw [if_neg (by omega), if_neg (by omega)]
def wtS (u k : Nat) (a : Int) (m : mz_M) : mz_M :=
  let m1 := lgA (u + 17) (m u 3) 4 (m k 0) a (mz_up (mz_up (mz_up m k 5 (m k 5 + 1)) k 7 (m u 3)) k 8 (m k 8 + a))
  if 3 ≤ m k 5 + 1 - m k 6 then lgA (u + 17) (m u 3) 5 (m k 0) 8000 (mz_up (mz_up (mz_up m1 k 1 2) k 4 (m u 3)) k 9 (m k 9 + 8000)) else m1
theorem sp_writeTicket (m : mz_M) {u k : Nat} {a : Int} (h : 0 ≤ m (u + 17) 0) (hk : u + 24 ≤ k) (ht : 0 ≤ m k 5 ∧ m k 5 < 1000 ∧ 0 ≤ m k 6 ∧ m k 6 ≤ 1000) (h8 : 0 ≤ m k 8 ∧ m k 8 ≤ 100000000) (h9 : 0 ≤ m k 9 ∧ m k 9 ≤ 100000000) (ha : 0 ≤ a ∧ a ≤ 10000) : sp 204 [mz_r 6 0 u, mz_r 0 0 k, mz_i a] m none (wtS u k a m) := by
  unfold wtS
  refine mz_cl_vc 60 (fun _ => false) [some (mz_r 6 0 u), some (mz_r 0 0 k), some (mz_i a)] rfl ?_
  simp only [vcS0, vcS1, vcS2, vcS3, vcS4, vcS5, vcS6, vc_n0, vc_lk, vc_pop, vc_rc, vc_tsw, vc_fr, vc_ar, vc_tb, mz_nx, List.set_cons_zero, List.set_cons_succ, Nat.reduceAdd, Nat.reduceBEq, Nat.reduceEqDiff, Nat.reduceLeDiff, Nat.reduceLT, Nat.reduceMul, Int.reduceToNat, Bool.false_eq_true, Bool.or_self, Bool.or_true, Bool.true_or, Bool.or_false, reduceIte, Option.toList_some, Option.toList_none, List.nil_append, List.cons_append, List.length_cons, List.length_nil, true_and, and_true, Int.cast_ofNat_Int, Int.reduceEq, Int.reduceLT, Int.reduceLE, Nat.zero_le, and_self, or_true, true_or, cdS_204]
  simp (disch := omega) only [up_o, up_k]
  refine ⟨(by unfold mz_w; omega), (by unfold mz_w; omega), ?_⟩
  have hn := sp_note (mz_up (mz_up (mz_up m k 5 (m k 5 + 1)) k 7 (m u 3)) k 8 (m k 8 + a)) (u := u) (k := k) (d := 4) (x := a) (by rw [up_o (by omega), up_o (by omega), up_o (by omega)]; exact h)
  simp (disch := omega) only [up_o, up_k] at hn
  refine ⟨_, _, hn, ?_⟩
  simp only [vcS0, vcS1, vcS2, vcS3, vcS4, vcS5, vcS6, vc_n0, vc_lk, vc_pop, vc_rc, vc_tsw, vc_fr, vc_ar, vc_tb, mz_nx, List.set_cons_zero, List.set_cons_succ, Nat.reduceAdd, Nat.reduceBEq, Nat.reduceEqDiff, Nat.reduceLeDiff, Nat.reduceLT, Nat.reduceMul, Int.reduceToNat, Bool.false_eq_true, Bool.or_self, Bool.or_true, Bool.true_or, Bool.or_false, reduceIte, Option.toList_some, Option.toList_none, List.nil_append, List.cons_append, List.length_cons, List.length_nil, true_and, and_true, Int.cast_ofNat_Int, Int.reduceEq, Int.reduceLT, Int.reduceLE, Nat.zero_le, and_self, or_true, true_or, cdS_204]
  generalize hm1 : lgA (u + 17) (m u 3) 4 (m k 0) a (mz_up (mz_up (mz_up m k 5 (m k 5 + 1)) k 7 (m u 3)) k 8 (m k 8 + a)) = m1
  have e5 : m1 k 5 = m k 5 + 1 := by rw [← hm1, lgA_o (by omega), up_k (by omega), up_k (by omega), up_s]
  have e6 : m1 k 6 = m k 6 := by rw [← hm1, lgA_o (by omega), up_k (by omega), up_k (by omega), up_k (by omega)]
  have e9 : m1 k 9 = m k 9 := by rw [← hm1, lgA_o (by omega), up_k (by omega), up_k (by omega), up_k (by omega)]
  have e0 : m1 k 0 = m k 0 := by rw [← hm1, lgA_o (by omega), up_k (by omega), up_k (by omega), up_k (by omega)]
  have e3 : m1 u 3 = m u 3 := by rw [← hm1, lgA_o (by omega), up_o (by omega), up_o (by omega), up_o (by omega)]
  have el : 0 ≤ m1 (u + 17) 0 := by rw [← hm1, lgA_z, up_o (by omega), up_o (by omega), up_o (by omega)]; split <;> omega
  refine ⟨_, _, sp_unpaidTickets m1 k (by omega), ?_⟩
  simp only [vcS0, vcS1, vcS2, vcS3, vcS4, vcS5, vcS6, vc_n0, vc_lk, vc_pop, vc_rc, vc_tsw, vc_fr, vc_ar, vc_tb, mz_nx, List.set_cons_zero, List.set_cons_succ, Nat.reduceAdd, Nat.reduceBEq, Nat.reduceEqDiff, Nat.reduceLeDiff, Nat.reduceLT, Nat.reduceMul, Int.reduceToNat, Bool.false_eq_true, Bool.or_self, Bool.or_true, Bool.true_or, Bool.or_false, reduceIte, Option.toList_some, Option.toList_none, List.nil_append, List.cons_append, List.length_cons, List.length_nil, true_and, and_true, Int.cast_ofNat_Int, Int.reduceEq, Int.reduceLT, Int.reduceLE, Nat.zero_le, and_self, or_true, true_or, cdS_204]
  rw [e5, e6]
  by_cases h3 : 3 ≤ m k 5 + 1 - m k 6
  · rw [if_neg (by omega), if_pos h3]
    have hn := sp_note (mz_up (mz_up (mz_up m1 k 1 2) k 4 (m u 3)) k 9 (m k 9 + 8000)) (u := u) (k := k) (d := 5) (x := 8000) (by rw [up_o (by omega), up_o (by omega), up_o (by omega)]; exact el)
    simp (disch := omega) only [up_o, up_k] at hn ⊢
    rw [e0, e3] at hn
    rw [e9, e3]
    refine ⟨(by unfold mz_w; omega), ?_⟩
    refine ⟨_, _, hn, ?_⟩
    simp only [vcS0, vcS1, vcS2, vcS3, vcS4, vcS5, vcS6, vc_n0, vc_lk, vc_pop, vc_rc, vc_tsw, vc_fr, vc_ar, vc_tb, mz_nx, List.set_cons_zero, List.set_cons_succ, Nat.reduceAdd, Nat.reduceBEq, Nat.reduceEqDiff, Nat.reduceLeDiff, Nat.reduceLT, Nat.reduceMul, Int.reduceToNat, Bool.false_eq_true, Bool.or_self, Bool.or_true, Bool.true_or, Bool.or_false, reduceIte, Option.toList_some, Option.toList_none, List.nil_append, List.cons_append, List.length_cons, List.length_nil, true_and, and_true, Int.cast_ofNat_Int, Int.reduceEq, Int.reduceLT, Int.reduceLE, Nat.zero_le, and_self, or_true, true_or, cdS_204]
  · rw [if_pos (by omega), if_neg h3]
/-- the entry of the ticket that is paid next, and what it comes to -/
def nxA (m : mz_M) (l : Nat) (c q : Int) : Int := match tke (fun i => m (l + 2) i = 4 ∧ m (l + 3) i = c) (m l 0).toNat 0 q with
  | some e => m (l + 4) e
  | none => 0
def ptS (u k : Nat) : Nat → mz_M → mz_M
  | 0, m => m
  | r + 1, m =>
    if m k 6 < m k 5 then
      (if nxA m (u + 17) (m k 0) (m k 6) ≤ m k 10 then
        ptS u k r (lgA (u + 17) (m u 3) 7 (m k 0) (nxA m (u + 17) (m k 0) (m k 6)) (mz_up (mz_up (mz_up m k 10 (m k 10 - nxA m (u + 17) (m k 0) (m k 6))) k 8 (m k 8 - nxA m (u + 17) (m k 0) (m k 6))) k 6 (m k 6 + 1)))
      else m)
    else m
def logO (m : mz_M) (l : Nat) : Prop := 0 ≤ m l 0 ∧ m l 0 ≤ 400 ∧ ∀ i : Nat, (i : Int) < m l 0 → 0 ≤ m (l + 4) i ∧ m (l + 4) i ≤ 100000
theorem tke_lt {P : Nat → Prop} [DecidablePred P] : ∀ (n j : Nat) (q : Int) (e : Nat), tke P n j q = some e → j ≤ e ∧ e < j + n ∧ P e := by
  intro n
  induction n with
  | zero => intro j q e h; cases h
  | succ n ih =>
    intro j q e h
    unfold tke at h
    split at h
    · split at h
      · cases h; exact ⟨by omega, by omega, by assumption⟩
      · have := ih _ _ _ h; exact ⟨by omega, by omega, this.2.2⟩
    · have := ih _ _ _ h; exact ⟨by omega, by omega, this.2.2⟩
theorem nxA_ok {m : mz_M} {l : Nat} {c q : Int} (h : logO m l) : 0 ≤ nxA m l c q ∧ nxA m l c q ≤ 100000 := by
  unfold nxA
  split
  · rename_i e he
    have := tke_lt _ _ _ _ he
    exact h.2.2 e (by omega)
  · omega
theorem lgA_logO {m : mz_M} {l : Nat} {t k c x : Int} (h : logO m l) (hx : 0 ≤ x ∧ x ≤ 100000) : logO (lgA l t k c x m) l := by
  unfold lgA
  split
  · refine ⟨by rw [up_s]; have := h.1; omega, by rw [up_s]; omega, fun i hi => ?_⟩
    rw [up_s] at hi
    rw [up_o (by omega)]
    by_cases e : i = (m l 0).toNat
    · subst e; rw [up_s]; exact hx
    · rw [up_k (by omega), up_o (by omega), up_o (by omega), up_o (by omega)]
      exact h.2.2 i (by have := h.1; omega)
  · exact h
theorem up_logO {m : mz_M} {l k j : Nat} {v : Int} (h : logO m l) (hk : k < l ∨ l + 4 < k) : logO (mz_up m k j v) l := by
  refine ⟨by rw [up_o (by omega)]; exact h.1, by rw [up_o (by omega)]; exact h.2.1, fun i hi => ?_⟩
  rw [up_o (by omega)] at hi ⊢
  exact h.2.2 i hi
theorem pt_loop {u k : Nat} (hk : u + 24 ≤ k) : ∀ (r : Nat) (m : mz_M) (x : Option mz_V), logO m (u + 17) → (0 ≤ m k 5 ∧ m k 5 ≤ 1000 ∧ 0 ≤ m k 6 ∧ m k 6 ≤ 1000) → m k 5 - m k 6 ≤ r → (0 ≤ m k 10 ∧ m k 10 ≤ 100000000) → (-100000000 + 100000 * (r : Int) ≤ m k 8 ∧ m k 8 ≤ 100000000) → sx 199 2 [some (mz_r 6 0 u), some (mz_r 0 0 k), some (mz_i 1), x] [] m none (ptS u k r m) := by
  intro r
  induction r with
  | zero =>
    intro m x hl ht hr hc h8
    unfold ptS
    refine mz_vc_ok 80 (ct := fun i => i == 2) ?_
    simp only [vcS0, vcS1, vcS2, vcS3, vcS4, vcS5, vcS6, vc_n0, vc_lk, vc_pop, vc_rc, vc_tsw, vc_fr, vc_ar, vc_tb, mz_nx, List.set_cons_zero, List.set_cons_succ, Nat.reduceAdd, Nat.reduceBEq, Nat.reduceEqDiff, Nat.reduceLeDiff, Nat.reduceLT, Nat.reduceMul, Int.reduceToNat, Bool.false_eq_true, Bool.or_self, Bool.or_true, Bool.true_or, Bool.or_false, reduceIte, Option.toList_some, Option.toList_none, List.nil_append, List.cons_append, List.length_cons, List.length_nil, true_and, and_true, Int.cast_ofNat_Int, Int.reduceEq, Int.reduceLT, Int.reduceLE, Nat.zero_le, and_self, or_true, true_or, cdS_199]
    rw [if_neg (by omega)]
    trivial
  | succ r ih =>
    intro m x hl ht hr hc h8
    have hl2 := hl
    obtain ⟨n, hn⟩ := nat_i hl.1
    have ha := nxA_ok (c := m k 0) (q := m k 6) hl
    have hte := sp_ticketEntry m (l := u + 17) (c := m k 0) (x := m k 6) hn (by have := hl.2.1; omega)
    unfold ptS
    refine mz_vc_ok 80 (ct := fun i => i == 2) ?_
    simp only [vcS0, vcS1, vcS2, vcS3, vcS4, vcS5, vcS6, vc_n0, vc_lk, vc_pop, vc_rc, vc_tsw, vc_fr, vc_ar, vc_tb, mz_nx, List.set_cons_zero, List.set_cons_succ, Nat.reduceAdd, Nat.reduceBEq, Nat.reduceEqDiff, Nat.reduceLeDiff, Nat.reduceLT, Nat.reduceMul, Int.reduceToNat, Bool.false_eq_true, Bool.or_self, Bool.or_true, Bool.true_or, Bool.or_false, reduceIte, Option.toList_some, Option.toList_none, List.nil_append, List.cons_append, List.length_cons, List.length_nil, true_and, and_true, Int.cast_ofNat_Int, Int.reduceEq, Int.reduceLT, Int.reduceLE, Nat.zero_le, and_self, or_true, true_or, cdS_199]
    by_cases h1 : m k 6 < m k 5
    · rw [if_pos h1, if_pos h1]
      refine ⟨_, _, hte, ?_⟩
      simp only [vcS0, vcS1, vcS2, vcS3, vcS4, vcS5, vcS6, vc_n0, vc_lk, vc_pop, vc_rc, vc_tsw, vc_fr, vc_ar, vc_tb, mz_nx, List.set_cons_zero, List.set_cons_succ, Nat.reduceAdd, Nat.reduceBEq, Nat.reduceEqDiff, Nat.reduceLeDiff, Nat.reduceLT, Nat.reduceMul, Int.reduceToNat, Bool.false_eq_true, Bool.or_self, Bool.or_true, Bool.true_or, Bool.or_false, reduceIte, Option.toList_some, Option.toList_none, List.nil_append, List.cons_append, List.length_cons, List.length_nil, true_and, and_true, Int.cast_ofNat_Int, Int.reduceEq, Int.reduceLT, Int.reduceLE, Nat.zero_le, and_self, or_true, true_or, cdS_199]
      refine ⟨_, _, sp_at m 400 (u + 17 + 4) _, ?_⟩
      simp only [vcS0, vcS1, vcS2, vcS3, vcS4, vcS5, vcS6, vc_n0, vc_lk, vc_pop, vc_rc, vc_tsw, vc_fr, vc_ar, vc_tb, mz_nx, List.set_cons_zero, List.set_cons_succ, Nat.reduceAdd, Nat.reduceBEq, Nat.reduceEqDiff, Nat.reduceLeDiff, Nat.reduceLT, Nat.reduceMul, Int.reduceToNat, Bool.false_eq_true, Bool.or_self, Bool.or_true, Bool.true_or, Bool.or_false, reduceIte, Option.toList_some, Option.toList_none, List.nil_append, List.cons_append, List.length_cons, List.length_nil, true_and, and_true, Int.cast_ofNat_Int, Int.reduceEq, Int.reduceLT, Int.reduceLE, Nat.zero_le, and_self, or_true, true_or, cdS_199]
      have e : (if 0 ≤ opI (-1) (tke (fun i => m (u + 17 + 2) i = 4 ∧ m (u + 17 + 3) i = m k 0) n 0 (m k 6)) ∧ opI (-1) (tke (fun i => m (u + 17 + 2) i = 4 ∧ m (u + 17 + 3) i = m k 0) n 0 (m k 6)) < 400 then m (u + 17 + 4) (opI (-1) (tke (fun i => m (u + 17 + 2) i = 4 ∧ m (u + 17 + 3) i = m k 0) n 0 (m k 6))).toNat else 0) = nxA m (u + 17) (m k 0) (m k 6) := by
        unfold nxA
        rw [hn, Int.toNat_natCast]
        cases he : tke (fun i => m (u + 17 + 2) i = 4 ∧ m (u + 17 + 3) i = m k 0) n 0 (m k 6) with
        | none => simp [opI]
        | some e =>
          have := tke_lt _ _ _ _ he
          have hl3 := hl.2.1
          have ho : opI (-1) (some e) = (e : Int) := rfl
          rw [ho, if_pos (by omega), Int.toNat_natCast]
      rw [e]
      generalize hA : nxA m (u + 17) (m k 0) (m k 6) = A at ha ⊢
      by_cases h2 : A ≤ m k 10
      · rw [if_neg (by omega), if_pos h2]
        have hm : 0 ≤ mz_up (mz_up (mz_up m k 10 (m k 10 - A)) k 8 (m k 8 - A)) k 6 (m k 6 + 1) (u + 17) 0 := by
          rw [up_o (by omega), up_o (by omega), up_o (by omega)]; exact hl.1
        have hno := sp_note (mz_up (mz_up (mz_up m k 10 (m k 10 - A)) k 8 (m k 8 - A)) k 6 (m k 6 + 1)) (u := u) (k := k) (d := 7) (x := A) hm
        simp (disch := omega) only [up_o, up_k] at hno ⊢
        refine ⟨(by unfold mz_w; omega), (by unfold mz_w; omega), (by unfold mz_w; omega), ?_⟩
        refine ⟨_, _, hno, ?_⟩
        simp only [vcS0, vcS1, vcS2, vcS3, vcS4, vcS5, vcS6, vc_n0, vc_lk, vc_pop, vc_rc, vc_tsw, vc_fr, vc_ar, vc_tb, mz_nx, List.set_cons_zero, List.set_cons_succ, Nat.reduceAdd, Nat.reduceBEq, Nat.reduceEqDiff, Nat.reduceLeDiff, Nat.reduceLT, Nat.reduceMul, Int.reduceToNat, Bool.false_eq_true, Bool.or_self, Bool.or_true, Bool.true_or, Bool.or_false, reduceIte, Option.toList_some, Option.toList_none, List.nil_append, List.cons_append, List.length_cons, List.length_nil, true_and, and_true, Int.cast_ofNat_Int, Int.reduceEq, Int.reduceLT, Int.reduceLE, Nat.zero_le, and_self, or_true, true_or, cdS_199]
        refine ih _ _ ?_ ?_ ?_ ?_ ?_
        · exact lgA_logO (up_logO (up_logO (up_logO hl (by omega)) (by omega)) (by omega)) ha
        · simp (disch := omega) only [lgA_o, up_o, up_k, up_s]; omega
        · simp (disch := omega) only [lgA_o, up_o, up_k, up_s]; omega
        · simp (disch := omega) only [lgA_o, up_o, up_k, up_s]; omega
        · simp (disch := omega) only [lgA_o, up_o, up_k, up_s]; omega
      · rw [if_pos (by omega), if_neg h2]
        refine mz_vc_ok 80 (ct := fun i => i == 2) ?_
        simp only [vcS0, vcS1, vcS2, vcS3, vcS4, vcS5, vcS6, vc_n0, vc_lk, vc_pop, vc_rc, vc_tsw, vc_fr, vc_ar, vc_tb, mz_nx, List.set_cons_zero, List.set_cons_succ, Nat.reduceAdd, Nat.reduceBEq, Nat.reduceEqDiff, Nat.reduceLeDiff, Nat.reduceLT, Nat.reduceMul, Int.reduceToNat, Bool.false_eq_true, Bool.or_self, Bool.or_true, Bool.true_or, Bool.or_false, reduceIte, Option.toList_some, Option.toList_none, List.nil_append, List.cons_append, List.length_cons, List.length_nil, true_and, and_true, Int.cast_ofNat_Int, Int.reduceEq, Int.reduceLT, Int.reduceLE, Nat.zero_le, and_self, or_true, true_or, cdS_199]
    · rw [if_neg h1, if_neg h1]
theorem sp_payTickets (m : mz_M) {u k : Nat} (hk : u + 24 ≤ k) (hl : logO m (u + 17)) (ht : 0 ≤ m k 5 ∧ m k 5 ≤ 400 ∧ 0 ≤ m k 6 ∧ m k 6 ≤ 400) (hc : 0 ≤ m k 10 ∧ m k 10 ≤ 100000000) (h8 : 0 ≤ m k 8 ∧ m k 8 ≤ 100000000) : sp 199 [mz_r 6 0 u, mz_r 0 0 k] m none (ptS u k 400 m) := by
  refine mz_cl_vc 80 (fun i => i == 2) [some (mz_r 6 0 u), some (mz_r 0 0 k), none, none] rfl ?_
  simp only [vcS0, vcS1, vcS2, vcS3, vcS4, vcS5, vcS6, vc_n0, vc_lk, vc_pop, vc_rc, vc_tsw, vc_fr, vc_ar, vc_tb, mz_nx, List.set_cons_zero, List.set_cons_succ, Nat.reduceAdd, Nat.reduceBEq, Nat.reduceEqDiff, Nat.reduceLeDiff, Nat.reduceLT, Nat.reduceMul, Int.reduceToNat, Bool.false_eq_true, Bool.or_self, Bool.or_true, Bool.true_or, Bool.or_false, reduceIte, Option.toList_some, Option.toList_none, List.nil_append, List.cons_append, List.length_cons, List.length_nil, true_and, and_true, Int.cast_ofNat_Int, Int.reduceEq, Int.reduceLT, Int.reduceLE, Nat.zero_le, and_self, or_true, true_or, cdS_199]
  exact pt_loop hk 400 m none hl (by omega) (by omega) hc (by omega)
