theorem ptS_inv {u k : Nat} (hk : u + 24 ≤ k) : ∀ (r : Nat) (m : mz_M), logO m (u + 17) → m k 6 ≤ m k 5 → 0 ≤ m k 10 → logO (ptS u k r m) (u + 17) ∧ ptS u k r m k 5 = m k 5 ∧ ptS u k r m k 9 = m k 9 ∧ m k 6 ≤ ptS u k r m k 6 ∧ ptS u k r m k 6 ≤ m k 5 ∧ 0 ≤ ptS u k r m k 10 ∧ ptS u k r m k 10 ≤ m k 10 := by
  intro r
  induction r with
  | zero => intro m hl h6 h10; exact ⟨hl, rfl, rfl, Int.le_refl _, h6, h10, Int.le_refl _⟩
  | succ r ih =>
    intro m hl h6 h10
    unfold ptS
    split
    · split
      · rename_i h1 h2
        have ha := nxA_ok (c := m k 0) (q := m k 6) hl
        generalize nxA m (u + 17) (m k 0) (m k 6) = A at h2 ha ⊢
        have hh := ih (lgA (u + 17) (m u 3) 7 (m k 0) A (mz_up (mz_up (mz_up m k 10 (m k 10 - A)) k 8 (m k 8 - A)) k 6 (m k 6 + 1))) (lgA_logO (up_logO (up_logO (up_logO hl (by omega)) (by omega)) (by omega)) ha) (by simp (disch := omega) only [lgA_o, up_o, up_k, up_s]; omega) (by simp (disch := omega) only [lgA_o, up_o, up_k, up_s]; omega)
        generalize ptS u k r (lgA (u + 17) (m u 3) 7 (m k 0) A (mz_up (mz_up (mz_up m k 10 (m k 10 - A)) k 8 (m k 8 - A)) k 6 (m k 6 + 1))) = m' at hh ⊢
        simp (disch := omega) only [lgA_o, up_o, up_k, up_s] at hh
        exact ⟨hh.1, hh.2.1, hh.2.2.1, by omega, by omega, by omega, by omega⟩
      · exact ⟨hl, rfl, rfl, Int.le_refl _, h6, h10, Int.le_refl _⟩
    · exact ⟨hl, rfl, rfl, Int.le_refl _, h6, h10, Int.le_refl _⟩
def tmS (u k : Nat) (x : Int) (m : mz_M) : mz_M :=
  let m3 := pfS u k (ptS u k 400 (lgA (u + 17) (m u 3) 6 (m k 0) x (mz_up m k 10 (m k 10 + x))))
  if m3 k 5 = m3 k 6 ∧ m3 k 9 = 0 then rlS u k m3 else m3
theorem pfS_inv {u k : Nat} (hk : u + 24 ≤ k) (m : mz_M) (hl : logO m (u + 17)) : 0 ≤ pfS u k m (u + 17) 0 ∧ pfS u k m k 5 = m k 5 ∧ pfS u k m k 6 = m k 6 := by
  unfold pfS
  split
  · refine ⟨?_, ?_, ?_⟩
    · rw [lgA_z, up_o (by omega), up_o (by omega)]; have := hl.1; split <;> omega
    · simp (disch := omega) only [lgA_o, up_o, up_k, up_s]
    · simp (disch := omega) only [lgA_o, up_o, up_k, up_s]
  · exact ⟨hl.1, rfl, rfl⟩
theorem sp_takeMoney (m : mz_M) {u k : Nat} {x : Int} (hk : u + 24 ≤ k) (hl : logO m (u + 17)) (ht : 0 ≤ m k 5 ∧ m k 5 ≤ 400 ∧ 0 ≤ m k 6 ∧ m k 6 ≤ m k 5) (hc : 0 ≤ m k 10 ∧ m k 10 ≤ 90000000) (h8 : 0 ≤ m k 8 ∧ m k 8 ≤ 100000000) (hx : 0 ≤ x ∧ x ≤ 100000) : sp 243 [mz_r 6 0 u, mz_r 0 0 k, mz_i x] m none (tmS u k x m) := by
  unfold tmS
  refine mz_cl_vc 80 (fun _ => false) [some (mz_r 6 0 u), some (mz_r 0 0 k), some (mz_i x)] rfl ?_
  simp only [vcS0, vcS1, vcS2, vcS3, vcS4, vcS5, vcS6, vc_n0, vc_lk, vc_pop, vc_rc, vc_tsw, vc_fr, vc_ar, vc_tb, mz_nx, List.set_cons_zero, List.set_cons_succ, Nat.reduceAdd, Nat.reduceBEq, Nat.reduceEqDiff, Nat.reduceLeDiff, Nat.reduceLT, Nat.reduceMul, Int.reduceToNat, Bool.false_eq_true, Bool.or_self, Bool.or_true, Bool.true_or, Bool.or_false, reduceIte, Option.toList_some, Option.toList_none, List.nil_append, List.cons_append, List.length_cons, List.length_nil, true_and, and_true, Int.cast_ofNat_Int, Int.reduceEq, Int.reduceLT, Int.reduceLE, Nat.zero_le, and_self, or_true, true_or, cdS_243]
  refine ⟨(by unfold mz_w; omega), ?_⟩
  have hno := sp_note (mz_up m k 10 (m k 10 + x)) (u := u) (k := k) (d := 6) (x := x) (by rw [up_o (by omega)]; exact hl.1)
  simp (disch := omega) only [up_o, up_k] at hno
  refine ⟨_, _, hno, ?_⟩
  simp only [vcS0, vcS1, vcS2, vcS3, vcS4, vcS5, vcS6, vc_n0, vc_lk, vc_pop, vc_rc, vc_tsw, vc_fr, vc_ar, vc_tb, mz_nx, List.set_cons_zero, List.set_cons_succ, Nat.reduceAdd, Nat.reduceBEq, Nat.reduceEqDiff, Nat.reduceLeDiff, Nat.reduceLT, Nat.reduceMul, Int.reduceToNat, Bool.false_eq_true, Bool.or_self, Bool.or_true, Bool.true_or, Bool.or_false, reduceIte, Option.toList_some, Option.toList_none, List.nil_append, List.cons_append, List.length_cons, List.length_nil, true_and, and_true, Int.cast_ofNat_Int, Int.reduceEq, Int.reduceLT, Int.reduceLE, Nat.zero_le, and_self, or_true, true_or, cdS_243]
  have hl1 : logO (lgA (u + 17) (m u 3) 6 (m k 0) x (mz_up m k 10 (m k 10 + x))) (u + 17) := lgA_logO (up_logO hl (by omega)) hx
  have f5 : lgA (u + 17) (m u 3) 6 (m k 0) x (mz_up m k 10 (m k 10 + x)) k 5 = m k 5 := by simp (disch := omega) only [lgA_o, up_k]
  have f6 : lgA (u + 17) (m u 3) 6 (m k 0) x (mz_up m k 10 (m k 10 + x)) k 6 = m k 6 := by simp (disch := omega) only [lgA_o, up_k]
  have f8 : lgA (u + 17) (m u 3) 6 (m k 0) x (mz_up m k 10 (m k 10 + x)) k 8 = m k 8 := by simp (disch := omega) only [lgA_o, up_k]
  have f10 : lgA (u + 17) (m u 3) 6 (m k 0) x (mz_up m k 10 (m k 10 + x)) k 10 = m k 10 + x := by simp (disch := omega) only [lgA_o, up_s]
  generalize lgA (u + 17) (m u 3) 6 (m k 0) x (mz_up m k 10 (m k 10 + x)) = m1 at hl1 f5 f6 f8 f10 ⊢
  refine ⟨_, _, sp_payTickets m1 hk hl1 (by omega) (by omega) (by omega), ?_⟩
  simp only [vcS0, vcS1, vcS2, vcS3, vcS4, vcS5, vcS6, vc_n0, vc_lk, vc_pop, vc_rc, vc_tsw, vc_fr, vc_ar, vc_tb, mz_nx, List.set_cons_zero, List.set_cons_succ, Nat.reduceAdd, Nat.reduceBEq, Nat.reduceEqDiff, Nat.reduceLeDiff, Nat.reduceLT, Nat.reduceMul, Int.reduceToNat, Bool.false_eq_true, Bool.or_self, Bool.or_true, Bool.true_or, Bool.or_false, reduceIte, Option.toList_some, Option.toList_none, List.nil_append, List.cons_append, List.length_cons, List.length_nil, true_and, and_true, Int.cast_ofNat_Int, Int.reduceEq, Int.reduceLT, Int.reduceLE, Nat.zero_le, and_self, or_true, true_or, cdS_243]
  have h2 := ptS_inv hk 400 m1 hl1 (by omega) (by omega)
  generalize ptS u k 400 m1 = m2 at h2 ⊢
  refine ⟨_, _, sp_payFees m2 h2.1.1 hk (by omega) (by omega), ?_⟩
  simp only [vcS0, vcS1, vcS2, vcS3, vcS4, vcS5, vcS6, vc_n0, vc_lk, vc_pop, vc_rc, vc_tsw, vc_fr, vc_ar, vc_tb, mz_nx, List.set_cons_zero, List.set_cons_succ, Nat.reduceAdd, Nat.reduceBEq, Nat.reduceEqDiff, Nat.reduceLeDiff, Nat.reduceLT, Nat.reduceMul, Int.reduceToNat, Bool.false_eq_true, Bool.or_self, Bool.or_true, Bool.true_or, Bool.or_false, reduceIte, Option.toList_some, Option.toList_none, List.nil_append, List.cons_append, List.length_cons, List.length_nil, true_and, and_true, Int.cast_ofNat_Int, Int.reduceEq, Int.reduceLT, Int.reduceLE, Nat.zero_le, and_self, or_true, true_or, cdS_243]
  have h3 := pfS_inv hk m2 h2.1
  generalize pfS u k m2 = m3 at h3 ⊢
  refine ⟨_, _, sp_owesNothing m3 k (by omega), ?_⟩
  by_cases hz : m3 k 5 = m3 k 6 ∧ m3 k 9 = 0
  · rw [if_pos hz, if_pos hz]
    simp only [vcS0, vcS1, vcS2, vcS3, vcS4, vcS5, vcS6, vc_n0, vc_lk, vc_pop, vc_rc, vc_tsw, vc_fr, vc_ar, vc_tb, mz_nx, List.set_cons_zero, List.set_cons_succ, Nat.reduceAdd, Nat.reduceBEq, Nat.reduceEqDiff, Nat.reduceLeDiff, Nat.reduceLT, Nat.reduceMul, Int.reduceToNat, Bool.false_eq_true, Bool.or_self, Bool.or_true, Bool.true_or, Bool.or_false, reduceIte, Option.toList_some, Option.toList_none, List.nil_append, List.cons_append, List.length_cons, List.length_nil, true_and, and_true, Int.cast_ofNat_Int, Int.reduceEq, Int.reduceLT, Int.reduceLE, Nat.zero_le, and_self, or_true, true_or, cdS_243]
    refine ⟨_, _, sp_release m3 h3.1 hk, ?_⟩
    simp only [vcS0, vcS1, vcS2, vcS3, vcS4, vcS5, vcS6, vc_n0, vc_lk, vc_pop, vc_rc, vc_tsw, vc_fr, vc_ar, vc_tb, mz_nx, List.set_cons_zero, List.set_cons_succ, Nat.reduceAdd, Nat.reduceBEq, Nat.reduceEqDiff, Nat.reduceLeDiff, Nat.reduceLT, Nat.reduceMul, Int.reduceToNat, Bool.false_eq_true, Bool.or_self, Bool.or_true, Bool.true_or, Bool.or_false, reduceIte, Option.toList_some, Option.toList_none, List.nil_append, List.cons_append, List.length_cons, List.length_nil, true_and, and_true, Int.cast_ofNat_Int, Int.reduceEq, Int.reduceLT, Int.reduceLE, Nat.zero_le, and_self, or_true, true_or, cdS_243]
  · rw [if_neg hz, if_neg hz]
    simp only [vcS0, vcS1, vcS2, vcS3, vcS4, vcS5, vcS6, vc_n0, vc_lk, vc_pop, vc_rc, vc_tsw, vc_fr, vc_ar, vc_tb, mz_nx, List.set_cons_zero, List.set_cons_succ, Nat.reduceAdd, Nat.reduceBEq, Nat.reduceEqDiff, Nat.reduceLeDiff, Nat.reduceLT, Nat.reduceMul, Int.reduceToNat, Bool.false_eq_true, Bool.or_self, Bool.or_true, Bool.true_or, Bool.or_false, reduceIte, Option.toList_some, Option.toList_none, List.nil_append, List.cons_append, List.length_cons, List.length_nil, true_and, and_true, Int.cast_ofNat_Int, Int.reduceEq, Int.reduceLT, Int.reduceLE, Nat.zero_le, and_self, or_true, true_or, cdS_243]
def wtA (m : mz_M) (u p j : Nat) : Int := if m (u + 24 + j) 1 = 1 ∧ m (u + 24 + j) 2 = p then tkF m u (u + 24 + j) (m u 3).toNat else 0
def wts (u p : Nat) (m : mz_M) : Nat → mz_M × Int
  | 0 => (m, 0)
  | j + 1 => if 0 < wtA (wts u p m j).1 u p j then (wtS u (u + 24 + j) (wtA (wts u p m j).1 u p j) (wts u p m j).1, (wts u p m j).2 + 1) else wts u p m j
theorem wtS_o {u k a j : Nat} {x : Int} {m : mz_M} (h : a < u + 17 ∨ u + 21 < a) (h2 : a ≠ k) : wtS u k x m a j = m a j := by
  unfold wtS
  split <;> simp (disch := omega) only [lgA_o, up_o]
theorem wtS_l {u k : Nat} {x : Int} {m : mz_M} (hk : u + 24 ≤ k) (hl : logO m (u + 17)) (hx : 0 ≤ x ∧ x ≤ 100000) : logO (wtS u k x m) (u + 17) := by
  have h1 := lgA_logO (t := m u 3) (k := 4) (c := m k 0) (up_logO (k := k) (j := 8) (v := m k 8 + x) (up_logO (k := k) (j := 7) (v := m u 3) (up_logO (k := k) (j := 5) (v := m k 5 + 1) hl (by omega)) (by omega)) (by omega)) hx
  unfold wtS
  simp only
  split
  · exact lgA_logO (up_logO (up_logO (up_logO h1 (by omega)) (by omega)) (by omega)) (by omega)
  · exact h1
theorem wts_inv {u p : Nat} {m : mz_M} (hl : logO m (u + 17)) (hT : 0 ≤ m u 3) (hA : ∀ j m', (∀ a i, (a < u + 17 ∨ (u + 21 < a ∧ a < u + 24) ∨ u + 24 + j ≤ a) → m' a i = m a i) → j < 16 → 0 ≤ wtA m' u p j ∧ wtA m' u p j ≤ 10000) : ∀ j, j ≤ 16 → logO (wts u p m j).1 (u + 17) ∧ (∀ a i, (a < u + 17 ∨ (u + 21 < a ∧ a < u + 24) ∨ u + 24 + j ≤ a) → (wts u p m j).1 a i = m a i) ∧ 0 ≤ (wts u p m j).2 ∧ (wts u p m j).2 ≤ j := by
  intro j
  induction j with
  | zero => intro _; exact ⟨hl, fun _ _ _ => rfl, Int.le_refl _, Int.le_refl _⟩
  | succ j ih =>
    intro hj
    obtain ⟨i1, i2, i3, i4⟩ := ih (by omega)
    have ha := hA j _ i2 (by omega)
    unfold wts
    split
    · refine ⟨wtS_l (by omega) i1 (by omega), fun a i h => ?_, by simp only; omega, by simp only; omega⟩
      simp only
      rw [wtS_o (by omega) (by omega)]
      exact i2 a i (by omega)
    · exact ⟨i1, fun a i h => i2 a i (by omega), i3, by omega⟩
