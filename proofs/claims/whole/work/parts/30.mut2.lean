theorem ptS_inv {u k : Nat} (hk : u + 24 ≤ k) : ∀ (r : Nat) (m : mz_M), logO m (u + 17) → m k 6 ≤ m k 5 → 0 ≤ m k 10 → logO (ptS u k r m) (u + 17) ∧ ptS u k r m k 5 = m k 5 ∧ ptS u k r m k 9 = m k 9 ∧ m k 6 ≤ ptS u k r m k 6 ∧ ptS u k r m k 6 ≤ m k 5 ∧ 0 ≤ ptS u k r m k 10 ∧ ptS u k r m k 10 ≤ m k 10 := by
  intro r
  induction r with
  | zero => intro m hl h6 h10; exact ⟨hl, rfl, rfl, Int.le_refl _, h6, h10, Int.le_refl _⟩
  | succ r ih =>
    intro m hl h6 h10
    unfold ptS
    split
    · split
      · rename_i h1 h2
        have ha := nxA_ok (c := m k 0) (q := m k 6) hl
        generalize nxA m (u + 17) (m k 0) (m k 6) = A at h2 ha ⊢
        have hh := ih (lgA (u + 17) (m u 3) 7 (m k 0) A (mz_up (mz_up (mz_up m k 10 (m k 10 - A)) k 8 (m k 8 - A)) k 6 (m k 6 + 1))) (lgA_logO (up_logO (up_logO (up_logO hl (by omega)) (by omega)) (by omega)) ha) (by simp (disch := omega) only [lgA_o, up_o, up_k, up_s]; omega) (by simp (disch := omega) only [lgA_o, up_o, up_k, up_s]; omega)
        generalize ptS u k r (lgA (u + 17) (m u 3) 7 (m k 0) A (mz_up (mz_up (mz_up m k 10 (m k 10 - A)) k 8 (m k 8 - A)) k 6 (m k 6 + 1))) = m' at hh ⊢
        simp (disch := omega) only [lgA_o, up_o, up_k, up_s] at hh
        exact ⟨hh.1, hh.2.1, hh.2.2.1, by omega, by omega, by omega, by omega⟩
      · exact ⟨hl, rfl, rfl, Int.le_refl _, h6, h10, Int.le_refl _⟩
    · exact ⟨hl, rfl, rfl, Int.le_refl _, h6, h10, Int.le_refl _⟩
def tmS (u k : Nat) (x : Int) (m : mz_M) : mz_M :=
  let m3 := pfS u k (ptS u k 400 (lgA (u + 17) (m u 3) 6 (m k 0) x (mz_up m k 10 (m k 10 + x))))
  if m3 k 5 = m3 k 6 ∧ m3 k 9 = 0 then rlS u k m3 else m3
theorem pfS_inv {u k : Nat} (hk : u + 24 ≤ k) (m : mz_M) (hl : logO m (u + 17)) : 0 ≤ pfS u k m (u + 17) 0 ∧ pfS u k m k 5 = m k 5 ∧ pfS u k m k 6 = m k 6 := by
  unfold pfS
  split
  · refine ⟨?_, ?_, ?_⟩
    · rw [lgA_z, up_o (by omega), up_o (by omega)]; have := hl.1; split <;> omega
    · simp (disch := omega) only [lgA_o, up_o, up_k, up_s]
    · simp (disch := omega) only [lgA_o, up_o, up_k, up_s]
  · exact ⟨hl.1, rfl, rfl⟩
theorem sp_takeMoney (m : mz_M) {u k : Nat} {x : Int} (hk : u + 24 ≤ k) (hl : logO m (u + 17)) (ht : 0 ≤ m k 5 ∧ m k 5 ≤ 400 ∧ 0 ≤ m k 6 ∧ m k 6 ≤ m k 5) (hc : 0 ≤ m k 10 ∧ m k 10 ≤ 90000000) (h8 : 0 ≤ m k 8 ∧ m k 8 ≤ 100000000) (hx : 0 ≤ x ∧ x ≤ 100000) : sp 243 [mz_r 6 0 u, mz_r 0 0 k, mz_i x] m none (tmS u k x m) := by
  unfold tmS
  refine mz_cl_vc 80 (fun _ => false) [some (mz_r 6 0 u), some (mz_r 0 0 k), some (mz_i x)] rfl ?_
  simp only [vcS0, vcS1, vcS2, vcS3, vcS4, vcS5, vcS6, vc_n0, vc_lk, vc_pop, vc_rc, vc_tsw, vc_fr, vc_ar, vc_tb, mz_nx, List.set_cons_zero, List.set_cons_succ, Nat.reduceAdd, Nat.reduceBEq, Nat.reduceEqDiff, Nat.reduceLeDiff, Nat.reduceLT, Nat.reduceMul, Int.reduceToNat, Bool.false_eq_true, Bool.or_self, Bool.or_true, Bool.true_or, Bool.or_false, reduceIte, Option.toList_some, Option.toList_none, List.nil_append, List.cons_append, List.length_cons, List.length_nil, true_and, and_true, Int.cast_ofNat_Int, Int.reduceEq, Int.reduceLT, Int.reduceLE, Nat.zero_le, and_self, or_true, true_or, cdS_243]
  refine ⟨(by unfold mz_w; omega), ?_⟩
  have hno := sp_note (mz_up m k 10 (m k 10 + x)) (u := u) (k := k) (d := 6) (x := x) (by rw [up_o (by omega)]; exact hl.1)
  simp (disch := omega) only [up_o, up_k] at hno
  refine ⟨_, _, hno, ?_⟩
  simp only [vcS0, vcS1, vcS2, vcS3, vcS4, vcS5, vcS6, vc_n0, vc_lk, vc_pop, vc_rc, vc_tsw, vc_fr, vc_ar, vc_tb, mz_nx, List.set_cons_zero, List.set_cons_succ, Nat.reduceAdd, Nat.reduceBEq, Nat.reduceEqDiff, Nat.reduceLeDiff, Nat.reduceLT, Nat.reduceMul, Int.reduceToNat, Bool.false_eq_true, Bool.or_self, Bool.or_true, Bool.true_or, Bool.or_false, reduceIte, Option.toList_some, Option.toList_none, List.nil_append, List.cons_append, List.length_cons, List.length_nil, true_and, and_true, Int.cast_ofNat_Int, Int.reduceEq, Int.reduceLT, Int.reduceLE, Nat.zero_le, and_self, or_true, true_or, cdS_243]
  have hl1 : logO (lgA (u + 17) (m u 3) 6 (m k 0) x (mz_up m k 10 (m k 10 + x))) (u + 17) := lgA_logO (up_logO hl (by omega)) hx
  have f5 : lgA (u + 17) (m u 3) 6 (m k 0) x (mz_up m k 10 (m k 10 + x)) k 5 = m k 5 := by simp (disch := omega) only [lgA_o, up_k]
  have f6 : lgA (u + 17) (m u 3) 6 (m k 0) x (mz_up m k 10 (m k 10 + x)) k 6 = m k 6 := by simp (disch := omega) only [lgA_o, up_k]
  have f8 : lgA (u + 17) (m u 3) 6 (m k 0) x (mz_up m k 10 (m k 10 + x)) k 8 = m k 8 := by simp (disch := omega) only [lgA_o, up_k]
  have f10 : lgA (u + 17) (m u 3) 6 (m k 0) x (mz_up m k 10 (m k 10 + x)) k 10 = m k 10 + x := by simp (disch := omega) only [lgA_o, up_s]
  generalize lgA (u + 17) (m u 3) 6 (m k 0) x (mz_up m k 10 (m k 10 + x)) = m1 at hl1 f5 f6 f8 f10 ⊢
  refine ⟨_, _, sp_payTickets m1 hk hl1 (by omega) (by omega) (by omega), ?_⟩
  simp only [vcS0, vcS1, vcS2, vcS3, vcS4, vcS5, vcS6, vc_n0, vc_lk, vc_pop, vc_rc, vc_tsw, vc_fr, vc_ar, vc_tb, mz_nx, List.set_cons_zero, List.set_cons_succ, Nat.reduceAdd, Nat.reduceBEq, Nat.reduceEqDiff, Nat.reduceLeDiff, Nat.reduceLT, Nat.reduceMul, Int.reduceToNat, Bool.false_eq_true, Bool.or_self, Bool.or_true, Bool.true_or, Bool.or_false, reduceIte, Option.toList_some, Option.toList_none, List.nil_append, List.cons_append, List.length_cons, List.length_nil, true_and, and_true, Int.cast_ofNat_Int, Int.reduceEq, Int.reduceLT, Int.reduceLE, Nat.zero_le, and_self, or_true, true_or, cdS_243]
  have h2 := ptS_inv hk 400 m1 hl1 (by omega) (by omega)
  generalize ptS u k 400 m1 = m2 at h2 ⊢
  refine ⟨_, _, sp_payFees m2 h2.1.1 hk (by omega) (by omega), ?_⟩
  simp only [vcS0, vcS1, vcS2, vcS3, vcS4, vcS5, vcS6, vc_n0, vc_lk, vc_pop, vc_rc, vc_tsw, vc_fr, vc_ar, vc_tb, mz_nx, List.set_cons_zero, List.set_cons_succ, Nat.reduceAdd, Nat.reduceBEq, Nat.reduceEqDiff, Nat.reduceLeDiff, Nat.reduceLT, Nat.reduceMul, Int.reduceToNat, Bool.false_eq_true, Bool.or_self, Bool.or_true, Bool.true_or, Bool.or_false, reduceIte, Option.toList_some, Option.toList_none, List.nil_append, List.cons_append, List.length_cons, List.length_nil, true_and, and_true, Int.cast_ofNat_Int, Int.reduceEq, Int.reduceLT, Int.reduceLE, Nat.zero_le, and_self, or_true, true_or, cdS_243]
  have h3 := pfS_inv hk m2 h2.1
  generalize pfS u k m2 = m3 at h3 ⊢
  refine ⟨_, _, sp_owesNothing m3 k (by omega), ?_⟩
  by_cases hz : m3 k 5 = m3 k 6 ∧ m3 k 9 = 0
  · rw [if_pos hz, if_pos hz]
    simp only [vcS0, vcS1, vcS2, vcS3, vcS4, vcS5, vcS6, vc_n0, vc_lk, vc_pop, vc_rc, vc_tsw, vc_fr, vc_ar, vc_tb, mz_nx, List.set_cons_zero, List.set_cons_succ, Nat.reduceAdd, Nat.reduceBEq, Nat.reduceEqDiff, Nat.reduceLeDiff, Nat.reduceLT, Nat.reduceMul, Int.reduceToNat, Bool.false_eq_true, Bool.or_self, Bool.or_true, Bool.true_or, Bool.or_false, reduceIte, Option.toList_some, Option.toList_none, List.nil_append, List.cons_append, List.length_cons, List.length_nil, true_and, and_true, Int.cast_ofNat_Int, Int.reduceEq, Int.reduceLT, Int.reduceLE, Nat.zero_le, and_self, or_true, true_or, cdS_243]
    refine ⟨_, _, sp_release m3 h3.1 hk, ?_⟩
    simp only [vcS0, vcS1, vcS2, vcS3, vcS4, vcS5, vcS6, vc_n0, vc_lk, vc_pop, vc_rc, vc_tsw, vc_fr, vc_ar, vc_tb, mz_nx, List.set_cons_zero, List.set_cons_succ, Nat.reduceAdd, Nat.reduceBEq, Nat.reduceEqDiff, Nat.reduceLeDiff, Nat.reduceLT, Nat.reduceMul, Int.reduceToNat, Bool.false_eq_true, Bool.or_self, Bool.or_true, Bool.true_or, Bool.or_false, reduceIte, Option.toList_some, Option.toList_none, List.nil_append, List.cons_append, List.length_cons, List.length_nil, true_and, and_true, Int.cast_ofNat_Int, Int.reduceEq, Int.reduceLT, Int.reduceLE, Nat.zero_le, and_self, or_true, true_or, cdS_243]
  · rw [if_neg hz, if_neg hz]
    simp only [vcS0, vcS1, vcS2, vcS3, vcS4, vcS5, vcS6, vc_n0, vc_lk, vc_pop, vc_rc, vc_tsw, vc_fr, vc_ar, vc_tb, mz_nx, List.set_cons_zero, List.set_cons_succ, Nat.reduceAdd, Nat.reduceBEq, Nat.reduceEqDiff, Nat.reduceLeDiff, Nat.reduceLT, Nat.reduceMul, Int.reduceToNat, Bool.false_eq_true, Bool.or_self, Bool.or_true, Bool.true_or, Bool.or_false, reduceIte, Option.toList_some, Option.toList_none, List.nil_append, List.cons_append, List.length_cons, List.length_nil, true_and, and_true, Int.cast_ofNat_Int, Int.reduceEq, Int.reduceLT, Int.reduceLE, Nat.zero_le, and_self, or_true, true_or, cdS_243]
def wtA (m : mz_M) (u p j : Nat) : Int := if m (u + 24 + j) 1 = 1 ∧ m (u + 24 + j) 2 = p then tkF m u (u + 24 + j) (m u 3).toNat else 0
def wts (u p : Nat) (m : mz_M) : Nat → mz_M × Int
  | 0 => (m, 0)
  | j + 1 => if 0 < wtA (wts u p m j).1 u p j then (wtS u (u + 24 + j) (wtA (wts u p m j).1 u p j) (wts u p m j).1, (wts u p m j).2 + 1) else wts u p m j
theorem wtS_o {u k a j : Nat} {x : Int} {m : mz_M} (h : a < u + 17 ∨ u + 21 < a) (h2 : a ≠ k) : wtS u k x m a j = m a j := by
  unfold wtS
  split <;> simp (disch := omega) only [lgA_o, up_o]
theorem wtS_l {u k : Nat} {x : Int} {m : mz_M} (hk : u + 24 ≤ k) (hl : logO m (u + 17)) (hx : 0 ≤ x ∧ x ≤ 100000) : logO (wtS u k x m) (u + 17) := by
  have h1 := lgA_logO (t := m u 3) (k := 4) (c := m k 0) (up_logO (k := k) (j := 8) (v := m k 8 + x) (up_logO (k := k) (j := 7) (v := m u 3) (up_logO (k := k) (j := 5) (v := m k 5 + 1) hl (by omega)) (by omega)) (by omega)) hx
  unfold wtS
  simp only
  split
  · exact lgA_logO (up_logO (up_logO (up_logO h1 (by omega)) (by omega)) (by omega)) (by omega)
  · exact h1
theorem wts_inv {u p : Nat} {m : mz_M} (hl : logO m (u + 17)) (hT : 0 ≤ m u 3) (hA : ∀ j m', (∀ a i, (a < u + 17 ∨ (u + 21 < a ∧ a < u + 24) ∨ u + 24 + j ≤ a) → m' a i = m a i) → j < 16 → 0 ≤ wtA m' u p j ∧ wtA m' u p j ≤ 10000) : ∀ j, j ≤ 16 → logO (wts u p m j).1 (u + 17) ∧ (∀ a i, (a < u + 17 ∨ (u + 21 < a ∧ a < u + 24) ∨ u + 24 + j ≤ a) → (wts u p m j).1 a i = m a i) ∧ 0 ≤ (wts u p m j).2 ∧ (wts u p m j).2 ≤ j := by
  intro j
  induction j with
  | zero => intro _; exact ⟨hl, fun _ _ _ => rfl, Int.le_refl _, Int.le_refl _⟩
  | succ j ih =>
    intro hj
    obtain ⟨i1, i2, i3, i4⟩ := ih (by omega)
    have ha := hA j _ i2 (by omega)
    unfold wts
    split
    · refine ⟨wtS_l (by omega) i1 (by omega), fun a i h => ?_, by simp only; omega, by simp only; omega⟩
      simp only
      rw [wtS_o (by omega) (by omega)]
      exact i2 a i (by omega)
    · exact ⟨i1, fun a i h => i2 a i (by omega), i3, by omega⟩
def carO (m : mz_M) (k : Nat) : Prop := caO m k ∧ m k 6 ≤ m k 5 ∧ m k 5 < 900 ∧ (0 ≤ m k 8 ∧ m k 8 ≤ 90000000) ∧ (0 ≤ m k 9 ∧ m k 9 ≤ 90000000)
theorem caO_congr {m m' : mz_M} {k : Nat} (h : ∀ i, m' k i = m k i) (hc : carO m k) : carO m' k := by
  unfold carO caO at hc ⊢
  rw [h 2, h 3, h 5, h 6, h 8, h 9]
  exact hc
theorem wtA_ok {m : mz_M} {u p j : Nat} (h : carO m (u + 24 + j)) : 0 ≤ wtA m u p j ∧ wtA m u p j ≤ 10000 := by
  have := tkF_ok u (m u 3).toNat h.1 h.2.1
  unfold wtA
  split <;> omega
theorem wt_loop {u p : Nat} {m : mz_M} {t : Nat} (hl : logO m (u + 17)) (hc : ∀ c, c < 16 → carO m (u + 24 + c)) (h3 : m u 3 = t) (ht : t < 20000) : ∀ (r j : Nat) (x y : Option mz_V), j + r = 16 → sx 245 10 [some (mz_r 6 0 u), some (mz_i p), some (mz_i (wts u p m j).2), some (mz_r 104 16 (u + 16)), some (mz_i 16), some (mz_i j), x, y] [] (wts u p m j).1 (some (mz_i (wts u p m 16).2)) (wts u p m 16).1 := by
  intro r
  induction r with
  | zero =>
    intro j x y hj
    obtain rfl : j = 16 := by omega
    refine mz_vc_ok 60 (ct := fun i => i == 10) ?_
    simp only [vcS0, vcS1, vcS2, vcS3, vcS4, vcS5, vcS6, vc_n0, vc_lk, vc_pop, vc_rc, vc_tsw, vc_fr, vc_ar, vc_tb, mz_nx, List.set_cons_zero, List.set_cons_succ, Nat.reduceAdd, Nat.reduceBEq, Nat.reduceEqDiff, Nat.reduceLeDiff, Nat.reduceLT, Nat.reduceMul, Int.reduceToNat, Bool.false_eq_true, Bool.or_self, Bool.or_true, Bool.true_or, Bool.or_false, reduceIte, Option.toList_some, Option.toList_none, List.nil_append, List.cons_append, List.length_cons, List.length_nil, true_and, and_true, Int.cast_ofNat_Int, Int.reduceEq, Int.reduceLT, Int.reduceLE, Nat.zero_le, and_self, or_true, true_or, cdS_245]
  | succ r ih =>
    intro j x y hj
    have hk := fun x y => ih (j + 1) x y (by omega)
    obtain ⟨i1, i2, i3, i4⟩ := wts_inv (p := p) hl (by omega) (fun j m' h hj => wtA_ok (caO_congr (h (u + 24 + j) · (by omega)) (hc j hj))) j (by omega)
    have hcj : carO (wts u p m j).1 (u + 24 + j) := caO_congr (i2 (u + 24 + j) · (by omega)) (hc j (by omega))
    have h3j : (wts u p m j).1 u 3 = t := by rw [i2 _ _ (by omega)]; exact h3
    have hA := wtA_ok (p := p) hcj
    unfold wts at hk
    have eA : wtA (wts u p m j).1 u p j = if (wts u p m j).1 (u + 24 + j) 1 = 1 ∧ (wts u p m j).1 (u + 24 + j) 2 = p then tkF (wts u p m j).1 u (u + 24 + j) t else 0 := by
      unfold wtA; rw [h3j, Int.toNat_natCast]
    generalize hM : wts u p m j = M at hk i1 i2 i3 i4 hcj h3j hA eA ⊢
    refine mz_vc_ok 60 (ct := fun i => i == 10) ?_
    simp only [vcS0, vcS1, vcS2, vcS3, vcS4, vcS5, vcS6, vc_n0, vc_lk, vc_pop, vc_rc, vc_tsw, vc_fr, vc_ar, vc_tb, mz_nx, List.set_cons_zero, List.set_cons_succ, Nat.reduceAdd, Nat.reduceBEq, Nat.reduceEqDiff, Nat.reduceLeDiff, Nat.reduceLT, Nat.reduceMul, Int.reduceToNat, Bool.false_eq_true, Bool.or_self, Bool.or_true, Bool.true_or, Bool.or_false, reduceIte, Option.toList_some, Option.toList_none, List.nil_append, List.cons_append, List.length_cons, List.length_nil, true_and, and_true, Int.cast_ofNat_Int, Int.reduceEq, Int.reduceLT, Int.reduceLE, Nat.zero_le, and_self, or_true, true_or, cdS_245]
    rw [if_pos (by omega), Int.toNat_natCast, show u + 16 + (8 + 1 * j) = u + 24 + j by omega]
    refine ⟨by omega, ?_⟩
    refine ⟨_, _, sp_isAt M.1 _ _ _, ?_⟩
    by_cases h1 : M.1 (u + 24 + j) 1 = 1 ∧ M.1 (u + 24 + j) 2 = p
    · rw [if_pos h1]
      rw [if_pos h1] at eA
      simp only [vcS0, vcS1, vcS2, vcS3, vcS4, vcS5, vcS6, vc_n0, vc_lk, vc_pop, vc_rc, vc_tsw, vc_fr, vc_ar, vc_tb, mz_nx, List.set_cons_zero, List.set_cons_succ, Nat.reduceAdd, Nat.reduceBEq, Nat.reduceEqDiff, Nat.reduceLeDiff, Nat.reduceLT, Nat.reduceMul, Int.reduceToNat, Bool.false_eq_true, Bool.or_self, Bool.or_true, Bool.true_or, Bool.or_false, reduceIte, Option.toList_some, Option.toList_none, List.nil_append, List.cons_append, List.length_cons, List.length_nil, true_and, and_true, Int.cast_ofNat_Int, Int.reduceEq, Int.reduceLT, Int.reduceLE, Nat.zero_le, and_self, or_true, true_or, cdS_245]
      rw [h3j]
      refine ⟨_, _, sp_ticketFor M.1 hcj.1 ht, ?_⟩
      simp only [vcS0, vcS1, vcS2, vcS3, vcS4, vcS5, vcS6, vc_n0, vc_lk, vc_pop, vc_rc, vc_tsw, vc_fr, vc_ar, vc_tb, mz_nx, List.set_cons_zero, List.set_cons_succ, Nat.reduceAdd, Nat.reduceBEq, Nat.reduceEqDiff, Nat.reduceLeDiff, Nat.reduceLT, Nat.reduceMul, Int.reduceToNat, Bool.false_eq_true, Bool.or_self, Bool.or_true, Bool.true_or, Bool.or_false, reduceIte, Option.toList_some, Option.toList_none, List.nil_append, List.cons_append, List.length_cons, List.length_nil, true_and, and_true, Int.cast_ofNat_Int, Int.reduceEq, Int.reduceLT, Int.reduceLE, Nat.zero_le, and_self, or_true, true_or, cdS_245]
      rw [← eA]
      by_cases h2 : 0 < wtA M.1 u p j
      · rw [if_neg (by omega)]
        have hq := hcj.1.2.2
        have hq2 := hcj.2
        refine ⟨_, _, sp_writeTicket M.1 i1.1 (by omega) (by omega) (by omega) (by omega) hA, ?_⟩
        simp only [vcS0, vcS1, vcS2, vcS3, vcS4, vcS5, vcS6, vc_n0, vc_lk, vc_pop, vc_rc, vc_tsw, vc_fr, vc_ar, vc_tb, mz_nx, List.set_cons_zero, List.set_cons_succ, Nat.reduceAdd, Nat.reduceBEq, Nat.reduceEqDiff, Nat.reduceLeDiff, Nat.reduceLT, Nat.reduceMul, Int.reduceToNat, Bool.false_eq_true, Bool.or_self, Bool.or_true, Bool.true_or, Bool.or_false, reduceIte, Option.toList_some, Option.toList_none, List.nil_append, List.cons_append, List.length_cons, List.length_nil, true_and, and_true, Int.cast_ofNat_Int, Int.reduceEq, Int.reduceLT, Int.reduceLE, Nat.zero_le, and_self, or_true, true_or, cdS_245]
        rw [if_pos h2] at hk
        exact ⟨(by unfold mz_w; omega), (by unfold mz_w; omega), hk _ _⟩
      · rw [if_pos (by omega)]
        rw [if_neg h2] at hk
        exact ⟨(by unfold mz_w; omega), hk _ _⟩
    · rw [if_neg h1]
      rw [if_neg h1] at eA
      simp only [vcS0, vcS1, vcS2, vcS3, vcS4, vcS5, vcS6, vc_n0, vc_lk, vc_pop, vc_rc, vc_tsw, vc_fr, vc_ar, vc_tb, mz_nx, List.set_cons_zero, List.set_cons_succ, Nat.reduceAdd, Nat.reduceBEq, Nat.reduceEqDiff, Nat.reduceLeDiff, Nat.reduceLT, Nat.reduceMul, Int.reduceToNat, Bool.false_eq_true, Bool.or_self, Bool.or_true, Bool.true_or, Bool.or_false, reduceIte, Option.toList_some, Option.toList_none, List.nil_append, List.cons_append, List.length_cons, List.length_nil, true_and, and_true, Int.cast_ofNat_Int, Int.reduceEq, Int.reduceLT, Int.reduceLE, Nat.zero_le, and_self, or_true, true_or, cdS_245]
      rw [if_neg (by omega)] at hk
      exact ⟨(by unfold mz_w; omega), hk _ _⟩
theorem sp_writeTickets (m : mz_M) {u p t : Nat} (hl : logO m (u + 17)) (hc : ∀ c, c < 16 → carO m (u + 24 + c)) (h3 : m u 3 = t) (ht : t < 20000) : sp 245 [mz_r 6 0 u, mz_i p] m (some (mz_i (wts u p m 16).2)) (wts u p m 16).1 := by
  refine mz_cl_vc 80 (fun i => i == 10) [some (mz_r 6 0 u), some (mz_i p), none, none, none, none, none, none] rfl ?_
  simp only [vcS0, vcS1, vcS2, vcS3, vcS4, vcS5, vcS6, vc_n0, vc_lk, vc_pop, vc_rc, vc_tsw, vc_fr, vc_ar, vc_tb, mz_nx, List.set_cons_zero, List.set_cons_succ, Nat.reduceAdd, Nat.reduceBEq, Nat.reduceEqDiff, Nat.reduceLeDiff, Nat.reduceLT, Nat.reduceMul, Int.reduceToNat, Bool.false_eq_true, Bool.or_self, Bool.or_true, Bool.true_or, Bool.or_false, reduceIte, Option.toList_some, Option.toList_none, List.nil_append, List.cons_append, List.length_cons, List.length_nil, true_and, and_true, Int.cast_ofNat_Int, Int.reduceEq, Int.reduceLT, Int.reduceLE, Nat.zero_le, and_self, or_true, true_or, cdS_245]
  exact wt_loop hl hc h3 ht 16 0 none none rfl
/-! Beginning, and copies. -/
def clS (u : Nat) (m : mz_M) (j : Nat) : mz_M := fun a i => if u + 24 ≤ a ∧ a < u + 24 + j ∧ 1 ≤ i ∧ i < 11 then 0 else m a i
theorem clS_s (u : Nat) (m : mz_M) (j : Nat) : clS u m (j + 1) = crC (u + 24 + j) (clS u m j) := by
  funext a i
  unfold crC clS
  grind
noncomputable def bgS (u v : Nat) (m : mz_M) : mz_M := mz_up (mz_up (mz_up (clS u (tCp v (u + 1) m) 16) (u + 17) 0 0) u 3 0) u 4 (clS u (tCp v (u + 1) m) 16 (u + 1) 2)
set_option maxRecDepth 8000 in
theorem bg_loop (u v : Nat) (m : mz_M) : ∀ (r j : Nat) (x : Option mz_V), j + r = 16 → sx 240 12 [some (mz_r 6 0 u), some (mz_r 4 0 v), some (mz_r 104 16 (u + 16)), some (mz_i 16), some (mz_i j), x] [] (clS u (tCp v (u + 1) m) j) none (bgS u v m) := by
  intro r
  induction r with
  | zero =>
    intro j x hj
    obtain rfl : j = 16 := by omega
    unfold bgS
    refine mz_vc_ok 60 (ct := fun i => i == 12) ?_
    simp only [vcS0, vcS1, vcS2, vcS3, vcS4, vcS5, vcS6, vc_n0, vc_lk, vc_pop, vc_rc, vc_tsw, vc_fr, vc_ar, vc_tb, mz_nx, List.set_cons_zero, List.set_cons_succ, Nat.reduceAdd, Nat.reduceBEq, Nat.reduceEqDiff, Nat.reduceLeDiff, Nat.reduceLT, Nat.reduceMul, Int.reduceToNat, Bool.false_eq_true, Bool.or_self, Bool.or_true, Bool.true_or, Bool.or_false, reduceIte, Option.toList_some, Option.toList_none, List.nil_append, List.cons_append, List.length_cons, List.length_nil, true_and, and_true, Int.cast_ofNat_Int, Int.reduceEq, Int.reduceLT, Int.reduceLE, Nat.zero_le, and_self, or_true, true_or, cdS_240]
    simp (disch := omega) only [up_o]
  | succ r ih =>
    intro j x hj
    have hk := fun x => ih (j + 1) x (by omega)
    refine mz_vc_ok 60 (ct := fun i => i == 12) ?_
    simp only [vcS0, vcS1, vcS2, vcS3, vcS4, vcS5, vcS6, vc_n0, vc_lk, vc_pop, vc_rc, vc_tsw, vc_fr, vc_ar, vc_tb, mz_nx, List.set_cons_zero, List.set_cons_succ, Nat.reduceAdd, Nat.reduceBEq, Nat.reduceEqDiff, Nat.reduceLeDiff, Nat.reduceLT, Nat.reduceMul, Int.reduceToNat, Bool.false_eq_true, Bool.or_self, Bool.or_true, Bool.true_or, Bool.or_false, reduceIte, Option.toList_some, Option.toList_none, List.nil_append, List.cons_append, List.length_cons, List.length_nil, true_and, and_true, Int.cast_ofNat_Int, Int.reduceEq, Int.reduceLT, Int.reduceLE, Nat.zero_le, and_self, or_true, true_or, cdS_240]
    rw [if_pos (by omega), Int.toNat_natCast, show u + 16 + (8 + 1 * j) = u + 24 + j by omega]
    refine ⟨by omega, ?_⟩
    refine ⟨_, _, sp_cclear _ _, ?_⟩
    simp only [vcS0, vcS1, vcS2, vcS3, vcS4, vcS5, vcS6, vc_n0, vc_lk, vc_pop, vc_rc, vc_tsw, vc_fr, vc_ar, vc_tb, mz_nx, List.set_cons_zero, List.set_cons_succ, Nat.reduceAdd, Nat.reduceBEq, Nat.reduceEqDiff, Nat.reduceLeDiff, Nat.reduceLT, Nat.reduceMul, Int.reduceToNat, Bool.false_eq_true, Bool.or_self, Bool.or_true, Bool.true_or, Bool.or_false, reduceIte, Option.toList_some, Option.toList_none, List.nil_append, List.cons_append, List.length_cons, List.length_nil, true_and, and_true, Int.cast_ofNat_Int, Int.reduceEq, Int.reduceLT, Int.reduceLE, Nat.zero_le, and_self, or_true, true_or, cdS_240]
    rw [← clS_s]
    exact ⟨(by unfold mz_w; omega), hk _⟩
set_option maxRecDepth 8000 in
theorem sp_begin (m : mz_M) {u v : Nat} (h : v + 15 ≤ u + 1 ∨ u + 1 + 15 ≤ v) : sp 240 [mz_r 6 0 u, mz_r 4 0 v] m none (bgS u v m) := by
  refine mz_cl_vc 60 (fun i => i == 12) [some (mz_r 6 0 u), some (mz_r 4 0 v), none, none, none, none] rfl ?_
  simp only [vcS0, vcS1, vcS2, vcS3, vcS4, vcS5, vcS6, vc_n0, vc_lk, vc_pop, vc_rc, vc_tsw, vc_fr, vc_ar, vc_tb, mz_nx, List.set_cons_zero, List.set_cons_succ, Nat.reduceAdd, Nat.reduceBEq, Nat.reduceEqDiff, Nat.reduceLeDiff, Nat.reduceLT, Nat.reduceMul, Int.reduceToNat, Bool.false_eq_true, Bool.or_self, Bool.or_true, Bool.true_or, Bool.or_false, reduceIte, Option.toList_some, Option.toList_none, List.nil_append, List.cons_append, List.length_cons, List.length_nil, true_and, and_true, Int.cast_ofNat_Int, Int.reduceEq, Int.reduceLT, Int.reduceLE, Nat.zero_le, and_self, or_true, true_or, cdS_240]
  refine ⟨_, _, sp_tcopy m h, ?_⟩
  simp only [vcS0, vcS1, vcS2, vcS3, vcS4, vcS5, vcS6, vc_n0, vc_lk, vc_pop, vc_rc, vc_tsw, vc_fr, vc_ar, vc_tb, mz_nx, List.set_cons_zero, List.set_cons_succ, Nat.reduceAdd, Nat.reduceBEq, Nat.reduceEqDiff, Nat.reduceLeDiff, Nat.reduceLT, Nat.reduceMul, Int.reduceToNat, Bool.false_eq_true, Bool.or_self, Bool.or_true, Bool.true_or, Bool.or_false, reduceIte, Option.toList_some, Option.toList_none, List.nil_append, List.cons_append, List.length_cons, List.length_nil, true_and, and_true, Int.cast_ofNat_Int, Int.reduceEq, Int.reduceLT, Int.reduceLE, Nat.zero_le, and_self, or_true, true_or, cdS_240]
  have := bg_loop u v m 16 0 none rfl
  rw [show clS u (tCp v (u + 1) m) 0 = tCp v (u + 1) m by funext a i; unfold clS; rw [if_neg (by omega)]] at this
  exact this
def ccS (u v : Nat) (m : mz_M) (j : Nat) : mz_M := fun a i => if u + 24 ≤ a ∧ a < u + 24 + j ∧ 1 ≤ i ∧ i < 11 then m (v + 24 + (a - (u + 24))) i else m a i
theorem ccS_s {u v : Nat} (m : mz_M) {j : Nat} (h : v + 40 ≤ u ∨ u + 40 ≤ v) (hj : j < 16) : ccS u v m (j + 1) = crCp (v + 24 + j) (u + 24 + j) (ccS u v m j) := by
  funext a i
  unfold crCp ccS
  by_cases h1 : a = u + 24 + j ∧ 1 ≤ i ∧ i < 11
  · rw [if_pos h1, if_pos (by omega), if_neg (by omega)]
    rw [show a - (u + 24) = j by omega]
  · rw [if_neg h1]
    by_cases h2 : u + 24 ≤ a ∧ a < u + 24 + j ∧ 1 ≤ i ∧ i < 11
    · rw [if_pos h2, if_pos (by omega)]
    · rw [if_neg h2, if_neg (by omega)]
def lgC (v l : Nat) (m : mz_M) : mz_M := mz_cp (mz_cp (mz_cp (mz_cp (mz_up m l 0 (m v 0)) (v + 1) (l + 1) 400) (v + 2) (l + 2) 400) (v + 3) (l + 3) 400) (v + 4) (l + 4) 400
noncomputable def wcS (u v : Nat) (m : mz_M) : mz_M := mz_up (mz_up (lgC (v + 17) (u + 17) (ccS u v (tCp (v + 1) (u + 1) m) 16)) u 3 (lgC (v + 17) (u + 17) (ccS u v (tCp (v + 1) (u + 1) m) 16) v 3)) u 4 (lgC (v + 17) (u + 17) (ccS u v (tCp (v + 1) (u + 1) m) 16) v 4)
set_option maxRecDepth 8000 in
theorem wc_loop {u v : Nat} (m : mz_M) (h : v + 40 ≤ u ∨ u + 40 ≤ v) : ∀ (r j : Nat), j + r = 16 → sx 241 7 [some (mz_r 6 0 u), some (mz_r 6 0 v), some (mz_i j)] [] (ccS u v (tCp (v + 1) (u + 1) m) j) none (wcS u v m) := by
  intro r
  induction r with
  | zero =>
    intro j hj
    obtain rfl : j = 16 := by omega
    unfold wcS
    refine mz_vc_ok 60 (ct := fun i => i == 7) ?_
    simp only [vcS0, vcS1, vcS2, vcS3, vcS4, vcS5, vcS6, vc_n0, vc_lk, vc_pop, vc_rc, vc_tsw, vc_fr, vc_ar, vc_tb, mz_nx, List.set_cons_zero, List.set_cons_succ, Nat.reduceAdd, Nat.reduceBEq, Nat.reduceEqDiff, Nat.reduceLeDiff, Nat.reduceLT, Nat.reduceMul, Int.reduceToNat, Bool.false_eq_true, Bool.or_self, Bool.or_true, Bool.true_or, Bool.or_false, reduceIte, Option.toList_some, Option.toList_none, List.nil_append, List.cons_append, List.length_cons, List.length_nil, true_and, and_true, Int.cast_ofNat_Int, Int.reduceEq, Int.reduceLT, Int.reduceLE, Nat.zero_le, and_self, or_true, true_or, cdS_241]
    refine ⟨_, _, sp_lcopy _ (v := v + 17) (l := u + 17) (by omega), ?_⟩
    simp only [vcS0, vcS1, vcS2, vcS3, vcS4, vcS5, vcS6, vc_n0, vc_lk, vc_pop, vc_rc, vc_tsw, vc_fr, vc_ar, vc_tb, mz_nx, List.set_cons_zero, List.set_cons_succ, Nat.reduceAdd, Nat.reduceBEq, Nat.reduceEqDiff, Nat.reduceLeDiff, Nat.reduceLT, Nat.reduceMul, Int.reduceToNat, Bool.false_eq_true, Bool.or_self, Bool.or_true, Bool.true_or, Bool.or_false, reduceIte, Option.toList_some, Option.toList_none, List.nil_append, List.cons_append, List.length_cons, List.length_nil, true_and, and_true, Int.cast_ofNat_Int, Int.reduceEq, Int.reduceLT, Int.reduceLE, Nat.zero_le, and_self, or_true, true_or, cdS_241]
    rw [up_o (show v ≠ u by omega)]
    rfl
  | succ r ih =>
    intro j hj
    have hk := ih (j + 1) (by omega)
    refine mz_vc_ok 60 (ct := fun i => i == 7) ?_
    simp only [vcS0, vcS1, vcS2, vcS3, vcS4, vcS5, vcS6, vc_n0, vc_lk, vc_pop, vc_rc, vc_tsw, vc_fr, vc_ar, vc_tb, mz_nx, List.set_cons_zero, List.set_cons_succ, Nat.reduceAdd, Nat.reduceBEq, Nat.reduceEqDiff, Nat.reduceLeDiff, Nat.reduceLT, Nat.reduceMul, Int.reduceToNat, Bool.false_eq_true, Bool.or_self, Bool.or_true, Bool.true_or, Bool.or_false, reduceIte, Option.toList_some, Option.toList_none, List.nil_append, List.cons_append, List.length_cons, List.length_nil, true_and, and_true, Int.cast_ofNat_Int, Int.reduceEq, Int.reduceLT, Int.reduceLE, Nat.zero_le, and_self, or_true, true_or, cdS_241]
    rw [if_pos (by omega), Int.toNat_natCast, show u + 16 + (8 + 1 * j) = u + 24 + j by omega, show v + 16 + (8 + 1 * j) = v + 24 + j by omega]
    refine ⟨by omega, by omega, ?_⟩
    refine ⟨_, _, sp_ccopy _ (by omega), ?_⟩
    simp only [vcS0, vcS1, vcS2, vcS3, vcS4, vcS5, vcS6, vc_n0, vc_lk, vc_pop, vc_rc, vc_tsw, vc_fr, vc_ar, vc_tb, mz_nx, List.set_cons_zero, List.set_cons_succ, Nat.reduceAdd, Nat.reduceBEq, Nat.reduceEqDiff, Nat.reduceLeDiff, Nat.reduceLT, Nat.reduceMul, Int.reduceToNat, Bool.false_eq_true, Bool.or_self, Bool.or_true, Bool.true_or, Bool.or_false, reduceIte, Option.toList_some, Option.toList_none, List.nil_append, List.cons_append, List.length_cons, List.length_nil, true_and, and_true, Int.cast_ofNat_Int, Int.reduceEq, Int.reduceLT, Int.reduceLE, Nat.zero_le, and_self, or_true, true_or, cdS_241]
    rw [← ccS_s _ h (by omega)]
    exact ⟨(by unfold mz_w; omega), hk⟩
set_option maxRecDepth 8000 in
theorem sp_wcopy (m : mz_M) {u v : Nat} (h : v + 40 ≤ u ∨ u + 40 ≤ v) : sp 241 [mz_r 6 0 u, mz_r 6 0 v] m none (wcS u v m) := by
  refine mz_cl_vc 60 (fun i => i == 7) [some (mz_r 6 0 u), some (mz_r 6 0 v), none] rfl ?_
  simp only [vcS0, vcS1, vcS2, vcS3, vcS4, vcS5, vcS6, vc_n0, vc_lk, vc_pop, vc_rc, vc_tsw, vc_fr, vc_ar, vc_tb, mz_nx, List.set_cons_zero, List.set_cons_succ, Nat.reduceAdd, Nat.reduceBEq, Nat.reduceEqDiff, Nat.reduceLeDiff, Nat.reduceLT, Nat.reduceMul, Int.reduceToNat, Bool.false_eq_true, Bool.or_self, Bool.or_true, Bool.true_or, Bool.or_false, reduceIte, Option.toList_some, Option.toList_none, List.nil_append, List.cons_append, List.length_cons, List.length_nil, true_and, and_true, Int.cast_ofNat_Int, Int.reduceEq, Int.reduceLT, Int.reduceLE, Nat.zero_le, and_self, or_true, true_or, cdS_241]
  refine ⟨_, _, sp_tcopy m (v := v + 1) (w := u + 1) (by omega), ?_⟩
  simp only [vcS0, vcS1, vcS2, vcS3, vcS4, vcS5, vcS6, vc_n0, vc_lk, vc_pop, vc_rc, vc_tsw, vc_fr, vc_ar, vc_tb, mz_nx, List.set_cons_zero, List.set_cons_succ, Nat.reduceAdd, Nat.reduceBEq, Nat.reduceEqDiff, Nat.reduceLeDiff, Nat.reduceLT, Nat.reduceMul, Int.reduceToNat, Bool.false_eq_true, Bool.or_self, Bool.or_true, Bool.true_or, Bool.or_false, reduceIte, Option.toList_some, Option.toList_none, List.nil_append, List.cons_append, List.length_cons, List.length_nil, true_and, and_true, Int.cast_ofNat_Int, Int.reduceEq, Int.reduceLT, Int.reduceLE, Nat.zero_le, and_self, or_true, true_or, cdS_241]
  have := wc_loop m h 16 0 rfl
  rw [show ccS u v (tCp (v + 1) (u + 1) m) 0 = tCp (v + 1) (u + 1) m by funext a i; unfold ccS; rw [if_neg (by omega)]] at this
  exact this
