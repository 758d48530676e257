def mtD (cn pn f i t k : Nat) : Prop := (k / 12 < pn ∧ k / 2 % 6 < cn ∧ k % 2 < pn) ∧ (k / 12 < f ∨ k / 12 = f ∧ (k / 2 % 6 < i ∨ k / 2 % 6 = i ∧ k % 2 < t))
def mtL (m : mz_M) (q w k : Nat) : Int := m (w + 5) (10 * (m (q + 3) (k / 12)).toNat + (m (q + 2) (k / 2 % 6)).toNat) + m (w + 5) (10 * (m (q + 2) (k / 2 % 6)).toNat + (m (q + 3) (k % 2)).toNat) + 10
def mtT (m : mz_M) (q w cn pn f i t : Nat) : Nat → Int := fun k => if (k / 12 < pn ∧ k / 2 % 6 < cn ∧ k % 2 < pn) ∧ (k / 12 < f ∨ k / 12 = f ∧ (k / 2 % 6 < i ∨ k / 2 % 6 = i ∧ k % 2 < t)) then mtL m q w k else m (q + 5) k
def plO (m : mz_M) (q cn pn : Nat) : Prop := m q 9 = cn ∧ m q 10 = pn ∧ cn ≤ 6 ∧ pn ≤ 2 ∧ (∀ i, i < cn → 0 ≤ m (q + 2) i ∧ m (q + 2) i < 10) ∧ ∀ f, f < pn → 0 ≤ m (q + 3) f ∧ m (q + 3) f < 10
theorem mt_14 (m : mz_M) {q w cn pn f i : Nat} (h : plO m q cn pn) (hW : fwO (m (w + 5))) (hq : w + 6 < q) (hf : f < pn) (hi : i < cn) (m' : mz_M) (hc : ∀ x y z, sx 133 8 [some (mz_r 3 0 q), some (mz_r 4 0 w), some (mz_i f), some (mz_i (i + 1)), x, y, z] [] (rowS m (q + 5) 24 (mtT m q w cn pn f (i + 1) 0)) none m') : ∀ (r t : Nat) (x y : Option mz_V), t + r = pn → sx 133 14 [some (mz_r 3 0 q), some (mz_r 4 0 w), some (mz_i f), some (mz_i i), some (mz_i t), x, y] [] (rowS m (q + 5) 24 (mtT m q w cn pn f i t)) none m' := by
  obtain ⟨h9, h10, hcn, hpn, hC, hP⟩ := h
  intro r
  induction r with
  | zero =>
    intro t x y ht
    obtain rfl : t = pn := by omega
    refine mz_vc_ok 60 (ct := fun i => i == 2 || i == 8 || i == 14) ?_
    simp only [vcS0, vcS1, vcS2, vcS3, vcS4, vcS5, vcS6, vc_n0, vc_lk, vc_pop, vc_rc, vc_tsw, vc_fr, vc_ar, vc_tb, mz_nx, List.set_cons_zero, List.set_cons_succ, Nat.reduceAdd, Nat.reduceBEq, Nat.reduceEqDiff, Nat.reduceLeDiff, Nat.reduceLT, Nat.reduceMul, Int.reduceToNat, Bool.false_eq_true, Bool.or_self, Bool.or_true, Bool.true_or, Bool.or_false, reduceIte, Option.toList_some, Option.toList_none, List.nil_append, List.cons_append, List.length_cons, List.length_nil, true_and, and_true, Int.cast_ofNat_Int, Int.reduceEq, Int.reduceLT, Int.reduceLE, Nat.zero_le, and_self, or_true, true_or, cdS_133]
    rw [rowS_o (by omega), if_neg (by omega)]
    refine ⟨(by unfold mz_w; omega), ?_⟩
    have e : mtT m q w cn t f i t = mtT m q w cn t f (i + 1) 0 := by
      funext k
      unfold mtT
      by_cases h1 : (k / 12 < t ∧ k / 2 % 6 < cn ∧ k % 2 < t) ∧ (k / 12 < f ∨ k / 12 = f ∧ (k / 2 % 6 < i ∨ k / 2 % 6 = i ∧ k % 2 < t))
      · rw [if_pos h1, if_pos (by omega)]
      · rw [if_neg h1, if_neg (by omega)]
    rw [e]
    exact hc _ _ _
  | succ r ih =>
    intro t x y ht
    have hk := fun x y => ih (t + 1) x y (by omega)
    obtain ⟨a, ha⟩ := nat_i (hP f hf).1
    obtain ⟨b, hb⟩ := nat_i (hC i hi).1
    obtain ⟨c, hcc⟩ := nat_i (hP t (by omega)).1
    have ha2 := hP f hf
    have hb2 := hC i hi
    have hc2 := hP t (by omega)
    have hw1 := hW (10 * a + b) (by omega)
    have hw2 := hW (10 * b + c) (by omega)
    refine mz_vc_ok 60 (ct := fun i => i == 2 || i == 8 || i == 14) ?_
    simp only [vcS0, vcS1, vcS2, vcS3, vcS4, vcS5, vcS6, vc_n0, vc_lk, vc_pop, vc_rc, vc_tsw, vc_fr, vc_ar, vc_tb, mz_nx, List.set_cons_zero, List.set_cons_succ, Nat.reduceAdd, Nat.reduceBEq, Nat.reduceEqDiff, Nat.reduceLeDiff, Nat.reduceLT, Nat.reduceMul, Int.reduceToNat, Bool.false_eq_true, Bool.or_self, Bool.or_true, Bool.true_or, Bool.or_false, reduceIte, Option.toList_some, Option.toList_none, List.nil_append, List.cons_append, List.length_cons, List.length_nil, true_and, and_true, Int.cast_ofNat_Int, Int.reduceEq, Int.reduceLT, Int.reduceLE, Nat.zero_le, and_self, or_true, true_or, cdS_133]
    rw [rowS_o (by omega), if_pos (by omega)]
    refine ⟨_, _, sp_atN (n := 6) (o := q + 2) _ (show i < 6 by omega), ?_⟩
    simp only [vcS0, vcS1, vcS2, vcS3, vcS4, vcS5, vcS6, vc_n0, vc_lk, vc_pop, vc_rc, vc_tsw, vc_fr, vc_ar, vc_tb, mz_nx, List.set_cons_zero, List.set_cons_succ, Nat.reduceAdd, Nat.reduceBEq, Nat.reduceEqDiff, Nat.reduceLeDiff, Nat.reduceLT, Nat.reduceMul, Int.reduceToNat, Bool.false_eq_true, Bool.or_self, Bool.or_true, Bool.true_or, Bool.or_false, reduceIte, Option.toList_some, Option.toList_none, List.nil_append, List.cons_append, List.length_cons, List.length_nil, true_and, and_true, Int.cast_ofNat_Int, Int.reduceEq, Int.reduceLT, Int.reduceLE, Nat.zero_le, and_self, or_true, true_or, cdS_133]
    refine ⟨_, _, sp_atN (n := 2) (o := q + 3) _ (show f < 2 by omega), ?_⟩
    simp only [vcS0, vcS1, vcS2, vcS3, vcS4, vcS5, vcS6, vc_n0, vc_lk, vc_pop, vc_rc, vc_tsw, vc_fr, vc_ar, vc_tb, mz_nx, List.set_cons_zero, List.set_cons_succ, Nat.reduceAdd, Nat.reduceBEq, Nat.reduceEqDiff, Nat.reduceLeDiff, Nat.reduceLT, Nat.reduceMul, Int.reduceToNat, Bool.false_eq_true, Bool.or_self, Bool.or_true, Bool.true_or, Bool.or_false, reduceIte, Option.toList_some, Option.toList_none, List.nil_append, List.cons_append, List.length_cons, List.length_nil, true_and, and_true, Int.cast_ofNat_Int, Int.reduceEq, Int.reduceLT, Int.reduceLE, Nat.zero_le, and_self, or_true, true_or, cdS_133]
    rw [rowS_o (by omega), rowS_o (by omega), ha, hb]
    refine ⟨_, _, sp_way _ (show a < 10 by omega) (show b < 10 by omega), ?_⟩
    simp only [vcS0, vcS1, vcS2, vcS3, vcS4, vcS5, vcS6, vc_n0, vc_lk, vc_pop, vc_rc, vc_tsw, vc_fr, vc_ar, vc_tb, mz_nx, List.set_cons_zero, List.set_cons_succ, Nat.reduceAdd, Nat.reduceBEq, Nat.reduceEqDiff, Nat.reduceLeDiff, Nat.reduceLT, Nat.reduceMul, Int.reduceToNat, Bool.false_eq_true, Bool.or_self, Bool.or_true, Bool.true_or, Bool.or_false, reduceIte, Option.toList_some, Option.toList_none, List.nil_append, List.cons_append, List.length_cons, List.length_nil, true_and, and_true, Int.cast_ofNat_Int, Int.reduceEq, Int.reduceLT, Int.reduceLE, Nat.zero_le, and_self, or_true, true_or, cdS_133]
    refine ⟨_, _, sp_atN (n := 2) (o := q + 3) _ (show t < 2 by omega), ?_⟩
    simp only [vcS0, vcS1, vcS2, vcS3, vcS4, vcS5, vcS6, vc_n0, vc_lk, vc_pop, vc_rc, vc_tsw, vc_fr, vc_ar, vc_tb, mz_nx, List.set_cons_zero, List.set_cons_succ, Nat.reduceAdd, Nat.reduceBEq, Nat.reduceEqDiff, Nat.reduceLeDiff, Nat.reduceLT, Nat.reduceMul, Int.reduceToNat, Bool.false_eq_true, Bool.or_self, Bool.or_true, Bool.true_or, Bool.or_false, reduceIte, Option.toList_some, Option.toList_none, List.nil_append, List.cons_append, List.length_cons, List.length_nil, true_and, and_true, Int.cast_ofNat_Int, Int.reduceEq, Int.reduceLT, Int.reduceLE, Nat.zero_le, and_self, or_true, true_or, cdS_133]
    rw [rowS_o (by omega), rowS_o (by omega), hcc]
    refine ⟨_, _, sp_way _ (show b < 10 by omega) (show c < 10 by omega), ?_⟩
    simp only [vcS0, vcS1, vcS2, vcS3, vcS4, vcS5, vcS6, vc_n0, vc_lk, vc_pop, vc_rc, vc_tsw, vc_fr, vc_ar, vc_tb, mz_nx, List.set_cons_zero, List.set_cons_succ, Nat.reduceAdd, Nat.reduceBEq, Nat.reduceEqDiff, Nat.reduceLeDiff, Nat.reduceLT, Nat.reduceMul, Int.reduceToNat, Bool.false_eq_true, Bool.or_self, Bool.or_true, Bool.true_or, Bool.or_false, reduceIte, Option.toList_some, Option.toList_none, List.nil_append, List.cons_append, List.length_cons, List.length_nil, true_and, and_true, Int.cast_ofNat_Int, Int.reduceEq, Int.reduceLT, Int.reduceLE, Nat.zero_le, and_self, or_true, true_or, cdS_133]
    rw [rowS_o (by omega)]
    refine ⟨(by unfold mz_w; omega), ?_⟩
    refine ⟨_, _, sp_tripIndex _ (by omega) (by omega) (by omega), ?_⟩
    simp only [vcS0, vcS1, vcS2, vcS3, vcS4, vcS5, vcS6, vc_n0, vc_lk, vc_pop, vc_rc, vc_tsw, vc_fr, vc_ar, vc_tb, mz_nx, List.set_cons_zero, List.set_cons_succ, Nat.reduceAdd, Nat.reduceBEq, Nat.reduceEqDiff, Nat.reduceLeDiff, Nat.reduceLT, Nat.reduceMul, Int.reduceToNat, Bool.false_eq_true, Bool.or_self, Bool.or_true, Bool.true_or, Bool.or_false, reduceIte, Option.toList_some, Option.toList_none, List.nil_append, List.cons_append, List.length_cons, List.length_nil, true_and, and_true, Int.cast_ofNat_Int, Int.reduceEq, Int.reduceLT, Int.reduceLE, Nat.zero_le, and_self, or_true, true_or, cdS_133]
    refine ⟨(by unfold mz_w; omega), ?_⟩
    refine ⟨_, _, sp_putN (n := 24) (o := q + 5) _ _ (show (f * 6 + i) * 2 + t < 24 by omega), ?_⟩
    simp only [vcS0, vcS1, vcS2, vcS3, vcS4, vcS5, vcS6, vc_n0, vc_lk, vc_pop, vc_rc, vc_tsw, vc_fr, vc_ar, vc_tb, mz_nx, List.set_cons_zero, List.set_cons_succ, Nat.reduceAdd, Nat.reduceBEq, Nat.reduceEqDiff, Nat.reduceLeDiff, Nat.reduceLT, Nat.reduceMul, Int.reduceToNat, Bool.false_eq_true, Bool.or_self, Bool.or_true, Bool.true_or, Bool.or_false, reduceIte, Option.toList_some, Option.toList_none, List.nil_append, List.cons_append, List.length_cons, List.length_nil, true_and, and_true, Int.cast_ofNat_Int, Int.reduceEq, Int.reduceLT, Int.reduceLE, Nat.zero_le, and_self, or_true, true_or, cdS_133]
    refine ⟨(by unfold mz_w; omega), ?_⟩
    rw [rowS_up (by omega)]
    have e : mtT m q w cn pn f i (t + 1) = fun k => if k = (f * 6 + i) * 2 + t then m (w + 5) (10 * a + b) + m (w + 5) (10 * b + c) + 10 else mtT m q w cn pn f i t k := by
      funext k
      by_cases hkk : k = (f * 6 + i) * 2 + t
      · rw [if_pos hkk]
        have k1 : k / 12 = f := by omega
        have k2 : k / 2 % 6 = i := by omega
        have k3 : k % 2 = t := by omega
        unfold mtT mtL
        rw [k1, k2, k3, if_pos (by omega), ha, hb, hcc, Int.toNat_natCast, Int.toNat_natCast, Int.toNat_natCast]
      · rw [if_neg hkk]
        unfold mtT
        by_cases h1 : (k / 12 < pn ∧ k / 2 % 6 < cn ∧ k % 2 < pn) ∧ (k / 12 < f ∨ k / 12 = f ∧ (k / 2 % 6 < i ∨ k / 2 % 6 = i ∧ k % 2 < t))
        · rw [if_pos (by omega), if_pos h1]
        · rw [if_neg (by omega), if_neg h1]
    rw [e] at hk
    exact hk _ _
theorem mt_8 (m : mz_M) {q w cn pn f : Nat} (h : plO m q cn pn) (hW : fwO (m (w + 5))) (hq : w + 6 < q) (hf : f < pn) (m' : mz_M) (hc : ∀ x y z u, sx 133 2 [some (mz_r 3 0 q), some (mz_r 4 0 w), some (mz_i (f + 1)), x, y, z, u] [] (rowS m (q + 5) 24 (mtT m q w cn pn (f + 1) 0 0)) none m') : ∀ (r i : Nat) (x y z : Option mz_V), i + r = cn → sx 133 8 [some (mz_r 3 0 q), some (mz_r 4 0 w), some (mz_i f), some (mz_i i), x, y, z] [] (rowS m (q + 5) 24 (mtT m q w cn pn f i 0)) none m' := by
  have h' := h
  obtain ⟨h9, h10, hcn, hpn, hC, hP⟩ := h
  intro r
  induction r with
  | zero =>
    intro i x y z hi
    obtain rfl : i = cn := by omega
    refine mz_vc_ok 60 (ct := fun i => i == 2 || i == 8 || i == 14) ?_
    simp only [vcS0, vcS1, vcS2, vcS3, vcS4, vcS5, vcS6, vc_n0, vc_lk, vc_pop, vc_rc, vc_tsw, vc_fr, vc_ar, vc_tb, mz_nx, List.set_cons_zero, List.set_cons_succ, Nat.reduceAdd, Nat.reduceBEq, Nat.reduceEqDiff, Nat.reduceLeDiff, Nat.reduceLT, Nat.reduceMul, Int.reduceToNat, Bool.false_eq_true, Bool.or_self, Bool.or_true, Bool.true_or, Bool.or_false, reduceIte, Option.toList_some, Option.toList_none, List.nil_append, List.cons_append, List.length_cons, List.length_nil, true_and, and_true, Int.cast_ofNat_Int, Int.reduceEq, Int.reduceLT, Int.reduceLE, Nat.zero_le, and_self, or_true, true_or, cdS_133]
    rw [rowS_o (by omega), if_neg (by omega)]
    refine ⟨(by unfold mz_w; omega), ?_⟩
    have e : mtT m q w i pn f i 0 = mtT m q w i pn (f + 1) 0 0 := by
      funext k
      unfold mtT
      by_cases h1 : (k / 12 < pn ∧ k / 2 % 6 < i ∧ k % 2 < pn) ∧ (k / 12 < f ∨ k / 12 = f ∧ (k / 2 % 6 < i ∨ k / 2 % 6 = i ∧ k % 2 < 0))
      · rw [if_pos h1, if_pos (by omega)]
      · rw [if_neg h1, if_neg (by omega)]
    rw [e]
    exact hc _ _ _ _
  | succ r ih =>
    intro i x y z hi
    have hk := fun x y z => ih (i + 1) x y z (by omega)
    refine mz_vc_ok 60 (ct := fun i => i == 2 || i == 8 || i == 14) ?_
    simp only [vcS0, vcS1, vcS2, vcS3, vcS4, vcS5, vcS6, vc_n0, vc_lk, vc_pop, vc_rc, vc_tsw, vc_fr, vc_ar, vc_tb, mz_nx, List.set_cons_zero, List.set_cons_succ, Nat.reduceAdd, Nat.reduceBEq, Nat.reduceEqDiff, Nat.reduceLeDiff, Nat.reduceLT, Nat.reduceMul, Int.reduceToNat, Bool.false_eq_true, Bool.or_self, Bool.or_true, Bool.true_or, Bool.or_false, reduceIte, Option.toList_some, Option.toList_none, List.nil_append, List.cons_append, List.length_cons, List.length_nil, true_and, and_true, Int.cast_ofNat_Int, Int.reduceEq, Int.reduceLT, Int.reduceLE, Nat.zero_le, and_self, or_true, true_or, cdS_133]
    rw [rowS_o (by omega), if_pos (by omega)]
    exact mt_14 m h' hW hq hf (by omega) m' hk pn 0 _ _ (by omega)
theorem mt_2 (m : mz_M) {q w cn pn : Nat} (h : plO m q cn pn) (hW : fwO (m (w + 5))) (hq : w + 6 < q) : ∀ (r f : Nat) (x y z u : Option mz_V), f + r = pn → sx 133 2 [some (mz_r 3 0 q), some (mz_r 4 0 w), some (mz_i f), x, y, z, u] [] (rowS m (q + 5) 24 (mtT m q w cn pn f 0 0)) none (rowS m (q + 5) 24 (mtT m q w cn pn pn 0 0)) := by
  have h' := h
  obtain ⟨h9, h10, hcn, hpn, hC, hP⟩ := h
  intro r
  induction r with
  | zero =>
    intro f x y z u hf
    obtain rfl : f = pn := by omega
    refine mz_vc_ok 60 (ct := fun i => i == 2 || i == 8 || i == 14) ?_
    simp only [vcS0, vcS1, vcS2, vcS3, vcS4, vcS5, vcS6, vc_n0, vc_lk, vc_pop, vc_rc, vc_tsw, vc_fr, vc_ar, vc_tb, mz_nx, List.set_cons_zero, List.set_cons_succ, Nat.reduceAdd, Nat.reduceBEq, Nat.reduceEqDiff, Nat.reduceLeDiff, Nat.reduceLT, Nat.reduceMul, Int.reduceToNat, Bool.false_eq_true, Bool.or_self, Bool.or_true, Bool.true_or, Bool.or_false, reduceIte, Option.toList_some, Option.toList_none, List.nil_append, List.cons_append, List.length_cons, List.length_nil, true_and, and_true, Int.cast_ofNat_Int, Int.reduceEq, Int.reduceLT, Int.reduceLE, Nat.zero_le, and_self, or_true, true_or, cdS_133]
    rw [rowS_o (by omega), if_neg (by omega)]
    trivial
  | succ r ih =>
    intro f x y z u hf
    have hk := fun x y z u => ih (f + 1) x y z u (by omega)
    refine mz_vc_ok 60 (ct := fun i => i == 2 || i == 8 || i == 14) ?_
    simp only [vcS0, vcS1, vcS2, vcS3, vcS4, vcS5, vcS6, vc_n0, vc_lk, vc_pop, vc_rc, vc_tsw, vc_fr, vc_ar, vc_tb, mz_nx, List.set_cons_zero, List.set_cons_succ, Nat.reduceAdd, Nat.reduceBEq, Nat.reduceEqDiff, Nat.reduceLeDiff, Nat.reduceLT, Nat.reduceMul, Int.reduceToNat, Bool.false_eq_true, Bool.or_self, Bool.or_true, Bool.true_or, Bool.or_false, reduceIte, Option.toList_some, Option.toList_none, List.nil_append, List.cons_append, List.length_cons, List.length_nil, true_and, and_true, Int.cast_ofNat_Int, Int.reduceEq, Int.reduceLT, Int.reduceLE, Nat.zero_le, and_self, or_true, true_or, cdS_133]
    rw [rowS_o (by omega), if_pos (by omega)]
    exact mt_8 m h' hW hq (by omega) _ hk cn 0 _ _ _ (by omega)
theorem sp_measureTrips (m : mz_M) {q w cn pn : Nat} (h : plO m q cn pn) (hW : fwO (m (w + 5))) (hq : w + 6 < q) : sp 133 [mz_r 3 0 q, mz_r 4 0 w] m none (rowS m (q + 5) 24 (mtT m q w cn pn pn 0 0)) := by
  refine mz_cl_vc 60 (fun i => i == 2) [some (mz_r 3 0 q), some (mz_r 4 0 w), none, none, none, none, none] rfl ?_
  simp only [vcS0, vcS1, vcS2, vcS3, vcS4, vcS5, vcS6, vc_n0, vc_lk, vc_pop, vc_rc, vc_tsw, vc_fr, vc_ar, vc_tb, mz_nx, List.set_cons_zero, List.set_cons_succ, Nat.reduceAdd, Nat.reduceBEq, Nat.reduceEqDiff, Nat.reduceLeDiff, Nat.reduceLT, Nat.reduceMul, Int.reduceToNat, Bool.false_eq_true, Bool.or_self, Bool.or_true, Bool.true_or, Bool.or_false, reduceIte, Option.toList_some, Option.toList_none, List.nil_append, List.cons_append, List.length_cons, List.length_nil, true_and, and_true, Int.cast_ofNat_Int, Int.reduceEq, Int.reduceLT, Int.reduceLE, Nat.zero_le, and_self, or_true, true_or, cdS_133]
  have := mt_2 m h hW hq pn 0 none none none none (by omega)
  rw [show mtT m q w cn pn 0 0 0 = m (q + 5) by funext k; unfold mtT; rw [if_neg (by omega)], rowS_self] at this
  exact this
