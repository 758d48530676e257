/-! The model's reading: numbers and statements, beside the class's. -/
def stO (s : rS) (p b : Nat) (e a : Int) : Prop := e = eS s ∧ (e = 0 → p = s.1 ∧ (b : Int) = nS s) ∧ (e ≠ 0 → a = aS s)
/-- as before, but the number's place need not be known -/
def stP (s : rS) (p : Nat) (e a : Int) : Prop := e = eS s ∧ (e = 0 → p = s.1) ∧ (e ≠ 0 → a = aS s)
theorem stO_P {s : rS} {p b : Nat} {e a : Int} (h : stO s p b e a) : stP s p e a := ⟨h.1, fun q => (h.2.1 q).1, h.2.2⟩
section QN
variable {m : mz_M} {B : Nat → Int} {L : Nat}
theorem nq_loop (b : Nat) (e a : Int) (R : Nat → Int) (lo hi : Int) (res : Option mz_V) (m' : mz_M) (h : qB m B L) : ∀ (k p : Nat) (v : Int), k = L - p → 0 ≤ v → v ≤ 1000000 → (∀ (q : Nat) (y : Int), (q, y) = nv B k p v → sx 169 44 [some (mz_r 9 0 153), some (mz_i lo), some (mz_i hi), some (mz_i y)] [] (qM m q b e a R) res m') → sx 169 20 [some (mz_r 9 0 153), some (mz_i lo), some (mz_i hi), some (mz_i v)] [] (qM m p b e a R) res m' := by
  have hL := h.2.1
  intro k
  induction k with
  | zero =>
    intro p v hp h1 h2 hk
    refine mz_vc_ok 40 (ct := fun i => i == 20 || i == 44) ?_
    simp only [vcS0, vcS1, vcS2, vcS3, vcS4, vcS5, vcS6, vc_n0, vc_lk, vc_pop, vc_rc, vc_tsw, vc_fr, vc_ar, vc_tb, mz_nx, List.set_cons_zero, List.set_cons_succ, Nat.reduceAdd, Nat.reduceBEq, Nat.reduceEqDiff, Nat.reduceLeDiff, Nat.reduceLT, Nat.reduceMul, Int.reduceToNat, Bool.false_eq_true, Bool.or_self, Bool.or_true, Bool.true_or, Bool.or_false, reduceIte, Option.toList_some, Option.toList_none, List.nil_append, List.cons_append, List.length_cons, List.length_nil, true_and, and_true, Int.cast_ofNat_Int, Int.reduceEq, Int.reduceLT, Int.reduceLE, Nat.zero_le, and_self, or_true, true_or, cdS_169]
    refine ⟨_, _, sp_here p b e a R h, ?_⟩
    simp only [vcS0, vcS1, vcS2, vcS3, vcS4, vcS5, vcS6, vc_n0, vc_lk, vc_pop, vc_rc, vc_tsw, vc_fr, vc_ar, vc_tb, mz_nx, List.set_cons_zero, List.set_cons_succ, Nat.reduceAdd, Nat.reduceBEq, Nat.reduceEqDiff, Nat.reduceLeDiff, Nat.reduceLT, Nat.reduceMul, Int.reduceToNat, Bool.false_eq_true, Bool.or_self, Bool.or_true, Bool.true_or, Bool.or_false, reduceIte, Option.toList_some, Option.toList_none, List.nil_append, List.cons_append, List.length_cons, List.length_nil, true_and, and_true, Int.cast_ofNat_Int, Int.reduceEq, Int.reduceLT, Int.reduceLE, Nat.zero_le, and_self, or_true, true_or, cdS_169]
    refine ⟨_, _, sp_in _ (nb B L p) 48 57, ?_⟩
    rw [show nb B L p = -1 by unfold nb; rw [if_neg (by omega)], if_neg (by omega)]
    simp only [vcS0, vcS1, vcS2, vcS3, vcS4, vcS5, vcS6, vc_n0, vc_lk, vc_pop, vc_rc, vc_tsw, vc_fr, vc_ar, vc_tb, mz_nx, List.set_cons_zero, List.set_cons_succ, Nat.reduceAdd, Nat.reduceBEq, Nat.reduceEqDiff, Nat.reduceLeDiff, Nat.reduceLT, Nat.reduceMul, Int.reduceToNat, Bool.false_eq_true, Bool.or_self, Bool.or_true, Bool.true_or, Bool.or_false, reduceIte, Option.toList_some, Option.toList_none, List.nil_append, List.cons_append, List.length_cons, List.length_nil, true_and, and_true, Int.cast_ofNat_Int, Int.reduceEq, Int.reduceLT, Int.reduceLE, Nat.zero_le, and_self, or_true, true_or, cdS_169]
    exact hk p v rfl
  | succ k ih =>
    intro p v hp h1 h2 hk
    have hb := h.2.2 p (by omega)
    have e0 : nb B L p = B p := by unfold nb; rw [if_pos (by omega)]
    refine mz_vc_ok 60 (ct := fun i => i == 20 || i == 44) ?_
    simp only [vcS0, vcS1, vcS2, vcS3, vcS4, vcS5, vcS6, vc_n0, vc_lk, vc_pop, vc_rc, vc_tsw, vc_fr, vc_ar, vc_tb, mz_nx, List.set_cons_zero, List.set_cons_succ, Nat.reduceAdd, Nat.reduceBEq, Nat.reduceEqDiff, Nat.reduceLeDiff, Nat.reduceLT, Nat.reduceMul, Int.reduceToNat, Bool.false_eq_true, Bool.or_self, Bool.or_true, Bool.true_or, Bool.or_false, reduceIte, Option.toList_some, Option.toList_none, List.nil_append, List.cons_append, List.length_cons, List.length_nil, true_and, and_true, Int.cast_ofNat_Int, Int.reduceEq, Int.reduceLT, Int.reduceLE, Nat.zero_le, and_self, or_true, true_or, cdS_169]
    refine ⟨_, _, sp_here p b e a R h, ?_⟩
    simp only [vcS0, vcS1, vcS2, vcS3, vcS4, vcS5, vcS6, vc_n0, vc_lk, vc_pop, vc_rc, vc_tsw, vc_fr, vc_ar, vc_tb, mz_nx, List.set_cons_zero, List.set_cons_succ, Nat.reduceAdd, Nat.reduceBEq, Nat.reduceEqDiff, Nat.reduceLeDiff, Nat.reduceLT, Nat.reduceMul, Int.reduceToNat, Bool.false_eq_true, Bool.or_self, Bool.or_true, Bool.true_or, Bool.or_false, reduceIte, Option.toList_some, Option.toList_none, List.nil_append, List.cons_append, List.length_cons, List.length_nil, true_and, and_true, Int.cast_ofNat_Int, Int.reduceEq, Int.reduceLT, Int.reduceLE, Nat.zero_le, and_self, or_true, true_or, cdS_169]
    refine ⟨_, _, sp_in _ (nb B L p) 48 57, ?_⟩
    rw [e0]
    by_cases hd : 48 ≤ B p ∧ B p ≤ 57
    · rw [if_pos hd]
      simp only [vcS0, vcS1, vcS2, vcS3, vcS4, vcS5, vcS6, vc_n0, vc_lk, vc_pop, vc_rc, vc_tsw, vc_fr, vc_ar, vc_tb, mz_nx, List.set_cons_zero, List.set_cons_succ, Nat.reduceAdd, Nat.reduceBEq, Nat.reduceEqDiff, Nat.reduceLeDiff, Nat.reduceLT, Nat.reduceMul, Int.reduceToNat, Bool.false_eq_true, Bool.or_self, Bool.or_true, Bool.true_or, Bool.or_false, reduceIte, Option.toList_some, Option.toList_none, List.nil_append, List.cons_append, List.length_cons, List.length_nil, true_and, and_true, Int.cast_ofNat_Int, Int.reduceEq, Int.reduceLT, Int.reduceLE, Nat.zero_le, and_self, or_true, true_or, cdS_169]
      refine ⟨(by unfold mz_w; omega), _, _, sp_here p b e a R h, ?_⟩
      simp only [vcS0, vcS1, vcS2, vcS3, vcS4, vcS5, vcS6, vc_n0, vc_lk, vc_pop, vc_rc, vc_tsw, vc_fr, vc_ar, vc_tb, mz_nx, List.set_cons_zero, List.set_cons_succ, Nat.reduceAdd, Nat.reduceBEq, Nat.reduceEqDiff, Nat.reduceLeDiff, Nat.reduceLT, Nat.reduceMul, Int.reduceToNat, Bool.false_eq_true, Bool.or_self, Bool.or_true, Bool.true_or, Bool.or_false, reduceIte, Option.toList_some, Option.toList_none, List.nil_append, List.cons_append, List.length_cons, List.length_nil, true_and, and_true, Int.cast_ofNat_Int, Int.reduceEq, Int.reduceLT, Int.reduceLE, Nat.zero_le, and_self, or_true, true_or, cdS_169]
      rw [e0, qM_7, show ((p : Int) + 1) = ((p + 1 : Nat) : Int) by omega, qM_u7]
      have hk2 : ∀ (q : Nat) (y : Int), (q, y) = nv B k (p + 1) (min 1000000 (v * 10 + B p - 48)) → sx 169 44 [some (mz_r 9 0 153), some (mz_i lo), some (mz_i hi), some (mz_i y)] [] (qM m q b e a R) res m' := fun q y hq => hk q y (by rw [nv, if_pos hd]; exact hq)
      have := ih (p + 1) (min 1000000 (v * 10 + B p - 48)) (by omega) (by omega) (by omega) hk2
      rw [show 10 * v + B p - 48 = v * 10 + B p - 48 by omega]
      exact ⟨(by unfold mz_w; omega), (by unfold mz_w; omega), (by unfold mz_w; omega), this⟩
    · rw [if_neg hd]
      simp only [vcS0, vcS1, vcS2, vcS3, vcS4, vcS5, vcS6, vc_n0, vc_lk, vc_pop, vc_rc, vc_tsw, vc_fr, vc_ar, vc_tb, mz_nx, List.set_cons_zero, List.set_cons_succ, Nat.reduceAdd, Nat.reduceBEq, Nat.reduceEqDiff, Nat.reduceLeDiff, Nat.reduceLT, Nat.reduceMul, Int.reduceToNat, Bool.false_eq_true, Bool.or_self, Bool.or_true, Bool.true_or, Bool.or_false, reduceIte, Option.toList_some, Option.toList_none, List.nil_append, List.cons_append, List.length_cons, List.length_nil, true_and, and_true, Int.cast_ofNat_Int, Int.reduceEq, Int.reduceLT, Int.reduceLE, Nat.zero_le, and_self, or_true, true_or, cdS_169]
      exact hk p v (by rw [nv, if_neg hd])
theorem sp_number {s : rS} {p b : Nat} {e a : Int} (R : Nat → Int) (lo hi : Int) (h : qB m B L) (hs : stP s p e a) (hp : s.1 ≤ L) : ∃ (p' b' : Nat) (e' a' : Int), sp 169 [mz_r 9 0 153, mz_i lo, mz_i hi] (qM m p b e a R) (some (mz_i (if eS (nmS B L lo hi s).2 = 0 then (nmS B L lo hi s).1 else lo))) (qM m p' b' e' a' R) ∧ stO (nmS B L lo hi s).2 p' b' e' a' := by
  obtain ⟨sp', n, w, se, sa⟩ := s
  obtain ⟨h1, h2, h3⟩ := hs
  have h1 : e = se := h1
  subst h1
  by_cases he : e = 0
  · have h2 : p = sp' := h2 he
    subst h2
    subst he
    have hsk := sk_le (B := B) hp
    simp only at hsk
    by_cases hd : 48 ≤ nb B L (sk B L p) ∧ nb B L (sk B L p) ≤ 57
    · have hnv := nv_ok B (L - sk B L p) (sk B L p) 0 (by omega) (by omega)
      obtain ⟨q2, y2, hQ⟩ : ∃ q y, nv B (L - sk B L p) (sk B L p) 0 = (q, y) := ⟨_, _, rfl⟩
      rw [hQ] at hnv
      simp only at hnv
      have hnd : ¬ ((0 : Int) ≠ 0 ∨ ¬ (48 ≤ nb B L (sk B L p) ∧ nb B L (sk B L p) ≤ 57)) := by omega
      by_cases hr : lo ≤ y2 ∧ y2 ≤ hi
      · have eN : nmS B L lo hi (p, n, w, 0, sa) = (y2, q2, (sk B L p : Int), w, 0, sa) := by
          unfold nmS
          simp only [eS, nS, aS, wS']
          unfold rnm
          rw [if_neg hnd, hQ]
          simp only [if_pos hr]
        rw [eN]
        simp only [eS, if_true]
        refine ⟨q2, sk B L p, 0, a, ?_, rfl, fun _ => ⟨rfl, rfl⟩, fun q => absurd rfl q⟩
        refine mz_cl_vc 60 (fun i => i == 20) [some (mz_r 9 0 153), some (mz_i lo), some (mz_i hi), none] rfl ?_
        simp only [vcS0, vcS1, vcS2, vcS3, vcS4, vcS5, vcS6, vc_n0, vc_lk, vc_pop, vc_rc, vc_tsw, vc_fr, vc_ar, vc_tb, mz_nx, List.set_cons_zero, List.set_cons_succ, Nat.reduceAdd, Nat.reduceBEq, Nat.reduceEqDiff, Nat.reduceLeDiff, Nat.reduceLT, Nat.reduceMul, Int.reduceToNat, Bool.false_eq_true, Bool.or_self, Bool.or_true, Bool.true_or, Bool.or_false, reduceIte, Option.toList_some, Option.toList_none, List.nil_append, List.cons_append, List.length_cons, List.length_nil, true_and, and_true, Int.cast_ofNat_Int, Int.reduceEq, Int.reduceLT, Int.reduceLE, Nat.zero_le, and_self, or_true, true_or, cdS_169]
        rw [qM_9, if_pos rfl]
        refine ⟨_, _, sp_next p b 0 a R h, ?_⟩
        simp only [vcS0, vcS1, vcS2, vcS3, vcS4, vcS5, vcS6, vc_n0, vc_lk, vc_pop, vc_rc, vc_tsw, vc_fr, vc_ar, vc_tb, mz_nx, List.set_cons_zero, List.set_cons_succ, Nat.reduceAdd, Nat.reduceBEq, Nat.reduceEqDiff, Nat.reduceLeDiff, Nat.reduceLT, Nat.reduceMul, Int.reduceToNat, Bool.false_eq_true, Bool.or_self, Bool.or_true, Bool.true_or, Bool.or_false, reduceIte, Option.toList_some, Option.toList_none, List.nil_append, List.cons_append, List.length_cons, List.length_nil, true_and, and_true, Int.cast_ofNat_Int, Int.reduceEq, Int.reduceLT, Int.reduceLE, Nat.zero_le, and_self, or_true, true_or, cdS_169]
        refine ⟨_, _, sp_in _ _ 48 57, ?_⟩
        rw [if_pos hd]
        simp only [vcS0, vcS1, vcS2, vcS3, vcS4, vcS5, vcS6, vc_n0, vc_lk, vc_pop, vc_rc, vc_tsw, vc_fr, vc_ar, vc_tb, mz_nx, List.set_cons_zero, List.set_cons_succ, Nat.reduceAdd, Nat.reduceBEq, Nat.reduceEqDiff, Nat.reduceLeDiff, Nat.reduceLT, Nat.reduceMul, Int.reduceToNat, Bool.false_eq_true, Bool.or_self, Bool.or_true, Bool.true_or, Bool.or_false, reduceIte, Option.toList_some, Option.toList_none, List.nil_append, List.cons_append, List.length_cons, List.length_nil, true_and, and_true, Int.cast_ofNat_Int, Int.reduceEq, Int.reduceLT, Int.reduceLE, Nat.zero_le, and_self, or_true, true_or, cdS_169]
        refine nq_loop (sk B L p) 0 a R lo hi _ _ h (L - sk B L p) (sk B L p) 0 rfl (by omega) (by omega) fun q' y' hq' => ?_
        rw [hQ] at hq'
        obtain ⟨rfl, rfl⟩ := Prod.mk.inj hq'
        refine mz_vc_ok 60 (ct := fun _ => false) ?_
        simp only [vcS0, vcS1, vcS2, vcS3, vcS4, vcS5, vcS6, vc_n0, vc_lk, vc_pop, vc_rc, vc_tsw, vc_fr, vc_ar, vc_tb, mz_nx, List.set_cons_zero, List.set_cons_succ, Nat.reduceAdd, Nat.reduceBEq, Nat.reduceEqDiff, Nat.reduceLeDiff, Nat.reduceLT, Nat.reduceMul, Int.reduceToNat, Bool.false_eq_true, Bool.or_self, Bool.or_true, Bool.true_or, Bool.or_false, reduceIte, Option.toList_some, Option.toList_none, List.nil_append, List.cons_append, List.length_cons, List.length_nil, true_and, and_true, Int.cast_ofNat_Int, Int.reduceEq, Int.reduceLT, Int.reduceLE, Nat.zero_le, and_self, or_true, true_or, cdS_169]
        refine ⟨_, _, sp_in _ _ lo hi, ?_⟩
        rw [if_pos hr]
        simp only [vcS0, vcS1, vcS2, vcS3, vcS4, vcS5, vcS6, vc_n0, vc_lk, vc_pop, vc_rc, vc_tsw, vc_fr, vc_ar, vc_tb, mz_nx, List.set_cons_zero, List.set_cons_succ, Nat.reduceAdd, Nat.reduceBEq, Nat.reduceEqDiff, Nat.reduceLeDiff, Nat.reduceLT, Nat.reduceMul, Int.reduceToNat, Bool.false_eq_true, Bool.or_self, Bool.or_true, Bool.true_or, Bool.or_false, reduceIte, Option.toList_some, Option.toList_none, List.nil_append, List.cons_append, List.length_cons, List.length_nil, true_and, and_true, Int.cast_ofNat_Int, Int.reduceEq, Int.reduceLT, Int.reduceLE, Nat.zero_le, and_self, or_true, true_or, cdS_169]
      · have eN : nmS B L lo hi (p, n, w, 0, sa) = (-1, q2, (sk B L p : Int), w, 2, (sk B L p : Int)) := by
          unfold nmS
          simp only [eS, nS, aS, wS']
          unfold rnm
          rw [if_neg hnd, hQ]
          simp only [if_neg hr]
        rw [eN]
        simp only [eS, show ¬ ((2 : Int) = 0) by omega, if_false]
        refine ⟨q2, sk B L p, 2, sk B L p, ?_, rfl, fun q => absurd q (by omega), fun _ => rfl⟩
        refine mz_cl_vc 60 (fun i => i == 20) [some (mz_r 9 0 153), some (mz_i lo), some (mz_i hi), none] rfl ?_
        simp only [vcS0, vcS1, vcS2, vcS3, vcS4, vcS5, vcS6, vc_n0, vc_lk, vc_pop, vc_rc, vc_tsw, vc_fr, vc_ar, vc_tb, mz_nx, List.set_cons_zero, List.set_cons_succ, Nat.reduceAdd, Nat.reduceBEq, Nat.reduceEqDiff, Nat.reduceLeDiff, Nat.reduceLT, Nat.reduceMul, Int.reduceToNat, Bool.false_eq_true, Bool.or_self, Bool.or_true, Bool.true_or, Bool.or_false, reduceIte, Option.toList_some, Option.toList_none, List.nil_append, List.cons_append, List.length_cons, List.length_nil, true_and, and_true, Int.cast_ofNat_Int, Int.reduceEq, Int.reduceLT, Int.reduceLE, Nat.zero_le, and_self, or_true, true_or, cdS_169]
        rw [qM_9, if_pos rfl]
        refine ⟨_, _, sp_next p b 0 a R h, ?_⟩
        simp only [vcS0, vcS1, vcS2, vcS3, vcS4, vcS5, vcS6, vc_n0, vc_lk, vc_pop, vc_rc, vc_tsw, vc_fr, vc_ar, vc_tb, mz_nx, List.set_cons_zero, List.set_cons_succ, Nat.reduceAdd, Nat.reduceBEq, Nat.reduceEqDiff, Nat.reduceLeDiff, Nat.reduceLT, Nat.reduceMul, Int.reduceToNat, Bool.false_eq_true, Bool.or_self, Bool.or_true, Bool.true_or, Bool.or_false, reduceIte, Option.toList_some, Option.toList_none, List.nil_append, List.cons_append, List.length_cons, List.length_nil, true_and, and_true, Int.cast_ofNat_Int, Int.reduceEq, Int.reduceLT, Int.reduceLE, Nat.zero_le, and_self, or_true, true_or, cdS_169]
        refine ⟨_, _, sp_in _ _ 48 57, ?_⟩
        rw [if_pos hd]
        simp only [vcS0, vcS1, vcS2, vcS3, vcS4, vcS5, vcS6, vc_n0, vc_lk, vc_pop, vc_rc, vc_tsw, vc_fr, vc_ar, vc_tb, mz_nx, List.set_cons_zero, List.set_cons_succ, Nat.reduceAdd, Nat.reduceBEq, Nat.reduceEqDiff, Nat.reduceLeDiff, Nat.reduceLT, Nat.reduceMul, Int.reduceToNat, Bool.false_eq_true, Bool.or_self, Bool.or_true, Bool.true_or, Bool.or_false, reduceIte, Option.toList_some, Option.toList_none, List.nil_append, List.cons_append, List.length_cons, List.length_nil, true_and, and_true, Int.cast_ofNat_Int, Int.reduceEq, Int.reduceLT, Int.reduceLE, Nat.zero_le, and_self, or_true, true_or, cdS_169]
        refine nq_loop (sk B L p) 0 a R lo hi _ _ h (L - sk B L p) (sk B L p) 0 rfl (by omega) (by omega) fun q' y' hq' => ?_
        rw [hQ] at hq'
        obtain ⟨rfl, rfl⟩ := Prod.mk.inj hq'
        refine mz_vc_ok 60 (ct := fun _ => false) ?_
        simp only [vcS0, vcS1, vcS2, vcS3, vcS4, vcS5, vcS6, vc_n0, vc_lk, vc_pop, vc_rc, vc_tsw, vc_fr, vc_ar, vc_tb, mz_nx, List.set_cons_zero, List.set_cons_succ, Nat.reduceAdd, Nat.reduceBEq, Nat.reduceEqDiff, Nat.reduceLeDiff, Nat.reduceLT, Nat.reduceMul, Int.reduceToNat, Bool.false_eq_true, Bool.or_self, Bool.or_true, Bool.true_or, Bool.or_false, reduceIte, Option.toList_some, Option.toList_none, List.nil_append, List.cons_append, List.length_cons, List.length_nil, true_and, and_true, Int.cast_ofNat_Int, Int.reduceEq, Int.reduceLT, Int.reduceLE, Nat.zero_le, and_self, or_true, true_or, cdS_169]
        refine ⟨_, _, sp_in _ _ lo hi, ?_⟩
        rw [if_neg hr]
        simp only [vcS0, vcS1, vcS2, vcS3, vcS4, vcS5, vcS6, vc_n0, vc_lk, vc_pop, vc_rc, vc_tsw, vc_fr, vc_ar, vc_tb, mz_nx, List.set_cons_zero, List.set_cons_succ, Nat.reduceAdd, Nat.reduceBEq, Nat.reduceEqDiff, Nat.reduceLeDiff, Nat.reduceLT, Nat.reduceMul, Int.reduceToNat, Bool.false_eq_true, Bool.or_self, Bool.or_true, Bool.true_or, Bool.or_false, reduceIte, Option.toList_some, Option.toList_none, List.nil_append, List.cons_append, List.length_cons, List.length_nil, true_and, and_true, Int.cast_ofNat_Int, Int.reduceEq, Int.reduceLT, Int.reduceLE, Nat.zero_le, and_self, or_true, true_or, cdS_169]
        rw [qM_8]
        have hf := sp_qfails (m := m) q' (sk B L p) 0 a R 2 (sk B L p)
        rw [if_pos rfl, if_pos rfl] at hf
        refine ⟨_, _, hf, ?_⟩
        simp only [vcS0, vcS1, vcS2, vcS3, vcS4, vcS5, vcS6, vc_n0, vc_lk, vc_pop, vc_rc, vc_tsw, vc_fr, vc_ar, vc_tb, mz_nx, List.set_cons_zero, List.set_cons_succ, Nat.reduceAdd, Nat.reduceBEq, Nat.reduceEqDiff, Nat.reduceLeDiff, Nat.reduceLT, Nat.reduceMul, Int.reduceToNat, Bool.false_eq_true, Bool.or_self, Bool.or_true, Bool.true_or, Bool.or_false, reduceIte, Option.toList_some, Option.toList_none, List.nil_append, List.cons_append, List.length_cons, List.length_nil, true_and, and_true, Int.cast_ofNat_Int, Int.reduceEq, Int.reduceLT, Int.reduceLE, Nat.zero_le, and_self, or_true, true_or, cdS_169]
    · have eN : nmS B L lo hi (p, n, w, 0, sa) = (-1, sk B L p, n, w, 1, (sk B L p : Int)) := by
        unfold nmS
        simp only [eS, nS, aS, wS']
        unfold rnm
        rw [if_pos (Or.inr hd)]
        simp only [if_true]
      rw [eN]
      simp only [eS, show ¬ ((1 : Int) = 0) by omega, if_false]
      refine ⟨sk B L p, sk B L p, 1, sk B L p, ?_, rfl, fun q => absurd q (by omega), fun _ => rfl⟩
      refine mz_cl_vc 60 (fun i => i == 20) [some (mz_r 9 0 153), some (mz_i lo), some (mz_i hi), none] rfl ?_
      simp only [vcS0, vcS1, vcS2, vcS3, vcS4, vcS5, vcS6, vc_n0, vc_lk, vc_pop, vc_rc, vc_tsw, vc_fr, vc_ar, vc_tb, mz_nx, List.set_cons_zero, List.set_cons_succ, Nat.reduceAdd, Nat.reduceBEq, Nat.reduceEqDiff, Nat.reduceLeDiff, Nat.reduceLT, Nat.reduceMul, Int.reduceToNat, Bool.false_eq_true, Bool.or_self, Bool.or_true, Bool.true_or, Bool.or_false, reduceIte, Option.toList_some, Option.toList_none, List.nil_append, List.cons_append, List.length_cons, List.length_nil, true_and, and_true, Int.cast_ofNat_Int, Int.reduceEq, Int.reduceLT, Int.reduceLE, Nat.zero_le, and_self, or_true, true_or, cdS_169]
      rw [qM_9, if_pos rfl]
      refine ⟨_, _, sp_next p b 0 a R h, ?_⟩
      simp only [vcS0, vcS1, vcS2, vcS3, vcS4, vcS5, vcS6, vc_n0, vc_lk, vc_pop, vc_rc, vc_tsw, vc_fr, vc_ar, vc_tb, mz_nx, List.set_cons_zero, List.set_cons_succ, Nat.reduceAdd, Nat.reduceBEq, Nat.reduceEqDiff, Nat.reduceLeDiff, Nat.reduceLT, Nat.reduceMul, Int.reduceToNat, Bool.false_eq_true, Bool.or_self, Bool.or_true, Bool.true_or, Bool.or_false, reduceIte, Option.toList_some, Option.toList_none, List.nil_append, List.cons_append, List.length_cons, List.length_nil, true_and, and_true, Int.cast_ofNat_Int, Int.reduceEq, Int.reduceLT, Int.reduceLE, Nat.zero_le, and_self, or_true, true_or, cdS_169]
      refine ⟨_, _, sp_in _ _ 48 57, ?_⟩
      rw [if_neg hd]
      simp only [vcS0, vcS1, vcS2, vcS3, vcS4, vcS5, vcS6, vc_n0, vc_lk, vc_pop, vc_rc, vc_tsw, vc_fr, vc_ar, vc_tb, mz_nx, List.set_cons_zero, List.set_cons_succ, Nat.reduceAdd, Nat.reduceBEq, Nat.reduceEqDiff, Nat.reduceLeDiff, Nat.reduceLT, Nat.reduceMul, Int.reduceToNat, Bool.false_eq_true, Bool.or_self, Bool.or_true, Bool.true_or, Bool.or_false, reduceIte, Option.toList_some, Option.toList_none, List.nil_append, List.cons_append, List.length_cons, List.length_nil, true_and, and_true, Int.cast_ofNat_Int, Int.reduceEq, Int.reduceLT, Int.reduceLE, Nat.zero_le, and_self, or_true, true_or, cdS_169]
      rw [qM_7]
      have hf := sp_qfails (m := m) (sk B L p) (sk B L p) 0 a R 1 (sk B L p)
      rw [if_pos rfl, if_pos rfl] at hf
      refine ⟨_, _, hf, ?_⟩
      simp only [vcS0, vcS1, vcS2, vcS3, vcS4, vcS5, vcS6, vc_n0, vc_lk, vc_pop, vc_rc, vc_tsw, vc_fr, vc_ar, vc_tb, mz_nx, List.set_cons_zero, List.set_cons_succ, Nat.reduceAdd, Nat.reduceBEq, Nat.reduceEqDiff, Nat.reduceLeDiff, Nat.reduceLT, Nat.reduceMul, Int.reduceToNat, Bool.false_eq_true, Bool.or_self, Bool.or_true, Bool.true_or, Bool.or_false, reduceIte, Option.toList_some, Option.toList_none, List.nil_append, List.cons_append, List.length_cons, List.length_nil, true_and, and_true, Int.cast_ofNat_Int, Int.reduceEq, Int.reduceLT, Int.reduceLE, Nat.zero_le, and_self, or_true, true_or, cdS_169]
  · have ha : a = sa := h3 he
    subst ha
    have eN : nmS B L lo hi (sp', n, w, e, a) = (-1, sk B L sp', n, w, e, a) := by
      unfold nmS
      simp only [eS, nS, aS, wS']
      unfold rnm
      rw [if_pos (Or.inl he)]
      simp only [if_neg he]
    rw [eN]
    simp only [eS, if_neg he]
    refine ⟨p, b, e, a, ?_, rfl, fun q => absurd q he, fun _ => rfl⟩
    refine mz_cl_vc 60 (fun i => i == 20) [some (mz_r 9 0 153), some (mz_i lo), some (mz_i hi), none] rfl ?_
    simp only [vcS0, vcS1, vcS2, vcS3, vcS4, vcS5, vcS6, vc_n0, vc_lk, vc_pop, vc_rc, vc_tsw, vc_fr, vc_ar, vc_tb, mz_nx, List.set_cons_zero, List.set_cons_succ, Nat.reduceAdd, Nat.reduceBEq, Nat.reduceEqDiff, Nat.reduceLeDiff, Nat.reduceLT, Nat.reduceMul, Int.reduceToNat, Bool.false_eq_true, Bool.or_self, Bool.or_true, Bool.true_or, Bool.or_false, reduceIte, Option.toList_some, Option.toList_none, List.nil_append, List.cons_append, List.length_cons, List.length_nil, true_and, and_true, Int.cast_ofNat_Int, Int.reduceEq, Int.reduceLT, Int.reduceLE, Nat.zero_le, and_self, or_true, true_or, cdS_169]
    rw [qM_9, if_neg he]
    exact congrArg (fun z : Int => some (mz_i z)) (if_neg (show ¬ eS (((-1 : Int), sk B L sp', n, w, e, a) : Int × rS).2 = 0 from he)).symm
end QN
