/-! The model's statements beside the class's. -/
theorem stP_fl {s : rS} {p b : Nat} {e a k : Int} (hk : k ≠ 0) (h : stO s p b e a) : stP (flS k (nS s) s) p (if e = 0 then k else e) (if e = 0 then b else a) := by
  obtain ⟨h1, h2, h3⟩ := h
  by_cases he : e = 0
  · rw [if_pos he, if_pos he]
    have hz : eS s = 0 := by omega
    refine ⟨?_, fun q => absurd q hk, fun _ => ?_⟩
    · show k = if eS s = 0 then k else eS s
      rw [if_pos hz]
    · show (b : Int) = if eS s = 0 then nS s else aS s
      rw [if_pos hz]; exact (h2 he).2
  · rw [if_neg he, if_neg he]
    have hz : ¬ eS s = 0 := by omega
    refine ⟨?_, fun q => absurd q he, fun _ => ?_⟩
    · show e = if eS s = 0 then k else eS s
      rw [if_neg hz]; exact h1
    · show a = if eS s = 0 then nS s else aS s
      rw [if_neg hz]; exact h3 he
section QT
variable {m : mz_M} {B : Nat → Int} {L : Nat}
theorem sp_numErr (p b : Nat) (e a : Int) (R : Nat → Int) (lo hi : Int) (he : e ≠ 0) : sp 169 [mz_r 9 0 153, mz_i lo, mz_i hi] (qM m p b e a R) (some (mz_i lo)) (qM m p b e a R) := by
  refine mz_cl_vc 60 (fun i => i == 20) [some (mz_r 9 0 153), some (mz_i lo), some (mz_i hi), none] rfl ?_
  simp only [vcS0, vcS1, vcS2, vcS3, vcS4, vcS5, vcS6, vc_n0, vc_lk, vc_pop, vc_rc, vc_tsw, vc_fr, vc_ar, vc_tb, mz_nx, List.set_cons_zero, List.set_cons_succ, Nat.reduceAdd, Nat.reduceBEq, Nat.reduceEqDiff, Nat.reduceLeDiff, Nat.reduceLT, Nat.reduceMul, Int.reduceToNat, Bool.false_eq_true, Bool.or_self, Bool.or_true, Bool.true_or, Bool.or_false, reduceIte, Option.toList_some, Option.toList_none, List.nil_append, List.cons_append, List.length_cons, List.length_nil, true_and, and_true, Int.cast_ofNat_Int, Int.reduceEq, Int.reduceLT, Int.reduceLE, Nat.zero_le, and_self, or_true, true_or, cdS_169]
  rw [qM_9, if_neg he]
  trivial
theorem sp_place {s : rS} {p b : Nat} {e a : Int} {R : Nat → Int} (h : qB m B L) (hs : stP s p e a) (hp : s.1 ≤ L) (hR : 1 ≤ R 0 ∧ R 0 ≤ 10) : ∃ (p' b' : Nat) (e' a' : Int), sp 224 [mz_r 9 0 153] (qM m p b e a R) (some (mz_i (if eS (rdA B L (R 0) s).2 = 0 then (rdA B L (R 0) s).1 else 0))) (qM m p' b' e' a' R) ∧ stO (rdA B L (R 0) s).2 p' b' e' a' := by
  obtain ⟨p', b', e', a', h1, h2⟩ := sp_number (b := b) R 0 (R 0 - 1) h hs hp
  refine ⟨p', b', e', a', ?_, h2⟩
  refine mz_cl_vc 60 (fun _ => false) [some (mz_r 9 0 153)] rfl ?_
  simp only [vcS0, vcS1, vcS2, vcS3, vcS4, vcS5, vcS6, vc_n0, vc_lk, vc_pop, vc_rc, vc_tsw, vc_fr, vc_ar, vc_tb, mz_nx, List.set_cons_zero, List.set_cons_succ, Nat.reduceAdd, Nat.reduceBEq, Nat.reduceEqDiff, Nat.reduceLeDiff, Nat.reduceLT, Nat.reduceMul, Int.reduceToNat, Bool.false_eq_true, Bool.or_self, Bool.or_true, Bool.true_or, Bool.or_false, reduceIte, Option.toList_some, Option.toList_none, List.nil_append, List.cons_append, List.length_cons, List.length_nil, true_and, and_true, Int.cast_ofNat_Int, Int.reduceEq, Int.reduceLT, Int.reduceLE, Nat.zero_le, and_self, or_true, true_or, cdS_224]
  rw [qM_R]
  refine ⟨(by unfold mz_w; omega), _, _, h1, ?_⟩
  simp only [vcS0, vcS1, vcS2, vcS3, vcS4, vcS5, vcS6, vc_n0, vc_lk, vc_pop, vc_rc, vc_tsw, vc_fr, vc_ar, vc_tb, mz_nx, List.set_cons_zero, List.set_cons_succ, Nat.reduceAdd, Nat.reduceBEq, Nat.reduceEqDiff, Nat.reduceLeDiff, Nat.reduceLT, Nat.reduceMul, Int.reduceToNat, Bool.false_eq_true, Bool.or_self, Bool.or_true, Bool.true_or, Bool.or_false, reduceIte, Option.toList_some, Option.toList_none, List.nil_append, List.cons_append, List.length_cons, List.length_nil, true_and, and_true, Int.cast_ofNat_Int, Int.reduceEq, Int.reduceLT, Int.reduceLE, Nat.zero_le, and_self, or_true, true_or, cdS_224]
  rfl
theorem sp_rowQ {s : rS} {p b : Nat} {e a : Int} {R : Nat → Int} (rw : Nat) (f lo hi : Int) (h : qB m B L) (hs : stP s p e a) (hp : s.1 ≤ L) (hr : 0 ≤ f ∧ rw + f < 2430) : ∃ (p' b' : Nat) (e' a' : Int), sp 227 [mz_r 9 0 153, mz_i rw, mz_i f, mz_i lo, mz_i hi] (qM m p b e a R) none (qM m p' b' e' a' (if eS (nmS B L lo hi (nmS B L 0 f s).2).2 = 0 then vU R (rw + (nmS B L 0 f s).1.toNat) (nmS B L lo hi (nmS B L 0 f s).2).1 else R)) ∧ stO (nmS B L lo hi (nmS B L 0 f s).2).2 p' b' e' a' := by
  obtain ⟨p1, b1, e1, a1, g1, g2⟩ := sp_number (b := b) R 0 f h hs hp
  have o1 := nmS_ok (B := B) (L := L) (lo := 0) (hi := f) hp
  obtain ⟨p2, b2, e2, a2, k1, k2⟩ := sp_number (b := b1) R lo hi h (stO_P g2) o1.1
  have o2 := nmS_ok (B := B) (L := L) (lo := lo) (hi := hi) o1.1
  refine ⟨p2, b2, e2, a2, ?_, k2⟩
  have he2 := k2.1
  refine mz_cl_vc 60 (fun _ => false) [some (mz_r 9 0 153), some (mz_i rw), some (mz_i f), some (mz_i lo), some (mz_i hi), none, none] rfl ?_
  simp only [vcS0, vcS1, vcS2, vcS3, vcS4, vcS5, vcS6, vc_n0, vc_lk, vc_pop, vc_rc, vc_tsw, vc_fr, vc_ar, vc_tb, mz_nx, List.set_cons_zero, List.set_cons_succ, Nat.reduceAdd, Nat.reduceBEq, Nat.reduceEqDiff, Nat.reduceLeDiff, Nat.reduceLT, Nat.reduceMul, Int.reduceToNat, Bool.false_eq_true, Bool.or_self, Bool.or_true, Bool.true_or, Bool.or_false, reduceIte, Option.toList_some, Option.toList_none, List.nil_append, List.cons_append, List.length_cons, List.length_nil, true_and, and_true, Int.cast_ofNat_Int, Int.reduceEq, Int.reduceLT, Int.reduceLE, Nat.zero_le, and_self, or_true, true_or, cdS_227]
  refine ⟨_, _, g1, ?_⟩
  simp only [vcS0, vcS1, vcS2, vcS3, vcS4, vcS5, vcS6, vc_n0, vc_lk, vc_pop, vc_rc, vc_tsw, vc_fr, vc_ar, vc_tb, mz_nx, List.set_cons_zero, List.set_cons_succ, Nat.reduceAdd, Nat.reduceBEq, Nat.reduceEqDiff, Nat.reduceLeDiff, Nat.reduceLT, Nat.reduceMul, Int.reduceToNat, Bool.false_eq_true, Bool.or_self, Bool.or_true, Bool.true_or, Bool.or_false, reduceIte, Option.toList_some, Option.toList_none, List.nil_append, List.cons_append, List.length_cons, List.length_nil, true_and, and_true, Int.cast_ofNat_Int, Int.reduceEq, Int.reduceLT, Int.reduceLE, Nat.zero_le, and_self, or_true, true_or, cdS_227]
  refine ⟨_, _, k1, ?_⟩
  simp only [vcS0, vcS1, vcS2, vcS3, vcS4, vcS5, vcS6, vc_n0, vc_lk, vc_pop, vc_rc, vc_tsw, vc_fr, vc_ar, vc_tb, mz_nx, List.set_cons_zero, List.set_cons_succ, Nat.reduceAdd, Nat.reduceBEq, Nat.reduceEqDiff, Nat.reduceLeDiff, Nat.reduceLT, Nat.reduceMul, Int.reduceToNat, Bool.false_eq_true, Bool.or_self, Bool.or_true, Bool.true_or, Bool.or_false, reduceIte, Option.toList_some, Option.toList_none, List.nil_append, List.cons_append, List.length_cons, List.length_nil, true_and, and_true, Int.cast_ofNat_Int, Int.reduceEq, Int.reduceLT, Int.reduceLE, Nat.zero_le, and_self, or_true, true_or, cdS_227]
  by_cases hz : eS (nmS B L lo hi (nmS B L 0 f s).2).2 = 0
  · have q1 := o2.2.1 hz
    have q2 := o1.2.1 q1.1
    rw [if_pos hz, if_pos q1.1, if_pos hz, if_pos (show qM m p2 b2 e2 a2 R 153 9 = 0 by rw [qM_9]; omega)]
    rw [show ((rw : Int) + (nmS B L 0 f s).1).toNat = rw + (nmS B L 0 f s).1.toNat by omega, qM_uR]
    exact ⟨(by unfold mz_w; omega), by omega, rfl⟩
  · rw [if_neg (show ¬ qM m p2 b2 e2 a2 R 153 9 = 0 by rw [qM_9]; omega), if_neg hz]
theorem sp_roadQ {s : rS} {p b : Nat} {e a : Int} {R : Nat → Int} (h : qB m B L) (hs : stP s p e a) (hp : s.1 ≤ L) (hR : 1 ≤ R 0 ∧ R 0 ≤ 10) : ∃ (p' b' : Nat) (e' a' : Int), sp 258 [mz_r 9 0 153] (qM m p b e a R) none (qM m p' b' e' a' (if eS (rdF B L (R 0) s).2 = 0 then vU (vU R (3 + (10 * (rdA B L (R 0) s).1.toNat + (rdA B L (R 0) (rdA B L (R 0) s).2).1.toNat)) (min (R (3 + (10 * (rdA B L (R 0) s).1.toNat + (rdA B L (R 0) (rdA B L (R 0) s).2).1.toNat))) (rdF B L (R 0) s).1)) (3 + (10 * (rdA B L (R 0) (rdA B L (R 0) s).2).1.toNat + (rdA B L (R 0) s).1.toNat)) (min (R (3 + (10 * (rdA B L (R 0) s).1.toNat + (rdA B L (R 0) (rdA B L (R 0) s).2).1.toNat))) (rdF B L (R 0) s).1) else R)) ∧ stO (rdF B L (R 0) s).2 p' b' e' a' := by
  obtain ⟨p1, b1, e1, a1, g1, g2⟩ := sp_place (b := b) h hs hp hR
  have o1 := nmS_ok (B := B) (L := L) (lo := 0) (hi := R 0 - 1) hp
  rw [show nmS B L 0 (R 0 - 1) s = rdA B L (R 0) s from rfl] at o1
  obtain ⟨p2, b2, e2, a2, k1, k2⟩ := sp_place (b := b1) h (stO_P g2) o1.1 hR
  have o2 := nmS_ok (B := B) (L := L) (lo := 0) (hi := R 0 - 1) o1.1
  rw [show nmS B L 0 (R 0 - 1) (rdA B L (R 0) s).2 = rdA B L (R 0) (rdA B L (R 0) s).2 from rfl] at o2
  unfold rdF
  generalize hA1 : rdA B L (R 0) s = A1 at *
  generalize hA2 : rdA B L (R 0) A1.2 = A2 at *
  -- after the two places
  have mid : ∃ (e3 a3 : Int), stP (rdD A2 A1.1) p2 e3 a3 ∧ ∀ (res : Option mz_V) (m' : mz_M), (sx 258 14 [some (mz_r 9 0 153), some (mz_i (if eS A1.2 = 0 then A1.1 else 0)), some (mz_i (if eS A2.2 = 0 then A2.1 else 0)), none, none] [] (qM m p2 b2 e3 a3 R) res m') → sx 258 0 [some (mz_r 9 0 153), none, none, none, none] [] (qM m p b e a R) res m' := by
    have hq2 := k2.1
    by_cases hz : eS A2.2 = 0
    · have q1 := o2.2.1 hz
      rw [if_pos hz] at k1 ⊢
      rw [if_pos q1.1] at g1 ⊢
      by_cases hab : A1.1 = A2.1
      · have hf := stP_fl (k := 3) (by omega) k2
        rw [if_pos (show e2 = 0 by omega), if_pos (show e2 = 0 by omega)] at hf
        refine ⟨3, b2, by unfold rdD; rw [if_pos hab]; exact hf, fun res m' hk => ?_⟩
        refine mz_vc_ok 60 (ct := fun i => i == 14) ?_
        simp only [vcS0, vcS1, vcS2, vcS3, vcS4, vcS5, vcS6, vc_n0, vc_lk, vc_pop, vc_rc, vc_tsw, vc_fr, vc_ar, vc_tb, mz_nx, List.set_cons_zero, List.set_cons_succ, Nat.reduceAdd, Nat.reduceBEq, Nat.reduceEqDiff, Nat.reduceLeDiff, Nat.reduceLT, Nat.reduceMul, Int.reduceToNat, Bool.false_eq_true, Bool.or_self, Bool.or_true, Bool.true_or, Bool.or_false, reduceIte, Option.toList_some, Option.toList_none, List.nil_append, List.cons_append, List.length_cons, List.length_nil, true_and, and_true, Int.cast_ofNat_Int, Int.reduceEq, Int.reduceLT, Int.reduceLE, Nat.zero_le, and_self, or_true, true_or, cdS_258]
        refine ⟨_, _, g1, ?_⟩
        simp only [vcS0, vcS1, vcS2, vcS3, vcS4, vcS5, vcS6, vc_n0, vc_lk, vc_pop, vc_rc, vc_tsw, vc_fr, vc_ar, vc_tb, mz_nx, List.set_cons_zero, List.set_cons_succ, Nat.reduceAdd, Nat.reduceBEq, Nat.reduceEqDiff, Nat.reduceLeDiff, Nat.reduceLT, Nat.reduceMul, Int.reduceToNat, Bool.false_eq_true, Bool.or_self, Bool.or_true, Bool.true_or, Bool.or_false, reduceIte, Option.toList_some, Option.toList_none, List.nil_append, List.cons_append, List.length_cons, List.length_nil, true_and, and_true, Int.cast_ofNat_Int, Int.reduceEq, Int.reduceLT, Int.reduceLE, Nat.zero_le, and_self, or_true, true_or, cdS_258]
        refine ⟨_, _, k1, ?_⟩
        simp only [vcS0, vcS1, vcS2, vcS3, vcS4, vcS5, vcS6, vc_n0, vc_lk, vc_pop, vc_rc, vc_tsw, vc_fr, vc_ar, vc_tb, mz_nx, List.set_cons_zero, List.set_cons_succ, Nat.reduceAdd, Nat.reduceBEq, Nat.reduceEqDiff, Nat.reduceLeDiff, Nat.reduceLT, Nat.reduceMul, Int.reduceToNat, Bool.false_eq_true, Bool.or_self, Bool.or_true, Bool.true_or, Bool.or_false, reduceIte, Option.toList_some, Option.toList_none, List.nil_append, List.cons_append, List.length_cons, List.length_nil, true_and, and_true, Int.cast_ofNat_Int, Int.reduceEq, Int.reduceLT, Int.reduceLE, Nat.zero_le, and_self, or_true, true_or, cdS_258]
        rw [if_pos hab, qM_8]
        have hff := sp_qfails (m := m) p2 b2 e2 a2 R 3 b2
        rw [if_pos (show e2 = 0 by omega), if_pos (show e2 = 0 by omega)] at hff
        refine ⟨_, _, hff, ?_⟩
        simp only [vcS0, vcS1, vcS2, vcS3, vcS4, vcS5, vcS6, vc_n0, vc_lk, vc_pop, vc_rc, vc_tsw, vc_fr, vc_ar, vc_tb, mz_nx, List.set_cons_zero, List.set_cons_succ, Nat.reduceAdd, Nat.reduceBEq, Nat.reduceEqDiff, Nat.reduceLeDiff, Nat.reduceLT, Nat.reduceMul, Int.reduceToNat, Bool.false_eq_true, Bool.or_self, Bool.or_true, Bool.true_or, Bool.or_false, reduceIte, Option.toList_some, Option.toList_none, List.nil_append, List.cons_append, List.length_cons, List.length_nil, true_and, and_true, Int.cast_ofNat_Int, Int.reduceEq, Int.reduceLT, Int.reduceLE, Nat.zero_le, and_self, or_true, true_or, cdS_258]
        exact hk
      · refine ⟨e2, a2, by unfold rdD; rw [if_neg hab]; exact stO_P k2, fun res m' hk => ?_⟩
        refine mz_vc_ok 60 (ct := fun i => i == 14) ?_
        simp only [vcS0, vcS1, vcS2, vcS3, vcS4, vcS5, vcS6, vc_n0, vc_lk, vc_pop, vc_rc, vc_tsw, vc_fr, vc_ar, vc_tb, mz_nx, List.set_cons_zero, List.set_cons_succ, Nat.reduceAdd, Nat.reduceBEq, Nat.reduceEqDiff, Nat.reduceLeDiff, Nat.reduceLT, Nat.reduceMul, Int.reduceToNat, Bool.false_eq_true, Bool.or_self, Bool.or_true, Bool.true_or, Bool.or_false, reduceIte, Option.toList_some, Option.toList_none, List.nil_append, List.cons_append, List.length_cons, List.length_nil, true_and, and_true, Int.cast_ofNat_Int, Int.reduceEq, Int.reduceLT, Int.reduceLE, Nat.zero_le, and_self, or_true, true_or, cdS_258]
        refine ⟨_, _, g1, ?_⟩
        simp only [vcS0, vcS1, vcS2, vcS3, vcS4, vcS5, vcS6, vc_n0, vc_lk, vc_pop, vc_rc, vc_tsw, vc_fr, vc_ar, vc_tb, mz_nx, List.set_cons_zero, List.set_cons_succ, Nat.reduceAdd, Nat.reduceBEq, Nat.reduceEqDiff, Nat.reduceLeDiff, Nat.reduceLT, Nat.reduceMul, Int.reduceToNat, Bool.false_eq_true, Bool.or_self, Bool.or_true, Bool.true_or, Bool.or_false, reduceIte, Option.toList_some, Option.toList_none, List.nil_append, List.cons_append, List.length_cons, List.length_nil, true_and, and_true, Int.cast_ofNat_Int, Int.reduceEq, Int.reduceLT, Int.reduceLE, Nat.zero_le, and_self, or_true, true_or, cdS_258]
        refine ⟨_, _, k1, ?_⟩
        simp only [vcS0, vcS1, vcS2, vcS3, vcS4, vcS5, vcS6, vc_n0, vc_lk, vc_pop, vc_rc, vc_tsw, vc_fr, vc_ar, vc_tb, mz_nx, List.set_cons_zero, List.set_cons_succ, Nat.reduceAdd, Nat.reduceBEq, Nat.reduceEqDiff, Nat.reduceLeDiff, Nat.reduceLT, Nat.reduceMul, Int.reduceToNat, Bool.false_eq_true, Bool.or_self, Bool.or_true, Bool.true_or, Bool.or_false, reduceIte, Option.toList_some, Option.toList_none, List.nil_append, List.cons_append, List.length_cons, List.length_nil, true_and, and_true, Int.cast_ofNat_Int, Int.reduceEq, Int.reduceLT, Int.reduceLE, Nat.zero_le, and_self, or_true, true_or, cdS_258]
        rw [if_neg hab]
        exact hk
    · have hD : stP (rdD A2 A1.1) p2 e2 a2 := by
        unfold rdD
        split
        · have hf := stP_fl (k := 3) (by omega) k2
          rw [if_neg (show ¬ e2 = 0 by omega), if_neg (show ¬ e2 = 0 by omega)] at hf
          exact hf
        · exact stO_P k2
      refine ⟨e2, a2, hD, fun res m' hk => ?_⟩
      refine mz_vc_ok 60 (ct := fun i => i == 14) ?_
      simp only [vcS0, vcS1, vcS2, vcS3, vcS4, vcS5, vcS6, vc_n0, vc_lk, vc_pop, vc_rc, vc_tsw, vc_fr, vc_ar, vc_tb, mz_nx, List.set_cons_zero, List.set_cons_succ, Nat.reduceAdd, Nat.reduceBEq, Nat.reduceEqDiff, Nat.reduceLeDiff, Nat.reduceLT, Nat.reduceMul, Int.reduceToNat, Bool.false_eq_true, Bool.or_self, Bool.or_true, Bool.true_or, Bool.or_false, reduceIte, Option.toList_some, Option.toList_none, List.nil_append, List.cons_append, List.length_cons, List.length_nil, true_and, and_true, Int.cast_ofNat_Int, Int.reduceEq, Int.reduceLT, Int.reduceLE, Nat.zero_le, and_self, or_true, true_or, cdS_258]
      refine ⟨_, _, g1, ?_⟩
      simp only [vcS0, vcS1, vcS2, vcS3, vcS4, vcS5, vcS6, vc_n0, vc_lk, vc_pop, vc_rc, vc_tsw, vc_fr, vc_ar, vc_tb, mz_nx, List.set_cons_zero, List.set_cons_succ, Nat.reduceAdd, Nat.reduceBEq, Nat.reduceEqDiff, Nat.reduceLeDiff, Nat.reduceLT, Nat.reduceMul, Int.reduceToNat, Bool.false_eq_true, Bool.or_self, Bool.or_true, Bool.true_or, Bool.or_false, reduceIte, Option.toList_some, Option.toList_none, List.nil_append, List.cons_append, List.length_cons, List.length_nil, true_and, and_true, Int.cast_ofNat_Int, Int.reduceEq, Int.reduceLT, Int.reduceLE, Nat.zero_le, and_self, or_true, true_or, cdS_258]
      refine ⟨_, _, k1, ?_⟩
      simp only [vcS0, vcS1, vcS2, vcS3, vcS4, vcS5, vcS6, vc_n0, vc_lk, vc_pop, vc_rc, vc_tsw, vc_fr, vc_ar, vc_tb, mz_nx, List.set_cons_zero, List.set_cons_succ, Nat.reduceAdd, Nat.reduceBEq, Nat.reduceEqDiff, Nat.reduceLeDiff, Nat.reduceLT, Nat.reduceMul, Int.reduceToNat, Bool.false_eq_true, Bool.or_self, Bool.or_true, Bool.true_or, Bool.or_false, reduceIte, Option.toList_some, Option.toList_none, List.nil_append, List.cons_append, List.length_cons, List.length_nil, true_and, and_true, Int.cast_ofNat_Int, Int.reduceEq, Int.reduceLT, Int.reduceLE, Nat.zero_le, and_self, or_true, true_or, cdS_258]
      generalize (if eS A1.2 = 0 then A1.1 else 0) = x1 at hk ⊢
      generalize (if eS A2.2 = 0 then A2.1 else 0) = x2 at hk ⊢
      by_cases hab : x1 = x2
      · rw [if_pos hab, qM_8]
        have hff := sp_qfails (m := m) p2 b2 e2 a2 R 3 b2
        rw [if_neg (show ¬ e2 = 0 by omega), if_neg (show ¬ e2 = 0 by omega)] at hff
        refine ⟨_, _, hff, ?_⟩
        simp only [vcS0, vcS1, vcS2, vcS3, vcS4, vcS5, vcS6, vc_n0, vc_lk, vc_pop, vc_rc, vc_tsw, vc_fr, vc_ar, vc_tb, mz_nx, List.set_cons_zero, List.set_cons_succ, Nat.reduceAdd, Nat.reduceBEq, Nat.reduceEqDiff, Nat.reduceLeDiff, Nat.reduceLT, Nat.reduceMul, Int.reduceToNat, Bool.false_eq_true, Bool.or_self, Bool.or_true, Bool.true_or, Bool.or_false, reduceIte, Option.toList_some, Option.toList_none, List.nil_append, List.cons_append, List.length_cons, List.length_nil, true_and, and_true, Int.cast_ofNat_Int, Int.reduceEq, Int.reduceLT, Int.reduceLE, Nat.zero_le, and_self, or_true, true_or, cdS_258]
        exact hk
      · rw [if_neg hab]
        exact hk
  obtain ⟨e3, a3, hD, hmid⟩ := mid
  have oD : (rdD A2 A1.1).1 ≤ L := by
    unfold rdD
    split
    · rw [flS_1]; exact o2.1
    · exact o2.1
  obtain ⟨p4, b4, e4, a4, f1, f2⟩ := sp_number (b := b2) R 1 99 h hD oD
  have o4 := nmS_ok (B := B) (L := L) (lo := 1) (hi := 99) oD
  refine ⟨p4, b4, e4, a4, ?_, f2⟩
  have he4 := f2.1
  show mz_cl _ _ _ _ _
  refine mz_cl_vc 0 (fun _ => false) [some (mz_r 9 0 153), none, none, none, none] rfl ?_
  show mz_ex _ _ _ _ _ _ _
  refine hmid _ _ ?_
  refine mz_vc_ok 80 (ct := fun _ => false) ?_
  simp only [vcS0, vcS1, vcS2, vcS3, vcS4, vcS5, vcS6, vc_n0, vc_lk, vc_pop, vc_rc, vc_tsw, vc_fr, vc_ar, vc_tb, mz_nx, List.set_cons_zero, List.set_cons_succ, Nat.reduceAdd, Nat.reduceBEq, Nat.reduceEqDiff, Nat.reduceLeDiff, Nat.reduceLT, Nat.reduceMul, Int.reduceToNat, Bool.false_eq_true, Bool.or_self, Bool.or_true, Bool.true_or, Bool.or_false, reduceIte, Option.toList_some, Option.toList_none, List.nil_append, List.cons_append, List.length_cons, List.length_nil, true_and, and_true, Int.cast_ofNat_Int, Int.reduceEq, Int.reduceLT, Int.reduceLE, Nat.zero_le, and_self, or_true, true_or, cdS_258]
  refine ⟨_, _, f1, ?_⟩
  simp only [vcS0, vcS1, vcS2, vcS3, vcS4, vcS5, vcS6, vc_n0, vc_lk, vc_pop, vc_rc, vc_tsw, vc_fr, vc_ar, vc_tb, mz_nx, List.set_cons_zero, List.set_cons_succ, Nat.reduceAdd, Nat.reduceBEq, Nat.reduceEqDiff, Nat.reduceLeDiff, Nat.reduceLT, Nat.reduceMul, Int.reduceToNat, Bool.false_eq_true, Bool.or_self, Bool.or_true, Bool.true_or, Bool.or_false, reduceIte, Option.toList_some, Option.toList_none, List.nil_append, List.cons_append, List.length_cons, List.length_nil, true_and, and_true, Int.cast_ofNat_Int, Int.reduceEq, Int.reduceLT, Int.reduceLE, Nat.zero_le, and_self, or_true, true_or, cdS_258]
  by_cases hz : eS (nmS B L 1 99 (rdD A2 A1.1)).2 = 0
  · have q4 := o4.2.1 hz
    have hD2 : rdD A2 A1.1 = A2.2 := by
      unfold rdD
      split
      · rename_i hab
        have := flS_e (k := 3) (x := nS A2.2) (s := A2.2) (by omega)
        unfold rdD at q4
        rw [if_pos hab] at q4
        exact absurd q4.1 this
      · rfl
    rw [hD2] at q4
    have q2 := o2.2.1 q4.1
    have q1 := o1.2.1 q2.1
    rw [if_pos (show qM m p4 b4 e4 a4 R 153 9 = 0 by rw [qM_9]; omega), if_pos q2.1, if_pos q4.1, if_pos hz, if_pos hz]
    obtain ⟨x1, hx1⟩ := nat_i q1.2.1
    obtain ⟨x2, hx2⟩ := nat_i q2.2.1
    rw [hx1, hx2, Int.toNat_natCast, Int.toNat_natCast, qM_R]
    rw [show (3 + 10 * (x1 : Int) + (x2 : Int)).toNat = 3 + (10 * x1 + x2) by omega, show (3 + 10 * (x2 : Int) + (x1 : Int)).toNat = 3 + (10 * x2 + x1) by omega]
    simp only [qM_uR]
    (repeat' refine And.intro ?_ ?_) <;> first | trivial | (unfold mz_w; omega) | omega | rfl
  · rw [if_neg (show ¬ qM m p4 b4 e4 a4 R 153 9 = 0 by rw [qM_9]; omega), if_neg hz]
end QT
