def smS (B : Nat → Int) (L : Nat) (s : rS) : rS := if nb B L s.1 = 59 then (s.1 + 1, nS s, wS' s, eS s, aS s) else flS 1 s.1 s
theorem rsT_u3 {m : mz_M} {r : Nat} {s : rS} {p : Nat} : mz_up (rsT m r s) r 3 p = rsT m r (p, nS s, wS' s, eS s, aS s) := rs_u3
theorem sp_nextT (m : mz_M) {r L : Nat} (s : rS) (h : rdO m r L) : sp 20 [mz_r 5 0 r] (rsT m r s) (some (mz_i (nb (m (r + 16)) L s.1))) (rsT m r s) := sp_nextByte m _ _ _ _ h
theorem sp_skipT (m : mz_M) {r L : Nat} (s : rS) (h : rdO m r L) : sp 75 [mz_r 5 0 r] (rsT m r s) none (rsT m r (sk (m (r + 16)) L s.1, nS s, wS' s, eS s, aS s)) := sp_skipSpaces m _ _ _ _ h
theorem sp_wordT (m : mz_M) {r L : Nat} (s : rS) (h : rdO m r L) (hp : s.1 ≤ L) : sp 264 [mz_r 5 0 r] (rsT m r s) (some (mz_i (rwd (m (r + 16)) L s.1))) (rsT m r (wd (m (r + 16)) L (sk (m (r + 16)) L s.1), nS s, sk (m (r + 16)) L s.1, eS s, aS s)) := sp_readWord m _ _ _ _ h hp
theorem sp_semiT (m : mz_M) {r L : Nat} (s : rS) (h : rdO m r L) (hp : s.1 ≤ 600) : sp 74 [mz_r 5 0 r] (rsT m r s) none (rsT m r (smS (m (r + 16)) L s)) := by
  unfold smS
  refine mz_cl_vc 40 (fun _ => false) [some (mz_r 5 0 r)] rfl ?_
  simp only [vcS0, vcS1, vcS2, vcS3, vcS4, vcS5, vcS6, vc_n0, vc_lk, vc_pop, vc_rc, vc_tsw, vc_fr, vc_ar, vc_tb, mz_nx, List.set_cons_zero, List.set_cons_succ, Nat.reduceAdd, Nat.reduceBEq, Nat.reduceEqDiff, Nat.reduceLeDiff, Nat.reduceLT, Nat.reduceMul, Int.reduceToNat, Bool.false_eq_true, Bool.or_self, Bool.or_true, Bool.true_or, Bool.or_false, reduceIte, Option.toList_some, Option.toList_none, List.nil_append, List.cons_append, List.length_cons, List.length_nil, true_and, and_true, Int.cast_ofNat_Int, Int.reduceEq, Int.reduceLT, Int.reduceLE, Nat.zero_le, and_self, or_true, true_or, cdS_74]
  refine ⟨_, _, sp_nextT m s h, ?_⟩
  simp only [vcS0, vcS1, vcS2, vcS3, vcS4, vcS5, vcS6, vc_n0, vc_lk, vc_pop, vc_rc, vc_tsw, vc_fr, vc_ar, vc_tb, mz_nx, List.set_cons_zero, List.set_cons_succ, Nat.reduceAdd, Nat.reduceBEq, Nat.reduceEqDiff, Nat.reduceLeDiff, Nat.reduceLT, Nat.reduceMul, Int.reduceToNat, Bool.false_eq_true, Bool.or_self, Bool.or_true, Bool.true_or, Bool.or_false, reduceIte, Option.toList_some, Option.toList_none, List.nil_append, List.cons_append, List.length_cons, List.length_nil, true_and, and_true, Int.cast_ofNat_Int, Int.reduceEq, Int.reduceLT, Int.reduceLE, Nat.zero_le, and_self, or_true, true_or, cdS_74]
  by_cases hs : nb (m (r + 16)) L s.1 = 59
  · rw [if_pos hs, if_pos hs, rsT_3]
    refine ⟨(by unfold mz_w; omega), ?_⟩
    refine congrArg mz_fu ?_
    exact rsT_u3 (p := s.1 + 1)
  · rw [if_neg hs, if_neg hs, rsT_3]
    refine ⟨_, _, sp_failT m _ _ _, ?_⟩
    simp only [vcS0, vcS1, vcS2, vcS3, vcS4, vcS5, vcS6, vc_n0, vc_lk, vc_pop, vc_rc, vc_tsw, vc_fr, vc_ar, vc_tb, mz_nx, List.set_cons_zero, List.set_cons_succ, Nat.reduceAdd, Nat.reduceBEq, Nat.reduceEqDiff, Nat.reduceLeDiff, Nat.reduceLT, Nat.reduceMul, Int.reduceToNat, Bool.false_eq_true, Bool.or_self, Bool.or_true, Bool.true_or, Bool.or_false, reduceIte, Option.toList_some, Option.toList_none, List.nil_append, List.cons_append, List.length_cons, List.length_nil, true_and, and_true, Int.cast_ofNat_Int, Int.reduceEq, Int.reduceLT, Int.reduceLE, Nat.zero_le, and_self, or_true, true_or, cdS_74]
def roadR (m : mz_M) (r L : Nat) (s : rS) : mz_M × rS := (if eS (rdF (m (r + 16)) L (m (r + 1) 0) s).2 = 0 then roadUp m (r + 1) (rdA (m (r + 16)) L (m (r + 1) 0) s).1.toNat (rdA (m (r + 16)) L (m (r + 1) 0) (rdA (m (r + 16)) L (m (r + 1) 0) s).2).1.toNat (rdF (m (r + 16)) L (m (r + 1) 0) s).1 else m, (rdF (m (r + 16)) L (m (r + 1) 0) s).2)
def zoneR (m : mz_M) (r L : Nat) (s : rS) : mz_M × rS := (if eS (zoX (m (r + 16)) L 3 (rdA (m (r + 16)) L (m (r + 1) 0) s) 0).2 = 0 then mz_up m (r + 2) (rdA (m (r + 16)) L (m (r + 1) 0) s).1.toNat (zoX (m (r + 16)) L 3 (rdA (m (r + 16)) L (m (r + 1) 0) s) 0).1 else m, (zoX (m (r + 16)) L 3 (rdA (m (r + 16)) L (m (r + 1) 0) s) 0).2)
def spacesR (m : mz_M) (r L : Nat) (s : rS) : mz_M × rS := (if eS (zoX (m (r + 16)) L 8 (rdA (m (r + 16)) L (m (r + 1) 0) s) 0).2 = 0 then mz_up m (r + 3) (rdA (m (r + 16)) L (m (r + 1) 0) s).1.toNat (zoX (m (r + 16)) L 8 (rdA (m (r + 16)) L (m (r + 1) 0) s) 0).1 else m, (zoX (m (r + 16)) L 8 (rdA (m (r + 16)) L (m (r + 1) 0) s) 0).2)
def stayR (m : mz_M) (r L : Nat) (s : rS) : mz_M × rS := (if eS (zoX (m (r + 16)) L 600 (styA (m (r + 16)) L s) 10).2 = 0 then mz_up m (r + 8 + 2 * (styA (m (r + 16)) L s).1.toNat) 1 (zoX (m (r + 16)) L 600 (styA (m (r + 16)) L s) 10).1 else m, (zoX (m (r + 16)) L 600 (styA (m (r + 16)) L s) 10).2)
def rateR (m : mz_M) (r L : Nat) (s : rS) : mz_M × rS := (if eS (rtC (m (r + 16)) L s).2 = 0 then setR m (r + 9 + 2 * (styA (m (r + 16)) L s).1.toNat) (rtF (m (r + 16)) L s).1.toNat (rtT (m (r + 16)) L s).1.toNat (rtC (m (r + 16)) L s).1 else m, (rtC (m (r + 16)) L s).2)
def poundR (m : mz_M) (r L : Nat) (s : rS) : mz_M × rS := (if eS (pdC m r L s).2 = 0 then poundUp m (r + 1) (rdA (m (r + 16)) L (m (r + 1) 0) s).1.toNat (pdC m r L s).1 else m, (pdC m r L s).2)
def wdS (B : Nat → Int) (L : Nat) (s : rS) : rS := (wd B L (sk B L s.1), nS s, sk B L s.1, eS s, aS s)
def stR (m : mz_M) (r L : Nat) (s : rS) : mz_M × rS :=
  if eS s = 0 then
    (if rwd (m (r + 16)) L s.1 = 2 then roadR m r L (wdS (m (r + 16)) L s)
    else if rwd (m (r + 16)) L s.1 = 3 then zoneR m r L (wdS (m (r + 16)) L s)
    else if rwd (m (r + 16)) L s.1 = 4 then rateR m r L (wdS (m (r + 16)) L s)
    else if rwd (m (r + 16)) L s.1 = 5 then stayR m r L (wdS (m (r + 16)) L s)
    else if rwd (m (r + 16)) L s.1 = 6 then spacesR m r L (wdS (m (r + 16)) L s)
    else if rwd (m (r + 16)) L s.1 = 7 then poundR m r L (wdS (m (r + 16)) L s)
    else (m, flS 1 (wS' (wdS (m (r + 16)) L s)) (wdS (m (r + 16)) L s)))
  else (m, s)
def rdOk (m : mz_M) (r L : Nat) : Prop := byO m r L ∧ (1 ≤ m (r + 1) 0 ∧ m (r + 1) 0 ≤ 10) ∧ (0 ≤ m (r + 1) 1 ∧ m (r + 1) 1 ≤ 2) ∧ fwO (m (r + 5))
theorem sp_stmtT (m : mz_M) {r L : Nat} (s : rS) (h : rdOk m r L) (hp : s.1 ≤ L) : sp 279 [mz_r 5 0 r] (rsT m r s) none (rsT (stR m r L s).1 r (stR m r L s).2) := by
  have hw := wd_le (B := m (r + 16)) (sk_le (B := m (r + 16)) hp).2
  have h2 := h.1
  unfold stR
  refine mz_cl_vc 60 (fun _ => false) [some (mz_r 5 0 r)] rfl ?_
  simp only [vcS0, vcS1, vcS2, vcS3, vcS4, vcS5, vcS6, vc_n0, vc_lk, vc_pop, vc_rc, vc_tsw, vc_fr, vc_ar, vc_tb, mz_nx, List.set_cons_zero, List.set_cons_succ, Nat.reduceAdd, Nat.reduceBEq, Nat.reduceEqDiff, Nat.reduceLeDiff, Nat.reduceLT, Nat.reduceMul, Int.reduceToNat, Bool.false_eq_true, Bool.or_self, Bool.or_true, Bool.true_or, Bool.or_false, reduceIte, Option.toList_some, Option.toList_none, List.nil_append, List.cons_append, List.length_cons, List.length_nil, true_and, and_true, Int.cast_ofNat_Int, Int.reduceEq, Int.reduceLT, Int.reduceLE, Nat.zero_le, and_self, or_true, true_or, cdS_279]
  rw [rsT_6]
  by_cases he : eS s = 0
  · rw [if_pos he, if_pos he]
    refine ⟨_, _, sp_wordT m s h.1.1 hp, ?_⟩
    simp only [vcS0, vcS1, vcS2, vcS3, vcS4, vcS5, vcS6, vc_n0, vc_lk, vc_pop, vc_rc, vc_tsw, vc_fr, vc_ar, vc_tb, mz_nx, List.set_cons_zero, List.set_cons_succ, Nat.reduceAdd, Nat.reduceBEq, Nat.reduceEqDiff, Nat.reduceLeDiff, Nat.reduceLT, Nat.reduceMul, Int.reduceToNat, Bool.false_eq_true, Bool.or_self, Bool.or_true, Bool.true_or, Bool.or_false, reduceIte, Option.toList_some, Option.toList_none, List.nil_append, List.cons_append, List.length_cons, List.length_nil, true_and, and_true, Int.cast_ofNat_Int, Int.reduceEq, Int.reduceLT, Int.reduceLE, Nat.zero_le, and_self, or_true, true_or, cdS_279]
    change _ at hw
    generalize hv : rwd (m (r + 16)) L s.1 = v
    have e : ((wd (m (r + 16)) L (sk (m (r + 16)) L s.1), nS s, sk (m (r + 16)) L s.1, eS s, aS s) : rS) = wdS (m (r + 16)) L s := rfl
    rw [e]
    have hp2 : (wdS (m (r + 16)) L s).1 ≤ L := hw.2
    generalize wdS (m (r + 16)) L s = s1 at hp2 ⊢
    by_cases h2 : v = 2
    · subst h2
      simp only [Int.reduceAdd, Int.reduceEq, if_true, if_false, reduceIte]
      refine ⟨_, _, sp_roadT m s1 h.1 h.2.1 hp2, ?_⟩
      simp only [vcS0, vcS1, vcS2, vcS3, vcS4, vcS5, vcS6, vc_n0, vc_lk, vc_pop, vc_rc, vc_tsw, vc_fr, vc_ar, vc_tb, mz_nx, List.set_cons_zero, List.set_cons_succ, Nat.reduceAdd, Nat.reduceBEq, Nat.reduceEqDiff, Nat.reduceLeDiff, Nat.reduceLT, Nat.reduceMul, Int.reduceToNat, Bool.false_eq_true, Bool.or_self, Bool.or_true, Bool.true_or, Bool.or_false, reduceIte, Option.toList_some, Option.toList_none, List.nil_append, List.cons_append, List.length_cons, List.length_nil, true_and, and_true, Int.cast_ofNat_Int, Int.reduceEq, Int.reduceLT, Int.reduceLE, Nat.zero_le, and_self, or_true, true_or, cdS_279]
      rfl
    by_cases h3 : v = 3
    · subst h3
      simp only [Int.reduceAdd, Int.reduceEq, if_true, if_false, reduceIte]
      refine ⟨_, _, sp_zoneT m s1 h.1 h.2.1 hp2, ?_⟩
      simp only [vcS0, vcS1, vcS2, vcS3, vcS4, vcS5, vcS6, vc_n0, vc_lk, vc_pop, vc_rc, vc_tsw, vc_fr, vc_ar, vc_tb, mz_nx, List.set_cons_zero, List.set_cons_succ, Nat.reduceAdd, Nat.reduceBEq, Nat.reduceEqDiff, Nat.reduceLeDiff, Nat.reduceLT, Nat.reduceMul, Int.reduceToNat, Bool.false_eq_true, Bool.or_self, Bool.or_true, Bool.true_or, Bool.or_false, reduceIte, Option.toList_some, Option.toList_none, List.nil_append, List.cons_append, List.length_cons, List.length_nil, true_and, and_true, Int.cast_ofNat_Int, Int.reduceEq, Int.reduceLT, Int.reduceLE, Nat.zero_le, and_self, or_true, true_or, cdS_279]
      rfl
    by_cases h4 : v = 4
    · subst h4
      simp only [Int.reduceAdd, Int.reduceEq, if_true, if_false, reduceIte]
      refine ⟨_, _, sp_rateT m s1 h.1 hp2, ?_⟩
      simp only [vcS0, vcS1, vcS2, vcS3, vcS4, vcS5, vcS6, vc_n0, vc_lk, vc_pop, vc_rc, vc_tsw, vc_fr, vc_ar, vc_tb, mz_nx, List.set_cons_zero, List.set_cons_succ, Nat.reduceAdd, Nat.reduceBEq, Nat.reduceEqDiff, Nat.reduceLeDiff, Nat.reduceLT, Nat.reduceMul, Int.reduceToNat, Bool.false_eq_true, Bool.or_self, Bool.or_true, Bool.true_or, Bool.or_false, reduceIte, Option.toList_some, Option.toList_none, List.nil_append, List.cons_append, List.length_cons, List.length_nil, true_and, and_true, Int.cast_ofNat_Int, Int.reduceEq, Int.reduceLT, Int.reduceLE, Nat.zero_le, and_self, or_true, true_or, cdS_279]
      rfl
    by_cases h5 : v = 5
    · subst h5
      simp only [Int.reduceAdd, Int.reduceEq, if_true, if_false, reduceIte]
      refine ⟨_, _, sp_stayT m s1 h.1 hp2, ?_⟩
      simp only [vcS0, vcS1, vcS2, vcS3, vcS4, vcS5, vcS6, vc_n0, vc_lk, vc_pop, vc_rc, vc_tsw, vc_fr, vc_ar, vc_tb, mz_nx, List.set_cons_zero, List.set_cons_succ, Nat.reduceAdd, Nat.reduceBEq, Nat.reduceEqDiff, Nat.reduceLeDiff, Nat.reduceLT, Nat.reduceMul, Int.reduceToNat, Bool.false_eq_true, Bool.or_self, Bool.or_true, Bool.true_or, Bool.or_false, reduceIte, Option.toList_some, Option.toList_none, List.nil_append, List.cons_append, List.length_cons, List.length_nil, true_and, and_true, Int.cast_ofNat_Int, Int.reduceEq, Int.reduceLT, Int.reduceLE, Nat.zero_le, and_self, or_true, true_or, cdS_279]
      rfl
    by_cases h6 : v = 6
    · subst h6
      simp only [Int.reduceAdd, Int.reduceEq, if_true, if_false, reduceIte]
      refine ⟨_, _, sp_spacesT m s1 h.1 h.2.1 hp2, ?_⟩
      simp only [vcS0, vcS1, vcS2, vcS3, vcS4, vcS5, vcS6, vc_n0, vc_lk, vc_pop, vc_rc, vc_tsw, vc_fr, vc_ar, vc_tb, mz_nx, List.set_cons_zero, List.set_cons_succ, Nat.reduceAdd, Nat.reduceBEq, Nat.reduceEqDiff, Nat.reduceLeDiff, Nat.reduceLT, Nat.reduceMul, Int.reduceToNat, Bool.false_eq_true, Bool.or_self, Bool.or_true, Bool.true_or, Bool.or_false, reduceIte, Option.toList_some, Option.toList_none, List.nil_append, List.cons_append, List.length_cons, List.length_nil, true_and, and_true, Int.cast_ofNat_Int, Int.reduceEq, Int.reduceLT, Int.reduceLE, Nat.zero_le, and_self, or_true, true_or, cdS_279]
      rfl
    by_cases h7 : v = 7
    · subst h7
      simp only [Int.reduceAdd, Int.reduceEq, if_true, if_false, reduceIte]
      refine ⟨_, _, sp_poundT m s1 h.1 h.2.1 hp2 (by have := h.2.2.1; omega), ?_⟩
      simp only [vcS0, vcS1, vcS2, vcS3, vcS4, vcS5, vcS6, vc_n0, vc_lk, vc_pop, vc_rc, vc_tsw, vc_fr, vc_ar, vc_tb, mz_nx, List.set_cons_zero, List.set_cons_succ, Nat.reduceAdd, Nat.reduceBEq, Nat.reduceEqDiff, Nat.reduceLeDiff, Nat.reduceLT, Nat.reduceMul, Int.reduceToNat, Bool.false_eq_true, Bool.or_self, Bool.or_true, Bool.true_or, Bool.or_false, reduceIte, Option.toList_some, Option.toList_none, List.nil_append, List.cons_append, List.length_cons, List.length_nil, true_and, and_true, Int.cast_ofNat_Int, Int.reduceEq, Int.reduceLT, Int.reduceLE, Nat.zero_le, and_self, or_true, true_or, cdS_279]
      rfl
    simp only [Int.reduceAdd, h2, h3, h4, h5, h6, h7, if_false]
    rw [rsT_5]
    refine ⟨_, _, sp_failT m s1 1 (wS' s1), ?_⟩
    simp only [vcS0, vcS1, vcS2, vcS3, vcS4, vcS5, vcS6, vc_n0, vc_lk, vc_pop, vc_rc, vc_tsw, vc_fr, vc_ar, vc_tb, mz_nx, List.set_cons_zero, List.set_cons_succ, Nat.reduceAdd, Nat.reduceBEq, Nat.reduceEqDiff, Nat.reduceLeDiff, Nat.reduceLT, Nat.reduceMul, Int.reduceToNat, Bool.false_eq_true, Bool.or_self, Bool.or_true, Bool.true_or, Bool.or_false, reduceIte, Option.toList_some, Option.toList_none, List.nil_append, List.cons_append, List.length_cons, List.length_nil, true_and, and_true, Int.cast_ofNat_Int, Int.reduceEq, Int.reduceLT, Int.reduceLE, Nat.zero_le, and_self, or_true, true_or, cdS_279]
  · rw [if_neg he, if_neg he]
