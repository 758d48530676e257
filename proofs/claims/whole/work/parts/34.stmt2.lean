theorem setR_T {m : mz_M} {r o f t : Nat} {c : Int} {s : rS} (h : o ≠ r) : setR (rsT m r s) o f t c = rsT (setR m o f t c) r s := by
  funext a j
  unfold rsT setR rs
  grind
def rtF (B : Nat → Int) (L : Nat) (s : rS) : Int × rS := nmS B L 0 23 (styA B L s).2
def rtT (B : Nat → Int) (L : Nat) (s : rS) : Int × rS := nmS B L ((rtF B L s).1 + 1) 24 (rtF B L s).2
def rtC (B : Nat → Int) (L : Nat) (s : rS) : Int × rS := nmS B L 0 999 (rtT B L s).2
theorem sp_rateT (m : mz_M) {r L : Nat} (s : rS) (h : byO m r L) (hp : s.1 ≤ L) : sp 193 [mz_r 5 0 r] (rsT m r s) none
    (rsT (if eS (rtC (m (r + 16)) L s).2 = 0 then setR m (r + 9 + 2 * (styA (m (r + 16)) L s).1.toNat) (rtF (m (r + 16)) L s).1.toNat (rtT (m (r + 16)) L s).1.toNat (rtC (m (r + 16)) L s).1 else m) r (rtC (m (r + 16)) L s).2) := by
  unfold rtC rtT rtF styA
  have hA := nmS_ok (B := m (r + 16)) (lo := 0) (hi := 3) hp
  have hpA := sp_numT m s 0 3 h
  generalize nmS (m (r + 16)) L 0 3 s = A at hA hpA ⊢
  have hF := nmS_ok (B := m (r + 16)) (lo := 0) (hi := 23) hA.1
  have hpF := sp_numT m A.2 0 23 h
  generalize nmS (m (r + 16)) L 0 23 A.2 = F at hF hpF ⊢
  have hT := nmS_ok (B := m (r + 16)) (lo := F.1 + 1) (hi := 24) hF.1
  have hpT := sp_numT m F.2 (F.1 + 1) 24 h
  generalize nmS (m (r + 16)) L (F.1 + 1) 24 F.2 = T at hT hpT ⊢
  have hC := nmS_ok (B := m (r + 16)) (lo := 0) (hi := 999) hT.1
  have hpC := sp_numT m T.2 0 999 h
  generalize nmS (m (r + 16)) L 0 999 T.2 = C at hC hpC ⊢
  have hF1 := hF.2.2.1
  refine mz_cl_vc 80 (fun _ => false) [some (mz_r 5 0 r), none, none, none, none] rfl ?_
  simp only [vcS0, vcS1, vcS2, vcS3, vcS4, vcS5, vcS6, vc_n0, vc_lk, vc_pop, vc_rc, vc_tsw, vc_fr, vc_ar, vc_tb, mz_nx, List.set_cons_zero, List.set_cons_succ, Nat.reduceAdd, Nat.reduceBEq, Nat.reduceEqDiff, Nat.reduceLeDiff, Nat.reduceLT, Nat.reduceMul, Int.reduceToNat, Bool.false_eq_true, Bool.or_self, Bool.or_true, Bool.true_or, Bool.or_false, reduceIte, Option.toList_some, Option.toList_none, List.nil_append, List.cons_append, List.length_cons, List.length_nil, true_and, and_true, Int.cast_ofNat_Int, Int.reduceEq, Int.reduceLT, Int.reduceLE, Nat.zero_le, and_self, or_true, true_or, cdS_193]
  refine ⟨_, _, hpA, ?_⟩
  simp only [vcS0, vcS1, vcS2, vcS3, vcS4, vcS5, vcS6, vc_n0, vc_lk, vc_pop, vc_rc, vc_tsw, vc_fr, vc_ar, vc_tb, mz_nx, List.set_cons_zero, List.set_cons_succ, Nat.reduceAdd, Nat.reduceBEq, Nat.reduceEqDiff, Nat.reduceLeDiff, Nat.reduceLT, Nat.reduceMul, Int.reduceToNat, Bool.false_eq_true, Bool.or_self, Bool.or_true, Bool.true_or, Bool.or_false, reduceIte, Option.toList_some, Option.toList_none, List.nil_append, List.cons_append, List.length_cons, List.length_nil, true_and, and_true, Int.cast_ofNat_Int, Int.reduceEq, Int.reduceLT, Int.reduceLE, Nat.zero_le, and_self, or_true, true_or, cdS_193]
  refine ⟨_, _, sp_zoneOrNull _ (r + 1) _, ?_⟩
  by_cases hz : 0 ≤ A.1 ∧ A.1 ≤ 3
  · rw [zoR_ok hz]
    simp only [vcS0, vcS1, vcS2, vcS3, vcS4, vcS5, vcS6, vc_n0, vc_lk, vc_pop, vc_rc, vc_tsw, vc_fr, vc_ar, vc_tb, mz_nx, List.set_cons_zero, List.set_cons_succ, Nat.reduceAdd, Nat.reduceBEq, Nat.reduceEqDiff, Nat.reduceLeDiff, Nat.reduceLT, Nat.reduceMul, Int.reduceToNat, Bool.false_eq_true, Bool.or_self, Bool.or_true, Bool.true_or, Bool.or_false, reduceIte, Option.toList_some, Option.toList_none, List.nil_append, List.cons_append, List.length_cons, List.length_nil, true_and, and_true, Int.cast_ofNat_Int, Int.reduceEq, Int.reduceLT, Int.reduceLE, Nat.zero_le, and_self, or_true, true_or, cdS_193]
    refine ⟨_, _, hpF, ?_⟩
    simp only [vcS0, vcS1, vcS2, vcS3, vcS4, vcS5, vcS6, vc_n0, vc_lk, vc_pop, vc_rc, vc_tsw, vc_fr, vc_ar, vc_tb, mz_nx, List.set_cons_zero, List.set_cons_succ, Nat.reduceAdd, Nat.reduceBEq, Nat.reduceEqDiff, Nat.reduceLeDiff, Nat.reduceLT, Nat.reduceMul, Int.reduceToNat, Bool.false_eq_true, Bool.or_self, Bool.or_true, Bool.true_or, Bool.or_false, reduceIte, Option.toList_some, Option.toList_none, List.nil_append, List.cons_append, List.length_cons, List.length_nil, true_and, and_true, Int.cast_ofNat_Int, Int.reduceEq, Int.reduceLT, Int.reduceLE, Nat.zero_le, and_self, or_true, true_or, cdS_193]
    refine ⟨(by unfold mz_w; omega), ?_⟩
    refine ⟨_, _, hpT, ?_⟩
    simp only [vcS0, vcS1, vcS2, vcS3, vcS4, vcS5, vcS6, vc_n0, vc_lk, vc_pop, vc_rc, vc_tsw, vc_fr, vc_ar, vc_tb, mz_nx, List.set_cons_zero, List.set_cons_succ, Nat.reduceAdd, Nat.reduceBEq, Nat.reduceEqDiff, Nat.reduceLeDiff, Nat.reduceLT, Nat.reduceMul, Int.reduceToNat, Bool.false_eq_true, Bool.or_self, Bool.or_true, Bool.true_or, Bool.or_false, reduceIte, Option.toList_some, Option.toList_none, List.nil_append, List.cons_append, List.length_cons, List.length_nil, true_and, and_true, Int.cast_ofNat_Int, Int.reduceEq, Int.reduceLT, Int.reduceLE, Nat.zero_le, and_self, or_true, true_or, cdS_193]
    refine ⟨_, _, hpC, ?_⟩
    simp only [vcS0, vcS1, vcS2, vcS3, vcS4, vcS5, vcS6, vc_n0, vc_lk, vc_pop, vc_rc, vc_tsw, vc_fr, vc_ar, vc_tb, mz_nx, List.set_cons_zero, List.set_cons_succ, Nat.reduceAdd, Nat.reduceBEq, Nat.reduceEqDiff, Nat.reduceLeDiff, Nat.reduceLT, Nat.reduceMul, Int.reduceToNat, Bool.false_eq_true, Bool.or_self, Bool.or_true, Bool.true_or, Bool.or_false, reduceIte, Option.toList_some, Option.toList_none, List.nil_append, List.cons_append, List.length_cons, List.length_nil, true_and, and_true, Int.cast_ofNat_Int, Int.reduceEq, Int.reduceLT, Int.reduceLE, Nat.zero_le, and_self, or_true, true_or, cdS_193]
    rw [rsT_6]
    by_cases he : eS C.2 = 0
    · have g1 := hC.2.1 he
      have g2 := hT.2.1 g1.1
      have g3 := hF.2.1 g2.1
      obtain ⟨f, hf⟩ := nat_i g3.2.1
      obtain ⟨t, ht⟩ := nat_i (show 0 ≤ T.1 by omega)
      rw [if_pos he, if_pos he, hf, ht, Int.toNat_natCast, Int.toNat_natCast]
      refine ⟨_, _, sp_setRates _ (z := r + 1 + 7 + 2 * A.1.toNat) (f := f) (t := t) _ (by omega), ?_⟩
      simp only [vcS0, vcS1, vcS2, vcS3, vcS4, vcS5, vcS6, vc_n0, vc_lk, vc_pop, vc_rc, vc_tsw, vc_fr, vc_ar, vc_tb, mz_nx, List.set_cons_zero, List.set_cons_succ, Nat.reduceAdd, Nat.reduceBEq, Nat.reduceEqDiff, Nat.reduceLeDiff, Nat.reduceLT, Nat.reduceMul, Int.reduceToNat, Bool.false_eq_true, Bool.or_self, Bool.or_true, Bool.true_or, Bool.or_false, reduceIte, Option.toList_some, Option.toList_none, List.nil_append, List.cons_append, List.length_cons, List.length_nil, true_and, and_true, Int.cast_ofNat_Int, Int.reduceEq, Int.reduceLT, Int.reduceLE, Nat.zero_le, and_self, or_true, true_or, cdS_193]
      rw [setR_T (by omega), show r + 1 + 7 + 2 * A.1.toNat + 1 = r + 9 + 2 * A.1.toNat by omega]
    · rw [if_neg he, if_neg he]
  · have hn : zoR (r + 1) A.1 = .inr none := by unfold zoR; rw [if_neg (by omega)]
    rw [hn]
    simp only [vcS0, vcS1, vcS2, vcS3, vcS4, vcS5, vcS6, vc_n0, vc_lk, vc_pop, vc_rc, vc_tsw, vc_fr, vc_ar, vc_tb, mz_nx, List.set_cons_zero, List.set_cons_succ, Nat.reduceAdd, Nat.reduceBEq, Nat.reduceEqDiff, Nat.reduceLeDiff, Nat.reduceLT, Nat.reduceMul, Int.reduceToNat, Bool.false_eq_true, Bool.or_self, Bool.or_true, Bool.true_or, Bool.or_false, reduceIte, Option.toList_some, Option.toList_none, List.nil_append, List.cons_append, List.length_cons, List.length_nil, true_and, and_true, Int.cast_ofNat_Int, Int.reduceEq, Int.reduceLT, Int.reduceLE, Nat.zero_le, and_self, or_true, true_or, cdS_193]
    refine ⟨_, _, hpF, ?_⟩
    simp only [vcS0, vcS1, vcS2, vcS3, vcS4, vcS5, vcS6, vc_n0, vc_lk, vc_pop, vc_rc, vc_tsw, vc_fr, vc_ar, vc_tb, mz_nx, List.set_cons_zero, List.set_cons_succ, Nat.reduceAdd, Nat.reduceBEq, Nat.reduceEqDiff, Nat.reduceLeDiff, Nat.reduceLT, Nat.reduceMul, Int.reduceToNat, Bool.false_eq_true, Bool.or_self, Bool.or_true, Bool.true_or, Bool.or_false, reduceIte, Option.toList_some, Option.toList_none, List.nil_append, List.cons_append, List.length_cons, List.length_nil, true_and, and_true, Int.cast_ofNat_Int, Int.reduceEq, Int.reduceLT, Int.reduceLE, Nat.zero_le, and_self, or_true, true_or, cdS_193]
    refine ⟨(by unfold mz_w; omega), ?_⟩
    refine ⟨_, _, hpT, ?_⟩
    simp only [vcS0, vcS1, vcS2, vcS3, vcS4, vcS5, vcS6, vc_n0, vc_lk, vc_pop, vc_rc, vc_tsw, vc_fr, vc_ar, vc_tb, mz_nx, List.set_cons_zero, List.set_cons_succ, Nat.reduceAdd, Nat.reduceBEq, Nat.reduceEqDiff, Nat.reduceLeDiff, Nat.reduceLT, Nat.reduceMul, Int.reduceToNat, Bool.false_eq_true, Bool.or_self, Bool.or_true, Bool.true_or, Bool.or_false, reduceIte, Option.toList_some, Option.toList_none, List.nil_append, List.cons_append, List.length_cons, List.length_nil, true_and, and_true, Int.cast_ofNat_Int, Int.reduceEq, Int.reduceLT, Int.reduceLE, Nat.zero_le, and_self, or_true, true_or, cdS_193]
    refine ⟨_, _, hpC, ?_⟩
    simp only [vcS0, vcS1, vcS2, vcS3, vcS4, vcS5, vcS6, vc_n0, vc_lk, vc_pop, vc_rc, vc_tsw, vc_fr, vc_ar, vc_tb, mz_nx, List.set_cons_zero, List.set_cons_succ, Nat.reduceAdd, Nat.reduceBEq, Nat.reduceEqDiff, Nat.reduceLeDiff, Nat.reduceLT, Nat.reduceMul, Int.reduceToNat, Bool.false_eq_true, Bool.or_self, Bool.or_true, Bool.true_or, Bool.or_false, reduceIte, Option.toList_some, Option.toList_none, List.nil_append, List.cons_append, List.length_cons, List.length_nil, true_and, and_true, Int.cast_ofNat_Int, Int.reduceEq, Int.reduceLT, Int.reduceLE, Nat.zero_le, and_self, or_true, true_or, cdS_193]
    rw [rsT_6]
    have he : ¬ eS C.2 = 0 := fun he => hz (hA.2.1 (hF.2.1 (hT.2.1 (hC.2.1 he).1).1).1).2
    rw [if_neg he, if_neg he]
theorem poundUp_T {m : mz_M} {r p : Nat} {c : Int} {s : rS} : poundUp (rsT m r s) (r + 1) p c = rsT (poundUp m (r + 1) p c) r s := by
  unfold poundUp
  rw [rsT_o (by omega), rsT_o (by omega), rsT_o (by omega)]
  split
  · rw [rsT_up (by omega)]
  · split
    · rw [rsT_up (by omega), rsT_up (by omega), rsT_up (by omega)]
    · rw [rsT_up (by omega), rsT_up (by omega)]
def pdD (m : mz_M) (r : Nat) (A : Int × rS) : rS := if ¬ (0 ≤ A.1 ∧ A.1 < 10 ∧ 0 < m (r + 4) A.1.toNat) ∧ 2 ≤ m (r + 1) 1 then flS 3 (nS A.2) A.2 else A.2
def pdC (m : mz_M) (r L : Nat) (s : rS) : Int × rS := nmS (m (r + 16)) L 1 6 (pdD m r (rdA (m (r + 16)) L (m (r + 1) 0) s))
theorem sp_poundT (m : mz_M) {r L : Nat} (s : rS) (h : byO m r L) (hz : 1 ≤ m (r + 1) 0 ∧ m (r + 1) 0 ≤ 10) (hp : s.1 ≤ L) (hc : 0 ≤ m (r + 1) 1 ∧ m (r + 1) 1 < 1000) : sp 236 [mz_r 5 0 r] (rsT m r s) none
    (rsT (if eS (pdC m r L s).2 = 0 then poundUp m (r + 1) (rdA (m (r + 16)) L (m (r + 1) 0) s).1.toNat (pdC m r L s).1 else m) r (pdC m r L s).2) := by
  unfold pdC
  have hA := nmS_ok (B := m (r + 16)) (lo := 0) (hi := m (r + 1) 0 - 1) hp
  have hpA := sp_placeT m s h hz
  change sp _ _ _ (some (mz_i (rdA (m (r + 16)) L (m (r + 1) 0) s).1)) (rsT m r (rdA (m (r + 16)) L (m (r + 1) 0) s).2) at hpA
  rw [show nmS (m (r + 16)) L 0 (m (r + 1) 0 - 1) s = rdA (m (r + 16)) L (m (r + 1) 0) s from rfl] at hA
  generalize rdA (m (r + 16)) L (m (r + 1) 0) s = A at hA hpA ⊢
  have hD : (pdD m r A).1 ≤ L ∧ (eS (pdD m r A) = 0 → eS A.2 = 0) := by
    unfold pdD
    split
    · exact ⟨hA.1, fun h => absurd h (flS_e (by omega))⟩
    · exact ⟨hA.1, fun h => h⟩
  have tail : ∀ D : rS, D = pdD m r A → sx 236 18 [some (mz_r 5 0 r), some (mz_i A.1), none] [] (rsT m r D) none (rsT (if eS (nmS (m (r + 16)) L 1 6 (pdD m r A)).2 = 0 then poundUp m (r + 1) A.1.toNat (nmS (m (r + 16)) L 1 6 (pdD m r A)).1 else m) r (nmS (m (r + 16)) L 1 6 (pdD m r A)).2) := by
    intro D hDD
    rw [← hDD] at hD ⊢
    have hF := nmS_ok (B := m (r + 16)) (lo := 1) (hi := 6) hD.1
    refine mz_vc_ok 60 (ct := fun _ => false) ?_
    simp only [vcS0, vcS1, vcS2, vcS3, vcS4, vcS5, vcS6, vc_n0, vc_lk, vc_pop, vc_rc, vc_tsw, vc_fr, vc_ar, vc_tb, mz_nx, List.set_cons_zero, List.set_cons_succ, Nat.reduceAdd, Nat.reduceBEq, Nat.reduceEqDiff, Nat.reduceLeDiff, Nat.reduceLT, Nat.reduceMul, Int.reduceToNat, Bool.false_eq_true, Bool.or_self, Bool.or_true, Bool.true_or, Bool.or_false, reduceIte, Option.toList_some, Option.toList_none, List.nil_append, List.cons_append, List.length_cons, List.length_nil, true_and, and_true, Int.cast_ofNat_Int, Int.reduceEq, Int.reduceLT, Int.reduceLE, Nat.zero_le, and_self, or_true, true_or, cdS_236]
    refine ⟨_, _, sp_numT m D 1 6 h, ?_⟩
    simp only [vcS0, vcS1, vcS2, vcS3, vcS4, vcS5, vcS6, vc_n0, vc_lk, vc_pop, vc_rc, vc_tsw, vc_fr, vc_ar, vc_tb, mz_nx, List.set_cons_zero, List.set_cons_succ, Nat.reduceAdd, Nat.reduceBEq, Nat.reduceEqDiff, Nat.reduceLeDiff, Nat.reduceLT, Nat.reduceMul, Int.reduceToNat, Bool.false_eq_true, Bool.or_self, Bool.or_true, Bool.true_or, Bool.or_false, reduceIte, Option.toList_some, Option.toList_none, List.nil_append, List.cons_append, List.length_cons, List.length_nil, true_and, and_true, Int.cast_ofNat_Int, Int.reduceEq, Int.reduceLT, Int.reduceLE, Nat.zero_le, and_self, or_true, true_or, cdS_236]
    generalize nmS (m (r + 16)) L 1 6 D = F at hF ⊢
    rw [rsT_6]
    by_cases he : eS F.2 = 0
    · have g1 := hF.2.1 he
      have g2 := hA.2.1 (hD.2 g1.1)
      obtain ⟨p, hq⟩ := nat_i g2.2.1
      rw [if_pos he, if_pos he, hq, Int.toNat_natCast]
      refine ⟨_, _, sp_setPound _ (p := p) (by omega) (by rw [rsT_o (by omega)]; exact hc), ?_⟩
      simp only [vcS0, vcS1, vcS2, vcS3, vcS4, vcS5, vcS6, vc_n0, vc_lk, vc_pop, vc_rc, vc_tsw, vc_fr, vc_ar, vc_tb, mz_nx, List.set_cons_zero, List.set_cons_succ, Nat.reduceAdd, Nat.reduceBEq, Nat.reduceEqDiff, Nat.reduceLeDiff, Nat.reduceLT, Nat.reduceMul, Int.reduceToNat, Bool.false_eq_true, Bool.or_self, Bool.or_true, Bool.true_or, Bool.or_false, reduceIte, Option.toList_some, Option.toList_none, List.nil_append, List.cons_append, List.length_cons, List.length_nil, true_and, and_true, Int.cast_ofNat_Int, Int.reduceEq, Int.reduceLT, Int.reduceLE, Nat.zero_le, and_self, or_true, true_or, cdS_236]
      rw [poundUp_T]
    · rw [if_neg he, if_neg he]
  refine mz_cl_vc 60 (fun i => i == 18) [some (mz_r 5 0 r), none, none] rfl ?_
  simp only [vcS0, vcS1, vcS2, vcS3, vcS4, vcS5, vcS6, vc_n0, vc_lk, vc_pop, vc_rc, vc_tsw, vc_fr, vc_ar, vc_tb, mz_nx, List.set_cons_zero, List.set_cons_succ, Nat.reduceAdd, Nat.reduceBEq, Nat.reduceEqDiff, Nat.reduceLeDiff, Nat.reduceLT, Nat.reduceMul, Int.reduceToNat, Bool.false_eq_true, Bool.or_self, Bool.or_true, Bool.true_or, Bool.or_false, reduceIte, Option.toList_some, Option.toList_none, List.nil_append, List.cons_append, List.length_cons, List.length_nil, true_and, and_true, Int.cast_ofNat_Int, Int.reduceEq, Int.reduceLT, Int.reduceLE, Nat.zero_le, and_self, or_true, true_or, cdS_236]
  refine ⟨_, _, hpA, ?_⟩
  simp only [vcS0, vcS1, vcS2, vcS3, vcS4, vcS5, vcS6, vc_n0, vc_lk, vc_pop, vc_rc, vc_tsw, vc_fr, vc_ar, vc_tb, mz_nx, List.set_cons_zero, List.set_cons_succ, Nat.reduceAdd, Nat.reduceBEq, Nat.reduceEqDiff, Nat.reduceLeDiff, Nat.reduceLT, Nat.reduceMul, Int.reduceToNat, Bool.false_eq_true, Bool.or_self, Bool.or_true, Bool.true_or, Bool.or_false, reduceIte, Option.toList_some, Option.toList_none, List.nil_append, List.cons_append, List.length_cons, List.length_nil, true_and, and_true, Int.cast_ofNat_Int, Int.reduceEq, Int.reduceLT, Int.reduceLE, Nat.zero_le, and_self, or_true, true_or, cdS_236]
  have hh := sp_hasPound (rsT m r A.2) (r + 1) A.1
  rw [rsT_o (by omega), show r + 1 + 3 = r + 4 from rfl] at hh
  refine ⟨_, _, hh, ?_⟩
  by_cases h1 : 0 ≤ A.1 ∧ A.1 < 10 ∧ 0 < m (r + 4) A.1.toNat
  · rw [if_pos h1]
    simp only [vcS0, vcS1, vcS2, vcS3, vcS4, vcS5, vcS6, vc_n0, vc_lk, vc_pop, vc_rc, vc_tsw, vc_fr, vc_ar, vc_tb, mz_nx, List.set_cons_zero, List.set_cons_succ, Nat.reduceAdd, Nat.reduceBEq, Nat.reduceEqDiff, Nat.reduceLeDiff, Nat.reduceLT, Nat.reduceMul, Int.reduceToNat, Bool.false_eq_true, Bool.or_self, Bool.or_true, Bool.true_or, Bool.or_false, reduceIte, Option.toList_some, Option.toList_none, List.nil_append, List.cons_append, List.length_cons, List.length_nil, true_and, and_true, Int.cast_ofNat_Int, Int.reduceEq, Int.reduceLT, Int.reduceLE, Nat.zero_le, and_self, or_true, true_or, cdS_236]
    exact tail _ (by unfold pdD; rw [if_neg (fun h => h.1 h1)])
  · rw [if_neg h1]
    simp only [vcS0, vcS1, vcS2, vcS3, vcS4, vcS5, vcS6, vc_n0, vc_lk, vc_pop, vc_rc, vc_tsw, vc_fr, vc_ar, vc_tb, mz_nx, List.set_cons_zero, List.set_cons_succ, Nat.reduceAdd, Nat.reduceBEq, Nat.reduceEqDiff, Nat.reduceLeDiff, Nat.reduceLT, Nat.reduceMul, Int.reduceToNat, Bool.false_eq_true, Bool.or_self, Bool.or_true, Bool.true_or, Bool.or_false, reduceIte, Option.toList_some, Option.toList_none, List.nil_append, List.cons_append, List.length_cons, List.length_nil, true_and, and_true, Int.cast_ofNat_Int, Int.reduceEq, Int.reduceLT, Int.reduceLE, Nat.zero_le, and_self, or_true, true_or, cdS_236]
    rw [rsT_o (by omega), rsT_4]
    by_cases h2 : 2 ≤ m (r + 1) 1
    · rw [if_neg (by omega)]
      refine ⟨_, _, sp_failT m _ _ _, ?_⟩
      simp only [vcS0, vcS1, vcS2, vcS3, vcS4, vcS5, vcS6, vc_n0, vc_lk, vc_pop, vc_rc, vc_tsw, vc_fr, vc_ar, vc_tb, mz_nx, List.set_cons_zero, List.set_cons_succ, Nat.reduceAdd, Nat.reduceBEq, Nat.reduceEqDiff, Nat.reduceLeDiff, Nat.reduceLT, Nat.reduceMul, Int.reduceToNat, Bool.false_eq_true, Bool.or_self, Bool.or_true, Bool.true_or, Bool.or_false, reduceIte, Option.toList_some, Option.toList_none, List.nil_append, List.cons_append, List.length_cons, List.length_nil, true_and, and_true, Int.cast_ofNat_Int, Int.reduceEq, Int.reduceLT, Int.reduceLE, Nat.zero_le, and_self, or_true, true_or, cdS_236]
      exact tail _ (by unfold pdD; rw [if_pos ⟨h1, h2⟩])
    · rw [if_pos (by omega)]
      exact tail _ (by unfold pdD; rw [if_neg (fun h => h2 h.2)])
