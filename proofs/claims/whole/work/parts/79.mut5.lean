def vF1 (V : Nat → Int) (c : Nat) (k : Int) : Nat → Int := vL (vU V (333 + 6 * c + 3) (mc V c 3 + k)) 6 c k
def vF3 (V : Nat → Int) (c : Nat) : Nat → Int := if 0 < mc V c 4 ∧ mc V c 4 ≤ mc V c 3 then vL (vU (vU V (333 + 6 * c + 3) (mc V c 3 - mc V c 4)) (333 + 6 * c + 4) 0) 8 c (mc V c 4) else V
def vF4 (V : Nat → Int) (c : Nat) : Nat → Int := match fst1 (fun i => me V i 1 = 4 ∧ me V i 2 = c ∧ me V i 4 = 0) (V 429).toNat 0 with
  | none => if mc (vF3 V c) c 4 = 0 then vRl (vF3 V c) c else vF3 V c
  | some _ => V
def vPf (V : Nat → Int) (c : Nat) (k : Int) : Nat → Int := vF4 (vPt c 50 (vF1 V c k)) c
theorem sp_rPayFines (m : mz_M) (V : Nat → Int) (x k : Int) {n : Nat} (h0 : V 429 = n) (hn : n ≤ 400) (hA : ∀ i, i < n → 0 ≤ me V i 3 ∧ me V i 3 ≤ 100000) (hM : ∀ c, c < 16 → (0 ≤ mc V c 3 ∧ mc V c 3 ≤ 90000000) ∧ mUp V n c ≤ 40) (hE : ∀ c : Nat, c < 16 → x = c → ¬ 340 ≤ V 429 → ∃ n', mAm (vPf V c k) n' ∧ mMy (vPf V c k) c) : sp 223 [mz_r 9 0 153, mz_i x, mz_i k] (rM m V) (some (mz_i (if (0 ≤ x ∧ x < 16) ∧ 1 ≤ k ∧ k ≤ 99999 then (if fst1 (fun i => me V i 1 = 4 ∧ me V i 2 = x ∧ me V i 4 = 0) n 0 = none ∧ mc V x.toNat 4 = 0 then -3 else if 340 ≤ V 429 then -4 else mOw (vPf V x.toNat k) (vPf V x.toNat k 429).toNat x.toNat) else -1))) (rM (mz_up m 153 4 0) (if ((0 ≤ x ∧ x < 16) ∧ 1 ≤ k ∧ k ≤ 99999) ∧ ¬ (fst1 (fun i => me V i 1 = 4 ∧ me V i 2 = x ∧ me V i 4 = 0) n 0 = none ∧ mc V x.toNat 4 = 0) ∧ ¬ 340 ≤ V 429 then vPf V x.toNat k else V)) := by
  refine mz_cl_vc 60 (fun i => i == 24) [some (mz_r 9 0 153), some (mz_i x), some (mz_i k), none] rfl ?_
  simp only [vcS0, vcS1, vcS2, vcS3, vcS4, vcS5, vcS6, vc_n0, vc_lk, vc_pop, vc_rc, vc_tsw, vc_fr, vc_ar, vc_tb, mz_nx, List.set_cons_zero, List.set_cons_succ, Nat.reduceAdd, Nat.reduceBEq, Nat.reduceEqDiff, Nat.reduceLeDiff, Nat.reduceLT, Nat.reduceMul, Int.reduceToNat, Bool.false_eq_true, Bool.or_self, Bool.or_true, Bool.true_or, Bool.or_false, reduceIte, Option.toList_some, Option.toList_none, List.nil_append, List.cons_append, List.length_cons, List.length_nil, true_and, and_true, Int.cast_ofNat_Int, Int.reduceEq, Int.reduceLT, Int.reduceLE, Nat.zero_le, and_self, or_true, true_or, cdS_223]
  rw [rM_u3]
  refine ⟨_, _, sp_isCar _ x, ?_⟩
  by_cases h1 : 0 ≤ x ∧ x < 16
  · rw [if_pos (show 0 ≤ x ∧ x ≤ 15 by omega)]
    simp only [vcS0, vcS1, vcS2, vcS3, vcS4, vcS5, vcS6, vc_n0, vc_lk, vc_pop, vc_rc, vc_tsw, vc_fr, vc_ar, vc_tb, mz_nx, List.set_cons_zero, List.set_cons_succ, Nat.reduceAdd, Nat.reduceBEq, Nat.reduceEqDiff, Nat.reduceLeDiff, Nat.reduceLT, Nat.reduceMul, Int.reduceToNat, Bool.false_eq_true, Bool.or_self, Bool.or_true, Bool.true_or, Bool.or_false, reduceIte, Option.toList_some, Option.toList_none, List.nil_append, List.cons_append, List.length_cons, List.length_nil, true_and, and_true, Int.cast_ofNat_Int, Int.reduceEq, Int.reduceLT, Int.reduceLE, Nat.zero_le, and_self, or_true, true_or, cdS_223]
    refine ⟨_, _, sp_in _ k 1 99999, ?_⟩
    by_cases h2 : 1 ≤ k ∧ k ≤ 99999
    · have h12 := And.intro h1 h2
      rw [if_pos h2, if_pos h12]
      obtain ⟨c, rfl⟩ := nat_i h1.1
      simp only [Int.toNat_natCast]
      have hc : c < 16 := by omega
      have hMc := hM c hc
      simp only [vcS0, vcS1, vcS2, vcS3, vcS4, vcS5, vcS6, vc_n0, vc_lk, vc_pop, vc_rc, vc_tsw, vc_fr, vc_ar, vc_tb, mz_nx, List.set_cons_zero, List.set_cons_succ, Nat.reduceAdd, Nat.reduceBEq, Nat.reduceEqDiff, Nat.reduceLeDiff, Nat.reduceLT, Nat.reduceMul, Int.reduceToNat, Bool.false_eq_true, Bool.or_self, Bool.or_true, Bool.true_or, Bool.or_false, reduceIte, Option.toList_some, Option.toList_none, List.nil_append, List.cons_append, List.length_cons, List.length_nil, true_and, and_true, Int.cast_ofNat_Int, Int.reduceEq, Int.reduceLT, Int.reduceLE, Nat.zero_le, and_self, or_true, true_or, cdS_223]
      refine ⟨_, _, sp_roldest _ V c h0 hn, ?_⟩
      simp only [vcS0, vcS1, vcS2, vcS3, vcS4, vcS5, vcS6, vc_n0, vc_lk, vc_pop, vc_rc, vc_tsw, vc_fr, vc_ar, vc_tb, mz_nx, List.set_cons_zero, List.set_cons_succ, Nat.reduceAdd, Nat.reduceBEq, Nat.reduceEqDiff, Nat.reduceLeDiff, Nat.reduceLT, Nat.reduceMul, Int.reduceToNat, Bool.false_eq_true, Bool.or_self, Bool.or_true, Bool.true_or, Bool.or_false, reduceIte, Option.toList_some, Option.toList_none, List.nil_append, List.cons_append, List.length_cons, List.length_nil, true_and, and_true, Int.cast_ofNat_Int, Int.reduceEq, Int.reduceLT, Int.reduceLE, Nat.zero_le, and_self, or_true, true_or, cdS_223]
      have go : ∀ P : Prop, (hP : Decidable P) → ¬ P → sx 223 24 [some (mz_r 9 0 153), some (mz_i c), some (mz_i k), none] [] (rM (mz_up m 153 4 0) V) (some (mz_i (if P then -3 else if 340 ≤ V 429 then -4 else mOw (vPf V c k) (vPf V c k 429).toNat c))) (rM (mz_up m 153 4 0) (if (((0 : Int) ≤ c ∧ (c : Int) < 16) ∧ 1 ≤ k ∧ k ≤ 99999) ∧ ¬ P ∧ ¬ 340 ≤ V 429 then vPf V c k else V)) := by
        intro P hP hnP
        rw [if_neg hnP]
        refine mz_vc_ok 100 (ct := fun i => i == 84 || i == 92) ?_
        simp only [vcS0, vcS1, vcS2, vcS3, vcS4, vcS5, vcS6, vc_n0, vc_lk, vc_pop, vc_rc, vc_tsw, vc_fr, vc_ar, vc_tb, mz_nx, List.set_cons_zero, List.set_cons_succ, Nat.reduceAdd, Nat.reduceBEq, Nat.reduceEqDiff, Nat.reduceLeDiff, Nat.reduceLT, Nat.reduceMul, Int.reduceToNat, Bool.false_eq_true, Bool.or_self, Bool.or_true, Bool.true_or, Bool.or_false, reduceIte, Option.toList_some, Option.toList_none, List.nil_append, List.cons_append, List.length_cons, List.length_nil, true_and, and_true, Int.cast_ofNat_Int, Int.reduceEq, Int.reduceLT, Int.reduceLE, Nat.zero_le, and_self, or_true, true_or, cdS_223]
        refine ⟨_, _, sp_rfull _ V, ?_⟩
        by_cases h5 : 340 ≤ V 429
        · rw [if_pos h5, if_pos h5, if_neg (fun q => q.2.2 h5)]
          simp only [vcS0, vcS1, vcS2, vcS3, vcS4, vcS5, vcS6, vc_n0, vc_lk, vc_pop, vc_rc, vc_tsw, vc_fr, vc_ar, vc_tb, mz_nx, List.set_cons_zero, List.set_cons_succ, Nat.reduceAdd, Nat.reduceBEq, Nat.reduceEqDiff, Nat.reduceLeDiff, Nat.reduceLT, Nat.reduceMul, Int.reduceToNat, Bool.false_eq_true, Bool.or_self, Bool.or_true, Bool.true_or, Bool.or_false, reduceIte, Option.toList_some, Option.toList_none, List.nil_append, List.cons_append, List.length_cons, List.length_nil, true_and, and_true, Int.cast_ofNat_Int, Int.reduceEq, Int.reduceLT, Int.reduceLE, Nat.zero_le, and_self, or_true, true_or, cdS_223]
        · rw [if_neg h5, if_neg h5, if_pos (show (((0 : Int) ≤ c ∧ (c : Int) < 16) ∧ 1 ≤ k ∧ k ≤ 99999) ∧ ¬ P ∧ ¬ 340 ≤ V 429 from ⟨h12, hnP, h5⟩)]
          simp only [vcS0, vcS1, vcS2, vcS3, vcS4, vcS5, vcS6, vc_n0, vc_lk, vc_pop, vc_rc, vc_tsw, vc_fr, vc_ar, vc_tb, mz_nx, List.set_cons_zero, List.set_cons_succ, Nat.reduceAdd, Nat.reduceBEq, Nat.reduceEqDiff, Nat.reduceLeDiff, Nat.reduceLT, Nat.reduceMul, Int.reduceToNat, Bool.false_eq_true, Bool.or_self, Bool.or_true, Bool.true_or, Bool.or_false, reduceIte, Option.toList_some, Option.toList_none, List.nil_append, List.cons_append, List.length_cons, List.length_nil, true_and, and_true, Int.cast_ofNat_Int, Int.reduceEq, Int.reduceLT, Int.reduceLE, Nat.zero_le, and_self, or_true, true_or, cdS_223]
          obtain ⟨n', hE1, hE2⟩ := hE c hc rfl h5
          have fin : ∀ y, sx 223 92 [some (mz_r 9 0 153), some (mz_i c), some (mz_i k), y] [] (rM (mz_up m 153 4 0) (vPf V c k)) (some (mz_i (mOw (vPf V c k) (vPf V c k 429).toNat c))) (rM (mz_up m 153 4 0) (vPf V c k)) := by
            intro y
            refine mz_vc_ok 100 (ct := fun _ => false) ?_
            simp only [vcS0, vcS1, vcS2, vcS3, vcS4, vcS5, vcS6, vc_n0, vc_lk, vc_pop, vc_rc, vc_tsw, vc_fr, vc_ar, vc_tb, mz_nx, List.set_cons_zero, List.set_cons_succ, Nat.reduceAdd, Nat.reduceBEq, Nat.reduceEqDiff, Nat.reduceLeDiff, Nat.reduceLT, Nat.reduceMul, Int.reduceToNat, Bool.false_eq_true, Bool.or_self, Bool.or_true, Bool.true_or, Bool.or_false, reduceIte, Option.toList_some, Option.toList_none, List.nil_append, List.cons_append, List.length_cons, List.length_nil, true_and, and_true, Int.cast_ofNat_Int, Int.reduceEq, Int.reduceLT, Int.reduceLE, Nat.zero_le, and_self, or_true, true_or, cdS_223]
            have ho := sp_owes (rM (mz_up m 153 4 0) (vPf V c k)) hc (n := n') (by rw [rM_154]; exact hE1) (by rw [rM_154]; exact hE2)
            rw [rM_154] at ho
            refine ⟨_, _, ho, ?_⟩
            simp only [vcS0, vcS1, vcS2, vcS3, vcS4, vcS5, vcS6, vc_n0, vc_lk, vc_pop, vc_rc, vc_tsw, vc_fr, vc_ar, vc_tb, mz_nx, List.set_cons_zero, List.set_cons_succ, Nat.reduceAdd, Nat.reduceBEq, Nat.reduceEqDiff, Nat.reduceLeDiff, Nat.reduceLT, Nat.reduceMul, Int.reduceToNat, Bool.false_eq_true, Bool.or_self, Bool.or_true, Bool.true_or, Bool.or_false, reduceIte, Option.toList_some, Option.toList_none, List.nil_append, List.cons_append, List.length_cons, List.length_nil, true_and, and_true, Int.cast_ofNat_Int, Int.reduceEq, Int.reduceLT, Int.reduceLE, Nat.zero_le, and_self, or_true, true_or, cdS_223]
            rw [hE1.1, Int.toNat_natCast]
          unfold vPf at fin hE1 hE2 ⊢
          refine ⟨_, _, (sp_rof _ V hc).2.2.2.1, ?_⟩
          simp only [vcS0, vcS1, vcS2, vcS3, vcS4, vcS5, vcS6, vc_n0, vc_lk, vc_pop, vc_rc, vc_tsw, vc_fr, vc_ar, vc_tb, mz_nx, List.set_cons_zero, List.set_cons_succ, Nat.reduceAdd, Nat.reduceBEq, Nat.reduceEqDiff, Nat.reduceLeDiff, Nat.reduceLT, Nat.reduceMul, Int.reduceToNat, Bool.false_eq_true, Bool.or_self, Bool.or_true, Bool.true_or, Bool.or_false, reduceIte, Option.toList_some, Option.toList_none, List.nil_append, List.cons_append, List.length_cons, List.length_nil, true_and, and_true, Int.cast_ofNat_Int, Int.reduceEq, Int.reduceLT, Int.reduceLE, Nat.zero_le, and_self, or_true, true_or, cdS_223]
          refine ⟨(by unfold mz_w; omega), _, _, (sp_rset _ V (mc V c 3 + k) hc).2.2.2.1, ?_⟩
          simp only [vcS0, vcS1, vcS2, vcS3, vcS4, vcS5, vcS6, vc_n0, vc_lk, vc_pop, vc_rc, vc_tsw, vc_fr, vc_ar, vc_tb, mz_nx, List.set_cons_zero, List.set_cons_succ, Nat.reduceAdd, Nat.reduceBEq, Nat.reduceEqDiff, Nat.reduceLeDiff, Nat.reduceLT, Nat.reduceMul, Int.reduceToNat, Bool.false_eq_true, Bool.or_self, Bool.or_true, Bool.true_or, Bool.or_false, reduceIte, Option.toList_some, Option.toList_none, List.nil_append, List.cons_append, List.length_cons, List.length_nil, true_and, and_true, Int.cast_ofNat_Int, Int.reduceEq, Int.reduceLT, Int.reduceLE, Nat.zero_le, and_self, or_true, true_or, cdS_223]
          refine ⟨_, _, sp_rlogs _ _ (n := n) 6 c k (by rw [vU_n (by omega)]; exact h0) (by omega), ?_⟩
          simp only [vcS0, vcS1, vcS2, vcS3, vcS4, vcS5, vcS6, vc_n0, vc_lk, vc_pop, vc_rc, vc_tsw, vc_fr, vc_ar, vc_tb, mz_nx, List.set_cons_zero, List.set_cons_succ, Nat.reduceAdd, Nat.reduceBEq, Nat.reduceEqDiff, Nat.reduceLeDiff, Nat.reduceLT, Nat.reduceMul, Int.reduceToNat, Bool.false_eq_true, Bool.or_self, Bool.or_true, Bool.true_or, Bool.or_false, reduceIte, Option.toList_some, Option.toList_none, List.nil_append, List.cons_append, List.length_cons, List.length_nil, true_and, and_true, Int.cast_ofNat_Int, Int.reduceEq, Int.reduceLT, Int.reduceLE, Nat.zero_le, and_self, or_true, true_or, cdS_223]
          rw [show vL (vU V (333 + 6 * c + 3) (mc V c 3 + k)) 6 c k = vF1 V c k from rfl]
          have z0 : vU V (333 + 6 * c + 3) (mc V c 3 + k) 429 = n := by rw [vU_n (by omega)]; exact h0
          have f1 : pfO (vF1 V c k) (n + 1) c := by
            refine ⟨by unfold vF1; rw [vL_z, z0]; omega, fun i hi => ?_, ?_⟩
            · unfold vF1
              rcases Nat.lt_or_ge i n with q | q
              · rw [vL_e z0 q (by omega)]
                unfold me
                rw [vU_n (by omega)]
                exact hA i q
              · obtain rfl : i = n := by omega
                rw [(vL_0 z0).2.2.2.1]; omega
            · unfold vF1
              rw [show mc (vL (vU V (333 + 6 * c + 3) (mc V c 3 + k)) 6 c k) c 3 = _ from vL_lo (by omega), vU_s]
              omega
          have f2 : mUp (vF1 V c k) (n + 1) c ≤ 50 := by
            have e1 : mUp (vF1 V c k) n c = mUp V n c := sm_congr fun i hi => by
              unfold vF1
              rw [vL_e z0 hi (by omega), vL_e z0 hi (by omega), vL_e z0 hi (by omega)]
              unfold me
              rw [vU_n (by omega), vU_n (by omega), vU_n (by omega)]
            have e2 : mUp (vF1 V c k) (n + 1) c ≤ mUp (vF1 V c k) n c + 1 := by
              unfold mUp
              rw [sm]
              split <;> omega
            omega
          refine ⟨_, _, sp_rPaysT _ (vF1 V c k) 50 hc f1 f2 (by omega), ?_⟩
          simp only [vcS0, vcS1, vcS2, vcS3, vcS4, vcS5, vcS6, vc_n0, vc_lk, vc_pop, vc_rc, vc_tsw, vc_fr, vc_ar, vc_tb, mz_nx, List.set_cons_zero, List.set_cons_succ, Nat.reduceAdd, Nat.reduceBEq, Nat.reduceEqDiff, Nat.reduceLeDiff, Nat.reduceLT, Nat.reduceMul, Int.reduceToNat, Bool.false_eq_true, Bool.or_self, Bool.or_true, Bool.true_or, Bool.or_false, reduceIte, Option.toList_some, Option.toList_none, List.nil_append, List.cons_append, List.length_cons, List.length_nil, true_and, and_true, Int.cast_ofNat_Int, Int.reduceEq, Int.reduceLT, Int.reduceLE, Nat.zero_le, and_self, or_true, true_or, cdS_223]
          obtain ⟨n2, g1, g2, g3⟩ := vPt_inv hc 50 (n + 1) (vF1 V c k) f1
          have g4 : mc (vPt c 50 (vF1 V c k)) c 4 = mc V c 4 := by
            unfold mc
            rw [g3 _ (by omega) (by omega)]
            unfold vF1
            rw [vL_lo (by omega), vU_n (by omega)]
          generalize vPt c 50 (vF1 V c k) = W at fin g1 g4 hE1 hE2 ⊢
          refine ⟨_, _, sp_roldest _ W c g1.1 (by omega), ?_⟩
          simp only [vcS0, vcS1, vcS2, vcS3, vcS4, vcS5, vcS6, vc_n0, vc_lk, vc_pop, vc_rc, vc_tsw, vc_fr, vc_ar, vc_tb, mz_nx, List.set_cons_zero, List.set_cons_succ, Nat.reduceAdd, Nat.reduceBEq, Nat.reduceEqDiff, Nat.reduceLeDiff, Nat.reduceLT, Nat.reduceMul, Int.reduceToNat, Bool.false_eq_true, Bool.or_self, Bool.or_true, Bool.true_or, Bool.or_false, reduceIte, Option.toList_some, Option.toList_none, List.nil_append, List.cons_append, List.length_cons, List.length_nil, true_and, and_true, Int.cast_ofNat_Int, Int.reduceEq, Int.reduceLT, Int.reduceLE, Nat.zero_le, and_self, or_true, true_or, cdS_223]
          unfold vF4 at fin hE1 hE2 ⊢
          rw [g1.1, Int.toNat_natCast] at fin hE1 hE2 ⊢
          cases hk : fst1 (fun i => me W i 1 = 4 ∧ me W i 2 = c ∧ me W i 4 = 0) n2 0 with
          | some e =>
            rw [hk] at fin
            rw [if_neg (show ¬ (opI (-1) (some e) < 0) by simp only [opI]; omega)]
            exact fin _
          | none =>
            rw [hk] at fin
            rw [if_pos (show opI (-1) none < 0 by simp only [opI]; omega)]
            have h84 : ∀ y, sx 223 84 [some (mz_r 9 0 153), some (mz_i c), some (mz_i k), y] [] (rM (mz_up m 153 4 0) (vF3 W c)) (some (mz_i (mOw (if mc (vF3 W c) c 4 = 0 then vRl (vF3 W c) c else vF3 W c) ((if mc (vF3 W c) c 4 = 0 then vRl (vF3 W c) c else vF3 W c) 429).toNat c))) (rM (mz_up m 153 4 0) (if mc (vF3 W c) c 4 = 0 then vRl (vF3 W c) c else vF3 W c)) := by
              intro y
              have hz3 : ∃ n3 : Nat, vF3 W c 429 = n3 ∧ n3 < 400 := by
                unfold vF3
                split
                · exact ⟨n2 + 1, by rw [vL_z, vU_n (by omega), vU_n (by omega), g1.1]; omega, by omega⟩
                · exact ⟨n2, g1.1, by omega⟩
              obtain ⟨n3, z3, z4⟩ := hz3
              generalize vF3 W c = X at fin z3 ⊢
              refine mz_vc_ok 100 (ct := fun i => i == 92) ?_
              simp only [vcS0, vcS1, vcS2, vcS3, vcS4, vcS5, vcS6, vc_n0, vc_lk, vc_pop, vc_rc, vc_tsw, vc_fr, vc_ar, vc_tb, mz_nx, List.set_cons_zero, List.set_cons_succ, Nat.reduceAdd, Nat.reduceBEq, Nat.reduceEqDiff, Nat.reduceLeDiff, Nat.reduceLT, Nat.reduceMul, Int.reduceToNat, Bool.false_eq_true, Bool.or_self, Bool.or_true, Bool.true_or, Bool.or_false, reduceIte, Option.toList_some, Option.toList_none, List.nil_append, List.cons_append, List.length_cons, List.length_nil, true_and, and_true, Int.cast_ofNat_Int, Int.reduceEq, Int.reduceLT, Int.reduceLE, Nat.zero_le, and_self, or_true, true_or, cdS_223]
              refine ⟨_, _, (sp_rof _ X hc).2.2.2.2.1, ?_⟩
              simp only [vcS0, vcS1, vcS2, vcS3, vcS4, vcS5, vcS6, vc_n0, vc_lk, vc_pop, vc_rc, vc_tsw, vc_fr, vc_ar, vc_tb, mz_nx, List.set_cons_zero, List.set_cons_succ, Nat.reduceAdd, Nat.reduceBEq, Nat.reduceEqDiff, Nat.reduceLeDiff, Nat.reduceLT, Nat.reduceMul, Int.reduceToNat, Bool.false_eq_true, Bool.or_self, Bool.or_true, Bool.true_or, Bool.or_false, reduceIte, Option.toList_some, Option.toList_none, List.nil_append, List.cons_append, List.length_cons, List.length_nil, true_and, and_true, Int.cast_ofNat_Int, Int.reduceEq, Int.reduceLT, Int.reduceLE, Nat.zero_le, and_self, or_true, true_or, cdS_223]
              by_cases h7 : mc X c 4 = 0
              · rw [if_pos h7] at fin ⊢
                rw [if_pos h7]
                refine ⟨_, _, sp_rRel _ X hc z3 z4, ?_⟩
                simp only [vcS0, vcS1, vcS2, vcS3, vcS4, vcS5, vcS6, vc_n0, vc_lk, vc_pop, vc_rc, vc_tsw, vc_fr, vc_ar, vc_tb, mz_nx, List.set_cons_zero, List.set_cons_succ, Nat.reduceAdd, Nat.reduceBEq, Nat.reduceEqDiff, Nat.reduceLeDiff, Nat.reduceLT, Nat.reduceMul, Int.reduceToNat, Bool.false_eq_true, Bool.or_self, Bool.or_true, Bool.true_or, Bool.or_false, reduceIte, Option.toList_some, Option.toList_none, List.nil_append, List.cons_append, List.length_cons, List.length_nil, true_and, and_true, Int.cast_ofNat_Int, Int.reduceEq, Int.reduceLT, Int.reduceLE, Nat.zero_le, and_self, or_true, true_or, cdS_223]
                exact fin _
              · rw [if_neg h7] at fin ⊢
                rw [if_neg h7]
                exact fin _
            unfold vF3 at h84 ⊢
            refine ⟨_, _, (sp_rof _ W hc).2.2.2.2.1, ?_⟩
            simp only [vcS0, vcS1, vcS2, vcS3, vcS4, vcS5, vcS6, vc_n0, vc_lk, vc_pop, vc_rc, vc_tsw, vc_fr, vc_ar, vc_tb, mz_nx, List.set_cons_zero, List.set_cons_succ, Nat.reduceAdd, Nat.reduceBEq, Nat.reduceEqDiff, Nat.reduceLeDiff, Nat.reduceLT, Nat.reduceMul, Int.reduceToNat, Bool.false_eq_true, Bool.or_self, Bool.or_true, Bool.true_or, Bool.or_false, reduceIte, Option.toList_some, Option.toList_none, List.nil_append, List.cons_append, List.length_cons, List.length_nil, true_and, and_true, Int.cast_ofNat_Int, Int.reduceEq, Int.reduceLT, Int.reduceLE, Nat.zero_le, and_self, or_true, true_or, cdS_223]
            by_cases h8 : 0 < mc W c 4
            · rw [if_neg (by omega)]
              refine ⟨_, _, (sp_rof _ W hc).2.2.2.1, ?_⟩
              simp only [vcS0, vcS1, vcS2, vcS3, vcS4, vcS5, vcS6, vc_n0, vc_lk, vc_pop, vc_rc, vc_tsw, vc_fr, vc_ar, vc_tb, mz_nx, List.set_cons_zero, List.set_cons_succ, Nat.reduceAdd, Nat.reduceBEq, Nat.reduceEqDiff, Nat.reduceLeDiff, Nat.reduceLT, Nat.reduceMul, Int.reduceToNat, Bool.false_eq_true, Bool.or_self, Bool.or_true, Bool.true_or, Bool.or_false, reduceIte, Option.toList_some, Option.toList_none, List.nil_append, List.cons_append, List.length_cons, List.length_nil, true_and, and_true, Int.cast_ofNat_Int, Int.reduceEq, Int.reduceLT, Int.reduceLE, Nat.zero_le, and_self, or_true, true_or, cdS_223]
              by_cases h9 : mc W c 4 ≤ mc W c 3
              · have h89 := And.intro h8 h9
                rw [if_neg (by omega)]
                rw [if_pos h89] at h84 ⊢
                refine ⟨_, _, (sp_rof _ W hc).2.2.2.1, ?_⟩
                simp only [vcS0, vcS1, vcS2, vcS3, vcS4, vcS5, vcS6, vc_n0, vc_lk, vc_pop, vc_rc, vc_tsw, vc_fr, vc_ar, vc_tb, mz_nx, List.set_cons_zero, List.set_cons_succ, Nat.reduceAdd, Nat.reduceBEq, Nat.reduceEqDiff, Nat.reduceLeDiff, Nat.reduceLT, Nat.reduceMul, Int.reduceToNat, Bool.false_eq_true, Bool.or_self, Bool.or_true, Bool.true_or, Bool.or_false, reduceIte, Option.toList_some, Option.toList_none, List.nil_append, List.cons_append, List.length_cons, List.length_nil, true_and, and_true, Int.cast_ofNat_Int, Int.reduceEq, Int.reduceLT, Int.reduceLE, Nat.zero_le, and_self, or_true, true_or, cdS_223]
                have := g1.2.2
                refine ⟨(by unfold mz_w; omega), _, _, (sp_rset _ W (mc W c 3 - mc W c 4) hc).2.2.2.1, ?_⟩
                simp only [vcS0, vcS1, vcS2, vcS3, vcS4, vcS5, vcS6, vc_n0, vc_lk, vc_pop, vc_rc, vc_tsw, vc_fr, vc_ar, vc_tb, mz_nx, List.set_cons_zero, List.set_cons_succ, Nat.reduceAdd, Nat.reduceBEq, Nat.reduceEqDiff, Nat.reduceLeDiff, Nat.reduceLT, Nat.reduceMul, Int.reduceToNat, Bool.false_eq_true, Bool.or_self, Bool.or_true, Bool.true_or, Bool.or_false, reduceIte, Option.toList_some, Option.toList_none, List.nil_append, List.cons_append, List.length_cons, List.length_nil, true_and, and_true, Int.cast_ofNat_Int, Int.reduceEq, Int.reduceLT, Int.reduceLE, Nat.zero_le, and_self, or_true, true_or, cdS_223]
                refine ⟨_, _, (sp_rset _ _ 0 hc).2.2.2.2.1, ?_⟩
                simp only [vcS0, vcS1, vcS2, vcS3, vcS4, vcS5, vcS6, vc_n0, vc_lk, vc_pop, vc_rc, vc_tsw, vc_fr, vc_ar, vc_tb, mz_nx, List.set_cons_zero, List.set_cons_succ, Nat.reduceAdd, Nat.reduceBEq, Nat.reduceEqDiff, Nat.reduceLeDiff, Nat.reduceLT, Nat.reduceMul, Int.reduceToNat, Bool.false_eq_true, Bool.or_self, Bool.or_true, Bool.true_or, Bool.or_false, reduceIte, Option.toList_some, Option.toList_none, List.nil_append, List.cons_append, List.length_cons, List.length_nil, true_and, and_true, Int.cast_ofNat_Int, Int.reduceEq, Int.reduceLT, Int.reduceLE, Nat.zero_le, and_self, or_true, true_or, cdS_223]
                refine ⟨_, _, sp_rlogs _ _ (n := n2) 8 c (mc W c 4) (by rw [vU_n (by omega), vU_n (by omega)]; exact g1.1) (by omega), ?_⟩
                simp only [vcS0, vcS1, vcS2, vcS3, vcS4, vcS5, vcS6, vc_n0, vc_lk, vc_pop, vc_rc, vc_tsw, vc_fr, vc_ar, vc_tb, mz_nx, List.set_cons_zero, List.set_cons_succ, Nat.reduceAdd, Nat.reduceBEq, Nat.reduceEqDiff, Nat.reduceLeDiff, Nat.reduceLT, Nat.reduceMul, Int.reduceToNat, Bool.false_eq_true, Bool.or_self, Bool.or_true, Bool.true_or, Bool.or_false, reduceIte, Option.toList_some, Option.toList_none, List.nil_append, List.cons_append, List.length_cons, List.length_nil, true_and, and_true, Int.cast_ofNat_Int, Int.reduceEq, Int.reduceLT, Int.reduceLE, Nat.zero_le, and_self, or_true, true_or, cdS_223]
                exact h84 _
              · have h89 : ¬ (0 < mc W c 4 ∧ mc W c 4 ≤ mc W c 3) := fun q => h9 q.2
                rw [if_pos (by omega)]
                rw [if_neg h89] at h84 ⊢
                exact h84 _
            · have h89 : ¬ (0 < mc W c 4 ∧ mc W c 4 ≤ mc W c 3) := fun q => h8 q.1
              rw [if_pos (by omega)]
              rw [if_neg h89] at h84 ⊢
              exact h84 _
      cases hk : fst1 (fun i => me V i 1 = 4 ∧ me V i 2 = c ∧ me V i 4 = 0) n 0 with
      | some e =>
        rw [if_neg (show ¬ (opI (-1) (some e) < 0) by simp only [opI]; omega)]
        exact go _ _ (fun q => by cases q.1)
      | none =>
        rw [if_pos (show opI (-1) none < 0 by simp only [opI]; omega)]
        refine ⟨_, _, (sp_rof _ V hc).2.2.2.2.1, ?_⟩
        simp only [vcS0, vcS1, vcS2, vcS3, vcS4, vcS5, vcS6, vc_n0, vc_lk, vc_pop, vc_rc, vc_tsw, vc_fr, vc_ar, vc_tb, mz_nx, List.set_cons_zero, List.set_cons_succ, Nat.reduceAdd, Nat.reduceBEq, Nat.reduceEqDiff, Nat.reduceLeDiff, Nat.reduceLT, Nat.reduceMul, Int.reduceToNat, Bool.false_eq_true, Bool.or_self, Bool.or_true, Bool.true_or, Bool.or_false, reduceIte, Option.toList_some, Option.toList_none, List.nil_append, List.cons_append, List.length_cons, List.length_nil, true_and, and_true, Int.cast_ofNat_Int, Int.reduceEq, Int.reduceLT, Int.reduceLE, Nat.zero_le, and_self, or_true, true_or, cdS_223]
        by_cases h6 : mc V c 4 = 0
        · rw [if_pos h6, if_pos h6, if_neg (fun q => q.2.1 h6)]
          all_goals ((repeat' refine And.intro ?_ ?_) <;> first | trivial | rfl | (unfold mz_w; omega) | omega)
        · rw [if_neg h6]
          exact go _ _ h6
    · rw [if_neg h2, if_neg (fun q => h2 q.2), if_neg (fun q => h2 q.1.2)]
      simp only [vcS0, vcS1, vcS2, vcS3, vcS4, vcS5, vcS6, vc_n0, vc_lk, vc_pop, vc_rc, vc_tsw, vc_fr, vc_ar, vc_tb, mz_nx, List.set_cons_zero, List.set_cons_succ, Nat.reduceAdd, Nat.reduceBEq, Nat.reduceEqDiff, Nat.reduceLeDiff, Nat.reduceLT, Nat.reduceMul, Int.reduceToNat, Bool.false_eq_true, Bool.or_self, Bool.or_true, Bool.true_or, Bool.or_false, reduceIte, Option.toList_some, Option.toList_none, List.nil_append, List.cons_append, List.length_cons, List.length_nil, true_and, and_true, Int.cast_ofNat_Int, Int.reduceEq, Int.reduceLT, Int.reduceLE, Nat.zero_le, and_self, or_true, true_or, cdS_223]
  · rw [if_neg (show ¬ (0 ≤ x ∧ x ≤ 15) by omega), if_neg (fun q => h1 q.1), if_neg (fun q => h1 q.1.1)]
    simp only [vcS0, vcS1, vcS2, vcS3, vcS4, vcS5, vcS6, vc_n0, vc_lk, vc_pop, vc_rc, vc_tsw, vc_fr, vc_ar, vc_tb, mz_nx, List.set_cons_zero, List.set_cons_succ, Nat.reduceAdd, Nat.reduceBEq, Nat.reduceEqDiff, Nat.reduceLeDiff, Nat.reduceLT, Nat.reduceMul, Int.reduceToNat, Bool.false_eq_true, Bool.or_self, Bool.or_true, Bool.true_or, Bool.or_false, reduceIte, Option.toList_some, Option.toList_none, List.nil_append, List.cons_append, List.length_cons, List.length_nil, true_and, and_true, Int.cast_ofNat_Int, Int.reduceEq, Int.reduceLT, Int.reduceLE, Nat.zero_le, and_self, or_true, true_or, cdS_223]
