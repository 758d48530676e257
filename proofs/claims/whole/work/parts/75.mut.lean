/-! The model: what changes its row. -/
def vU (V : Nat → Int) (j : Nat) (v : Int) : Nat → Int := fun i => if i = j then v else V i
theorem vU_s {V : Nat → Int} {j : Nat} {v : Int} : vU V j v j = v := if_pos rfl
theorem vU_n {V : Nat → Int} {j i : Nat} {v : Int} (h : i ≠ j) : vU V j v i = V i := if_neg h
def rM (m : mz_M) (V : Nat → Int) : mz_M := fun a j => if a = 154 then V j else m a j
theorem rM_154 (m : mz_M) (V : Nat → Int) : rM m V 154 = V := by funext j; exact if_pos rfl
theorem rM_o {m : mz_M} {V : Nat → Int} {a j : Nat} (h : a ≠ 154) : rM m V a j = m a j := if_neg h
theorem rM_self (m : mz_M) : rM m (m 154) = m := by
  funext a j
  unfold rM
  split
  · rename_i h; rw [h]
  · rfl
theorem rM_up (m : mz_M) (V : Nat → Int) (j : Nat) (v : Int) : mz_up (rM m V) 154 j v = rM m (vU V j v) := by funext a i; unfold mz_up rM vU; grind
theorem rM_u3 (m : mz_M) (V : Nat → Int) (j : Nat) (v : Int) : mz_up (rM m V) 153 j v = rM (mz_up m 153 j v) V := by funext a i; unfold mz_up rM; grind
theorem rM_rM (m : mz_M) (V W : Nat → Int) : rM (rM m V) W = rM m W := by funext a i; unfold rM; grind
/-- an entry more -/
def vL (V : Nat → Int) (k c x : Int) : Nat → Int := fun i =>
  if i = 429 then V 429 + 1
  else if i = 430 + 5 * (V 429).toNat then V 2
  else if i = 430 + 5 * (V 429).toNat + 1 then k
  else if i = 430 + 5 * (V 429).toNat + 2 then c
  else if i = 430 + 5 * (V 429).toNat + 3 then x
  else if i = 430 + 5 * (V 429).toNat + 4 then 0 else V i
theorem vL_lo {V : Nat → Int} {k c x : Int} {i : Nat} (h : i < 429) : vL V k c x i = V i := by unfold vL; repeat' rw [if_neg (by omega)]
theorem vL_z {V : Nat → Int} {k c x : Int} : vL V k c x 429 = V 429 + 1 := if_pos rfl
theorem vL_e {V : Nat → Int} {k c x : Int} {i w n : Nat} (h0 : V 429 = n) (h : i < n) (hw : w < 5) : me (vL V k c x) i w = me V i w := by
  simp only [me, vL, h0, Int.toNat_natCast]
  repeat' rw [if_neg (by omega)]
theorem vL_0 {V : Nat → Int} {k c x : Int} {n : Nat} (h0 : V 429 = n) : me (vL V k c x) n 0 = V 2 ∧ me (vL V k c x) n 1 = k ∧ me (vL V k c x) n 2 = c ∧ me (vL V k c x) n 3 = x ∧ me (vL V k c x) n 4 = 0 := by
  simp only [me, vL, h0, Int.toNat_natCast]
  refine ⟨?_, ?_, ?_, ?_, ?_⟩ <;> grind
theorem mlA_rM (m : mz_M) (V : Nat → Int) (k c x : Int) : mlA k c x (rM m V) = rM m (vL V k c x) := by
  unfold mlA
  simp only [rM_154, rM_up]
  congr 1
  funext i
  unfold vU vL
  grind
theorem sp_rset (m : mz_M) (V : Nat → Int) {c : Nat} (v : Int) (hc : c < 16) : (sp 48 [mz_r 9 0 153, mz_i c, mz_i 0, mz_i v] (rM m V) none (rM m (vU V (333 + 6 * c) v))) ∧ (sp 48 [mz_r 9 0 153, mz_i c, mz_i 1, mz_i v] (rM m V) none (rM m (vU V (333 + 6 * c + 1) v))) ∧ (sp 48 [mz_r 9 0 153, mz_i c, mz_i 2, mz_i v] (rM m V) none (rM m (vU V (333 + 6 * c + 2) v))) ∧ (sp 48 [mz_r 9 0 153, mz_i c, mz_i 3, mz_i v] (rM m V) none (rM m (vU V (333 + 6 * c + 3) v))) ∧ (sp 48 [mz_r 9 0 153, mz_i c, mz_i 4, mz_i v] (rM m V) none (rM m (vU V (333 + 6 * c + 4) v))) ∧ (sp 48 [mz_r 9 0 153, mz_i c, mz_i 5, mz_i v] (rM m V) none (rM m (vU V (333 + 6 * c + 5) v))) := by
  simp only [← rM_up]
  exact ⟨sp_set0 _ v hc, sp_set1 _ v hc, sp_set2 _ v hc, sp_set3 _ v hc, sp_set4 _ v hc, sp_set5 _ v hc⟩
theorem sp_rlogs (m : mz_M) (V : Nat → Int) {n : Nat} (k c x : Int) (h : V 429 = n) (hn : n < 400) : sp 44 [mz_r 9 0 153, mz_i k, mz_i c, mz_i x] (rM m V) none (rM m (vL V k c x)) := by
  rw [← mlA_rM]
  exact sp_logs (rM m V) k c x (by rw [rM_154]; exact h) hn
theorem sp_rof (m : mz_M) (V : Nat → Int) {c : Nat} (hc : c < 16) : (sp 46 [mz_r 9 0 153, mz_i c, mz_i 0] (rM m V) (some (mz_i (mc V c 0))) (rM m V)) ∧ (sp 46 [mz_r 9 0 153, mz_i c, mz_i 1] (rM m V) (some (mz_i (mc V c 1))) (rM m V)) ∧ (sp 46 [mz_r 9 0 153, mz_i c, mz_i 2] (rM m V) (some (mz_i (mc V c 2))) (rM m V)) ∧ (sp 46 [mz_r 9 0 153, mz_i c, mz_i 3] (rM m V) (some (mz_i (mc V c 3))) (rM m V)) ∧ (sp 46 [mz_r 9 0 153, mz_i c, mz_i 4] (rM m V) (some (mz_i (mc V c 4))) (rM m V)) ∧ (sp 46 [mz_r 9 0 153, mz_i c, mz_i 5] (rM m V) (some (mz_i (mc V c 5))) (rM m V)) := by
  have h0 := sp_of0 (rM m V) hc
  have h1 := sp_of1 (rM m V) hc
  have h2 := sp_of2 (rM m V) hc
  have h3 := sp_of3 (rM m V) hc
  have h4 := sp_of4 (rM m V) hc
  have h5 := sp_of5 (rM m V) hc
  rw [rM_154] at h0 h1 h2 h3 h4 h5
  exact ⟨h0, h1, h2, h3, h4, h5⟩
theorem sp_rfull (m : mz_M) (V : Nat → Int) : sp 41 [mz_r 9 0 153] (rM m V) (some (mz_i (if 340 ≤ V 429 then 1 else 0))) (rM m V) := by
  have := sp_mfull (rM m V)
  rw [rM_154] at this
  exact this
theorem sp_rpl (m : mz_M) (V : Nat → Int) (x : Int) (h : plN' V) : sp 106 [mz_r 9 0 153, mz_i x] (rM m V) (some (mz_i (if 0 ≤ x ∧ x < V 0 then 1 else 0))) (rM m V) := by
  have := sp_isPlace (rM m V) x (by rw [rM_154]; exact h)
  rw [rM_154] at this
  exact this
theorem sp_rfree (m : mz_M) (V : Nat → Int) {p : Nat} (hp : p < 10) (hs : 0 ≤ V (213 + p) ∧ V (213 + p) ≤ 1000) : sp 158 [mz_r 9 0 153, mz_i p] (rM m V) (some (mz_i (V (213 + p) - sm (fun c => if mAt V p c = true then 1 else 0) 16))) (rM m V) := by
  have := sp_free (rM m V) hp (by rw [rM_154]; exact hs)
  rw [rM_154] at this
  exact this
def mFr (V : Nat → Int) (p : Nat) : Int := V (213 + p) - sm (fun c => if mAt V p c = true then 1 else 0) 16
def vPark (V : Nat → Int) (c : Nat) (p : Int) : Nat → Int := vL (vU (vU (vU V (333 + 6 * c) 1) (333 + 6 * c + 1) p) (333 + 6 * c + 2) (V 2)) 1 c p
theorem sp_rPark (m : mz_M) (V : Nat → Int) (x y : Int) {n : Nat} (h : plN' V) (hs : ∀ p, p < 10 → 0 ≤ V (213 + p) ∧ V (213 + p) ≤ 1000) (h0 : V 429 = n) : sp 222 [mz_r 9 0 153, mz_i x, mz_i y] (rM m V) (some (mz_i (if (0 ≤ x ∧ x < 16) ∧ 0 ≤ y ∧ y < V 0 then (if mc V x.toNat 0 ≠ 0 then -2 else if mFr V y.toNat = 0 then -3 else if 340 ≤ V 429 then -4 else mFr (vPark V x.toNat y) y.toNat) else -1))) (rM (mz_up m 153 4 0) (if ((0 ≤ x ∧ x < 16) ∧ 0 ≤ y ∧ y < V 0) ∧ mc V x.toNat 0 = 0 ∧ ¬ mFr V y.toNat = 0 ∧ ¬ 340 ≤ V 429 then vPark V x.toNat y else V)) := by
  have hh := h.2
  refine mz_cl_vc 60 (fun _ => false) [some (mz_r 9 0 153), some (mz_i x), some (mz_i y)] rfl ?_
  simp only [vcS0, vcS1, vcS2, vcS3, vcS4, vcS5, vcS6, vc_n0, vc_lk, vc_pop, vc_rc, vc_tsw, vc_fr, vc_ar, vc_tb, mz_nx, List.set_cons_zero, List.set_cons_succ, Nat.reduceAdd, Nat.reduceBEq, Nat.reduceEqDiff, Nat.reduceLeDiff, Nat.reduceLT, Nat.reduceMul, Int.reduceToNat, Bool.false_eq_true, Bool.or_self, Bool.or_true, Bool.true_or, Bool.or_false, reduceIte, Option.toList_some, Option.toList_none, List.nil_append, List.cons_append, List.length_cons, List.length_nil, true_and, and_true, Int.cast_ofNat_Int, Int.reduceEq, Int.reduceLT, Int.reduceLE, Nat.zero_le, and_self, or_true, true_or, cdS_222]
  rw [rM_u3]
  refine ⟨_, _, sp_isCar _ x, ?_⟩
  by_cases h1 : 0 ≤ x ∧ x < 16
  · rw [if_pos (show 0 ≤ x ∧ x ≤ 15 by omega)]
    simp only [vcS0, vcS1, vcS2, vcS3, vcS4, vcS5, vcS6, vc_n0, vc_lk, vc_pop, vc_rc, vc_tsw, vc_fr, vc_ar, vc_tb, mz_nx, List.set_cons_zero, List.set_cons_succ, Nat.reduceAdd, Nat.reduceBEq, Nat.reduceEqDiff, Nat.reduceLeDiff, Nat.reduceLT, Nat.reduceMul, Int.reduceToNat, Bool.false_eq_true, Bool.or_self, Bool.or_true, Bool.true_or, Bool.or_false, reduceIte, Option.toList_some, Option.toList_none, List.nil_append, List.cons_append, List.length_cons, List.length_nil, true_and, and_true, Int.cast_ofNat_Int, Int.reduceEq, Int.reduceLT, Int.reduceLE, Nat.zero_le, and_self, or_true, true_or, cdS_222]
    refine ⟨_, _, sp_rpl _ V y h, ?_⟩
    by_cases h2 : 0 ≤ y ∧ y < V 0
    · obtain ⟨c, rfl⟩ := nat_i h1.1
      obtain ⟨p, rfl⟩ := nat_i h2.1
      simp only [Int.toNat_natCast]
      have hsp := hs p (by omega)
      have h12 := And.intro h1 h2
      rw [if_pos h2, if_pos h12]
      simp only [vcS0, vcS1, vcS2, vcS3, vcS4, vcS5, vcS6, vc_n0, vc_lk, vc_pop, vc_rc, vc_tsw, vc_fr, vc_ar, vc_tb, mz_nx, List.set_cons_zero, List.set_cons_succ, Nat.reduceAdd, Nat.reduceBEq, Nat.reduceEqDiff, Nat.reduceLeDiff, Nat.reduceLT, Nat.reduceMul, Int.reduceToNat, Bool.false_eq_true, Bool.or_self, Bool.or_true, Bool.true_or, Bool.or_false, reduceIte, Option.toList_some, Option.toList_none, List.nil_append, List.cons_append, List.length_cons, List.length_nil, true_and, and_true, Int.cast_ofNat_Int, Int.reduceEq, Int.reduceLT, Int.reduceLE, Nat.zero_le, and_self, or_true, true_or, cdS_222]
      refine ⟨_, _, (sp_rof _ V (show c < 16 by omega)).1, ?_⟩
      simp only [vcS0, vcS1, vcS2, vcS3, vcS4, vcS5, vcS6, vc_n0, vc_lk, vc_pop, vc_rc, vc_tsw, vc_fr, vc_ar, vc_tb, mz_nx, List.set_cons_zero, List.set_cons_succ, Nat.reduceAdd, Nat.reduceBEq, Nat.reduceEqDiff, Nat.reduceLeDiff, Nat.reduceLT, Nat.reduceMul, Int.reduceToNat, Bool.false_eq_true, Bool.or_self, Bool.or_true, Bool.true_or, Bool.or_false, reduceIte, Option.toList_some, Option.toList_none, List.nil_append, List.cons_append, List.length_cons, List.length_nil, true_and, and_true, Int.cast_ofNat_Int, Int.reduceEq, Int.reduceLT, Int.reduceLE, Nat.zero_le, and_self, or_true, true_or, cdS_222]
      by_cases h3 : mc V c 0 = 0
      · rw [if_pos h3, if_neg (fun q => q h3)]
        refine ⟨_, _, sp_rfree _ V (show p < 10 by omega) hsp, ?_⟩
        simp only [vcS0, vcS1, vcS2, vcS3, vcS4, vcS5, vcS6, vc_n0, vc_lk, vc_pop, vc_rc, vc_tsw, vc_fr, vc_ar, vc_tb, mz_nx, List.set_cons_zero, List.set_cons_succ, Nat.reduceAdd, Nat.reduceBEq, Nat.reduceEqDiff, Nat.reduceLeDiff, Nat.reduceLT, Nat.reduceMul, Int.reduceToNat, Bool.false_eq_true, Bool.or_self, Bool.or_true, Bool.true_or, Bool.or_false, reduceIte, Option.toList_some, Option.toList_none, List.nil_append, List.cons_append, List.length_cons, List.length_nil, true_and, and_true, Int.cast_ofNat_Int, Int.reduceEq, Int.reduceLT, Int.reduceLE, Nat.zero_le, and_self, or_true, true_or, cdS_222]
        rw [show V (213 + p) - sm (fun c => if mAt V p c = true then 1 else 0) 16 = mFr V p from rfl]
        by_cases h4 : mFr V p = 0
        · rw [if_pos h4, if_pos h4, if_neg (fun q => q.2.2.1 h4)]
          all_goals ((repeat' refine And.intro ?_ ?_) <;> first | trivial | rfl | (unfold mz_w; omega) | omega)
        · rw [if_neg h4, if_neg h4]
          refine ⟨_, _, sp_rfull _ V, ?_⟩
          by_cases h5 : 340 ≤ V 429
          · rw [if_pos h5, if_pos h5, if_neg (fun q => q.2.2.2 h5)]
            simp only [vcS0, vcS1, vcS2, vcS3, vcS4, vcS5, vcS6, vc_n0, vc_lk, vc_pop, vc_rc, vc_tsw, vc_fr, vc_ar, vc_tb, mz_nx, List.set_cons_zero, List.set_cons_succ, Nat.reduceAdd, Nat.reduceBEq, Nat.reduceEqDiff, Nat.reduceLeDiff, Nat.reduceLT, Nat.reduceMul, Int.reduceToNat, Bool.false_eq_true, Bool.or_self, Bool.or_true, Bool.true_or, Bool.or_false, reduceIte, Option.toList_some, Option.toList_none, List.nil_append, List.cons_append, List.length_cons, List.length_nil, true_and, and_true, Int.cast_ofNat_Int, Int.reduceEq, Int.reduceLT, Int.reduceLE, Nat.zero_le, and_self, or_true, true_or, cdS_222]
          · rw [if_neg h5, if_neg h5, if_pos (show (((0 : Int) ≤ c ∧ (c : Int) < 16) ∧ (0 : Int) ≤ p ∧ (p : Int) < V 0) ∧ mc V c 0 = 0 ∧ ¬ mFr V p = 0 ∧ ¬ 340 ≤ V 429 from ⟨h12, h3, h4, h5⟩)]
            simp only [vcS0, vcS1, vcS2, vcS3, vcS4, vcS5, vcS6, vc_n0, vc_lk, vc_pop, vc_rc, vc_tsw, vc_fr, vc_ar, vc_tb, mz_nx, List.set_cons_zero, List.set_cons_succ, Nat.reduceAdd, Nat.reduceBEq, Nat.reduceEqDiff, Nat.reduceLeDiff, Nat.reduceLT, Nat.reduceMul, Int.reduceToNat, Bool.false_eq_true, Bool.or_self, Bool.or_true, Bool.true_or, Bool.or_false, reduceIte, Option.toList_some, Option.toList_none, List.nil_append, List.cons_append, List.length_cons, List.length_nil, true_and, and_true, Int.cast_ofNat_Int, Int.reduceEq, Int.reduceLT, Int.reduceLE, Nat.zero_le, and_self, or_true, true_or, cdS_222]
            refine ⟨_, _, (sp_rset _ V 1 (show c < 16 by omega)).1, ?_⟩
            simp only [vcS0, vcS1, vcS2, vcS3, vcS4, vcS5, vcS6, vc_n0, vc_lk, vc_pop, vc_rc, vc_tsw, vc_fr, vc_ar, vc_tb, mz_nx, List.set_cons_zero, List.set_cons_succ, Nat.reduceAdd, Nat.reduceBEq, Nat.reduceEqDiff, Nat.reduceLeDiff, Nat.reduceLT, Nat.reduceMul, Int.reduceToNat, Bool.false_eq_true, Bool.or_self, Bool.or_true, Bool.true_or, Bool.or_false, reduceIte, Option.toList_some, Option.toList_none, List.nil_append, List.cons_append, List.length_cons, List.length_nil, true_and, and_true, Int.cast_ofNat_Int, Int.reduceEq, Int.reduceLT, Int.reduceLE, Nat.zero_le, and_self, or_true, true_or, cdS_222]
            refine ⟨_, _, (sp_rset _ _ p (show c < 16 by omega)).2.1, ?_⟩
            simp only [vcS0, vcS1, vcS2, vcS3, vcS4, vcS5, vcS6, vc_n0, vc_lk, vc_pop, vc_rc, vc_tsw, vc_fr, vc_ar, vc_tb, mz_nx, List.set_cons_zero, List.set_cons_succ, Nat.reduceAdd, Nat.reduceBEq, Nat.reduceEqDiff, Nat.reduceLeDiff, Nat.reduceLT, Nat.reduceMul, Int.reduceToNat, Bool.false_eq_true, Bool.or_self, Bool.or_true, Bool.true_or, Bool.or_false, reduceIte, Option.toList_some, Option.toList_none, List.nil_append, List.cons_append, List.length_cons, List.length_nil, true_and, and_true, Int.cast_ofNat_Int, Int.reduceEq, Int.reduceLT, Int.reduceLE, Nat.zero_le, and_self, or_true, true_or, cdS_222]
            rw [rM_154, vU_n (by omega), vU_n (by omega)]
            refine ⟨_, _, (sp_rset _ _ (V 2) (show c < 16 by omega)).2.2.1, ?_⟩
            simp only [vcS0, vcS1, vcS2, vcS3, vcS4, vcS5, vcS6, vc_n0, vc_lk, vc_pop, vc_rc, vc_tsw, vc_fr, vc_ar, vc_tb, mz_nx, List.set_cons_zero, List.set_cons_succ, Nat.reduceAdd, Nat.reduceBEq, Nat.reduceEqDiff, Nat.reduceLeDiff, Nat.reduceLT, Nat.reduceMul, Int.reduceToNat, Bool.false_eq_true, Bool.or_self, Bool.or_true, Bool.true_or, Bool.or_false, reduceIte, Option.toList_some, Option.toList_none, List.nil_append, List.cons_append, List.length_cons, List.length_nil, true_and, and_true, Int.cast_ofNat_Int, Int.reduceEq, Int.reduceLT, Int.reduceLE, Nat.zero_le, and_self, or_true, true_or, cdS_222]
            refine ⟨_, _, sp_rlogs _ _ (n := n) 1 c p (by rw [vU_n (by omega), vU_n (by omega), vU_n (by omega)]; exact h0) (by omega), ?_⟩
            simp only [vcS0, vcS1, vcS2, vcS3, vcS4, vcS5, vcS6, vc_n0, vc_lk, vc_pop, vc_rc, vc_tsw, vc_fr, vc_ar, vc_tb, mz_nx, List.set_cons_zero, List.set_cons_succ, Nat.reduceAdd, Nat.reduceBEq, Nat.reduceEqDiff, Nat.reduceLeDiff, Nat.reduceLT, Nat.reduceMul, Int.reduceToNat, Bool.false_eq_true, Bool.or_self, Bool.or_true, Bool.true_or, Bool.or_false, reduceIte, Option.toList_some, Option.toList_none, List.nil_append, List.cons_append, List.length_cons, List.length_nil, true_and, and_true, Int.cast_ofNat_Int, Int.reduceEq, Int.reduceLT, Int.reduceLE, Nat.zero_le, and_self, or_true, true_or, cdS_222]
            have hf := sp_rfree (mz_up m 153 4 0) (vPark V c p) (show p < 10 by omega) (by unfold vPark; rw [vL_lo (by omega), vU_n (by omega), vU_n (by omega), vU_n (by omega)]; exact hsp)
            refine ⟨_, _, hf, ?_⟩
            simp only [vcS0, vcS1, vcS2, vcS3, vcS4, vcS5, vcS6, vc_n0, vc_lk, vc_pop, vc_rc, vc_tsw, vc_fr, vc_ar, vc_tb, mz_nx, List.set_cons_zero, List.set_cons_succ, Nat.reduceAdd, Nat.reduceBEq, Nat.reduceEqDiff, Nat.reduceLeDiff, Nat.reduceLT, Nat.reduceMul, Int.reduceToNat, Bool.false_eq_true, Bool.or_self, Bool.or_true, Bool.true_or, Bool.or_false, reduceIte, Option.toList_some, Option.toList_none, List.nil_append, List.cons_append, List.length_cons, List.length_nil, true_and, and_true, Int.cast_ofNat_Int, Int.reduceEq, Int.reduceLT, Int.reduceLE, Nat.zero_le, and_self, or_true, true_or, cdS_222]
            rfl
      · rw [if_neg h3, if_pos h3, if_neg (fun q => h3 q.2.1)]
        all_goals ((repeat' refine And.intro ?_ ?_) <;> first | trivial | rfl | (unfold mz_w; omega) | omega)
    · rw [if_neg h2, if_neg (fun q => h2 q.2), if_neg (fun q => h2 q.1.2)]
      simp only [vcS0, vcS1, vcS2, vcS3, vcS4, vcS5, vcS6, vc_n0, vc_lk, vc_pop, vc_rc, vc_tsw, vc_fr, vc_ar, vc_tb, mz_nx, List.set_cons_zero, List.set_cons_succ, Nat.reduceAdd, Nat.reduceBEq, Nat.reduceEqDiff, Nat.reduceLeDiff, Nat.reduceLT, Nat.reduceMul, Int.reduceToNat, Bool.false_eq_true, Bool.or_self, Bool.or_true, Bool.true_or, Bool.or_false, reduceIte, Option.toList_some, Option.toList_none, List.nil_append, List.cons_append, List.length_cons, List.length_nil, true_and, and_true, Int.cast_ofNat_Int, Int.reduceEq, Int.reduceLT, Int.reduceLE, Nat.zero_le, and_self, or_true, true_or, cdS_222]
  · rw [if_neg (show ¬ (0 ≤ x ∧ x ≤ 15) by omega), if_neg (fun q => h1 q.1), if_neg (fun q => h1 q.1.1)]
    simp only [vcS0, vcS1, vcS2, vcS3, vcS4, vcS5, vcS6, vc_n0, vc_lk, vc_pop, vc_rc, vc_tsw, vc_fr, vc_ar, vc_tb, mz_nx, List.set_cons_zero, List.set_cons_succ, Nat.reduceAdd, Nat.reduceBEq, Nat.reduceEqDiff, Nat.reduceLeDiff, Nat.reduceLT, Nat.reduceMul, Int.reduceToNat, Bool.false_eq_true, Bool.or_self, Bool.or_true, Bool.true_or, Bool.or_false, reduceIte, Option.toList_some, Option.toList_none, List.nil_append, List.cons_append, List.length_cons, List.length_nil, true_and, and_true, Int.cast_ofNat_Int, Int.reduceEq, Int.reduceLT, Int.reduceLE, Nat.zero_le, and_self, or_true, true_or, cdS_222]
