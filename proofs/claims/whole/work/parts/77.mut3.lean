theorem sp_rmAt (m : mz_M) (V : Nat → Int) {c : Nat} (p : Int) (hc : c < 16) : sp 104 [mz_r 9 0 153, mz_i c, mz_i p] (rM m V) (some (mz_i (if mAt V p c = true then 1 else 0))) (rM m V) := by
  have := sp_mAt (rM m V) p hc
  rw [rM_154] at this
  exact this
theorem sp_rfine (m : mz_M) (V : Nat → Int) {c n : Nat} (h : mVO V n) (hc : c < 16) : sp 157 [mz_r 9 0 153, mz_i c] (rM m V) (some (mz_i (mFi V n c))) (rM m V) := by
  have := sp_fineV (rM m V) (n := n) (by rw [rM_154]; exact h) hc
  rw [rM_154] at this
  exact this
theorem sp_runpaid (m : mz_M) (V : Nat → Int) (c : Int) {n : Nat} (h0 : V 429 = n) (hn : n ≤ 400) : sp 123 [mz_r 9 0 153, mz_i c] (rM m V) (some (mz_i (mUp V n c))) (rM m V) := by
  have := sp_unpaid (rM m V) c (n := n) (by rw [rM_154]; exact h0) hn
  rw [rM_154] at this
  exact this
/-- a ticket written -/
def vTk (V : Nat → Int) (c : Nat) (a : Int) : Nat → Int :=
  if 3 ≤ mUp (vL V 4 c a) (vL V 4 c a 429).toNat c then vL (vU (vU (vU (vL V 4 c a) (333 + 6 * c) 2) (333 + 6 * c + 5) (V 2)) (333 + 6 * c + 4) (mc V c 4 + 8000)) 5 c 8000 else vL V 4 c a
def vTa (V : Nat → Int) (p : Int) (j : Nat) : Int := if mAt V p j = true then mFi V (V 429).toNat j else 0
def vIn (p : Int) (V : Nat → Int) : Nat → (Nat → Int) × Int
  | 0 => (V, 0)
  | j + 1 => if vTa (vIn p V j).1 p j = 0 then vIn p V j else (vTk (vIn p V j).1 j (vTa (vIn p V j).1 p j), (vIn p V j).2 + 1)
theorem vL_mc {V : Nat → Int} {k a b : Int} {c w : Nat} (hc : c < 16) (hw : w < 6) : mc (vL V k a b) c w = mc V c w := vL_lo (by omega)
theorem vTk_ok {V : Nat → Int} {n c : Nat} {a : Int} (hv : mVO V n) (hn : n + 2 ≤ 400) (hc : c < 16) : ∃ n', mVO (vTk V c a) n' ∧ n' ≤ n + 2 := by
  have h1 : mVO (vL V 4 c a) (n + 1) := by
    refine ⟨⟨by rw [vL_z, hv.1.1]; omega, by omega⟩, by rw [vL_lo (by omega)]; exact hv.2.1, fun p hp => by rw [vL_lo (by omega)]; exact hv.2.2.1 p hp, fun d hd => ?_⟩
    unfold mCo
    rw [vL_mc hd (by omega), vL_mc hd (by omega)]
    exact hv.2.2.2 d hd
  unfold vTk
  split
  · have h2 : mVO (vU (vU (vU (vL V 4 c a) (333 + 6 * c) 2) (333 + 6 * c + 5) (V 2)) (333 + 6 * c + 4) (mc V c 4 + 8000)) (n + 1) := by
      refine ⟨⟨by rw [vU_n (by omega), vU_n (by omega), vU_n (by omega)]; exact h1.1.1, h1.1.2⟩, by rw [vU_n (by omega), vU_n (by omega), vU_n (by omega)]; exact h1.2.1, fun p hp => by rw [vU_n (by omega), vU_n (by omega), vU_n (by omega)]; exact h1.2.2.1 p hp, fun d hd => ?_⟩
      unfold mCo mc
      rw [vU_n (by omega), vU_n (by omega), vU_n (by omega), vU_n (by omega), vU_n (by omega), vU_n (by omega)]
      exact h1.2.2.2 d hd
    generalize vU (vU (vU (vL V 4 c a) (333 + 6 * c) 2) (333 + 6 * c + 5) (V 2)) (333 + 6 * c + 4) (mc V c 4 + 8000) = W at h2 ⊢
    refine ⟨n + 2, ⟨⟨by rw [vL_z, h2.1.1]; omega, by omega⟩, by rw [vL_lo (by omega)]; exact h2.2.1, fun p hp => by rw [vL_lo (by omega)]; exact h2.2.2.1 p hp, fun d hd => ?_⟩, Nat.le_refl _⟩
    unfold mCo
    rw [vL_mc hd (by omega), vL_mc hd (by omega)]
    exact h2.2.2.2 d hd
  · exact ⟨n + 1, h1, by omega⟩
theorem vIn_ok {V : Nat → Int} {n : Nat} {p : Int} (hv : mVO V n) (hn : n < 340) : ∀ j, j ≤ 16 → ∃ n', mVO (vIn p V j).1 n' ∧ n' ≤ n + 2 * j := by
  intro j
  induction j with
  | zero => intro _; exact ⟨n, hv, by omega⟩
  | succ j ih =>
    intro hj
    obtain ⟨n1, h1, h2⟩ := ih (by omega)
    unfold vIn
    split
    · exact ⟨n1, h1, by omega⟩
    · obtain ⟨n2, h3, h4⟩ := vTk_ok (c := j) (a := vTa (vIn p V j).1 p j) h1 (by omega) (by omega)
      exact ⟨n2, h3, by omega⟩
theorem vIn_c {V : Nat → Int} {p : Int} : ∀ j, 0 ≤ (vIn p V j).2 ∧ (vIn p V j).2 ≤ j := by
  intro j
  induction j with
  | zero => exact ⟨Int.le_refl _, Int.le_refl _⟩
  | succ j ih =>
    unfold vIn
    split
    · omega
    · show 0 ≤ (vIn p V j).2 + 1 ∧ (vIn p V j).2 + 1 ≤ _
      omega
theorem in_loop (m : mz_M) {V : Nat → Int} {n : Nat} {p : Int} (hv : mVO V n) (hn : n < 340) (hf : ∀ j, j < 16 → 0 ≤ mc (vIn p V j).1 j 4 ∧ mc (vIn p V j).1 j 4 ≤ 100000000) (T : (Nat → Int) × Int) (hT : T = vIn p V 16) : ∀ (r j : Nat) (x : Option mz_V), j + r = 16 → sx 218 18 [some (mz_r 9 0 153), some (mz_i p), some (mz_i (vIn p V j).2), some (mz_i j), x] [] (rM m (vIn p V j).1) (some (mz_i T.2)) (rM m T.1) := by
  intro r
  induction r with
  | zero =>
    intro j x hj
    obtain rfl : j = 16 := by omega
    rw [← hT]
    refine mz_vc_ok 60 (ct := fun i => i == 18) ?_
    simp only [vcS0, vcS1, vcS2, vcS3, vcS4, vcS5, vcS6, vc_n0, vc_lk, vc_pop, vc_rc, vc_tsw, vc_fr, vc_ar, vc_tb, mz_nx, List.set_cons_zero, List.set_cons_succ, Nat.reduceAdd, Nat.reduceBEq, Nat.reduceEqDiff, Nat.reduceLeDiff, Nat.reduceLT, Nat.reduceMul, Int.reduceToNat, Bool.false_eq_true, Bool.or_self, Bool.or_true, Bool.true_or, Bool.or_false, reduceIte, Option.toList_some, Option.toList_none, List.nil_append, List.cons_append, List.length_cons, List.length_nil, true_and, and_true, Int.cast_ofNat_Int, Int.reduceEq, Int.reduceLT, Int.reduceLE, Nat.zero_le, and_self, or_true, true_or, cdS_218]
  | succ r ih =>
    intro j x hj
    have hk := fun x => ih (j + 1) x (by omega)
    obtain ⟨n1, h1, h2⟩ := vIn_ok (p := p) hv hn j (by omega)
    have hc := vIn_c (V := V) (p := p) j
    have hfj := hf j (by omega)
    have go : ∀ a : Int, a = vTa (vIn p V j).1 p j → sx 218 31 [some (mz_r 9 0 153), some (mz_i p), some (mz_i (vIn p V j).2), some (mz_i j), x] [mz_i a] (rM m (vIn p V j).1) (some (mz_i T.2)) (rM m T.1) := by
      intro a ha
      simp only [vIn, ← ha] at hk
      clear hT
      generalize vIn p V j = Z at h1 hfj hc hk ha ⊢
      obtain ⟨W, q⟩ := Z
      simp only at h1 hfj hc hk ha ⊢
      refine mz_vc_ok 100 (ct := fun i => i == 18) ?_
      simp only [vcS0, vcS1, vcS2, vcS3, vcS4, vcS5, vcS6, vc_n0, vc_lk, vc_pop, vc_rc, vc_tsw, vc_fr, vc_ar, vc_tb, mz_nx, List.set_cons_zero, List.set_cons_succ, Nat.reduceAdd, Nat.reduceBEq, Nat.reduceEqDiff, Nat.reduceLeDiff, Nat.reduceLT, Nat.reduceMul, Int.reduceToNat, Bool.false_eq_true, Bool.or_self, Bool.or_true, Bool.true_or, Bool.or_false, reduceIte, Option.toList_some, Option.toList_none, List.nil_append, List.cons_append, List.length_cons, List.length_nil, true_and, and_true, Int.cast_ofNat_Int, Int.reduceEq, Int.reduceLT, Int.reduceLE, Nat.zero_le, and_self, or_true, true_or, cdS_218]
      by_cases h3 : a = 0
      · rw [if_pos h3] at hk ⊢
        exact ⟨(by unfold mz_w; omega), hk _⟩
      · rw [if_neg h3] at hk ⊢
        unfold vTk at hk
        refine ⟨(by unfold mz_w; omega), _, _, sp_rlogs _ W (n := n1) 4 j a h1.1.1 (by omega), ?_⟩
        simp only [vcS0, vcS1, vcS2, vcS3, vcS4, vcS5, vcS6, vc_n0, vc_lk, vc_pop, vc_rc, vc_tsw, vc_fr, vc_ar, vc_tb, mz_nx, List.set_cons_zero, List.set_cons_succ, Nat.reduceAdd, Nat.reduceBEq, Nat.reduceEqDiff, Nat.reduceLeDiff, Nat.reduceLT, Nat.reduceMul, Int.reduceToNat, Bool.false_eq_true, Bool.or_self, Bool.or_true, Bool.true_or, Bool.or_false, reduceIte, Option.toList_some, Option.toList_none, List.nil_append, List.cons_append, List.length_cons, List.length_nil, true_and, and_true, Int.cast_ofNat_Int, Int.reduceEq, Int.reduceLT, Int.reduceLE, Nat.zero_le, and_self, or_true, true_or, cdS_218]
        have hz : vL W 4 j a 429 = ((n1 + 1 : Nat) : Int) := by rw [vL_z, h1.1.1]; omega
        refine ⟨_, _, sp_runpaid _ (vL W 4 j a) j hz (by omega), ?_⟩
        simp only [vcS0, vcS1, vcS2, vcS3, vcS4, vcS5, vcS6, vc_n0, vc_lk, vc_pop, vc_rc, vc_tsw, vc_fr, vc_ar, vc_tb, mz_nx, List.set_cons_zero, List.set_cons_succ, Nat.reduceAdd, Nat.reduceBEq, Nat.reduceEqDiff, Nat.reduceLeDiff, Nat.reduceLT, Nat.reduceMul, Int.reduceToNat, Bool.false_eq_true, Bool.or_self, Bool.or_true, Bool.true_or, Bool.or_false, reduceIte, Option.toList_some, Option.toList_none, List.nil_append, List.cons_append, List.length_cons, List.length_nil, true_and, and_true, Int.cast_ofNat_Int, Int.reduceEq, Int.reduceLT, Int.reduceLE, Nat.zero_le, and_self, or_true, true_or, cdS_218]
        rw [hz, Int.toNat_natCast] at hk
        by_cases h4 : 3 ≤ mUp (vL W 4 j a) (n1 + 1) j
        · rw [if_neg (by omega)]
          rw [if_pos h4] at hk
          refine ⟨_, _, (sp_rset _ _ 2 (show j < 16 by omega)).1, ?_⟩
          simp only [vcS0, vcS1, vcS2, vcS3, vcS4, vcS5, vcS6, vc_n0, vc_lk, vc_pop, vc_rc, vc_tsw, vc_fr, vc_ar, vc_tb, mz_nx, List.set_cons_zero, List.set_cons_succ, Nat.reduceAdd, Nat.reduceBEq, Nat.reduceEqDiff, Nat.reduceLeDiff, Nat.reduceLT, Nat.reduceMul, Int.reduceToNat, Bool.false_eq_true, Bool.or_self, Bool.or_true, Bool.true_or, Bool.or_false, reduceIte, Option.toList_some, Option.toList_none, List.nil_append, List.cons_append, List.length_cons, List.length_nil, true_and, and_true, Int.cast_ofNat_Int, Int.reduceEq, Int.reduceLT, Int.reduceLE, Nat.zero_le, and_self, or_true, true_or, cdS_218]
          rw [rM_154, vU_n (by omega), vL_lo (by omega)]
          refine ⟨_, _, (sp_rset _ _ (W 2) (show j < 16 by omega)).2.2.2.2.2, ?_⟩
          simp only [vcS0, vcS1, vcS2, vcS3, vcS4, vcS5, vcS6, vc_n0, vc_lk, vc_pop, vc_rc, vc_tsw, vc_fr, vc_ar, vc_tb, mz_nx, List.set_cons_zero, List.set_cons_succ, Nat.reduceAdd, Nat.reduceBEq, Nat.reduceEqDiff, Nat.reduceLeDiff, Nat.reduceLT, Nat.reduceMul, Int.reduceToNat, Bool.false_eq_true, Bool.or_self, Bool.or_true, Bool.true_or, Bool.or_false, reduceIte, Option.toList_some, Option.toList_none, List.nil_append, List.cons_append, List.length_cons, List.length_nil, true_and, and_true, Int.cast_ofNat_Int, Int.reduceEq, Int.reduceLT, Int.reduceLE, Nat.zero_le, and_self, or_true, true_or, cdS_218]
          refine ⟨_, _, (sp_rof _ _ (show j < 16 by omega)).2.2.2.2.1, ?_⟩
          rw [show mc (vU (vU (vL W 4 j a) (333 + 6 * j) 2) (333 + 6 * j + 5) (W 2)) j 4 = mc W j 4 by unfold mc; rw [vU_n (by omega), vU_n (by omega), vL_lo (by omega)]]
          simp only [vcS0, vcS1, vcS2, vcS3, vcS4, vcS5, vcS6, vc_n0, vc_lk, vc_pop, vc_rc, vc_tsw, vc_fr, vc_ar, vc_tb, mz_nx, List.set_cons_zero, List.set_cons_succ, Nat.reduceAdd, Nat.reduceBEq, Nat.reduceEqDiff, Nat.reduceLeDiff, Nat.reduceLT, Nat.reduceMul, Int.reduceToNat, Bool.false_eq_true, Bool.or_self, Bool.or_true, Bool.true_or, Bool.or_false, reduceIte, Option.toList_some, Option.toList_none, List.nil_append, List.cons_append, List.length_cons, List.length_nil, true_and, and_true, Int.cast_ofNat_Int, Int.reduceEq, Int.reduceLT, Int.reduceLE, Nat.zero_le, and_self, or_true, true_or, cdS_218]
          refine ⟨(by unfold mz_w; omega), _, _, (sp_rset _ _ (mc W j 4 + 8000) (show j < 16 by omega)).2.2.2.2.1, ?_⟩
          simp only [vcS0, vcS1, vcS2, vcS3, vcS4, vcS5, vcS6, vc_n0, vc_lk, vc_pop, vc_rc, vc_tsw, vc_fr, vc_ar, vc_tb, mz_nx, List.set_cons_zero, List.set_cons_succ, Nat.reduceAdd, Nat.reduceBEq, Nat.reduceEqDiff, Nat.reduceLeDiff, Nat.reduceLT, Nat.reduceMul, Int.reduceToNat, Bool.false_eq_true, Bool.or_self, Bool.or_true, Bool.true_or, Bool.or_false, reduceIte, Option.toList_some, Option.toList_none, List.nil_append, List.cons_append, List.length_cons, List.length_nil, true_and, and_true, Int.cast_ofNat_Int, Int.reduceEq, Int.reduceLT, Int.reduceLE, Nat.zero_le, and_self, or_true, true_or, cdS_218]
          refine ⟨_, _, sp_rlogs _ _ (n := n1 + 1) 5 j 8000 (by rw [vU_n (by omega), vU_n (by omega), vU_n (by omega)]; exact hz) (by omega), ?_⟩
          simp only [vcS0, vcS1, vcS2, vcS3, vcS4, vcS5, vcS6, vc_n0, vc_lk, vc_pop, vc_rc, vc_tsw, vc_fr, vc_ar, vc_tb, mz_nx, List.set_cons_zero, List.set_cons_succ, Nat.reduceAdd, Nat.reduceBEq, Nat.reduceEqDiff, Nat.reduceLeDiff, Nat.reduceLT, Nat.reduceMul, Int.reduceToNat, Bool.false_eq_true, Bool.or_self, Bool.or_true, Bool.true_or, Bool.or_false, reduceIte, Option.toList_some, Option.toList_none, List.nil_append, List.cons_append, List.length_cons, List.length_nil, true_and, and_true, Int.cast_ofNat_Int, Int.reduceEq, Int.reduceLT, Int.reduceLE, Nat.zero_le, and_self, or_true, true_or, cdS_218]
          exact ⟨(by unfold mz_w; omega), hk _⟩
        · rw [if_pos (by omega)]
          rw [if_neg h4] at hk
          exact ⟨(by unfold mz_w; omega), hk _⟩
    refine mz_vc_ok 60 (ct := fun i => i == 31) ?_
    simp only [vcS0, vcS1, vcS2, vcS3, vcS4, vcS5, vcS6, vc_n0, vc_lk, vc_pop, vc_rc, vc_tsw, vc_fr, vc_ar, vc_tb, mz_nx, List.set_cons_zero, List.set_cons_succ, Nat.reduceAdd, Nat.reduceBEq, Nat.reduceEqDiff, Nat.reduceLeDiff, Nat.reduceLT, Nat.reduceMul, Int.reduceToNat, Bool.false_eq_true, Bool.or_self, Bool.or_true, Bool.true_or, Bool.or_false, reduceIte, Option.toList_some, Option.toList_none, List.nil_append, List.cons_append, List.length_cons, List.length_nil, true_and, and_true, Int.cast_ofNat_Int, Int.reduceEq, Int.reduceLT, Int.reduceLE, Nat.zero_le, and_self, or_true, true_or, cdS_218]
    rw [if_pos (by omega)]
    refine ⟨_, _, sp_rmAt _ _ p (by omega), ?_⟩
    by_cases h5 : mAt (vIn p V j).1 p j = true
    · rw [if_pos h5]
      simp only [vcS0, vcS1, vcS2, vcS3, vcS4, vcS5, vcS6, vc_n0, vc_lk, vc_pop, vc_rc, vc_tsw, vc_fr, vc_ar, vc_tb, mz_nx, List.set_cons_zero, List.set_cons_succ, Nat.reduceAdd, Nat.reduceBEq, Nat.reduceEqDiff, Nat.reduceLeDiff, Nat.reduceLT, Nat.reduceMul, Int.reduceToNat, Bool.false_eq_true, Bool.or_self, Bool.or_true, Bool.true_or, Bool.or_false, reduceIte, Option.toList_some, Option.toList_none, List.nil_append, List.cons_append, List.length_cons, List.length_nil, true_and, and_true, Int.cast_ofNat_Int, Int.reduceEq, Int.reduceLT, Int.reduceLE, Nat.zero_le, and_self, or_true, true_or, cdS_218]
      refine ⟨_, _, sp_rfine _ _ h1 (by omega), ?_⟩
      simp only [vcS0, vcS1, vcS2, vcS3, vcS4, vcS5, vcS6, vc_n0, vc_lk, vc_pop, vc_rc, vc_tsw, vc_fr, vc_ar, vc_tb, mz_nx, List.set_cons_zero, List.set_cons_succ, Nat.reduceAdd, Nat.reduceBEq, Nat.reduceEqDiff, Nat.reduceLeDiff, Nat.reduceLT, Nat.reduceMul, Int.reduceToNat, Bool.false_eq_true, Bool.or_self, Bool.or_true, Bool.true_or, Bool.or_false, reduceIte, Option.toList_some, Option.toList_none, List.nil_append, List.cons_append, List.length_cons, List.length_nil, true_and, and_true, Int.cast_ofNat_Int, Int.reduceEq, Int.reduceLT, Int.reduceLE, Nat.zero_le, and_self, or_true, true_or, cdS_218]
      exact go _ (by unfold vTa; rw [if_pos h5, h1.1.1, Int.toNat_natCast])
    · rw [if_neg h5]
      simp only [vcS0, vcS1, vcS2, vcS3, vcS4, vcS5, vcS6, vc_n0, vc_lk, vc_pop, vc_rc, vc_tsw, vc_fr, vc_ar, vc_tb, mz_nx, List.set_cons_zero, List.set_cons_succ, Nat.reduceAdd, Nat.reduceBEq, Nat.reduceEqDiff, Nat.reduceLeDiff, Nat.reduceLT, Nat.reduceMul, Int.reduceToNat, Bool.false_eq_true, Bool.or_self, Bool.or_true, Bool.true_or, Bool.or_false, reduceIte, Option.toList_some, Option.toList_none, List.nil_append, List.cons_append, List.length_cons, List.length_nil, true_and, and_true, Int.cast_ofNat_Int, Int.reduceEq, Int.reduceLT, Int.reduceLE, Nat.zero_le, and_self, or_true, true_or, cdS_218]
      exact go _ (by unfold vTa; rw [if_neg h5])
theorem sp_rInspect (m : mz_M) (V : Nat → Int) (p : Int) {n : Nat} (h : plN' V) (hv : mVO V n) (hf : ¬ 340 ≤ V 429 → ∀ j, j < 16 → 0 ≤ mc (vIn p V j).1 j 4 ∧ mc (vIn p V j).1 j 4 ≤ 100000000) : sp 218 [mz_r 9 0 153, mz_i p] (rM m V) (some (mz_i (if 0 ≤ p ∧ p < V 0 then (if 340 ≤ V 429 then -4 else (vIn p V 16).2) else -1))) (rM (mz_up m 153 4 0) (if (0 ≤ p ∧ p < V 0) ∧ ¬ 340 ≤ V 429 then (vIn p V 16).1 else V)) := by
  have h0 := hv.1.1
  refine mz_cl_vc 60 (fun i => i == 18) [some (mz_r 9 0 153), some (mz_i p), none, none, none] rfl ?_
  simp only [vcS0, vcS1, vcS2, vcS3, vcS4, vcS5, vcS6, vc_n0, vc_lk, vc_pop, vc_rc, vc_tsw, vc_fr, vc_ar, vc_tb, mz_nx, List.set_cons_zero, List.set_cons_succ, Nat.reduceAdd, Nat.reduceBEq, Nat.reduceEqDiff, Nat.reduceLeDiff, Nat.reduceLT, Nat.reduceMul, Int.reduceToNat, Bool.false_eq_true, Bool.or_self, Bool.or_true, Bool.true_or, Bool.or_false, reduceIte, Option.toList_some, Option.toList_none, List.nil_append, List.cons_append, List.length_cons, List.length_nil, true_and, and_true, Int.cast_ofNat_Int, Int.reduceEq, Int.reduceLT, Int.reduceLE, Nat.zero_le, and_self, or_true, true_or, cdS_218]
  rw [rM_u3]
  refine ⟨_, _, sp_rpl _ V p h, ?_⟩
  by_cases h1 : 0 ≤ p ∧ p < V 0
  · rw [if_pos h1, if_pos h1]
    simp only [vcS0, vcS1, vcS2, vcS3, vcS4, vcS5, vcS6, vc_n0, vc_lk, vc_pop, vc_rc, vc_tsw, vc_fr, vc_ar, vc_tb, mz_nx, List.set_cons_zero, List.set_cons_succ, Nat.reduceAdd, Nat.reduceBEq, Nat.reduceEqDiff, Nat.reduceLeDiff, Nat.reduceLT, Nat.reduceMul, Int.reduceToNat, Bool.false_eq_true, Bool.or_self, Bool.or_true, Bool.true_or, Bool.or_false, reduceIte, Option.toList_some, Option.toList_none, List.nil_append, List.cons_append, List.length_cons, List.length_nil, true_and, and_true, Int.cast_ofNat_Int, Int.reduceEq, Int.reduceLT, Int.reduceLE, Nat.zero_le, and_self, or_true, true_or, cdS_218]
    refine ⟨_, _, sp_rfull _ V, ?_⟩
    by_cases h5 : 340 ≤ V 429
    · rw [if_pos h5, if_pos h5, if_neg (fun q => q.2 h5)]
      simp only [vcS0, vcS1, vcS2, vcS3, vcS4, vcS5, vcS6, vc_n0, vc_lk, vc_pop, vc_rc, vc_tsw, vc_fr, vc_ar, vc_tb, mz_nx, List.set_cons_zero, List.set_cons_succ, Nat.reduceAdd, Nat.reduceBEq, Nat.reduceEqDiff, Nat.reduceLeDiff, Nat.reduceLT, Nat.reduceMul, Int.reduceToNat, Bool.false_eq_true, Bool.or_self, Bool.or_true, Bool.true_or, Bool.or_false, reduceIte, Option.toList_some, Option.toList_none, List.nil_append, List.cons_append, List.length_cons, List.length_nil, true_and, and_true, Int.cast_ofNat_Int, Int.reduceEq, Int.reduceLT, Int.reduceLE, Nat.zero_le, and_self, or_true, true_or, cdS_218]
    · rw [if_neg h5, if_neg h5, if_pos (show (0 ≤ p ∧ p < V 0) ∧ ¬ 340 ≤ V 429 from ⟨h1, h5⟩)]
      simp only [vcS0, vcS1, vcS2, vcS3, vcS4, vcS5, vcS6, vc_n0, vc_lk, vc_pop, vc_rc, vc_tsw, vc_fr, vc_ar, vc_tb, mz_nx, List.set_cons_zero, List.set_cons_succ, Nat.reduceAdd, Nat.reduceBEq, Nat.reduceEqDiff, Nat.reduceLeDiff, Nat.reduceLT, Nat.reduceMul, Int.reduceToNat, Bool.false_eq_true, Bool.or_self, Bool.or_true, Bool.true_or, Bool.or_false, reduceIte, Option.toList_some, Option.toList_none, List.nil_append, List.cons_append, List.length_cons, List.length_nil, true_and, and_true, Int.cast_ofNat_Int, Int.reduceEq, Int.reduceLT, Int.reduceLE, Nat.zero_le, and_self, or_true, true_or, cdS_218]
      exact in_loop (mz_up m 153 4 0) hv (by omega) (hf h5) _ rfl 16 0 none rfl
  · rw [if_neg h1, if_neg h1, if_neg (fun q => h1 q.1)]
    simp only [vcS0, vcS1, vcS2, vcS3, vcS4, vcS5, vcS6, vc_n0, vc_lk, vc_pop, vc_rc, vc_tsw, vc_fr, vc_ar, vc_tb, mz_nx, List.set_cons_zero, List.set_cons_succ, Nat.reduceAdd, Nat.reduceBEq, Nat.reduceEqDiff, Nat.reduceLeDiff, Nat.reduceLT, Nat.reduceMul, Int.reduceToNat, Bool.false_eq_true, Bool.or_self, Bool.or_true, Bool.true_or, Bool.or_false, reduceIte, Option.toList_some, Option.toList_none, List.nil_append, List.cons_append, List.length_cons, List.length_nil, true_and, and_true, Int.cast_ofNat_Int, Int.reduceEq, Int.reduceLT, Int.reduceLE, Nat.zero_le, and_self, or_true, true_or, cdS_218]
