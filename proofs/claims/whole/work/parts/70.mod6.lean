/-- what a row must be for the model's methods to go through -/
def mVO (V : Nat → Int) (n : Nat) : Prop := (V 429 = n ∧ n ≤ 400) ∧ (0 ≤ V 2 ∧ V 2 < 20000) ∧ mZo V ∧ ∀ c, c < 16 → mCo V c
theorem sp_fineV (m : mz_M) {c n : Nat} (h : mVO (m 154) n) (hc : c < 16) : sp 157 [mz_r 9 0 153, mz_i c] m (some (mz_i (mFi (m 154) n c))) m := sp_fine m hc (h.2.2.2 c hc) h.2.2.1 h.2.1 h.1.1 h.1.2
theorem mFi_ok {V : Nat → Int} (n c : Nat) : 0 ≤ mFi V n c ∧ mFi V n c ≤ 8500 := by
  have hu := mUp_ok V n c
  have hB : 0 ≤ fnB (mOv V c) ∧ fnB (mOv V c) ≤ 6000 := by unfold fnB; split <;> (try split) <;> omega
  unfold mFi
  split
  · split <;> omega
  · omega
def mVs (V : Nat → Int) (n : Nat) (p : Int) (c : Nat) : Int := if mAt V p c = true then mFi V n c else 0
theorem mVs_ok {V : Nat → Int} {n : Nat} (p : Int) (j : Nat) : 0 ≤ sm (mVs V n p) j ∧ sm (mVs V n p) j ≤ 8500 * j :=
  ⟨sm_0 fun i hi => by have := mFi_ok (V := V) n i; unfold mVs; split <;> omega, sm_ub fun i hi => by have := mFi_ok (V := V) n i; unfold mVs; split <;> omega⟩
theorem vo_loop (m : mz_M) {p : Int} {n : Nat} (h : mVO (m 154) n) : ∀ (r j : Nat), j + r = 16 → sx 232 4 [some (mz_r 9 0 153), some (mz_i p), some (mz_i (sm (mVs (m 154) n p) j)), some (mz_i j)] [] m (some (mz_i (sm (mVs (m 154) n p) 16))) m := by
  intro r
  induction r with
  | zero =>
    intro j hj
    obtain rfl : j = 16 := by omega
    refine mz_vc_ok 60 (ct := fun i => i == 4) ?_
    simp only [vcS0, vcS1, vcS2, vcS3, vcS4, vcS5, vcS6, vc_n0, vc_lk, vc_pop, vc_rc, vc_tsw, vc_fr, vc_ar, vc_tb, mz_nx, List.set_cons_zero, List.set_cons_succ, Nat.reduceAdd, Nat.reduceBEq, Nat.reduceEqDiff, Nat.reduceLeDiff, Nat.reduceLT, Nat.reduceMul, Int.reduceToNat, Bool.false_eq_true, Bool.or_self, Bool.or_true, Bool.true_or, Bool.or_false, reduceIte, Option.toList_some, Option.toList_none, List.nil_append, List.cons_append, List.length_cons, List.length_nil, true_and, and_true, Int.cast_ofNat_Int, Int.reduceEq, Int.reduceLT, Int.reduceLE, Nat.zero_le, and_self, or_true, true_or, cdS_232]
  | succ r ih =>
    intro j hj
    have hk := ih (j + 1) (by omega)
    have hb := mVs_ok (V := m 154) (n := n) p j
    have hf := mFi_ok (V := m 154) n j
    refine mz_vc_ok 60 (ct := fun i => i == 4) ?_
    simp only [vcS0, vcS1, vcS2, vcS3, vcS4, vcS5, vcS6, vc_n0, vc_lk, vc_pop, vc_rc, vc_tsw, vc_fr, vc_ar, vc_tb, mz_nx, List.set_cons_zero, List.set_cons_succ, Nat.reduceAdd, Nat.reduceBEq, Nat.reduceEqDiff, Nat.reduceLeDiff, Nat.reduceLT, Nat.reduceMul, Int.reduceToNat, Bool.false_eq_true, Bool.or_self, Bool.or_true, Bool.true_or, Bool.or_false, reduceIte, Option.toList_some, Option.toList_none, List.nil_append, List.cons_append, List.length_cons, List.length_nil, true_and, and_true, Int.cast_ofNat_Int, Int.reduceEq, Int.reduceLT, Int.reduceLE, Nat.zero_le, and_self, or_true, true_or, cdS_232]
    rw [if_pos (by omega)]
    refine ⟨_, _, sp_mAt m p (by omega), ?_⟩
    rw [sm] at hk
    by_cases h1 : mAt (m 154) p j = true
    · rw [if_pos h1]
      simp only [vcS0, vcS1, vcS2, vcS3, vcS4, vcS5, vcS6, vc_n0, vc_lk, vc_pop, vc_rc, vc_tsw, vc_fr, vc_ar, vc_tb, mz_nx, List.set_cons_zero, List.set_cons_succ, Nat.reduceAdd, Nat.reduceBEq, Nat.reduceEqDiff, Nat.reduceLeDiff, Nat.reduceLT, Nat.reduceMul, Int.reduceToNat, Bool.false_eq_true, Bool.or_self, Bool.or_true, Bool.true_or, Bool.or_false, reduceIte, Option.toList_some, Option.toList_none, List.nil_append, List.cons_append, List.length_cons, List.length_nil, true_and, and_true, Int.cast_ofNat_Int, Int.reduceEq, Int.reduceLT, Int.reduceLE, Nat.zero_le, and_self, or_true, true_or, cdS_232]
      refine ⟨_, _, sp_fineV m h (by omega), ?_⟩
      simp only [vcS0, vcS1, vcS2, vcS3, vcS4, vcS5, vcS6, vc_n0, vc_lk, vc_pop, vc_rc, vc_tsw, vc_fr, vc_ar, vc_tb, mz_nx, List.set_cons_zero, List.set_cons_succ, Nat.reduceAdd, Nat.reduceBEq, Nat.reduceEqDiff, Nat.reduceLeDiff, Nat.reduceLT, Nat.reduceMul, Int.reduceToNat, Bool.false_eq_true, Bool.or_self, Bool.or_true, Bool.true_or, Bool.or_false, reduceIte, Option.toList_some, Option.toList_none, List.nil_append, List.cons_append, List.length_cons, List.length_nil, true_and, and_true, Int.cast_ofNat_Int, Int.reduceEq, Int.reduceLT, Int.reduceLE, Nat.zero_le, and_self, or_true, true_or, cdS_232]
      rw [show mVs (m 154) n p j = mFi (m 154) n j from if_pos h1] at hk
      exact ⟨by unfold mz_w; omega, (by unfold mz_w; omega), hk⟩
    · rw [if_neg h1]
      simp only [vcS0, vcS1, vcS2, vcS3, vcS4, vcS5, vcS6, vc_n0, vc_lk, vc_pop, vc_rc, vc_tsw, vc_fr, vc_ar, vc_tb, mz_nx, List.set_cons_zero, List.set_cons_succ, Nat.reduceAdd, Nat.reduceBEq, Nat.reduceEqDiff, Nat.reduceLeDiff, Nat.reduceLT, Nat.reduceMul, Int.reduceToNat, Bool.false_eq_true, Bool.or_self, Bool.or_true, Bool.true_or, Bool.or_false, reduceIte, Option.toList_some, Option.toList_none, List.nil_append, List.cons_append, List.length_cons, List.length_nil, true_and, and_true, Int.cast_ofNat_Int, Int.reduceEq, Int.reduceLT, Int.reduceLE, Nat.zero_le, and_self, or_true, true_or, cdS_232]
      rw [show mVs (m 154) n p j = 0 from if_neg h1] at hk
      exact ⟨by unfold mz_w; omega, (by unfold mz_w; omega), hk⟩
theorem sp_valueOf (m : mz_M) (p : Int) {n : Nat} (h : mVO (m 154) n) : sp 232 [mz_r 9 0 153, mz_i p] m (some (mz_i (sm (mVs (m 154) n p) 16))) m := by
  refine mz_cl_vc 60 (fun i => i == 4) [some (mz_r 9 0 153), some (mz_i p), none, none] rfl ?_
  simp only [vcS0, vcS1, vcS2, vcS3, vcS4, vcS5, vcS6, vc_n0, vc_lk, vc_pop, vc_rc, vc_tsw, vc_fr, vc_ar, vc_tb, mz_nx, List.set_cons_zero, List.set_cons_succ, Nat.reduceAdd, Nat.reduceBEq, Nat.reduceEqDiff, Nat.reduceLeDiff, Nat.reduceLT, Nat.reduceMul, Int.reduceToNat, Bool.false_eq_true, Bool.or_self, Bool.or_true, Bool.true_or, Bool.or_false, reduceIte, Option.toList_some, Option.toList_none, List.nil_append, List.cons_append, List.length_cons, List.length_nil, true_and, and_true, Int.cast_ofNat_Int, Int.reduceEq, Int.reduceLT, Int.reduceLE, Nat.zero_le, and_self, or_true, true_or, cdS_232]
  exact vo_loop m h 16 0 rfl
def mVn (V : Nat → Int) (n : Nat) (p : Int) (c : Nat) : Int := if 0 < mVs V n p c then 1 else 0
theorem up_up (m : mz_M) (o j : Nat) (a b : Int) : mz_up (mz_up m o j a) o j b = mz_up m o j b := by funext x y; unfold mz_up; grind
theorem fa_loop (m : mz_M) {p q : Int} {n : Nat} (h : mVO (m 154) n) (res : Option mz_V) (m' : mz_M) (hc : ∀ x y, sx 216 45 [some (mz_r 9 0 153), some (mz_i p), some (mz_i q), some (mz_i (sm (mVs (m 154) n p) 16)), x, y] [] (mz_up m 153 21 (sm (mVn (m 154) n p) 16)) res m') : ∀ (r j : Nat) (x : Option mz_V), j + r = 16 → sx 216 15 [some (mz_r 9 0 153), some (mz_i p), some (mz_i q), some (mz_i (sm (mVs (m 154) n p) j)), some (mz_i j), x] [] (mz_up m 153 21 (sm (mVn (m 154) n p) j)) res m' := by
  intro r
  induction r with
  | zero =>
    intro j x hj
    obtain rfl : j = 16 := by omega
    refine mz_vc_ok 60 (ct := fun i => i == 15 || i == 45) ?_
    simp only [vcS0, vcS1, vcS2, vcS3, vcS4, vcS5, vcS6, vc_n0, vc_lk, vc_pop, vc_rc, vc_tsw, vc_fr, vc_ar, vc_tb, mz_nx, List.set_cons_zero, List.set_cons_succ, Nat.reduceAdd, Nat.reduceBEq, Nat.reduceEqDiff, Nat.reduceLeDiff, Nat.reduceLT, Nat.reduceMul, Int.reduceToNat, Bool.false_eq_true, Bool.or_self, Bool.or_true, Bool.true_or, Bool.or_false, reduceIte, Option.toList_some, Option.toList_none, List.nil_append, List.cons_append, List.length_cons, List.length_nil, true_and, and_true, Int.cast_ofNat_Int, Int.reduceEq, Int.reduceLT, Int.reduceLE, Nat.zero_le, and_self, or_true, true_or, cdS_216]
    exact hc _ _
  | succ r ih =>
    intro j x hj
    have hk := fun x => ih (j + 1) x (by omega)
    have hb := mVs_ok (V := m 154) (n := n) p j
    have hf := mFi_ok (V := m 154) n j
    have c0 : 0 ≤ sm (mVn (m 154) n p) j := sm_0 fun i hi => by unfold mVn; split <;> omega
    have c1 : sm (mVn (m 154) n p) j ≤ 1 * j := sm_ub fun i hi => by unfold mVn; split <;> omega
    have go : ∀ b : Int, b = mVs (m 154) n p j → sx 216 28 [some (mz_r 9 0 153), some (mz_i p), some (mz_i q), some (mz_i (sm (mVs (m 154) n p) j)), some (mz_i j), x] [mz_i b] (mz_up m 153 21 (sm (mVn (m 154) n p) j)) res m' := by
      intro b hbb
      have hb0 : 0 ≤ b ∧ b ≤ 8500 := by subst hbb; unfold mVs; split <;> omega
      refine mz_vc_ok 60 (ct := fun i => i == 15 || i == 45) ?_
      simp only [vcS0, vcS1, vcS2, vcS3, vcS4, vcS5, vcS6, vc_n0, vc_lk, vc_pop, vc_rc, vc_tsw, vc_fr, vc_ar, vc_tb, mz_nx, List.set_cons_zero, List.set_cons_succ, Nat.reduceAdd, Nat.reduceBEq, Nat.reduceEqDiff, Nat.reduceLeDiff, Nat.reduceLT, Nat.reduceMul, Int.reduceToNat, Bool.false_eq_true, Bool.or_self, Bool.or_true, Bool.true_or, Bool.or_false, reduceIte, Option.toList_some, Option.toList_none, List.nil_append, List.cons_append, List.length_cons, List.length_nil, true_and, and_true, Int.cast_ofNat_Int, Int.reduceEq, Int.reduceLT, Int.reduceLE, Nat.zero_le, and_self, or_true, true_or, cdS_216]
      rw [up_s]
      simp only [sm, ← hbb] at hk
      by_cases h1 : 0 < b
      · rw [if_neg (by omega)]
        rw [show mVn (m 154) n p j = 1 from if_pos (by omega)] at hk
        rw [up_up]
        exact ⟨by unfold mz_w; omega, (by unfold mz_w; omega), (by unfold mz_w; omega), hk _⟩
      · rw [if_pos (by omega)]
        rw [show mVn (m 154) n p j = 0 from if_neg (by omega)] at hk
        rw [up_up]
        exact ⟨by unfold mz_w; omega, (by unfold mz_w; omega), (by unfold mz_w; omega), hk _⟩
    refine mz_vc_ok 60 (ct := fun i => i == 28 || i == 45) ?_
    simp only [vcS0, vcS1, vcS2, vcS3, vcS4, vcS5, vcS6, vc_n0, vc_lk, vc_pop, vc_rc, vc_tsw, vc_fr, vc_ar, vc_tb, mz_nx, List.set_cons_zero, List.set_cons_succ, Nat.reduceAdd, Nat.reduceBEq, Nat.reduceEqDiff, Nat.reduceLeDiff, Nat.reduceLT, Nat.reduceMul, Int.reduceToNat, Bool.false_eq_true, Bool.or_self, Bool.or_true, Bool.true_or, Bool.or_false, reduceIte, Option.toList_some, Option.toList_none, List.nil_append, List.cons_append, List.length_cons, List.length_nil, true_and, and_true, Int.cast_ofNat_Int, Int.reduceEq, Int.reduceLT, Int.reduceLE, Nat.zero_le, and_self, or_true, true_or, cdS_216]
    rw [if_pos (by omega)]
    have hA := sp_mAt (mz_up m 153 21 (sm (mVn (m 154) n p) j)) (c := j) p (by omega)
    rw [up_154] at hA
    refine ⟨_, _, hA, ?_⟩
    by_cases h1 : mAt (m 154) p j = true
    · rw [if_pos h1]
      simp only [vcS0, vcS1, vcS2, vcS3, vcS4, vcS5, vcS6, vc_n0, vc_lk, vc_pop, vc_rc, vc_tsw, vc_fr, vc_ar, vc_tb, mz_nx, List.set_cons_zero, List.set_cons_succ, Nat.reduceAdd, Nat.reduceBEq, Nat.reduceEqDiff, Nat.reduceLeDiff, Nat.reduceLT, Nat.reduceMul, Int.reduceToNat, Bool.false_eq_true, Bool.or_self, Bool.or_true, Bool.true_or, Bool.or_false, reduceIte, Option.toList_some, Option.toList_none, List.nil_append, List.cons_append, List.length_cons, List.length_nil, true_and, and_true, Int.cast_ofNat_Int, Int.reduceEq, Int.reduceLT, Int.reduceLE, Nat.zero_le, and_self, or_true, true_or, cdS_216]
      have hF := sp_fineV (mz_up m 153 21 (sm (mVn (m 154) n p) j)) (c := j) (n := n) (by rw [up_154]; exact h) (by omega)
      rw [up_154] at hF
      refine ⟨_, _, hF, ?_⟩
      simp only [vcS0, vcS1, vcS2, vcS3, vcS4, vcS5, vcS6, vc_n0, vc_lk, vc_pop, vc_rc, vc_tsw, vc_fr, vc_ar, vc_tb, mz_nx, List.set_cons_zero, List.set_cons_succ, Nat.reduceAdd, Nat.reduceBEq, Nat.reduceEqDiff, Nat.reduceLeDiff, Nat.reduceLT, Nat.reduceMul, Int.reduceToNat, Bool.false_eq_true, Bool.or_self, Bool.or_true, Bool.true_or, Bool.or_false, reduceIte, Option.toList_some, Option.toList_none, List.nil_append, List.cons_append, List.length_cons, List.length_nil, true_and, and_true, Int.cast_ofNat_Int, Int.reduceEq, Int.reduceLT, Int.reduceLE, Nat.zero_le, and_self, or_true, true_or, cdS_216]
      exact go _ (show _ = _ from (if_pos h1).symm)
    · rw [if_neg h1]
      simp only [vcS0, vcS1, vcS2, vcS3, vcS4, vcS5, vcS6, vc_n0, vc_lk, vc_pop, vc_rc, vc_tsw, vc_fr, vc_ar, vc_tb, mz_nx, List.set_cons_zero, List.set_cons_succ, Nat.reduceAdd, Nat.reduceBEq, Nat.reduceEqDiff, Nat.reduceLeDiff, Nat.reduceLT, Nat.reduceMul, Int.reduceToNat, Bool.false_eq_true, Bool.or_self, Bool.or_true, Bool.true_or, Bool.or_false, reduceIte, Option.toList_some, Option.toList_none, List.nil_append, List.cons_append, List.length_cons, List.length_nil, true_and, and_true, Int.cast_ofNat_Int, Int.reduceEq, Int.reduceLT, Int.reduceLE, Nat.zero_le, and_self, or_true, true_or, cdS_216]
      exact go _ (show _ = _ from (if_neg h1).symm)
/-- the row some minutes later -/
def lat (V : Nat → Int) (k : Int) : Nat → Int := fun j => if j = 2 then V 2 + k else V j
theorem lat_up (m : mz_M) (k : Int) : mz_up m 154 2 (m 154 2 + k) 154 = lat (m 154) k := by funext j; unfold mz_up lat; grind
theorem sp_finesAfter (m : mz_M) (p k : Int) {n : Nat} (hk : 0 ≤ k ∧ k ≤ 1000) (h0 : 0 ≤ m 154 2 ∧ m 154 2 ≤ 20000) (h : mVO (lat (m 154) k) n) : sp 216 [mz_r 9 0 153, mz_i p, mz_i k] m (some (mz_i (sm (mVs (lat (m 154) k) n p) 16))) (mz_up m 153 21 (sm (mVn (lat (m 154) k) n p) 16)) := by
  have hl := fa_loop (mz_up m 154 2 (m 154 2 + k)) (p := p) (q := k) (n := n) (by rw [lat_up]; exact h) (some (mz_i (sm (mVs (lat (m 154) k) n p) 16))) (mz_up m 153 21 (sm (mVn (lat (m 154) k) n p) 16)) (by
    intro x y
    rw [lat_up]
    refine mz_vc_ok 60 (ct := fun _ => false) ?_
    simp only [vcS0, vcS1, vcS2, vcS3, vcS4, vcS5, vcS6, vc_n0, vc_lk, vc_pop, vc_rc, vc_tsw, vc_fr, vc_ar, vc_tb, mz_nx, List.set_cons_zero, List.set_cons_succ, Nat.reduceAdd, Nat.reduceBEq, Nat.reduceEqDiff, Nat.reduceLeDiff, Nat.reduceLT, Nat.reduceMul, Int.reduceToNat, Bool.false_eq_true, Bool.or_self, Bool.or_true, Bool.true_or, Bool.or_false, reduceIte, Option.toList_some, Option.toList_none, List.nil_append, List.cons_append, List.length_cons, List.length_nil, true_and, and_true, Int.cast_ofNat_Int, Int.reduceEq, Int.reduceLT, Int.reduceLE, Nat.zero_le, and_self, or_true, true_or, cdS_216]
    have e1 : mz_up (mz_up m 154 2 (m 154 2 + k)) 153 21 (sm (mVn (lat (m 154) k) n p) 16) 154 2 = m 154 2 + k := by rw [up_o (by omega), up_s]
    rw [e1]
    have e2 : mz_up (mz_up (mz_up m 154 2 (m 154 2 + k)) 153 21 (sm (mVn (lat (m 154) k) n p) 16)) 154 2 (m 154 2 + k - k) = mz_up m 153 21 (sm (mVn (lat (m 154) k) n p) 16) := by
      funext a j
      unfold mz_up
      grind
    exact ⟨(by unfold mz_w; omega), by rw [e2]⟩) 16 0 none rfl
  rw [lat_up] at hl
  refine mz_cl_vc 60 (fun i => i == 15) [some (mz_r 9 0 153), some (mz_i p), some (mz_i k), none, none, none] rfl ?_
  simp only [vcS0, vcS1, vcS2, vcS3, vcS4, vcS5, vcS6, vc_n0, vc_lk, vc_pop, vc_rc, vc_tsw, vc_fr, vc_ar, vc_tb, mz_nx, List.set_cons_zero, List.set_cons_succ, Nat.reduceAdd, Nat.reduceBEq, Nat.reduceEqDiff, Nat.reduceLeDiff, Nat.reduceLT, Nat.reduceMul, Int.reduceToNat, Bool.false_eq_true, Bool.or_self, Bool.or_true, Bool.true_or, Bool.or_false, reduceIte, Option.toList_some, Option.toList_none, List.nil_append, List.cons_append, List.length_cons, List.length_nil, true_and, and_true, Int.cast_ofNat_Int, Int.reduceEq, Int.reduceLT, Int.reduceLE, Nat.zero_le, and_self, or_true, true_or, cdS_216]
  exact ⟨(by unfold mz_w; omega), hl⟩
