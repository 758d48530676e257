theorem up_154 (m : mz_M) (j : Nat) (v : Int) : mz_up m 153 j v 154 = m 154 := by funext i; exact up_o (by omega)
def mUA (V : Nat → Int) (c : Int) (i : Nat) : Int := if me V i 1 = 4 ∧ me V i 2 = c ∧ me V i 4 = 0 then me V i 3 else 0
def mAm (V : Nat → Int) (n : Nat) : Prop := V 429 = n ∧ n ≤ 400 ∧ ∀ i, i < n → 0 ≤ me V i 3 ∧ me V i 3 ≤ 100000
theorem mUA_ok {V : Nat → Int} {n j : Nat} (h : mAm V n) (c : Int) (hj : j ≤ n) : 0 ≤ sm (mUA V c) j ∧ sm (mUA V c) j ≤ 100000 * j :=
  ⟨sm_0 fun i hi => by have := h.2.2 i (by omega); unfold mUA; split <;> omega, sm_ub fun i hi => by have := h.2.2 i (by omega); unfold mUA; split <;> omega⟩
theorem ow_loop (m : mz_M) {c s : Int} {n : Nat} (h : mAm (m 154) n) (hs : -200000000 ≤ s ∧ s ≤ 200000000) : ∀ (r j : Nat), j + r = n → sx 113 12 [some (mz_r 9 0 153), some (mz_i c), some (mz_i (s + sm (mUA (m 154) c) j)), some (mz_i j)] [] m (some (mz_i (max 0 (s + sm (mUA (m 154) c) n)))) m := by
  intro r
  induction r with
  | zero =>
    intro j hj
    obtain rfl : j = n := by omega
    refine mz_vc_ok 60 (ct := fun i => i == 12) ?_
    simp only [vcS0, vcS1, vcS2, vcS3, vcS4, vcS5, vcS6, vc_n0, vc_lk, vc_pop, vc_rc, vc_tsw, vc_fr, vc_ar, vc_tb, mz_nx, List.set_cons_zero, List.set_cons_succ, Nat.reduceAdd, Nat.reduceBEq, Nat.reduceEqDiff, Nat.reduceLeDiff, Nat.reduceLT, Nat.reduceMul, Int.reduceToNat, Bool.false_eq_true, Bool.or_self, Bool.or_true, Bool.true_or, Bool.or_false, reduceIte, Option.toList_some, Option.toList_none, List.nil_append, List.cons_append, List.length_cons, List.length_nil, true_and, and_true, Int.cast_ofNat_Int, Int.reduceEq, Int.reduceLT, Int.reduceLE, Nat.zero_le, and_self, or_true, true_or, cdS_113]
    rw [h.1, if_neg (by omega)]
    all_goals ((repeat' refine And.intro ?_ ?_) <;> first | trivial | rfl | (unfold mz_w; omega) | omega)
  | succ r ih =>
    intro j hj
    have hk := ih (j + 1) (by omega)
    have hn := h.2.1
    have b := mUA_ok h c (show j ≤ n by omega)
    have ha := h.2.2 j (by omega)
    refine mz_vc_ok 60 (ct := fun i => i == 12) ?_
    simp only [vcS0, vcS1, vcS2, vcS3, vcS4, vcS5, vcS6, vc_n0, vc_lk, vc_pop, vc_rc, vc_tsw, vc_fr, vc_ar, vc_tb, mz_nx, List.set_cons_zero, List.set_cons_succ, Nat.reduceAdd, Nat.reduceBEq, Nat.reduceEqDiff, Nat.reduceLeDiff, Nat.reduceLT, Nat.reduceMul, Int.reduceToNat, Bool.false_eq_true, Bool.or_self, Bool.or_true, Bool.true_or, Bool.or_false, reduceIte, Option.toList_some, Option.toList_none, List.nil_append, List.cons_append, List.length_cons, List.length_nil, true_and, and_true, Int.cast_ofNat_Int, Int.reduceEq, Int.reduceLT, Int.reduceLE, Nat.zero_le, and_self, or_true, true_or, cdS_113]
    rw [h.1, if_pos (by omega)]
    refine ⟨_, _, sp_e1 m (by omega), ?_⟩
    simp only [vcS0, vcS1, vcS2, vcS3, vcS4, vcS5, vcS6, vc_n0, vc_lk, vc_pop, vc_rc, vc_tsw, vc_fr, vc_ar, vc_tb, mz_nx, List.set_cons_zero, List.set_cons_succ, Nat.reduceAdd, Nat.reduceBEq, Nat.reduceEqDiff, Nat.reduceLeDiff, Nat.reduceLT, Nat.reduceMul, Int.reduceToNat, Bool.false_eq_true, Bool.or_self, Bool.or_true, Bool.true_or, Bool.or_false, reduceIte, Option.toList_some, Option.toList_none, List.nil_append, List.cons_append, List.length_cons, List.length_nil, true_and, and_true, Int.cast_ofNat_Int, Int.reduceEq, Int.reduceLT, Int.reduceLE, Nat.zero_le, and_self, or_true, true_or, cdS_113]
    rw [sm] at hk
    by_cases h2 : me (m 154) j 1 = 4
    · rw [if_pos h2]
      refine ⟨_, _, sp_e2 m (by omega), ?_⟩
      simp only [vcS0, vcS1, vcS2, vcS3, vcS4, vcS5, vcS6, vc_n0, vc_lk, vc_pop, vc_rc, vc_tsw, vc_fr, vc_ar, vc_tb, mz_nx, List.set_cons_zero, List.set_cons_succ, Nat.reduceAdd, Nat.reduceBEq, Nat.reduceEqDiff, Nat.reduceLeDiff, Nat.reduceLT, Nat.reduceMul, Int.reduceToNat, Bool.false_eq_true, Bool.or_self, Bool.or_true, Bool.true_or, Bool.or_false, reduceIte, Option.toList_some, Option.toList_none, List.nil_append, List.cons_append, List.length_cons, List.length_nil, true_and, and_true, Int.cast_ofNat_Int, Int.reduceEq, Int.reduceLT, Int.reduceLE, Nat.zero_le, and_self, or_true, true_or, cdS_113]
      by_cases h3 : me (m 154) j 2 = c
      · rw [if_pos h3]
        refine ⟨_, _, sp_e4 m (by omega), ?_⟩
        simp only [vcS0, vcS1, vcS2, vcS3, vcS4, vcS5, vcS6, vc_n0, vc_lk, vc_pop, vc_rc, vc_tsw, vc_fr, vc_ar, vc_tb, mz_nx, List.set_cons_zero, List.set_cons_succ, Nat.reduceAdd, Nat.reduceBEq, Nat.reduceEqDiff, Nat.reduceLeDiff, Nat.reduceLT, Nat.reduceMul, Int.reduceToNat, Bool.false_eq_true, Bool.or_self, Bool.or_true, Bool.true_or, Bool.or_false, reduceIte, Option.toList_some, Option.toList_none, List.nil_append, List.cons_append, List.length_cons, List.length_nil, true_and, and_true, Int.cast_ofNat_Int, Int.reduceEq, Int.reduceLT, Int.reduceLE, Nat.zero_le, and_self, or_true, true_or, cdS_113]
        by_cases h4 : me (m 154) j 4 = 0
        · rw [if_pos h4]
          refine ⟨_, _, sp_e3 m (by omega), ?_⟩
          simp only [vcS0, vcS1, vcS2, vcS3, vcS4, vcS5, vcS6, vc_n0, vc_lk, vc_pop, vc_rc, vc_tsw, vc_fr, vc_ar, vc_tb, mz_nx, List.set_cons_zero, List.set_cons_succ, Nat.reduceAdd, Nat.reduceBEq, Nat.reduceEqDiff, Nat.reduceLeDiff, Nat.reduceLT, Nat.reduceMul, Int.reduceToNat, Bool.false_eq_true, Bool.or_self, Bool.or_true, Bool.true_or, Bool.or_false, reduceIte, Option.toList_some, Option.toList_none, List.nil_append, List.cons_append, List.length_cons, List.length_nil, true_and, and_true, Int.cast_ofNat_Int, Int.reduceEq, Int.reduceLT, Int.reduceLE, Nat.zero_le, and_self, or_true, true_or, cdS_113]
          rw [show mUA (m 154) c j = me (m 154) j 3 from if_pos ⟨h2, h3, h4⟩, ← Int.add_assoc] at hk
          exact ⟨(by unfold mz_w; omega), (by unfold mz_w; omega), hk⟩
        · rw [if_neg h4]
          rw [show mUA (m 154) c j = 0 from if_neg (fun q => h4 q.2.2), ← Int.add_assoc] at hk
          exact ⟨(by unfold mz_w; omega), (by unfold mz_w; omega), hk⟩
      · rw [if_neg h3]
        rw [show mUA (m 154) c j = 0 from if_neg (fun q => h3 q.2.1), ← Int.add_assoc] at hk
        exact ⟨(by unfold mz_w; omega), (by unfold mz_w; omega), hk⟩
    · rw [if_neg h2]
      rw [show mUA (m 154) c j = 0 from if_neg (fun q => h2 q.1), ← Int.add_assoc] at hk
      exact ⟨(by unfold mz_w; omega), (by unfold mz_w; omega), hk⟩
def mOw (V : Nat → Int) (n c : Nat) : Int := max 0 (mc V c 4 - mc V c 3 + sm (mUA V c) n)
def mMy (V : Nat → Int) (c : Nat) : Prop := (0 ≤ mc V c 3 ∧ mc V c 3 ≤ 100000000) ∧ 0 ≤ mc V c 4 ∧ mc V c 4 ≤ 100000000
theorem sp_owes (m : mz_M) {c n : Nat} (hc : c < 16) (h : mAm (m 154) n) (hm : mMy (m 154) c) : sp 113 [mz_r 9 0 153, mz_i c] m (some (mz_i (mOw (m 154) n c))) m := by
  unfold mMy at hm
  refine mz_cl_vc 60 (fun i => i == 12) [some (mz_r 9 0 153), some (mz_i c), none, none] rfl ?_
  simp only [vcS0, vcS1, vcS2, vcS3, vcS4, vcS5, vcS6, vc_n0, vc_lk, vc_pop, vc_rc, vc_tsw, vc_fr, vc_ar, vc_tb, mz_nx, List.set_cons_zero, List.set_cons_succ, Nat.reduceAdd, Nat.reduceBEq, Nat.reduceEqDiff, Nat.reduceLeDiff, Nat.reduceLT, Nat.reduceMul, Int.reduceToNat, Bool.false_eq_true, Bool.or_self, Bool.or_true, Bool.true_or, Bool.or_false, reduceIte, Option.toList_some, Option.toList_none, List.nil_append, List.cons_append, List.length_cons, List.length_nil, true_and, and_true, Int.cast_ofNat_Int, Int.reduceEq, Int.reduceLT, Int.reduceLE, Nat.zero_le, and_self, or_true, true_or, cdS_113]
  refine ⟨_, _, sp_of4 m hc, ?_⟩
  simp only [vcS0, vcS1, vcS2, vcS3, vcS4, vcS5, vcS6, vc_n0, vc_lk, vc_pop, vc_rc, vc_tsw, vc_fr, vc_ar, vc_tb, mz_nx, List.set_cons_zero, List.set_cons_succ, Nat.reduceAdd, Nat.reduceBEq, Nat.reduceEqDiff, Nat.reduceLeDiff, Nat.reduceLT, Nat.reduceMul, Int.reduceToNat, Bool.false_eq_true, Bool.or_self, Bool.or_true, Bool.true_or, Bool.or_false, reduceIte, Option.toList_some, Option.toList_none, List.nil_append, List.cons_append, List.length_cons, List.length_nil, true_and, and_true, Int.cast_ofNat_Int, Int.reduceEq, Int.reduceLT, Int.reduceLE, Nat.zero_le, and_self, or_true, true_or, cdS_113]
  refine ⟨_, _, sp_of3 m hc, ?_⟩
  simp only [vcS0, vcS1, vcS2, vcS3, vcS4, vcS5, vcS6, vc_n0, vc_lk, vc_pop, vc_rc, vc_tsw, vc_fr, vc_ar, vc_tb, mz_nx, List.set_cons_zero, List.set_cons_succ, Nat.reduceAdd, Nat.reduceBEq, Nat.reduceEqDiff, Nat.reduceLeDiff, Nat.reduceLT, Nat.reduceMul, Int.reduceToNat, Bool.false_eq_true, Bool.or_self, Bool.or_true, Bool.true_or, Bool.or_false, reduceIte, Option.toList_some, Option.toList_none, List.nil_append, List.cons_append, List.length_cons, List.length_nil, true_and, and_true, Int.cast_ofNat_Int, Int.reduceEq, Int.reduceLT, Int.reduceLE, Nat.zero_le, and_self, or_true, true_or, cdS_113]
  have := ow_loop m (c := c) (s := mc (m 154) c 4 - mc (m 154) c 3) h (by omega) n 0 (by omega)
  rw [sm, Int.add_zero] at this
  exact ⟨(by unfold mz_w; omega), this⟩
def mOv (V : Nat → Int) (c : Nat) : Int := cm (mR V (V (203 + (mc V c 1).toNat)).toNat) (mc V c 2).toNat ((V 2).toNat - (mc V c 2).toNat)
def mTc (V : Nat → Int) (n : Nat) (c : Int) : Int := sm (fun i => if me V i 1 = 4 ∧ me V i 2 = c then 1 else 0) n
def mUp (V : Nat → Int) (n : Nat) (c : Int) : Int := sm (fun i => if me V i 1 = 4 ∧ me V i 2 = c ∧ me V i 4 = 0 then 1 else 0) n
def mLt (V : Nat → Int) (n : Nat) (c : Int) : Bool := match tke (fun i => me V i 1 = 4 ∧ me V i 2 = c) n 0 (mTc V n c - 1) with
  | some k => decide (V 2 - 120 < me V k 0)
  | none => false
def mFi (V : Nat → Int) (n c : Nat) : Int := if mc V c 0 = 1 then (if mOv V c = 0 ∨ mLt V n c = true then 0 else fnB (mOv V c) + 500 * min 5 (mUp V n c)) else 0
def mCo (V : Nat → Int) (c : Nat) : Prop := (0 ≤ mc V c 1 ∧ mc V c 1 < 10) ∧ 0 ≤ mc V c 2 ∧ mc V c 2 < 20000
def mZo (V : Nat → Int) : Prop := ∀ p, p < 10 → 0 ≤ V (203 + p) ∧ V (203 + p) < 4
theorem sp_overV (m : mz_M) {c : Nat} (hc : c < 16) (h : mCo (m 154) c) (hz : mZo (m 154)) (ht : 0 ≤ m 154 2 ∧ m 154 2 < 20000) : sp 112 [mz_r 9 0 153, mz_i c] m (some (mz_i (mOv (m 154) c))) m := by
  have hzz := hz (mc (m 154) c 1).toNat (by have := h.1; omega)
  exact sp_over m hc (p := (mc (m 154) c 1).toNat) (z := (m 154 (203 + (mc (m 154) c 1).toNat)).toNat) (T := (m 154 2).toNat) (f := (mc (m 154) c 2).toNat) (by have := h.1; omega) (by have := h.1; omega) (by omega) (by omega) (by omega) (by omega) (by have := h.2; omega) (by have := h.2; omega)
theorem mOv_ok {V : Nat → Int} {c : Nat} (ht : 0 ≤ V 2 ∧ V 2 < 20000) : 0 ≤ mOv V c ∧ mOv V c ≤ 20000 := by
  have := cm_ok (mR V (V (203 + (mc V c 1).toNat)).toNat) (mc V c 2).toNat ((V 2).toNat - (mc V c 2).toNat)
  unfold mOv
  omega
theorem mTc_ok (V : Nat → Int) (n : Nat) (c : Int) : 0 ≤ mTc V n c ∧ mTc V n c ≤ n := by
  have h1 : 0 ≤ mTc V n c := sm_0 fun i hi => by split <;> omega
  have h2 : mTc V n c ≤ 1 * n := sm_ub fun i hi => by split <;> omega
  omega
theorem mUp_ok (V : Nat → Int) (n : Nat) (c : Int) : 0 ≤ mUp V n c ∧ mUp V n c ≤ n := by
  have h1 : 0 ≤ mUp V n c := sm_0 fun i hi => by split <;> omega
  have h2 : mUp V n c ≤ 1 * n := sm_ub fun i hi => by split <;> omega
  omega
theorem sp_fineE (m : mz_M) {c n : Nat} {O : Int} (hc : c < 16) (h0 : m 154 429 = n) (hn : n ≤ 400) (hO : 0 ≤ O ∧ O ≤ 20000) : sx 157 38 [some (mz_r 9 0 153), some (mz_i c), some (mz_i O), some (mz_i (opI (-1) (tke (fun i => me (m 154) i 1 = 4 ∧ me (m 154) i 2 = c) n 0 (mTc (m 154) n c - 1))))] [] m (some (mz_i (fnB O + 500 * min 5 (mUp (m 154) n c)))) m := by
  have hu := mUp_ok (m 154) n c
  refine mz_vc_ok 60 (ct := fun _ => false) ?_
  simp only [vcS0, vcS1, vcS2, vcS3, vcS4, vcS5, vcS6, vc_n0, vc_lk, vc_pop, vc_rc, vc_tsw, vc_fr, vc_ar, vc_tb, mz_nx, List.set_cons_zero, List.set_cons_succ, Nat.reduceAdd, Nat.reduceBEq, Nat.reduceEqDiff, Nat.reduceLeDiff, Nat.reduceLT, Nat.reduceMul, Int.reduceToNat, Bool.false_eq_true, Bool.or_self, Bool.or_true, Bool.true_or, Bool.or_false, reduceIte, Option.toList_some, Option.toList_none, List.nil_append, List.cons_append, List.length_cons, List.length_nil, true_and, and_true, Int.cast_ofNat_Int, Int.reduceEq, Int.reduceLT, Int.reduceLE, Nat.zero_le, and_self, or_true, true_or, cdS_157]
  have hB : 0 ≤ fnB O ∧ fnB O ≤ 6000 := by unfold fnB; split <;> (try split) <;> omega
  by_cases h1 : O ≤ 30
  · rw [if_pos h1]
    refine ⟨_, _, sp_unpaid m c h0 hn, ?_⟩
    simp only [vcS0, vcS1, vcS2, vcS3, vcS4, vcS5, vcS6, vc_n0, vc_lk, vc_pop, vc_rc, vc_tsw, vc_fr, vc_ar, vc_tb, mz_nx, List.set_cons_zero, List.set_cons_succ, Nat.reduceAdd, Nat.reduceBEq, Nat.reduceEqDiff, Nat.reduceLeDiff, Nat.reduceLT, Nat.reduceMul, Int.reduceToNat, Bool.false_eq_true, Bool.or_self, Bool.or_true, Bool.true_or, Bool.or_false, reduceIte, Option.toList_some, Option.toList_none, List.nil_append, List.cons_append, List.length_cons, List.length_nil, true_and, and_true, Int.cast_ofNat_Int, Int.reduceEq, Int.reduceLT, Int.reduceLE, Nat.zero_le, and_self, or_true, true_or, cdS_157]
    rw [show fnB O = 1500 from if_pos h1]
    refine ⟨by unfold mUp at hu; unfold mz_w; omega, by unfold mUp at hu; unfold mz_w; omega, ?_⟩
    rfl
  · rw [if_neg h1]
    by_cases h2 : O ≤ 120
    · rw [if_pos h2]
      refine ⟨_, _, sp_unpaid m c h0 hn, ?_⟩
      simp only [vcS0, vcS1, vcS2, vcS3, vcS4, vcS5, vcS6, vc_n0, vc_lk, vc_pop, vc_rc, vc_tsw, vc_fr, vc_ar, vc_tb, mz_nx, List.set_cons_zero, List.set_cons_succ, Nat.reduceAdd, Nat.reduceBEq, Nat.reduceEqDiff, Nat.reduceLeDiff, Nat.reduceLT, Nat.reduceMul, Int.reduceToNat, Bool.false_eq_true, Bool.or_self, Bool.or_true, Bool.true_or, Bool.or_false, reduceIte, Option.toList_some, Option.toList_none, List.nil_append, List.cons_append, List.length_cons, List.length_nil, true_and, and_true, Int.cast_ofNat_Int, Int.reduceEq, Int.reduceLT, Int.reduceLE, Nat.zero_le, and_self, or_true, true_or, cdS_157]
      rw [show fnB O = 3000 from (if_neg h1).trans (if_pos h2)]
      refine ⟨by unfold mUp at hu; unfold mz_w; omega, by unfold mUp at hu; unfold mz_w; omega, ?_⟩
      rfl
    · rw [if_neg h2]
      refine ⟨_, _, sp_unpaid m c h0 hn, ?_⟩
      simp only [vcS0, vcS1, vcS2, vcS3, vcS4, vcS5, vcS6, vc_n0, vc_lk, vc_pop, vc_rc, vc_tsw, vc_fr, vc_ar, vc_tb, mz_nx, List.set_cons_zero, List.set_cons_succ, Nat.reduceAdd, Nat.reduceBEq, Nat.reduceEqDiff, Nat.reduceLeDiff, Nat.reduceLT, Nat.reduceMul, Int.reduceToNat, Bool.false_eq_true, Bool.or_self, Bool.or_true, Bool.true_or, Bool.or_false, reduceIte, Option.toList_some, Option.toList_none, List.nil_append, List.cons_append, List.length_cons, List.length_nil, true_and, and_true, Int.cast_ofNat_Int, Int.reduceEq, Int.reduceLT, Int.reduceLE, Nat.zero_le, and_self, or_true, true_or, cdS_157]
      rw [show fnB O = 6000 from (if_neg h1).trans (if_neg h2)]
      refine ⟨by unfold mUp at hu; unfold mz_w; omega, by unfold mUp at hu; unfold mz_w; omega, ?_⟩
      rfl
theorem sp_fine (m : mz_M) {c n : Nat} (hc : c < 16) (h : mCo (m 154) c) (hz : mZo (m 154)) (ht : 0 ≤ m 154 2 ∧ m 154 2 < 20000) (h0 : m 154 429 = n) (hn : n ≤ 400) : sp 157 [mz_r 9 0 153, mz_i c] m (some (mz_i (mFi (m 154) n c))) m := by
  have hO := mOv_ok (c := c) ht
  have hT := mTc_ok (m 154) n c
  have hE := sp_fineE m (O := mOv (m 154) c) hc h0 hn hO
  unfold mFi
  refine mz_cl_vc 60 (fun i => i == 38) [some (mz_r 9 0 153), some (mz_i c), none, none] rfl ?_
  simp only [vcS0, vcS1, vcS2, vcS3, vcS4, vcS5, vcS6, vc_n0, vc_lk, vc_pop, vc_rc, vc_tsw, vc_fr, vc_ar, vc_tb, mz_nx, List.set_cons_zero, List.set_cons_succ, Nat.reduceAdd, Nat.reduceBEq, Nat.reduceEqDiff, Nat.reduceLeDiff, Nat.reduceLT, Nat.reduceMul, Int.reduceToNat, Bool.false_eq_true, Bool.or_self, Bool.or_true, Bool.true_or, Bool.or_false, reduceIte, Option.toList_some, Option.toList_none, List.nil_append, List.cons_append, List.length_cons, List.length_nil, true_and, and_true, Int.cast_ofNat_Int, Int.reduceEq, Int.reduceLT, Int.reduceLE, Nat.zero_le, and_self, or_true, true_or, cdS_157]
  refine ⟨_, _, sp_of0 m hc, ?_⟩
  simp only [vcS0, vcS1, vcS2, vcS3, vcS4, vcS5, vcS6, vc_n0, vc_lk, vc_pop, vc_rc, vc_tsw, vc_fr, vc_ar, vc_tb, mz_nx, List.set_cons_zero, List.set_cons_succ, Nat.reduceAdd, Nat.reduceBEq, Nat.reduceEqDiff, Nat.reduceLeDiff, Nat.reduceLT, Nat.reduceMul, Int.reduceToNat, Bool.false_eq_true, Bool.or_self, Bool.or_true, Bool.true_or, Bool.or_false, reduceIte, Option.toList_some, Option.toList_none, List.nil_append, List.cons_append, List.length_cons, List.length_nil, true_and, and_true, Int.cast_ofNat_Int, Int.reduceEq, Int.reduceLT, Int.reduceLE, Nat.zero_le, and_self, or_true, true_or, cdS_157]
  by_cases h1 : mc (m 154) c 0 = 1
  · rw [if_pos h1, if_pos h1]
    refine ⟨_, _, sp_overV m hc h hz ht, ?_⟩
    simp only [vcS0, vcS1, vcS2, vcS3, vcS4, vcS5, vcS6, vc_n0, vc_lk, vc_pop, vc_rc, vc_tsw, vc_fr, vc_ar, vc_tb, mz_nx, List.set_cons_zero, List.set_cons_succ, Nat.reduceAdd, Nat.reduceBEq, Nat.reduceEqDiff, Nat.reduceLeDiff, Nat.reduceLT, Nat.reduceMul, Int.reduceToNat, Bool.false_eq_true, Bool.or_self, Bool.or_true, Bool.true_or, Bool.or_false, reduceIte, Option.toList_some, Option.toList_none, List.nil_append, List.cons_append, List.length_cons, List.length_nil, true_and, and_true, Int.cast_ofNat_Int, Int.reduceEq, Int.reduceLT, Int.reduceLE, Nat.zero_le, and_self, or_true, true_or, cdS_157]
    refine ⟨_, _, sp_tickets m c h0 hn, ?_⟩
    simp only [vcS0, vcS1, vcS2, vcS3, vcS4, vcS5, vcS6, vc_n0, vc_lk, vc_pop, vc_rc, vc_tsw, vc_fr, vc_ar, vc_tb, mz_nx, List.set_cons_zero, List.set_cons_succ, Nat.reduceAdd, Nat.reduceBEq, Nat.reduceEqDiff, Nat.reduceLeDiff, Nat.reduceLT, Nat.reduceMul, Int.reduceToNat, Bool.false_eq_true, Bool.or_self, Bool.or_true, Bool.true_or, Bool.or_false, reduceIte, Option.toList_some, Option.toList_none, List.nil_append, List.cons_append, List.length_cons, List.length_nil, true_and, and_true, Int.cast_ofNat_Int, Int.reduceEq, Int.reduceLT, Int.reduceLE, Nat.zero_le, and_self, or_true, true_or, cdS_157]
    rw [show sm (fun i => if me (m 154) i 1 = 4 ∧ me (m 154) i 2 = c then 1 else 0) n = mTc (m 154) n c from rfl]
    refine ⟨by unfold mz_w; omega, _, _, sp_ticket m c (mTc (m 154) n c - 1) h0 hn (by omega), ?_⟩
    simp only [vcS0, vcS1, vcS2, vcS3, vcS4, vcS5, vcS6, vc_n0, vc_lk, vc_pop, vc_rc, vc_tsw, vc_fr, vc_ar, vc_tb, mz_nx, List.set_cons_zero, List.set_cons_succ, Nat.reduceAdd, Nat.reduceBEq, Nat.reduceEqDiff, Nat.reduceLeDiff, Nat.reduceLT, Nat.reduceMul, Int.reduceToNat, Bool.false_eq_true, Bool.or_self, Bool.or_true, Bool.true_or, Bool.or_false, reduceIte, Option.toList_some, Option.toList_none, List.nil_append, List.cons_append, List.length_cons, List.length_nil, true_and, and_true, Int.cast_ofNat_Int, Int.reduceEq, Int.reduceLT, Int.reduceLE, Nat.zero_le, and_self, or_true, true_or, cdS_157]
    by_cases h2 : mOv (m 154) c = 0
    · rw [if_pos h2, if_pos (Or.inl h2)]
      all_goals ((repeat' refine And.intro ?_ ?_) <;> first | trivial | rfl | (unfold mz_w; omega) | omega)
    · rw [if_neg h2]
      unfold mLt
      cases hk : tke (fun i => me (m 154) i 1 = 4 ∧ me (m 154) i 2 = c) n 0 (mTc (m 154) n c - 1) with
      | none =>
        rw [hk] at hE
        rw [if_pos (by simp only [opI]; omega), if_neg (by simp [h2])]
        exact hE
      | some e =>
        rw [hk] at hE
        have he := tke_lt _ _ _ _ hk
        rw [if_neg (by simp only [opI]; omega)]
        simp only [opI] at hE ⊢
        refine ⟨_, _, sp_e0 m (by omega), ?_⟩
        simp only [vcS0, vcS1, vcS2, vcS3, vcS4, vcS5, vcS6, vc_n0, vc_lk, vc_pop, vc_rc, vc_tsw, vc_fr, vc_ar, vc_tb, mz_nx, List.set_cons_zero, List.set_cons_succ, Nat.reduceAdd, Nat.reduceBEq, Nat.reduceEqDiff, Nat.reduceLeDiff, Nat.reduceLT, Nat.reduceMul, Int.reduceToNat, Bool.false_eq_true, Bool.or_self, Bool.or_true, Bool.true_or, Bool.or_false, reduceIte, Option.toList_some, Option.toList_none, List.nil_append, List.cons_append, List.length_cons, List.length_nil, true_and, and_true, Int.cast_ofNat_Int, Int.reduceEq, Int.reduceLT, Int.reduceLE, Nat.zero_le, and_self, or_true, true_or, cdS_157]
        refine ⟨(by unfold mz_w; omega), ?_⟩
        by_cases h3 : me (m 154) e 0 ≤ m 154 2 - 120
        · rw [if_pos h3, if_neg (by simp [h2]; omega)]
          exact hE
        · rw [if_neg h3, if_pos (Or.inr (by simp; omega))]
          all_goals ((repeat' refine And.intro ?_ ?_) <;> first | trivial | rfl | (unfold mz_w; omega) | omega)
  · rw [if_neg h1, if_neg h1]
    all_goals ((repeat' refine And.intro ?_ ?_) <;> first | trivial | rfl | (unfold mz_w; omega) | omega)
