/-! The model: what its row says of a car, of an entry. -/
abbrev mc (V : Nat → Int) (c w : Nat) : Int := V (333 + 6 * c + w)
theorem sp_of0 (m : mz_M) {c : Nat} (hc : c < 16) : sp 46 [mz_r 9 0 153, mz_i c, mz_i 0] m (some (mz_i (mc (m 154) c 0))) m := sp_of m hc (show 0 < 6 by omega)
theorem sp_of1 (m : mz_M) {c : Nat} (hc : c < 16) : sp 46 [mz_r 9 0 153, mz_i c, mz_i 1] m (some (mz_i (mc (m 154) c 1))) m := sp_of m hc (show 1 < 6 by omega)
theorem sp_of2 (m : mz_M) {c : Nat} (hc : c < 16) : sp 46 [mz_r 9 0 153, mz_i c, mz_i 2] m (some (mz_i (mc (m 154) c 2))) m := sp_of m hc (show 2 < 6 by omega)
theorem sp_of3 (m : mz_M) {c : Nat} (hc : c < 16) : sp 46 [mz_r 9 0 153, mz_i c, mz_i 3] m (some (mz_i (mc (m 154) c 3))) m := sp_of m hc (show 3 < 6 by omega)
theorem sp_of4 (m : mz_M) {c : Nat} (hc : c < 16) : sp 46 [mz_r 9 0 153, mz_i c, mz_i 4] m (some (mz_i (mc (m 154) c 4))) m := sp_of m hc (show 4 < 6 by omega)
theorem sp_of5 (m : mz_M) {c : Nat} (hc : c < 16) : sp 46 [mz_r 9 0 153, mz_i c, mz_i 5] m (some (mz_i (mc (m 154) c 5))) m := sp_of m hc (show 5 < 6 by omega)
theorem sp_set0 (m : mz_M) {c : Nat} (v : Int) (hc : c < 16) : sp 48 [mz_r 9 0 153, mz_i c, mz_i 0, mz_i v] m none (mz_up m 154 (333 + 6 * c + 0) v) := sp_set m v hc (show 0 < 6 by omega)
theorem sp_set1 (m : mz_M) {c : Nat} (v : Int) (hc : c < 16) : sp 48 [mz_r 9 0 153, mz_i c, mz_i 1, mz_i v] m none (mz_up m 154 (333 + 6 * c + 1) v) := sp_set m v hc (show 1 < 6 by omega)
theorem sp_set2 (m : mz_M) {c : Nat} (v : Int) (hc : c < 16) : sp 48 [mz_r 9 0 153, mz_i c, mz_i 2, mz_i v] m none (mz_up m 154 (333 + 6 * c + 2) v) := sp_set m v hc (show 2 < 6 by omega)
theorem sp_set3 (m : mz_M) {c : Nat} (v : Int) (hc : c < 16) : sp 48 [mz_r 9 0 153, mz_i c, mz_i 3, mz_i v] m none (mz_up m 154 (333 + 6 * c + 3) v) := sp_set m v hc (show 3 < 6 by omega)
theorem sp_set4 (m : mz_M) {c : Nat} (v : Int) (hc : c < 16) : sp 48 [mz_r 9 0 153, mz_i c, mz_i 4, mz_i v] m none (mz_up m 154 (333 + 6 * c + 4) v) := sp_set m v hc (show 4 < 6 by omega)
theorem sp_set5 (m : mz_M) {c : Nat} (v : Int) (hc : c < 16) : sp 48 [mz_r 9 0 153, mz_i c, mz_i 5, mz_i v] m none (mz_up m 154 (333 + 6 * c + 5) v) := sp_set m v hc (show 5 < 6 by omega)
abbrev me (V : Nat → Int) (i w : Nat) : Int := V (430 + 5 * i + w)
theorem sp_e0 (m : mz_M) {i : Nat} (h : i < 400) : sp 37 [mz_r 9 0 153, mz_i i, mz_i 0] m (some (mz_i (me (m 154) i 0))) m := sp_entry m h (show 0 < 5 by omega)
theorem sp_e1 (m : mz_M) {i : Nat} (h : i < 400) : sp 37 [mz_r 9 0 153, mz_i i, mz_i 1] m (some (mz_i (me (m 154) i 1))) m := sp_entry m h (show 1 < 5 by omega)
theorem sp_e2 (m : mz_M) {i : Nat} (h : i < 400) : sp 37 [mz_r 9 0 153, mz_i i, mz_i 2] m (some (mz_i (me (m 154) i 2))) m := sp_entry m h (show 2 < 5 by omega)
theorem sp_e3 (m : mz_M) {i : Nat} (h : i < 400) : sp 37 [mz_r 9 0 153, mz_i i, mz_i 3] m (some (mz_i (me (m 154) i 3))) m := sp_entry m h (show 3 < 5 by omega)
theorem sp_e4 (m : mz_M) {i : Nat} (h : i < 400) : sp 37 [mz_r 9 0 153, mz_i i, mz_i 4] m (some (mz_i (me (m 154) i 4))) m := sp_entry m h (show 4 < 5 by omega)
/-- a car on a space -/
def mAt (V : Nat → Int) (p : Int) (c : Nat) : Bool := decide ((1 ≤ mc V c 0 ∧ mc V c 0 ≤ 2) ∧ mc V c 1 = p)
theorem sp_mAt (m : mz_M) {c : Nat} (p : Int) (hc : c < 16) : sp 104 [mz_r 9 0 153, mz_i c, mz_i p] m (some (mz_i (if mAt (m 154) p c = true then 1 else 0))) m := by
  have := sp_misAt m p hc
  unfold mAt
  simp only [decide_eq_true_eq]
  exact this
theorem fr_loop (m : mz_M) {p s : Int} (hs : 0 ≤ s ∧ s ≤ 1000) : ∀ (r j : Nat), j + r = 16 → sx 158 9 [some (mz_r 9 0 153), some (mz_i p), some (mz_i (s - sm (fun c => if mAt (m 154) p c = true then 1 else 0) j)), some (mz_i j)] [] m (some (mz_i (s - sm (fun c => if mAt (m 154) p c = true then 1 else 0) 16))) m := by
  intro r
  induction r with
  | zero =>
    intro j hj
    obtain rfl : j = 16 := by omega
    refine mz_vc_ok 60 (ct := fun i => i == 9) ?_
    simp only [vcS0, vcS1, vcS2, vcS3, vcS4, vcS5, vcS6, vc_n0, vc_lk, vc_pop, vc_rc, vc_tsw, vc_fr, vc_ar, vc_tb, mz_nx, List.set_cons_zero, List.set_cons_succ, Nat.reduceAdd, Nat.reduceBEq, Nat.reduceEqDiff, Nat.reduceLeDiff, Nat.reduceLT, Nat.reduceMul, Int.reduceToNat, Bool.false_eq_true, Bool.or_self, Bool.or_true, Bool.true_or, Bool.or_false, reduceIte, Option.toList_some, Option.toList_none, List.nil_append, List.cons_append, List.length_cons, List.length_nil, true_and, and_true, Int.cast_ofNat_Int, Int.reduceEq, Int.reduceLT, Int.reduceLE, Nat.zero_le, and_self, or_true, true_or, cdS_158]
  | succ r ih =>
    intro j hj
    have hk := ih (j + 1) (by omega)
    have h0 : 0 ≤ sm (fun c => if mAt (m 154) p c = true then 1 else 0) j := sm_0 fun i hi => by split <;> omega
    have h1 : sm (fun c => if mAt (m 154) p c = true then 1 else 0) j ≤ 1 * j := sm_ub fun i hi => by split <;> omega
    refine mz_vc_ok 60 (ct := fun i => i == 9) ?_
    simp only [vcS0, vcS1, vcS2, vcS3, vcS4, vcS5, vcS6, vc_n0, vc_lk, vc_pop, vc_rc, vc_tsw, vc_fr, vc_ar, vc_tb, mz_nx, List.set_cons_zero, List.set_cons_succ, Nat.reduceAdd, Nat.reduceBEq, Nat.reduceEqDiff, Nat.reduceLeDiff, Nat.reduceLT, Nat.reduceMul, Int.reduceToNat, Bool.false_eq_true, Bool.or_self, Bool.or_true, Bool.true_or, Bool.or_false, reduceIte, Option.toList_some, Option.toList_none, List.nil_append, List.cons_append, List.length_cons, List.length_nil, true_and, and_true, Int.cast_ofNat_Int, Int.reduceEq, Int.reduceLT, Int.reduceLE, Nat.zero_le, and_self, or_true, true_or, cdS_158]
    rw [if_pos (by omega)]
    refine ⟨_, _, sp_mAt m p (by omega), ?_⟩
    simp only [sm] at hk
    by_cases h2 : mAt (m 154) p j = true
    · rw [if_pos h2] at hk ⊢
      simp only [vcS0, vcS1, vcS2, vcS3, vcS4, vcS5, vcS6, vc_n0, vc_lk, vc_pop, vc_rc, vc_tsw, vc_fr, vc_ar, vc_tb, mz_nx, List.set_cons_zero, List.set_cons_succ, Nat.reduceAdd, Nat.reduceBEq, Nat.reduceEqDiff, Nat.reduceLeDiff, Nat.reduceLT, Nat.reduceMul, Int.reduceToNat, Bool.false_eq_true, Bool.or_self, Bool.or_true, Bool.true_or, Bool.or_false, reduceIte, Option.toList_some, Option.toList_none, List.nil_append, List.cons_append, List.length_cons, List.length_nil, true_and, and_true, Int.cast_ofNat_Int, Int.reduceEq, Int.reduceLT, Int.reduceLE, Nat.zero_le, and_self, or_true, true_or, cdS_158]
      rw [show s - (sm (fun c => if mAt (m 154) p c = true then 1 else 0) j + 1) = s - sm (fun c => if mAt (m 154) p c = true then 1 else 0) j - 1 by omega] at hk
      exact ⟨(by unfold mz_w; omega), (by unfold mz_w; omega), hk⟩
    · rw [if_neg h2] at hk ⊢
      simp only [vcS0, vcS1, vcS2, vcS3, vcS4, vcS5, vcS6, vc_n0, vc_lk, vc_pop, vc_rc, vc_tsw, vc_fr, vc_ar, vc_tb, mz_nx, List.set_cons_zero, List.set_cons_succ, Nat.reduceAdd, Nat.reduceBEq, Nat.reduceEqDiff, Nat.reduceLeDiff, Nat.reduceLT, Nat.reduceMul, Int.reduceToNat, Bool.false_eq_true, Bool.or_self, Bool.or_true, Bool.true_or, Bool.or_false, reduceIte, Option.toList_some, Option.toList_none, List.nil_append, List.cons_append, List.length_cons, List.length_nil, true_and, and_true, Int.cast_ofNat_Int, Int.reduceEq, Int.reduceLT, Int.reduceLE, Nat.zero_le, and_self, or_true, true_or, cdS_158]
      rw [show s - (sm (fun c => if mAt (m 154) p c = true then 1 else 0) j + 0) = s - sm (fun c => if mAt (m 154) p c = true then 1 else 0) j - 0 by omega] at hk
      exact ⟨(by unfold mz_w; omega), (by unfold mz_w; omega), hk⟩
theorem sp_free (m : mz_M) {p : Nat} (hp : p < 10) (hs : 0 ≤ m 154 (213 + p) ∧ m 154 (213 + p) ≤ 1000) : sp 158 [mz_r 9 0 153, mz_i p] m (some (mz_i (m 154 (213 + p) - sm (fun c => if mAt (m 154) p c = true then 1 else 0) 16))) m := by
  refine mz_cl_vc 60 (fun i => i == 9) [some (mz_r 9 0 153), some (mz_i p), none, none] rfl ?_
  simp only [vcS0, vcS1, vcS2, vcS3, vcS4, vcS5, vcS6, vc_n0, vc_lk, vc_pop, vc_rc, vc_tsw, vc_fr, vc_ar, vc_tb, mz_nx, List.set_cons_zero, List.set_cons_succ, Nat.reduceAdd, Nat.reduceBEq, Nat.reduceEqDiff, Nat.reduceLeDiff, Nat.reduceLT, Nat.reduceMul, Int.reduceToNat, Bool.false_eq_true, Bool.or_self, Bool.or_true, Bool.true_or, Bool.or_false, reduceIte, Option.toList_some, Option.toList_none, List.nil_append, List.cons_append, List.length_cons, List.length_nil, true_and, and_true, Int.cast_ofNat_Int, Int.reduceEq, Int.reduceLT, Int.reduceLE, Nat.zero_le, and_self, or_true, true_or, cdS_158]
  rw [show (213 + (p : Int)).toNat = 213 + p by omega]
  have := fr_loop m (p := p) hs 16 0 rfl
  rw [show m 154 (213 + p) - sm (fun c => if mAt (m 154) p c = true then 1 else 0) 0 = m 154 (213 + p) by simp [sm]] at this
  exact ⟨(by unfold mz_w; omega), by omega, this⟩
def mPn (V : Nat → Int) (p : Int) (c : Nat) : Int := if mc V c 0 = 3 ∧ mc V c 1 = p then 1 else 0
theorem ro_loop (m : mz_M) {p s : Int} (hs : 0 ≤ s ∧ s ≤ 1000) : ∀ (r j : Nat), j + r = 16 → sx 118 9 [some (mz_r 9 0 153), some (mz_i p), some (mz_i (s - sm (mPn (m 154) p) j)), some (mz_i j)] [] m (some (mz_i (s - sm (mPn (m 154) p) 16))) m := by
  intro r
  induction r with
  | zero =>
    intro j hj
    obtain rfl : j = 16 := by omega
    refine mz_vc_ok 60 (ct := fun i => i == 9) ?_
    simp only [vcS0, vcS1, vcS2, vcS3, vcS4, vcS5, vcS6, vc_n0, vc_lk, vc_pop, vc_rc, vc_tsw, vc_fr, vc_ar, vc_tb, mz_nx, List.set_cons_zero, List.set_cons_succ, Nat.reduceAdd, Nat.reduceBEq, Nat.reduceEqDiff, Nat.reduceLeDiff, Nat.reduceLT, Nat.reduceMul, Int.reduceToNat, Bool.false_eq_true, Bool.or_self, Bool.or_true, Bool.true_or, Bool.or_false, reduceIte, Option.toList_some, Option.toList_none, List.nil_append, List.cons_append, List.length_cons, List.length_nil, true_and, and_true, Int.cast_ofNat_Int, Int.reduceEq, Int.reduceLT, Int.reduceLE, Nat.zero_le, and_self, or_true, true_or, cdS_118]
  | succ r ih =>
    intro j hj
    have hk := ih (j + 1) (by omega)
    have h0 : 0 ≤ sm (mPn (m 154) p) j := sm_0 fun i hi => by unfold mPn; split <;> omega
    have h1 : sm (mPn (m 154) p) j ≤ 1 * j := sm_ub fun i hi => by unfold mPn; split <;> omega
    refine mz_vc_ok 60 (ct := fun i => i == 9) ?_
    simp only [vcS0, vcS1, vcS2, vcS3, vcS4, vcS5, vcS6, vc_n0, vc_lk, vc_pop, vc_rc, vc_tsw, vc_fr, vc_ar, vc_tb, mz_nx, List.set_cons_zero, List.set_cons_succ, Nat.reduceAdd, Nat.reduceBEq, Nat.reduceEqDiff, Nat.reduceLeDiff, Nat.reduceLT, Nat.reduceMul, Int.reduceToNat, Bool.false_eq_true, Bool.or_self, Bool.or_true, Bool.true_or, Bool.or_false, reduceIte, Option.toList_some, Option.toList_none, List.nil_append, List.cons_append, List.length_cons, List.length_nil, true_and, and_true, Int.cast_ofNat_Int, Int.reduceEq, Int.reduceLT, Int.reduceLE, Nat.zero_le, and_self, or_true, true_or, cdS_118]
    rw [if_pos (by omega)]
    refine ⟨_, _, sp_of0 m (by omega), ?_⟩
    simp only [vcS0, vcS1, vcS2, vcS3, vcS4, vcS5, vcS6, vc_n0, vc_lk, vc_pop, vc_rc, vc_tsw, vc_fr, vc_ar, vc_tb, mz_nx, List.set_cons_zero, List.set_cons_succ, Nat.reduceAdd, Nat.reduceBEq, Nat.reduceEqDiff, Nat.reduceLeDiff, Nat.reduceLT, Nat.reduceMul, Int.reduceToNat, Bool.false_eq_true, Bool.or_self, Bool.or_true, Bool.true_or, Bool.or_false, reduceIte, Option.toList_some, Option.toList_none, List.nil_append, List.cons_append, List.length_cons, List.length_nil, true_and, and_true, Int.cast_ofNat_Int, Int.reduceEq, Int.reduceLT, Int.reduceLE, Nat.zero_le, and_self, or_true, true_or, cdS_118]
    simp only [sm] at hk
    by_cases h2 : mc (m 154) j 0 = 3
    · rw [if_pos h2]
      refine ⟨_, _, sp_of1 m (by omega), ?_⟩
      simp only [vcS0, vcS1, vcS2, vcS3, vcS4, vcS5, vcS6, vc_n0, vc_lk, vc_pop, vc_rc, vc_tsw, vc_fr, vc_ar, vc_tb, mz_nx, List.set_cons_zero, List.set_cons_succ, Nat.reduceAdd, Nat.reduceBEq, Nat.reduceEqDiff, Nat.reduceLeDiff, Nat.reduceLT, Nat.reduceMul, Int.reduceToNat, Bool.false_eq_true, Bool.or_self, Bool.or_true, Bool.true_or, Bool.or_false, reduceIte, Option.toList_some, Option.toList_none, List.nil_append, List.cons_append, List.length_cons, List.length_nil, true_and, and_true, Int.cast_ofNat_Int, Int.reduceEq, Int.reduceLT, Int.reduceLE, Nat.zero_le, and_self, or_true, true_or, cdS_118]
      by_cases h3 : mc (m 154) j 1 = p
      · rw [if_pos h3]
        rw [show mPn (m 154) p j = 1 from if_pos ⟨h2, h3⟩, show s - (sm (mPn (m 154) p) j + 1) = s - sm (mPn (m 154) p) j - 1 by omega] at hk
        exact ⟨(by unfold mz_w; omega), (by unfold mz_w; omega), hk⟩
      · rw [if_neg h3]
        rw [show mPn (m 154) p j = 0 from if_neg (fun q => h3 q.2), show s - (sm (mPn (m 154) p) j + 0) = s - sm (mPn (m 154) p) j - 0 by omega] at hk
        exact ⟨(by unfold mz_w; omega), (by unfold mz_w; omega), hk⟩
    · rw [if_neg h2]
      rw [show mPn (m 154) p j = 0 from if_neg (fun q => h2 q.1), show s - (sm (mPn (m 154) p) j + 0) = s - sm (mPn (m 154) p) j - 0 by omega] at hk
      exact ⟨(by unfold mz_w; omega), (by unfold mz_w; omega), hk⟩
theorem sp_roomOf (m : mz_M) {p : Nat} (hp : p < 10) (hs : 0 ≤ m 154 (223 + p) ∧ m 154 (223 + p) ≤ 1000) : sp 118 [mz_r 9 0 153, mz_i p] m (some (mz_i (m 154 (223 + p) - sm (mPn (m 154) p) 16))) m := by
  refine mz_cl_vc 60 (fun i => i == 9) [some (mz_r 9 0 153), some (mz_i p), none, none] rfl ?_
  simp only [vcS0, vcS1, vcS2, vcS3, vcS4, vcS5, vcS6, vc_n0, vc_lk, vc_pop, vc_rc, vc_tsw, vc_fr, vc_ar, vc_tb, mz_nx, List.set_cons_zero, List.set_cons_succ, Nat.reduceAdd, Nat.reduceBEq, Nat.reduceEqDiff, Nat.reduceLeDiff, Nat.reduceLT, Nat.reduceMul, Int.reduceToNat, Bool.false_eq_true, Bool.or_self, Bool.or_true, Bool.true_or, Bool.or_false, reduceIte, Option.toList_some, Option.toList_none, List.nil_append, List.cons_append, List.length_cons, List.length_nil, true_and, and_true, Int.cast_ofNat_Int, Int.reduceEq, Int.reduceLT, Int.reduceLE, Nat.zero_le, and_self, or_true, true_or, cdS_118]
  rw [show (223 + (p : Int)).toNat = 223 + p by omega]
  have := ro_loop m (p := p) hs 16 0 rfl
  rw [show m 154 (223 + p) - sm (mPn (m 154) p) 0 = m 154 (223 + p) by simp [sm]] at this
  exact ⟨(by unfold mz_w; omega), by omega, this⟩
def mTw (V : Nat → Int) (c : Nat) : Bool := decide (mc V c 0 = 2 ∧ mc V c 5 + 180 ≤ V 2)
def mSi (V : Nat → Int) : Prop := ∀ c, c < 16 → 0 ≤ mc V c 5 ∧ mc V c 5 ≤ 100000
theorem sp_mTw (m : mz_M) {c : Nat} (hc : c < 16) (h : mSi (m 154)) : sp 107 [mz_r 9 0 153, mz_i c] m (some (mz_i (if mTw (m 154) c = true then 1 else 0))) m := by
  have := sp_isTowable m hc (h c hc)
  unfold mTw
  simp only [decide_eq_true_eq]
  exact this
theorem tw_loop (m : mz_M) (h : mSi (m 154)) : ∀ (r j : Nat), j + r = 16 → sx 183 7 [some (mz_r 9 0 153), some (mz_i (bs (mTw (m 154)) j)), some (mz_i j)] [] m (some (mz_i (bs (mTw (m 154)) 16))) m := by
  intro r
  induction r with
  | zero =>
    intro j hj
    obtain rfl : j = 16 := by omega
    refine mz_vc_ok 60 (ct := fun i => i == 7) ?_
    simp only [vcS0, vcS1, vcS2, vcS3, vcS4, vcS5, vcS6, vc_n0, vc_lk, vc_pop, vc_rc, vc_tsw, vc_fr, vc_ar, vc_tb, mz_nx, List.set_cons_zero, List.set_cons_succ, Nat.reduceAdd, Nat.reduceBEq, Nat.reduceEqDiff, Nat.reduceLeDiff, Nat.reduceLT, Nat.reduceMul, Int.reduceToNat, Bool.false_eq_true, Bool.or_self, Bool.or_true, Bool.true_or, Bool.or_false, reduceIte, Option.toList_some, Option.toList_none, List.nil_append, List.cons_append, List.length_cons, List.length_nil, true_and, and_true, Int.cast_ofNat_Int, Int.reduceEq, Int.reduceLT, Int.reduceLE, Nat.zero_le, and_self, or_true, true_or, cdS_183]
  | succ r ih =>
    intro j hj
    have hk := ih (j + 1) (by omega)
    refine mz_vc_ok 60 (ct := fun i => i == 7) ?_
    simp only [vcS0, vcS1, vcS2, vcS3, vcS4, vcS5, vcS6, vc_n0, vc_lk, vc_pop, vc_rc, vc_tsw, vc_fr, vc_ar, vc_tb, mz_nx, List.set_cons_zero, List.set_cons_succ, Nat.reduceAdd, Nat.reduceBEq, Nat.reduceEqDiff, Nat.reduceLeDiff, Nat.reduceLT, Nat.reduceMul, Int.reduceToNat, Bool.false_eq_true, Bool.or_self, Bool.or_true, Bool.true_or, Bool.or_false, reduceIte, Option.toList_some, Option.toList_none, List.nil_append, List.cons_append, List.length_cons, List.length_nil, true_and, and_true, Int.cast_ofNat_Int, Int.reduceEq, Int.reduceLT, Int.reduceLE, Nat.zero_le, and_self, or_true, true_or, cdS_183]
    rw [if_pos (by omega)]
    refine ⟨_, _, sp_mTw m (by omega) h, ?_⟩
    simp only [bs] at hk
    have hlt := bs_lt (mTw (m 154)) j
    have hp := Nat.pow_lt_pow_right (a := 2) (by omega) (show j < 16 by omega)
    by_cases h2 : mTw (m 154) j = true
    · rw [if_pos h2] at hk ⊢
      simp only [vcS0, vcS1, vcS2, vcS3, vcS4, vcS5, vcS6, vc_n0, vc_lk, vc_pop, vc_rc, vc_tsw, vc_fr, vc_ar, vc_tb, mz_nx, List.set_cons_zero, List.set_cons_succ, Nat.reduceAdd, Nat.reduceBEq, Nat.reduceEqDiff, Nat.reduceLeDiff, Nat.reduceLT, Nat.reduceMul, Int.reduceToNat, Bool.false_eq_true, Bool.or_self, Bool.or_true, Bool.true_or, Bool.or_false, reduceIte, Option.toList_some, Option.toList_none, List.nil_append, List.cons_append, List.length_cons, List.length_nil, true_and, and_true, Int.cast_ofNat_Int, Int.reduceEq, Int.reduceLT, Int.reduceLE, Nat.zero_le, and_self, or_true, true_or, cdS_183]
      rw [← bs_or _ (by omega)] at hk
      exact ⟨(by unfold mz_w; omega), hk⟩
    · rw [if_neg h2] at hk ⊢
      simp only [vcS0, vcS1, vcS2, vcS3, vcS4, vcS5, vcS6, vc_n0, vc_lk, vc_pop, vc_rc, vc_tsw, vc_fr, vc_ar, vc_tb, mz_nx, List.set_cons_zero, List.set_cons_succ, Nat.reduceAdd, Nat.reduceBEq, Nat.reduceEqDiff, Nat.reduceLeDiff, Nat.reduceLT, Nat.reduceMul, Int.reduceToNat, Bool.false_eq_true, Bool.or_self, Bool.or_true, Bool.true_or, Bool.or_false, reduceIte, Option.toList_some, Option.toList_none, List.nil_append, List.cons_append, List.length_cons, List.length_nil, true_and, and_true, Int.cast_ofNat_Int, Int.reduceEq, Int.reduceLT, Int.reduceLE, Nat.zero_le, and_self, or_true, true_or, cdS_183]
      rw [show (0 : Int) = ((0 : Nat) : Int) from rfl, or_n (by omega) (by omega), Nat.or_zero]
      exact ⟨(by unfold mz_w; omega), hk⟩
theorem thr_154 (m : mz_M) (v : Int) : mz_up m 153 4 v 154 = m 154 := by funext j; exact up_o (by omega)
theorem sp_X9_towable (m : mz_M) (h : mSi (m 154)) : sp 183 [mz_r 9 0 153] m (some (mz_i (bs (mTw (m 154)) 16))) (mz_up m 153 4 0) := by
  refine mz_cl_vc 60 (fun i => i == 7) [some (mz_r 9 0 153), none, none] rfl ?_
  simp only [vcS0, vcS1, vcS2, vcS3, vcS4, vcS5, vcS6, vc_n0, vc_lk, vc_pop, vc_rc, vc_tsw, vc_fr, vc_ar, vc_tb, mz_nx, List.set_cons_zero, List.set_cons_succ, Nat.reduceAdd, Nat.reduceBEq, Nat.reduceEqDiff, Nat.reduceLeDiff, Nat.reduceLT, Nat.reduceMul, Int.reduceToNat, Bool.false_eq_true, Bool.or_self, Bool.or_true, Bool.true_or, Bool.or_false, reduceIte, Option.toList_some, Option.toList_none, List.nil_append, List.cons_append, List.length_cons, List.length_nil, true_and, and_true, Int.cast_ofNat_Int, Int.reduceEq, Int.reduceLT, Int.reduceLE, Nat.zero_le, and_self, or_true, true_or, cdS_183]
  have := tw_loop (mz_up m 153 4 0) (by rw [thr_154]; exact h) 16 0 rfl
  rw [thr_154] at this
  exact this
