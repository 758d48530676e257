theorem bo_loop (m : mz_M) {p z T S : Nat} (y f : Int) (hp : p < 10) (hz : m 154 (203 + p) = z) (hz4 : z < 4) (hT : m 154 2 = T) (hS : m 154 (329 + z) = S) (hl : T + S < 100000) (hR : okR (mR (m 154) z)) : ∀ (r t : Nat) (left : Int), r = T + S - t → t < 100000 → 0 ≤ left → left ≤ 2000000 → sx 99 6 [some (mz_r 9 0 153), some (mz_i p), some (mz_i f), some (mz_i y), some (mz_i t), some (mz_i left)] [] m (some (mz_i (lu (mR (m 154) z) r left t))) m := by
  intro r
  induction r with
  | zero =>
    intro t left hr ht h1 h2
    refine mz_vc_ok 60 (ct := fun i => i == 6) ?_
    simp only [vcS0, vcS1, vcS2, vcS3, vcS4, vcS5, vcS6, vc_n0, vc_lk, vc_pop, vc_rc, vc_tsw, vc_fr, vc_ar, vc_tb, mz_nx, List.set_cons_zero, List.set_cons_succ, Nat.reduceAdd, Nat.reduceBEq, Nat.reduceEqDiff, Nat.reduceLeDiff, Nat.reduceLT, Nat.reduceMul, Int.reduceToNat, Bool.false_eq_true, Bool.or_self, Bool.or_true, Bool.true_or, Bool.or_false, reduceIte, Option.toList_some, Option.toList_none, List.nil_append, List.cons_append, List.length_cons, List.length_nil, true_and, and_true, Int.cast_ofNat_Int, Int.reduceEq, Int.reduceLT, Int.reduceLE, Nat.zero_le, and_self, or_true, true_or, cdS_99]
    rw [show (203 + (p : Int)).toNat = 203 + p by omega, hz, hT, show (329 + (z : Int)).toNat = 329 + z by omega, hS, if_neg (by omega)]
    exact ⟨(by unfold mz_w; omega), by omega, (by unfold mz_w; omega), by omega, (by unfold mz_w; omega), rfl⟩
  | succ r ih =>
    intro t left hr ht h1 h2
    have hr9 := rt_ok hR t
    refine mz_vc_ok 60 (ct := fun i => i == 6) ?_
    simp only [vcS0, vcS1, vcS2, vcS3, vcS4, vcS5, vcS6, vc_n0, vc_lk, vc_pop, vc_rc, vc_tsw, vc_fr, vc_ar, vc_tb, mz_nx, List.set_cons_zero, List.set_cons_succ, Nat.reduceAdd, Nat.reduceBEq, Nat.reduceEqDiff, Nat.reduceLeDiff, Nat.reduceLT, Nat.reduceMul, Int.reduceToNat, Bool.false_eq_true, Bool.or_self, Bool.or_true, Bool.true_or, Bool.or_false, reduceIte, Option.toList_some, Option.toList_none, List.nil_append, List.cons_append, List.length_cons, List.length_nil, true_and, and_true, Int.cast_ofNat_Int, Int.reduceEq, Int.reduceLT, Int.reduceLE, Nat.zero_le, and_self, or_true, true_or, cdS_99]
    rw [show (203 + (p : Int)).toNat = 203 + p by omega, hz, hT, show (329 + (z : Int)).toNat = 329 + z by omega, hS, if_pos (by omega)]
    refine ⟨(by unfold mz_w; omega), by omega, (by unfold mz_w; omega), by omega, (by unfold mz_w; omega), _, _, sp_cents m hp hz hz4, ?_⟩
    simp only [vcS0, vcS1, vcS2, vcS3, vcS4, vcS5, vcS6, vc_n0, vc_lk, vc_pop, vc_rc, vc_tsw, vc_fr, vc_ar, vc_tb, mz_nx, List.set_cons_zero, List.set_cons_succ, Nat.reduceAdd, Nat.reduceBEq, Nat.reduceEqDiff, Nat.reduceLeDiff, Nat.reduceLT, Nat.reduceMul, Int.reduceToNat, Bool.false_eq_true, Bool.or_self, Bool.or_true, Bool.true_or, Bool.or_false, reduceIte, Option.toList_some, Option.toList_none, List.nil_append, List.cons_append, List.length_cons, List.length_nil, true_and, and_true, Int.cast_ofNat_Int, Int.reduceEq, Int.reduceLT, Int.reduceLE, Nat.zero_le, and_self, or_true, true_or, cdS_99]
    by_cases h3 : rt (mR (m 154) z) t ≤ left
    · rw [if_pos h3]
      refine ⟨_, _, sp_cents m hp hz hz4, ?_⟩
      simp only [vcS0, vcS1, vcS2, vcS3, vcS4, vcS5, vcS6, vc_n0, vc_lk, vc_pop, vc_rc, vc_tsw, vc_fr, vc_ar, vc_tb, mz_nx, List.set_cons_zero, List.set_cons_succ, Nat.reduceAdd, Nat.reduceBEq, Nat.reduceEqDiff, Nat.reduceLeDiff, Nat.reduceLT, Nat.reduceMul, Int.reduceToNat, Bool.false_eq_true, Bool.or_self, Bool.or_true, Bool.true_or, Bool.or_false, reduceIte, Option.toList_some, Option.toList_none, List.nil_append, List.cons_append, List.length_cons, List.length_nil, true_and, and_true, Int.cast_ofNat_Int, Int.reduceEq, Int.reduceLT, Int.reduceLE, Nat.zero_le, and_self, or_true, true_or, cdS_99]
      refine ⟨by unfold mz_w; omega, by unfold mz_w; omega, ?_⟩
      have := ih (t + 1) (left - rt (mR (m 154) z) t) (by omega) (by omega) (by omega) (by omega)
      rw [show lu (mR (m 154) z) (r + 1) left t = lu (mR (m 154) z) r (left - rt (mR (m 154) z) t) (t + 1) by simp only [lu]; rw [if_pos h3]]
      exact this
    · rw [if_neg h3]
      simp only [lu]
      rw [if_neg h3]
theorem sp_bought (m : mz_M) {p z T S f c : Nat} (hp : p < 10) (hz : m 154 (203 + p) = z) (hz4 : z < 4) (hT : m 154 2 = T) (hS : m 154 (329 + z) = S) (hl : T + S < 100000) (hR : okR (mR (m 154) z)) (hf : f < 100000) (hc : c < 30000) : sp 99 [mz_r 9 0 153, mz_i p, mz_i f, mz_i c] m (some (mz_i (lu (mR (m 154) z) (T + S - f) (60 * c) f))) m := by
  refine mz_cl_vc 60 (fun i => i == 6) [some (mz_r 9 0 153), some (mz_i p), some (mz_i f), some (mz_i c), none, none] rfl ?_
  simp only [vcS0, vcS1, vcS2, vcS3, vcS4, vcS5, vcS6, vc_n0, vc_lk, vc_pop, vc_rc, vc_tsw, vc_fr, vc_ar, vc_tb, mz_nx, List.set_cons_zero, List.set_cons_succ, Nat.reduceAdd, Nat.reduceBEq, Nat.reduceEqDiff, Nat.reduceLeDiff, Nat.reduceLT, Nat.reduceMul, Int.reduceToNat, Bool.false_eq_true, Bool.or_self, Bool.or_true, Bool.true_or, Bool.or_false, reduceIte, Option.toList_some, Option.toList_none, List.nil_append, List.cons_append, List.length_cons, List.length_nil, true_and, and_true, Int.cast_ofNat_Int, Int.reduceEq, Int.reduceLT, Int.reduceLE, Nat.zero_le, and_self, or_true, true_or, cdS_99]
  refine ⟨by unfold mz_w; omega, ?_⟩
  exact bo_loop m c f hp hz hz4 hT hS hl hR _ f (60 * c) rfl hf (by omega) (by omega)
theorem po_loop (m : mz_M) {p z s n : Nat} (hp : p < 10) (hz : m 154 (203 + p) = z) (hz4 : z < 4) (hs : s < 100000) (hn : n < 10000) (hR : okR (mR (m 154) z)) : ∀ (r j : Nat), j + r = n → sx 115 4 [some (mz_r 9 0 153), some (mz_i p), some (mz_i s), some (mz_i n), some (mz_i (cost (mR (m 154) z) s j)), some (mz_i ((s + j : Nat) : Int))] [] m (some (mz_i (prc (mR (m 154) z) n s))) m := by
  intro r
  induction r with
  | zero =>
    intro j hj
    obtain rfl : j = n := by omega
    have hb := cost_ok hR s j
    refine mz_vc_ok 60 (ct := fun i => i == 4) ?_
    simp only [vcS0, vcS1, vcS2, vcS3, vcS4, vcS5, vcS6, vc_n0, vc_lk, vc_pop, vc_rc, vc_tsw, vc_fr, vc_ar, vc_tb, mz_nx, List.set_cons_zero, List.set_cons_succ, Nat.reduceAdd, Nat.reduceBEq, Nat.reduceEqDiff, Nat.reduceLeDiff, Nat.reduceLT, Nat.reduceMul, Int.reduceToNat, Bool.false_eq_true, Bool.or_self, Bool.or_true, Bool.true_or, Bool.or_false, reduceIte, Option.toList_some, Option.toList_none, List.nil_append, List.cons_append, List.length_cons, List.length_nil, true_and, and_true, Int.cast_ofNat_Int, Int.reduceEq, Int.reduceLT, Int.reduceLE, Nat.zero_le, and_self, or_true, true_or, cdS_115]
    rw [if_neg (by omega)]
    unfold prc
    all_goals ((repeat' refine And.intro ?_ ?_) <;> first | trivial | rfl | (unfold mz_w; omega) | omega)
  | succ r ih =>
    intro j hj
    have hk := ih (j + 1) (by omega)
    have hb := cost_ok hR s j
    have hr := rt_ok hR (s + j)
    refine mz_vc_ok 60 (ct := fun i => i == 4) ?_
    simp only [vcS0, vcS1, vcS2, vcS3, vcS4, vcS5, vcS6, vc_n0, vc_lk, vc_pop, vc_rc, vc_tsw, vc_fr, vc_ar, vc_tb, mz_nx, List.set_cons_zero, List.set_cons_succ, Nat.reduceAdd, Nat.reduceBEq, Nat.reduceEqDiff, Nat.reduceLeDiff, Nat.reduceLT, Nat.reduceMul, Int.reduceToNat, Bool.false_eq_true, Bool.or_self, Bool.or_true, Bool.true_or, Bool.or_false, reduceIte, Option.toList_some, Option.toList_none, List.nil_append, List.cons_append, List.length_cons, List.length_nil, true_and, and_true, Int.cast_ofNat_Int, Int.reduceEq, Int.reduceLT, Int.reduceLE, Nat.zero_le, and_self, or_true, true_or, cdS_115]
    rw [if_pos (by omega)]
    refine ⟨(by unfold mz_w; omega), _, _, sp_cents m hp hz hz4, ?_⟩
    simp only [vcS0, vcS1, vcS2, vcS3, vcS4, vcS5, vcS6, vc_n0, vc_lk, vc_pop, vc_rc, vc_tsw, vc_fr, vc_ar, vc_tb, mz_nx, List.set_cons_zero, List.set_cons_succ, Nat.reduceAdd, Nat.reduceBEq, Nat.reduceEqDiff, Nat.reduceLeDiff, Nat.reduceLT, Nat.reduceMul, Int.reduceToNat, Bool.false_eq_true, Bool.or_self, Bool.or_true, Bool.true_or, Bool.or_false, reduceIte, Option.toList_some, Option.toList_none, List.nil_append, List.cons_append, List.length_cons, List.length_nil, true_and, and_true, Int.cast_ofNat_Int, Int.reduceEq, Int.reduceLT, Int.reduceLE, Nat.zero_le, and_self, or_true, true_or, cdS_115]
    exact ⟨by unfold mz_w; omega, (by unfold mz_w; omega), hk⟩
theorem sp_priceOf (m : mz_M) {p z s n : Nat} (hp : p < 10) (hz : m 154 (203 + p) = z) (hz4 : z < 4) (hs : s < 100000) (hn : n < 10000) (hR : okR (mR (m 154) z)) : sp 115 [mz_r 9 0 153, mz_i p, mz_i s, mz_i n] m (some (mz_i (prc (mR (m 154) z) n s))) m := by
  refine mz_cl_vc 60 (fun i => i == 4) [some (mz_r 9 0 153), some (mz_i p), some (mz_i s), some (mz_i n), none, none] rfl ?_
  simp only [vcS0, vcS1, vcS2, vcS3, vcS4, vcS5, vcS6, vc_n0, vc_lk, vc_pop, vc_rc, vc_tsw, vc_fr, vc_ar, vc_tb, mz_nx, List.set_cons_zero, List.set_cons_succ, Nat.reduceAdd, Nat.reduceBEq, Nat.reduceEqDiff, Nat.reduceLeDiff, Nat.reduceLT, Nat.reduceMul, Int.reduceToNat, Bool.false_eq_true, Bool.or_self, Bool.or_true, Bool.true_or, Bool.or_false, reduceIte, Option.toList_some, Option.toList_none, List.nil_append, List.cons_append, List.length_cons, List.length_nil, true_and, and_true, Int.cast_ofNat_Int, Int.reduceEq, Int.reduceLT, Int.reduceLE, Nat.zero_le, and_self, or_true, true_or, cdS_115]
  exact po_loop m hp hz hz4 hs hn hR n 0 (by omega)
def mAh (V : Nat → Int) (c k : Nat) : Int := if mTw V k = true ∧ (mc V k 5 < mc V c 5 ∨ mc V k 5 = mc V c 5 ∧ k < c) then 1 else 0
theorem ah_loop (m : mz_M) {c : Nat} (hc : c < 16) (h : mSi (m 154)) : ∀ (r j : Nat) (x : Option mz_V), j + r = 16 → sx 151 4 [some (mz_r 9 0 153), some (mz_i c), some (mz_i (sm (mAh (m 154) c) j)), some (mz_i j), x] [] m (some (mz_i (sm (mAh (m 154) c) 16))) m := by
  intro r
  induction r with
  | zero =>
    intro j x hj
    obtain rfl : j = 16 := by omega
    refine mz_vc_ok 60 (ct := fun i => i == 4) ?_
    simp only [vcS0, vcS1, vcS2, vcS3, vcS4, vcS5, vcS6, vc_n0, vc_lk, vc_pop, vc_rc, vc_tsw, vc_fr, vc_ar, vc_tb, mz_nx, List.set_cons_zero, List.set_cons_succ, Nat.reduceAdd, Nat.reduceBEq, Nat.reduceEqDiff, Nat.reduceLeDiff, Nat.reduceLT, Nat.reduceMul, Int.reduceToNat, Bool.false_eq_true, Bool.or_self, Bool.or_true, Bool.true_or, Bool.or_false, reduceIte, Option.toList_some, Option.toList_none, List.nil_append, List.cons_append, List.length_cons, List.length_nil, true_and, and_true, Int.cast_ofNat_Int, Int.reduceEq, Int.reduceLT, Int.reduceLE, Nat.zero_le, and_self, or_true, true_or, cdS_151]
  | succ r ih =>
    intro j x hj
    have hk := fun x => ih (j + 1) x (by omega)
    have b0 : 0 ≤ sm (mAh (m 154) c) j := sm_0 fun i hi => by unfold mAh; split <;> omega
    have b1 : sm (mAh (m 154) c) j ≤ 1 * j := sm_ub fun i hi => by unfold mAh; split <;> omega
    have fin : ∀ b : Int, (b = if mc (m 154) j 5 < mc (m 154) c 5 ∨ mc (m 154) j 5 = mc (m 154) c 5 ∧ j < c then 1 else 0) → sx 151 31 [some (mz_r 9 0 153), some (mz_i c), some (mz_i (sm (mAh (m 154) c) j)), some (mz_i j), x] [mz_i b] m (some (mz_i (sm (mAh (m 154) c) 16))) m := by
      intro b hb
      refine mz_vc_ok 60 (ct := fun i => i == 4) ?_
      simp only [vcS0, vcS1, vcS2, vcS3, vcS4, vcS5, vcS6, vc_n0, vc_lk, vc_pop, vc_rc, vc_tsw, vc_fr, vc_ar, vc_tb, mz_nx, List.set_cons_zero, List.set_cons_succ, Nat.reduceAdd, Nat.reduceBEq, Nat.reduceEqDiff, Nat.reduceLeDiff, Nat.reduceLT, Nat.reduceMul, Int.reduceToNat, Bool.false_eq_true, Bool.or_self, Bool.or_true, Bool.true_or, Bool.or_false, reduceIte, Option.toList_some, Option.toList_none, List.nil_append, List.cons_append, List.length_cons, List.length_nil, true_and, and_true, Int.cast_ofNat_Int, Int.reduceEq, Int.reduceLT, Int.reduceLE, Nat.zero_le, and_self, or_true, true_or, cdS_151]
      refine ⟨_, _, sp_mTw m (show j < 16 by omega) h, ?_⟩
      rw [sm] at hk
      by_cases h1 : mTw (m 154) j = true
      · rw [if_pos h1]
        simp only [vcS0, vcS1, vcS2, vcS3, vcS4, vcS5, vcS6, vc_n0, vc_lk, vc_pop, vc_rc, vc_tsw, vc_fr, vc_ar, vc_tb, mz_nx, List.set_cons_zero, List.set_cons_succ, Nat.reduceAdd, Nat.reduceBEq, Nat.reduceEqDiff, Nat.reduceLeDiff, Nat.reduceLT, Nat.reduceMul, Int.reduceToNat, Bool.false_eq_true, Bool.or_self, Bool.or_true, Bool.true_or, Bool.or_false, reduceIte, Option.toList_some, Option.toList_none, List.nil_append, List.cons_append, List.length_cons, List.length_nil, true_and, and_true, Int.cast_ofNat_Int, Int.reduceEq, Int.reduceLT, Int.reduceLE, Nat.zero_le, and_self, or_true, true_or, cdS_151]
        by_cases h2 : mc (m 154) j 5 < mc (m 154) c 5 ∨ mc (m 154) j 5 = mc (m 154) c 5 ∧ j < c
        · rw [if_pos h2] at hb
          rw [if_neg (by omega)]
          rw [show mAh (m 154) c j = 1 from if_pos ⟨h1, h2⟩] at hk
          exact ⟨(by unfold mz_w; omega), (by unfold mz_w; omega), hk _⟩
        · rw [if_neg h2] at hb
          rw [if_pos (by omega)]
          rw [show mAh (m 154) c j = 0 from if_neg (fun q => h2 q.2)] at hk
          exact ⟨(by unfold mz_w; omega), (by unfold mz_w; omega), hk _⟩
      · rw [if_neg h1]
        simp only [vcS0, vcS1, vcS2, vcS3, vcS4, vcS5, vcS6, vc_n0, vc_lk, vc_pop, vc_rc, vc_tsw, vc_fr, vc_ar, vc_tb, mz_nx, List.set_cons_zero, List.set_cons_succ, Nat.reduceAdd, Nat.reduceBEq, Nat.reduceEqDiff, Nat.reduceLeDiff, Nat.reduceLT, Nat.reduceMul, Int.reduceToNat, Bool.false_eq_true, Bool.or_self, Bool.or_true, Bool.true_or, Bool.or_false, reduceIte, Option.toList_some, Option.toList_none, List.nil_append, List.cons_append, List.length_cons, List.length_nil, true_and, and_true, Int.cast_ofNat_Int, Int.reduceEq, Int.reduceLT, Int.reduceLE, Nat.zero_le, and_self, or_true, true_or, cdS_151]
        rw [show mAh (m 154) c j = 0 from if_neg (fun q => h1 q.1)] at hk
        exact ⟨(by unfold mz_w; omega), (by unfold mz_w; omega), hk _⟩
    refine mz_vc_ok 60 (ct := fun i => i == 31) ?_
    simp only [vcS0, vcS1, vcS2, vcS3, vcS4, vcS5, vcS6, vc_n0, vc_lk, vc_pop, vc_rc, vc_tsw, vc_fr, vc_ar, vc_tb, mz_nx, List.set_cons_zero, List.set_cons_succ, Nat.reduceAdd, Nat.reduceBEq, Nat.reduceEqDiff, Nat.reduceLeDiff, Nat.reduceLT, Nat.reduceMul, Int.reduceToNat, Bool.false_eq_true, Bool.or_self, Bool.or_true, Bool.true_or, Bool.or_false, reduceIte, Option.toList_some, Option.toList_none, List.nil_append, List.cons_append, List.length_cons, List.length_nil, true_and, and_true, Int.cast_ofNat_Int, Int.reduceEq, Int.reduceLT, Int.reduceLE, Nat.zero_le, and_self, or_true, true_or, cdS_151]
    rw [if_pos (by omega)]
    refine ⟨_, _, sp_of5 m (by omega), ?_⟩
    simp only [vcS0, vcS1, vcS2, vcS3, vcS4, vcS5, vcS6, vc_n0, vc_lk, vc_pop, vc_rc, vc_tsw, vc_fr, vc_ar, vc_tb, mz_nx, List.set_cons_zero, List.set_cons_succ, Nat.reduceAdd, Nat.reduceBEq, Nat.reduceEqDiff, Nat.reduceLeDiff, Nat.reduceLT, Nat.reduceMul, Int.reduceToNat, Bool.false_eq_true, Bool.or_self, Bool.or_true, Bool.true_or, Bool.or_false, reduceIte, Option.toList_some, Option.toList_none, List.nil_append, List.cons_append, List.length_cons, List.length_nil, true_and, and_true, Int.cast_ofNat_Int, Int.reduceEq, Int.reduceLT, Int.reduceLE, Nat.zero_le, and_self, or_true, true_or, cdS_151]
    refine ⟨_, _, sp_of5 m hc, ?_⟩
    simp only [vcS0, vcS1, vcS2, vcS3, vcS4, vcS5, vcS6, vc_n0, vc_lk, vc_pop, vc_rc, vc_tsw, vc_fr, vc_ar, vc_tb, mz_nx, List.set_cons_zero, List.set_cons_succ, Nat.reduceAdd, Nat.reduceBEq, Nat.reduceEqDiff, Nat.reduceLeDiff, Nat.reduceLT, Nat.reduceMul, Int.reduceToNat, Bool.false_eq_true, Bool.or_self, Bool.or_true, Bool.true_or, Bool.or_false, reduceIte, Option.toList_some, Option.toList_none, List.nil_append, List.cons_append, List.length_cons, List.length_nil, true_and, and_true, Int.cast_ofNat_Int, Int.reduceEq, Int.reduceLT, Int.reduceLE, Nat.zero_le, and_self, or_true, true_or, cdS_151]
    by_cases h1 : mc (m 154) j 5 < mc (m 154) c 5
    · rw [if_pos h1]
      exact fin 1 (by rw [if_pos (Or.inl h1)])
    · rw [if_neg h1]
      refine ⟨_, _, sp_of5 m (by omega), ?_⟩
      simp only [vcS0, vcS1, vcS2, vcS3, vcS4, vcS5, vcS6, vc_n0, vc_lk, vc_pop, vc_rc, vc_tsw, vc_fr, vc_ar, vc_tb, mz_nx, List.set_cons_zero, List.set_cons_succ, Nat.reduceAdd, Nat.reduceBEq, Nat.reduceEqDiff, Nat.reduceLeDiff, Nat.reduceLT, Nat.reduceMul, Int.reduceToNat, Bool.false_eq_true, Bool.or_self, Bool.or_true, Bool.true_or, Bool.or_false, reduceIte, Option.toList_some, Option.toList_none, List.nil_append, List.cons_append, List.length_cons, List.length_nil, true_and, and_true, Int.cast_ofNat_Int, Int.reduceEq, Int.reduceLT, Int.reduceLE, Nat.zero_le, and_self, or_true, true_or, cdS_151]
      refine ⟨_, _, sp_of5 m hc, ?_⟩
      simp only [vcS0, vcS1, vcS2, vcS3, vcS4, vcS5, vcS6, vc_n0, vc_lk, vc_pop, vc_rc, vc_tsw, vc_fr, vc_ar, vc_tb, mz_nx, List.set_cons_zero, List.set_cons_succ, Nat.reduceAdd, Nat.reduceBEq, Nat.reduceEqDiff, Nat.reduceLeDiff, Nat.reduceLT, Nat.reduceMul, Int.reduceToNat, Bool.false_eq_true, Bool.or_self, Bool.or_true, Bool.true_or, Bool.or_false, reduceIte, Option.toList_some, Option.toList_none, List.nil_append, List.cons_append, List.length_cons, List.length_nil, true_and, and_true, Int.cast_ofNat_Int, Int.reduceEq, Int.reduceLT, Int.reduceLE, Nat.zero_le, and_self, or_true, true_or, cdS_151]
      by_cases h2 : mc (m 154) j 5 = mc (m 154) c 5
      · rw [if_pos h2]
        by_cases h3 : j < c
        · rw [if_pos (by omega)]
          exact fin 1 (by rw [if_pos (Or.inr ⟨h2, h3⟩)])
        · rw [if_neg (by omega)]
          exact fin 0 (by rw [if_neg (by omega)])
      · rw [if_neg h2]
        exact fin 0 (by rw [if_neg (by omega)])
theorem sp_ahead (m : mz_M) {c : Nat} (hc : c < 16) (h : mSi (m 154)) : sp 151 [mz_r 9 0 153, mz_i c] m (some (mz_i (sm (mAh (m 154) c) 16))) m := by
  refine mz_cl_vc 60 (fun i => i == 4) [some (mz_r 9 0 153), some (mz_i c), none, none, none] rfl ?_
  simp only [vcS0, vcS1, vcS2, vcS3, vcS4, vcS5, vcS6, vc_n0, vc_lk, vc_pop, vc_rc, vc_tsw, vc_fr, vc_ar, vc_tb, mz_nx, List.set_cons_zero, List.set_cons_succ, Nat.reduceAdd, Nat.reduceBEq, Nat.reduceEqDiff, Nat.reduceLeDiff, Nat.reduceLT, Nat.reduceMul, Int.reduceToNat, Bool.false_eq_true, Bool.or_self, Bool.or_true, Bool.true_or, Bool.or_false, reduceIte, Option.toList_some, Option.toList_none, List.nil_append, List.cons_append, List.length_cons, List.length_nil, true_and, and_true, Int.cast_ofNat_Int, Int.reduceEq, Int.reduceLT, Int.reduceLE, Nat.zero_le, and_self, or_true, true_or, cdS_151]
  exact ah_loop m hc h 16 0 none rfl
/-- where a car was parked latest -/
def pkV (V : Nat → Int) (c : Int) : Nat → Int
  | 0 => 0
  | j + 1 => if me V j 1 = 1 ∧ me V j 2 = c then me V j 3 else pkV V c j
theorem pa_loop (m : mz_M) {e : Nat} (he : e < 400) : ∀ (k : Nat), k ≤ e → (∃ j, j ≤ k ∧ me (m 154) j 1 = 1 ∧ me (m 154) j 2 = me (m 154) e 2) → sx 114 2 [some (mz_r 9 0 153), some (mz_i e), some (mz_i k)] [] m (some (mz_i (pkV (m 154) (me (m 154) e 2) (k + 1)))) m := by
  intro k
  induction k with
  | zero =>
    intro hk hx
    obtain ⟨j, hj, h1, h2⟩ := hx
    obtain rfl : j = 0 := by omega
    refine mz_vc_ok 60 (ct := fun i => i == 2) ?_
    simp only [vcS0, vcS1, vcS2, vcS3, vcS4, vcS5, vcS6, vc_n0, vc_lk, vc_pop, vc_rc, vc_tsw, vc_fr, vc_ar, vc_tb, mz_nx, List.set_cons_zero, List.set_cons_succ, Nat.reduceAdd, Nat.reduceBEq, Nat.reduceEqDiff, Nat.reduceLeDiff, Nat.reduceLT, Nat.reduceMul, Int.reduceToNat, Bool.false_eq_true, Bool.or_self, Bool.or_true, Bool.true_or, Bool.or_false, reduceIte, Option.toList_some, Option.toList_none, List.nil_append, List.cons_append, List.length_cons, List.length_nil, true_and, and_true, Int.cast_ofNat_Int, Int.reduceEq, Int.reduceLT, Int.reduceLE, Nat.zero_le, and_self, or_true, true_or, cdS_114]
    refine ⟨_, _, sp_e1 m (i := 0) (by omega), ?_⟩
    simp only [vcS0, vcS1, vcS2, vcS3, vcS4, vcS5, vcS6, vc_n0, vc_lk, vc_pop, vc_rc, vc_tsw, vc_fr, vc_ar, vc_tb, mz_nx, List.set_cons_zero, List.set_cons_succ, Nat.reduceAdd, Nat.reduceBEq, Nat.reduceEqDiff, Nat.reduceLeDiff, Nat.reduceLT, Nat.reduceMul, Int.reduceToNat, Bool.false_eq_true, Bool.or_self, Bool.or_true, Bool.true_or, Bool.or_false, reduceIte, Option.toList_some, Option.toList_none, List.nil_append, List.cons_append, List.length_cons, List.length_nil, true_and, and_true, Int.cast_ofNat_Int, Int.reduceEq, Int.reduceLT, Int.reduceLE, Nat.zero_le, and_self, or_true, true_or, cdS_114]
    rw [if_pos h1]
    refine ⟨_, _, sp_e2 m (i := 0) (by omega), ?_⟩
    simp only [vcS0, vcS1, vcS2, vcS3, vcS4, vcS5, vcS6, vc_n0, vc_lk, vc_pop, vc_rc, vc_tsw, vc_fr, vc_ar, vc_tb, mz_nx, List.set_cons_zero, List.set_cons_succ, Nat.reduceAdd, Nat.reduceBEq, Nat.reduceEqDiff, Nat.reduceLeDiff, Nat.reduceLT, Nat.reduceMul, Int.reduceToNat, Bool.false_eq_true, Bool.or_self, Bool.or_true, Bool.true_or, Bool.or_false, reduceIte, Option.toList_some, Option.toList_none, List.nil_append, List.cons_append, List.length_cons, List.length_nil, true_and, and_true, Int.cast_ofNat_Int, Int.reduceEq, Int.reduceLT, Int.reduceLE, Nat.zero_le, and_self, or_true, true_or, cdS_114]
    refine ⟨_, _, sp_e2 m he, ?_⟩
    simp only [vcS0, vcS1, vcS2, vcS3, vcS4, vcS5, vcS6, vc_n0, vc_lk, vc_pop, vc_rc, vc_tsw, vc_fr, vc_ar, vc_tb, mz_nx, List.set_cons_zero, List.set_cons_succ, Nat.reduceAdd, Nat.reduceBEq, Nat.reduceEqDiff, Nat.reduceLeDiff, Nat.reduceLT, Nat.reduceMul, Int.reduceToNat, Bool.false_eq_true, Bool.or_self, Bool.or_true, Bool.true_or, Bool.or_false, reduceIte, Option.toList_some, Option.toList_none, List.nil_append, List.cons_append, List.length_cons, List.length_nil, true_and, and_true, Int.cast_ofNat_Int, Int.reduceEq, Int.reduceLT, Int.reduceLE, Nat.zero_le, and_self, or_true, true_or, cdS_114]
    rw [if_pos h2]
    refine ⟨_, _, sp_e3 m (i := 0) (by omega), ?_⟩
    simp only [vcS0, vcS1, vcS2, vcS3, vcS4, vcS5, vcS6, vc_n0, vc_lk, vc_pop, vc_rc, vc_tsw, vc_fr, vc_ar, vc_tb, mz_nx, List.set_cons_zero, List.set_cons_succ, Nat.reduceAdd, Nat.reduceBEq, Nat.reduceEqDiff, Nat.reduceLeDiff, Nat.reduceLT, Nat.reduceMul, Int.reduceToNat, Bool.false_eq_true, Bool.or_self, Bool.or_true, Bool.true_or, Bool.or_false, reduceIte, Option.toList_some, Option.toList_none, List.nil_append, List.cons_append, List.length_cons, List.length_nil, true_and, and_true, Int.cast_ofNat_Int, Int.reduceEq, Int.reduceLT, Int.reduceLE, Nat.zero_le, and_self, or_true, true_or, cdS_114]
    rw [pkV, if_pos ⟨h1, h2⟩]
  | succ k ih =>
    intro hk hx
    have go : ¬ (me (m 154) (k + 1) 1 = 1 ∧ me (m 154) (k + 1) 2 = me (m 154) e 2) → sx 114 2 [some (mz_r 9 0 153), some (mz_i e), some (mz_i k)] [] m (some (mz_i (pkV (m 154) (me (m 154) e 2) (k + 1 + 1)))) m := by
      intro hn
      rw [pkV, if_neg hn]
      obtain ⟨j, hj, h1, h2⟩ := hx
      refine ih (by omega) ⟨j, ?_, h1, h2⟩
      rcases Nat.lt_or_ge j (k + 1) with q | q
      · omega
      · obtain rfl : j = k + 1 := by omega
        exact absurd ⟨h1, h2⟩ hn
    refine mz_vc_ok 60 (ct := fun i => i == 2) ?_
    simp only [vcS0, vcS1, vcS2, vcS3, vcS4, vcS5, vcS6, vc_n0, vc_lk, vc_pop, vc_rc, vc_tsw, vc_fr, vc_ar, vc_tb, mz_nx, List.set_cons_zero, List.set_cons_succ, Nat.reduceAdd, Nat.reduceBEq, Nat.reduceEqDiff, Nat.reduceLeDiff, Nat.reduceLT, Nat.reduceMul, Int.reduceToNat, Bool.false_eq_true, Bool.or_self, Bool.or_true, Bool.true_or, Bool.or_false, reduceIte, Option.toList_some, Option.toList_none, List.nil_append, List.cons_append, List.length_cons, List.length_nil, true_and, and_true, Int.cast_ofNat_Int, Int.reduceEq, Int.reduceLT, Int.reduceLE, Nat.zero_le, and_self, or_true, true_or, cdS_114]
    refine ⟨_, _, sp_e1 m (by omega), ?_⟩
    simp only [vcS0, vcS1, vcS2, vcS3, vcS4, vcS5, vcS6, vc_n0, vc_lk, vc_pop, vc_rc, vc_tsw, vc_fr, vc_ar, vc_tb, mz_nx, List.set_cons_zero, List.set_cons_succ, Nat.reduceAdd, Nat.reduceBEq, Nat.reduceEqDiff, Nat.reduceLeDiff, Nat.reduceLT, Nat.reduceMul, Int.reduceToNat, Bool.false_eq_true, Bool.or_self, Bool.or_true, Bool.true_or, Bool.or_false, reduceIte, Option.toList_some, Option.toList_none, List.nil_append, List.cons_append, List.length_cons, List.length_nil, true_and, and_true, Int.cast_ofNat_Int, Int.reduceEq, Int.reduceLT, Int.reduceLE, Nat.zero_le, and_self, or_true, true_or, cdS_114]
    have ek : ((k + 1 : Nat) : Int) + -1 = k := by omega
    by_cases h1 : me (m 154) (k + 1) 1 = 1
    · rw [if_pos h1]
      refine ⟨_, _, sp_e2 m (by omega), ?_⟩
      simp only [vcS0, vcS1, vcS2, vcS3, vcS4, vcS5, vcS6, vc_n0, vc_lk, vc_pop, vc_rc, vc_tsw, vc_fr, vc_ar, vc_tb, mz_nx, List.set_cons_zero, List.set_cons_succ, Nat.reduceAdd, Nat.reduceBEq, Nat.reduceEqDiff, Nat.reduceLeDiff, Nat.reduceLT, Nat.reduceMul, Int.reduceToNat, Bool.false_eq_true, Bool.or_self, Bool.or_true, Bool.true_or, Bool.or_false, reduceIte, Option.toList_some, Option.toList_none, List.nil_append, List.cons_append, List.length_cons, List.length_nil, true_and, and_true, Int.cast_ofNat_Int, Int.reduceEq, Int.reduceLT, Int.reduceLE, Nat.zero_le, and_self, or_true, true_or, cdS_114]
      refine ⟨_, _, sp_e2 m he, ?_⟩
      simp only [vcS0, vcS1, vcS2, vcS3, vcS4, vcS5, vcS6, vc_n0, vc_lk, vc_pop, vc_rc, vc_tsw, vc_fr, vc_ar, vc_tb, mz_nx, List.set_cons_zero, List.set_cons_succ, Nat.reduceAdd, Nat.reduceBEq, Nat.reduceEqDiff, Nat.reduceLeDiff, Nat.reduceLT, Nat.reduceMul, Int.reduceToNat, Bool.false_eq_true, Bool.or_self, Bool.or_true, Bool.true_or, Bool.or_false, reduceIte, Option.toList_some, Option.toList_none, List.nil_append, List.cons_append, List.length_cons, List.length_nil, true_and, and_true, Int.cast_ofNat_Int, Int.reduceEq, Int.reduceLT, Int.reduceLE, Nat.zero_le, and_self, or_true, true_or, cdS_114]
      by_cases h2 : me (m 154) (k + 1) 2 = me (m 154) e 2
      · rw [if_pos h2]
        refine ⟨_, _, sp_e3 m (by omega), ?_⟩
        simp only [vcS0, vcS1, vcS2, vcS3, vcS4, vcS5, vcS6, vc_n0, vc_lk, vc_pop, vc_rc, vc_tsw, vc_fr, vc_ar, vc_tb, mz_nx, List.set_cons_zero, List.set_cons_succ, Nat.reduceAdd, Nat.reduceBEq, Nat.reduceEqDiff, Nat.reduceLeDiff, Nat.reduceLT, Nat.reduceMul, Int.reduceToNat, Bool.false_eq_true, Bool.or_self, Bool.or_true, Bool.true_or, Bool.or_false, reduceIte, Option.toList_some, Option.toList_none, List.nil_append, List.cons_append, List.length_cons, List.length_nil, true_and, and_true, Int.cast_ofNat_Int, Int.reduceEq, Int.reduceLT, Int.reduceLE, Nat.zero_le, and_self, or_true, true_or, cdS_114]
        rw [pkV, if_pos ⟨h1, h2⟩]
      · rw [if_neg h2, ek]
        exact ⟨(by unfold mz_w; omega), go fun q => h2 q.2⟩
    · rw [if_neg h1, ek]
      exact ⟨(by unfold mz_w; omega), go fun q => h1 q.1⟩
theorem sp_placeAt (m : mz_M) {e : Nat} (he : e < 400) (hx : ∃ j, j ≤ e ∧ me (m 154) j 1 = 1 ∧ me (m 154) j 2 = me (m 154) e 2) : sp 114 [mz_r 9 0 153, mz_i e] m (some (mz_i (pkV (m 154) (me (m 154) e 2) (e + 1)))) m := by
  refine mz_cl_vc 60 (fun i => i == 2) [some (mz_r 9 0 153), some (mz_i e), none] rfl ?_
  simp only [vcS0, vcS1, vcS2, vcS3, vcS4, vcS5, vcS6, vc_n0, vc_lk, vc_pop, vc_rc, vc_tsw, vc_fr, vc_ar, vc_tb, mz_nx, List.set_cons_zero, List.set_cons_succ, Nat.reduceAdd, Nat.reduceBEq, Nat.reduceEqDiff, Nat.reduceLeDiff, Nat.reduceLT, Nat.reduceMul, Int.reduceToNat, Bool.false_eq_true, Bool.or_self, Bool.or_true, Bool.true_or, Bool.or_false, reduceIte, Option.toList_some, Option.toList_none, List.nil_append, List.cons_append, List.length_cons, List.length_nil, true_and, and_true, Int.cast_ofNat_Int, Int.reduceEq, Int.reduceLT, Int.reduceLE, Nat.zero_le, and_self, or_true, true_or, cdS_114]
  exact pa_loop m he e (Nat.le_refl e) hx
