theorem sp_X8_pay (m : mz_M) {t : Nat} (x k : Int) (h3 : m 18 3 = t) (ht : t < 10100) (hl : 0 ≤ m 35 0) (hc : ∀ c, c < 16 → caO m (18 + 24 + c)) (hR : ∀ z, z < 4 → okR (m (27 + 2 * z))) (hS : ∀ z, z < 4 → 0 ≤ m (26 + 2 * z) 1 ∧ m (26 + 2 * z) 1 < 1000) (hx : 0 ≤ x ∧ x < 16) (hk : 1 ≤ k ∧ k ≤ 9999) (hs : m (18 + 24 + x.toNat) 1 = 1) (p f s : Nat) (hp : m (18 + 24 + x.toNat) 2 = p) (hf : max (m (18 + 24 + x.toNat) 3) t = f) (hz : m (zoA m 18 p) 1 = s) : sp 252 [mz_r 8 0 0, mz_i x, mz_i k] m (some (mz_i (if lu (m (zoA m 18 p + 1)) (t + s - f) (60 * k.toNat) f ≤ f then -3 else if 340 ≤ m 35 0 then -4 else lu (m (zoA m 18 p + 1)) (t + s - f) (60 * k.toNat) f))) (if lu (m (zoA m 18 p + 1)) (t + s - f) (60 * k.toNat) f ≤ f ∨ 340 ≤ m 35 0 then m else lgA 35 (m 18 3) 2 (m (18 + 24 + x.toNat) 0) k (mz_up m (18 + 24 + x.toNat) 3 (lu (m (zoA m 18 p + 1)) (t + s - f) (60 * k.toNat) f))) := by
  have hcx := hc x.toNat (by omega)
  obtain ⟨k', rfl⟩ := nat_i (show 0 ≤ k by omega)
  rw [Int.toNat_natCast]
  have hsz := hS (znP m 19 p) (znP_lt m 19 p)
  rw [show 26 + 2 * znP m 19 p = zoA m 18 p by show _ = 18 + 8 + 2 * znP m 19 p; omega] at hsz
  have hb := sp_boughtUntil m (u := 18) (p := p) (f := f) (c := k') h3 hz (zoA_okR hR p) (by omega) (by omega) (by have := hcx.2.1; omega) (by omega)
  generalize lu (m (zoA m 18 p + 1)) (t + s - f) (60 * k') f = U at hb ⊢
  refine mz_cl_vc 80 (fun _ => false) [some (mz_r 8 0 0), some (mz_i x), some (mz_i k'), none, none, none] rfl ?_
  simp only [vcS0, vcS1, vcS2, vcS3, vcS4, vcS5, vcS6, vc_n0, vc_lk, vc_pop, vc_rc, vc_tsw, vc_fr, vc_ar, vc_tb, mz_nx, List.set_cons_zero, List.set_cons_succ, Nat.reduceAdd, Nat.reduceBEq, Nat.reduceEqDiff, Nat.reduceLeDiff, Nat.reduceLT, Nat.reduceMul, Int.reduceToNat, Bool.false_eq_true, Bool.or_self, Bool.or_true, Bool.true_or, Bool.or_false, reduceIte, Option.toList_some, Option.toList_none, List.nil_append, List.cons_append, List.length_cons, List.length_nil, true_and, and_true, Int.cast_ofNat_Int, Int.reduceEq, Int.reduceLT, Int.reduceLE, Nat.zero_le, and_self, or_true, true_or, cdS_252]
  refine ⟨_, _, sp_carOrNull m 18 x, ?_⟩
  rw [coR_ok hx]
  simp only [vcS0, vcS1, vcS2, vcS3, vcS4, vcS5, vcS6, vc_n0, vc_lk, vc_pop, vc_rc, vc_tsw, vc_fr, vc_ar, vc_tb, mz_nx, List.set_cons_zero, List.set_cons_succ, Nat.reduceAdd, Nat.reduceBEq, Nat.reduceEqDiff, Nat.reduceLeDiff, Nat.reduceLT, Nat.reduceMul, Int.reduceToNat, Bool.false_eq_true, Bool.or_self, Bool.or_true, Bool.true_or, Bool.or_false, reduceIte, Option.toList_some, Option.toList_none, List.nil_append, List.cons_append, List.length_cons, List.length_nil, true_and, and_true, Int.cast_ofNat_Int, Int.reduceEq, Int.reduceLT, Int.reduceLE, Nat.zero_le, and_self, or_true, true_or, cdS_252]
  refine ⟨_, _, sp_within m k' 1 9999, ?_⟩
  rw [if_pos hk]
  simp only [vcS0, vcS1, vcS2, vcS3, vcS4, vcS5, vcS6, vc_n0, vc_lk, vc_pop, vc_rc, vc_tsw, vc_fr, vc_ar, vc_tb, mz_nx, List.set_cons_zero, List.set_cons_succ, Nat.reduceAdd, Nat.reduceBEq, Nat.reduceEqDiff, Nat.reduceLeDiff, Nat.reduceLT, Nat.reduceMul, Int.reduceToNat, Bool.false_eq_true, Bool.or_self, Bool.or_true, Bool.true_or, Bool.or_false, reduceIte, Option.toList_some, Option.toList_none, List.nil_append, List.cons_append, List.length_cons, List.length_nil, true_and, and_true, Int.cast_ofNat_Int, Int.reduceEq, Int.reduceLT, Int.reduceLE, Nat.zero_le, and_self, or_true, true_or, cdS_252]
  rw [if_pos hs, h3, hf, hp]
  refine ⟨_, _, hb, ?_⟩
  simp only [vcS0, vcS1, vcS2, vcS3, vcS4, vcS5, vcS6, vc_n0, vc_lk, vc_pop, vc_rc, vc_tsw, vc_fr, vc_ar, vc_tb, mz_nx, List.set_cons_zero, List.set_cons_succ, Nat.reduceAdd, Nat.reduceBEq, Nat.reduceEqDiff, Nat.reduceLeDiff, Nat.reduceLT, Nat.reduceMul, Int.reduceToNat, Bool.false_eq_true, Bool.or_self, Bool.or_true, Bool.true_or, Bool.or_false, reduceIte, Option.toList_some, Option.toList_none, List.nil_append, List.cons_append, List.length_cons, List.length_nil, true_and, and_true, Int.cast_ofNat_Int, Int.reduceEq, Int.reduceLT, Int.reduceLE, Nat.zero_le, and_self, or_true, true_or, cdS_252]
  by_cases h1 : U ≤ f
  · rw [if_pos (by omega), if_pos h1, if_pos (Or.inl h1)]
    exact ⟨rfl, rfl⟩
  · rw [if_neg (by omega), if_neg h1]
    refine ⟨_, _, sp_lfull m 35, ?_⟩
    by_cases h2 : 340 ≤ m 35 0
    · rw [if_pos h2, if_pos h2, if_pos (Or.inr h2)]
      simp only [vcS0, vcS1, vcS2, vcS3, vcS4, vcS5, vcS6, vc_n0, vc_lk, vc_pop, vc_rc, vc_tsw, vc_fr, vc_ar, vc_tb, mz_nx, List.set_cons_zero, List.set_cons_succ, Nat.reduceAdd, Nat.reduceBEq, Nat.reduceEqDiff, Nat.reduceLeDiff, Nat.reduceLT, Nat.reduceMul, Int.reduceToNat, Bool.false_eq_true, Bool.or_self, Bool.or_true, Bool.true_or, Bool.or_false, reduceIte, Option.toList_some, Option.toList_none, List.nil_append, List.cons_append, List.length_cons, List.length_nil, true_and, and_true, Int.cast_ofNat_Int, Int.reduceEq, Int.reduceLT, Int.reduceLE, Nat.zero_le, and_self, or_true, true_or, cdS_252]
    · rw [if_neg h2, if_neg h2, if_neg (fun q => q.elim h1 h2)]
      simp only [vcS0, vcS1, vcS2, vcS3, vcS4, vcS5, vcS6, vc_n0, vc_lk, vc_pop, vc_rc, vc_tsw, vc_fr, vc_ar, vc_tb, mz_nx, List.set_cons_zero, List.set_cons_succ, Nat.reduceAdd, Nat.reduceBEq, Nat.reduceEqDiff, Nat.reduceLeDiff, Nat.reduceLT, Nat.reduceMul, Int.reduceToNat, Bool.false_eq_true, Bool.or_self, Bool.or_true, Bool.true_or, Bool.or_false, reduceIte, Option.toList_some, Option.toList_none, List.nil_append, List.cons_append, List.length_cons, List.length_nil, true_and, and_true, Int.cast_ofNat_Int, Int.reduceEq, Int.reduceLT, Int.reduceLE, Nat.zero_le, and_self, or_true, true_or, cdS_252]
      have hn := sp_note (mz_up m (18 + 24 + x.toNat) 3 U) (u := 18) (k := 18 + 24 + x.toNat) (d := 2) (x := k') (by rw [up_o (by omega)]; exact hl)
      rw [up_o (by omega), up_k (by omega), h3] at hn
      refine ⟨_, _, hn, ?_⟩
      simp only [vcS0, vcS1, vcS2, vcS3, vcS4, vcS5, vcS6, vc_n0, vc_lk, vc_pop, vc_rc, vc_tsw, vc_fr, vc_ar, vc_tb, mz_nx, List.set_cons_zero, List.set_cons_succ, Nat.reduceAdd, Nat.reduceBEq, Nat.reduceEqDiff, Nat.reduceLeDiff, Nat.reduceLT, Nat.reduceMul, Int.reduceToNat, Bool.false_eq_true, Bool.or_self, Bool.or_true, Bool.true_or, Bool.or_false, reduceIte, Option.toList_some, Option.toList_none, List.nil_append, List.cons_append, List.length_cons, List.length_nil, true_and, and_true, Int.cast_ofNat_Int, Int.reduceEq, Int.reduceLT, Int.reduceLE, Nat.zero_le, and_self, or_true, true_or, cdS_252]
