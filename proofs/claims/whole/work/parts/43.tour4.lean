theorem pw1 : ∀ a, a < 64 → ∀ i, i < 6 → ¬ a / 2 ^ i % 2 = 1 → a ||| 2 ^ i = a + 2 ^ i ∧ a + 2 ^ i < 64 ∧ pop (a + 2 ^ i) 16 = pop a 16 + 1 ∧ pop (a + 2 ^ i) 16 ≤ 6 := by decide +kernel
theorem pw2 : ∀ a, a < 64 → pop a 16 ≤ 6 := by decide +kernel
def woB (Wo : Nat → Int) : Prop := ∀ k, k < 896 → 0 ≤ Wo k ∧ Wo k ≤ 100000 * (6 - (pop (k / 14) 16 : Int))
def lnO (Ln : Nat → Int) : Prop := ∀ k, k < 24 → 0 ≤ Ln k ∧ Ln k ≤ 3000000
def woF (Rm Ln Wo : Nat → Int) (a b f i t : Nat) : Int :=
  if a / 2 ^ i % 2 = 1 ∨ Rm t ≤ (if t = 0 then (b : Int) else pop a 16 - b) ∨ 1000000 ≤ Ln ((f * 6 + i) * 2 + t) then 0
  else 100000 - Ln ((f * 6 + i) * 2 + t) + Wo (((a + 2 ^ i) * 7 + (if t = 0 then b + 1 else b)) * 2 + t)
theorem woF_ok {Rm Ln Wo : Nat → Int} {a b f i t : Nat} (ha : a < 64) (hb : b ≤ pop a 16) (hf : f < 2) (hi : i < 6) (ht : t < 2) (hL : lnO Ln) (hW : woB Wo) : -3000000 ≤ woF Rm Ln Wo a b f i t ∧ woF Rm Ln Wo a b f i t ≤ 100000 * (6 - (pop a 16 : Int)) := by
  have h2 := pw2 a ha
  unfold woF
  by_cases hc : a / 2 ^ i % 2 = 1 ∨ Rm t ≤ (if t = 0 then (b : Int) else pop a 16 - b) ∨ 1000000 ≤ Ln ((f * 6 + i) * 2 + t)
  · rw [if_pos hc]
    omega
  · rw [if_neg hc]
    have h1 := pw1 a ha i hi (fun h => hc (Or.inl h))
    have hl := hL ((f * 6 + i) * 2 + t) (by omega)
    generalize a + 2 ^ i = a' at h1 ⊢
    have hb' : (if t = 0 then b + 1 else b) ≤ 6 := by split <;> omega
    generalize (if t = 0 then b + 1 else b) = b' at hb' ⊢
    have hw := hW ((a' * 7 + b') * 2 + t) (by omega)
    have e : ((a' * 7 + b') * 2 + t) / 14 = a' := by omega
    rw [e] at hw
    omega
theorem sp_worthOver (m : mz_M) {q a b f i t : Nat} (ha : a < 64) (hb : b ≤ pop a 16) (hf : f < 2) (hi : i < 6) (ht : t < 2) (hL : lnO (m (q + 5))) (hW : woB (m (q + 6))) : sp 68 [mz_r 3 0 q, mz_i a, mz_i b, mz_i f, mz_i i, mz_i t] m (some (mz_i (woF (m (q + 4)) (m (q + 5)) (m (q + 6)) a b f i t))) m := by
  have h2 := pw2 a ha
  have hl := hL ((f * 6 + i) * 2 + t) (by omega)
  have tail : ∀ z : Int, z = (if t = 0 then (b : Int) else pop a 16 - b) → sx 68 8 [some (mz_r 3 0 q), some (mz_i a), some (mz_i b), some (mz_i f), some (mz_i i), some (mz_i t), none, none, none] [mz_i z] m (some (mz_i (woF (m (q + 4)) (m (q + 5)) (m (q + 6)) a b f i t))) m := by
    intro z hz
    unfold woF
    rw [← hz]
    refine mz_vc_ok 90 (ct := fun i => i == 39) ?_
    simp only [vcS0, vcS1, vcS2, vcS3, vcS4, vcS5, vcS6, vc_n0, vc_lk, vc_pop, vc_rc, vc_tsw, vc_fr, vc_ar, vc_tb, mz_nx, List.set_cons_zero, List.set_cons_succ, Nat.reduceAdd, Nat.reduceBEq, Nat.reduceEqDiff, Nat.reduceLeDiff, Nat.reduceLT, Nat.reduceMul, Int.reduceToNat, Bool.false_eq_true, Bool.or_self, Bool.or_true, Bool.true_or, Bool.or_false, reduceIte, Option.toList_some, Option.toList_none, List.nil_append, List.cons_append, List.length_cons, List.length_nil, true_and, and_true, Int.cast_ofNat_Int, Int.reduceEq, Int.reduceLT, Int.reduceLE, Nat.zero_le, and_self, or_true, true_or, cdS_68]
    refine ⟨_, _, sp_tripIndex _ (by omega) (by omega) (by omega), ?_⟩
    simp only [vcS0, vcS1, vcS2, vcS3, vcS4, vcS5, vcS6, vc_n0, vc_lk, vc_pop, vc_rc, vc_tsw, vc_fr, vc_ar, vc_tb, mz_nx, List.set_cons_zero, List.set_cons_succ, Nat.reduceAdd, Nat.reduceBEq, Nat.reduceEqDiff, Nat.reduceLeDiff, Nat.reduceLT, Nat.reduceMul, Int.reduceToNat, Bool.false_eq_true, Bool.or_self, Bool.or_true, Bool.true_or, Bool.or_false, reduceIte, Option.toList_some, Option.toList_none, List.nil_append, List.cons_append, List.length_cons, List.length_nil, true_and, and_true, Int.cast_ofNat_Int, Int.reduceEq, Int.reduceLT, Int.reduceLE, Nat.zero_le, and_self, or_true, true_or, cdS_68]
    refine ⟨_, _, sp_atN (n := 24) (o := q + 5) _ (show (f * 6 + i) * 2 + t < 24 by omega), ?_⟩
    simp only [vcS0, vcS1, vcS2, vcS3, vcS4, vcS5, vcS6, vc_n0, vc_lk, vc_pop, vc_rc, vc_tsw, vc_fr, vc_ar, vc_tb, mz_nx, List.set_cons_zero, List.set_cons_succ, Nat.reduceAdd, Nat.reduceBEq, Nat.reduceEqDiff, Nat.reduceLeDiff, Nat.reduceLT, Nat.reduceMul, Int.reduceToNat, Bool.false_eq_true, Bool.or_self, Bool.or_true, Bool.true_or, Bool.or_false, reduceIte, Option.toList_some, Option.toList_none, List.nil_append, List.cons_append, List.length_cons, List.length_nil, true_and, and_true, Int.cast_ofNat_Int, Int.reduceEq, Int.reduceLT, Int.reduceLE, Nat.zero_le, and_self, or_true, true_or, cdS_68]
    refine ⟨_, _, sp_contains _ (by omega) (by omega), ?_⟩
    by_cases h1 : a / 2 ^ i % 2 = 1
    · rw [if_pos h1, if_pos (Or.inl h1)]
      simp only [vcS0, vcS1, vcS2, vcS3, vcS4, vcS5, vcS6, vc_n0, vc_lk, vc_pop, vc_rc, vc_tsw, vc_fr, vc_ar, vc_tb, mz_nx, List.set_cons_zero, List.set_cons_succ, Nat.reduceAdd, Nat.reduceBEq, Nat.reduceEqDiff, Nat.reduceLeDiff, Nat.reduceLT, Nat.reduceMul, Int.reduceToNat, Bool.false_eq_true, Bool.or_self, Bool.or_true, Bool.true_or, Bool.or_false, reduceIte, Option.toList_some, Option.toList_none, List.nil_append, List.cons_append, List.length_cons, List.length_nil, true_and, and_true, Int.cast_ofNat_Int, Int.reduceEq, Int.reduceLT, Int.reduceLE, Nat.zero_le, and_self, or_true, true_or, cdS_68]
    · rw [if_neg h1]
      have hp := pw1 a ha i hi h1
      simp only [vcS0, vcS1, vcS2, vcS3, vcS4, vcS5, vcS6, vc_n0, vc_lk, vc_pop, vc_rc, vc_tsw, vc_fr, vc_ar, vc_tb, mz_nx, List.set_cons_zero, List.set_cons_succ, Nat.reduceAdd, Nat.reduceBEq, Nat.reduceEqDiff, Nat.reduceLeDiff, Nat.reduceLT, Nat.reduceMul, Int.reduceToNat, Bool.false_eq_true, Bool.or_self, Bool.or_true, Bool.true_or, Bool.or_false, reduceIte, Option.toList_some, Option.toList_none, List.nil_append, List.cons_append, List.length_cons, List.length_nil, true_and, and_true, Int.cast_ofNat_Int, Int.reduceEq, Int.reduceLT, Int.reduceLE, Nat.zero_le, and_self, or_true, true_or, cdS_68]
      refine ⟨_, _, sp_atN (n := 2) (o := q + 4) _ ht, ?_⟩
      simp only [vcS0, vcS1, vcS2, vcS3, vcS4, vcS5, vcS6, vc_n0, vc_lk, vc_pop, vc_rc, vc_tsw, vc_fr, vc_ar, vc_tb, mz_nx, List.set_cons_zero, List.set_cons_succ, Nat.reduceAdd, Nat.reduceBEq, Nat.reduceEqDiff, Nat.reduceLeDiff, Nat.reduceLT, Nat.reduceMul, Int.reduceToNat, Bool.false_eq_true, Bool.or_self, Bool.or_true, Bool.true_or, Bool.or_false, reduceIte, Option.toList_some, Option.toList_none, List.nil_append, List.cons_append, List.length_cons, List.length_nil, true_and, and_true, Int.cast_ofNat_Int, Int.reduceEq, Int.reduceLT, Int.reduceLE, Nat.zero_le, and_self, or_true, true_or, cdS_68]
      by_cases h3 : m (q + 4) t ≤ z
      · rw [if_neg (by omega), if_pos (Or.inr (Or.inl h3))]
      · rw [if_pos (by omega)]
        by_cases h4 : 1000000 ≤ m (q + 5) ((f * 6 + i) * 2 + t)
        · rw [if_neg (by omega), if_pos (Or.inr (Or.inr h4))]
        · rw [if_neg (show ¬ (a / 2 ^ i % 2 = 1 ∨ m (q + 4) t ≤ z ∨ 1000000 ≤ m (q + 5) ((f * 6 + i) * 2 + t)) from fun h => h.elim h1 (fun h => h.elim h3 h4)), if_pos (show m (q + 5) ((f * 6 + i) * 2 + t) < 1000000 by omega)]
          have tl2 : ∀ b' : Nat, b' = (if t = 0 then b + 1 else b) → sx 68 39 [some (mz_r 3 0 q), some (mz_i a), some (mz_i b), some (mz_i f), some (mz_i i), some (mz_i t), some (mz_i z), some (mz_i (m (q + 5) ((f * 6 + i) * 2 + t))), none] [mz_i b'] m (some (mz_i (100000 - m (q + 5) ((f * 6 + i) * 2 + t) + m (q + 6) (((a + 2 ^ i) * 7 + b') * 2 + t)))) m := by
            intro b' hb'
            have hb6 : b' ≤ 6 := by rw [hb']; split <;> omega
            have hw := hW (((a + 2 ^ i) * 7 + b') * 2 + t) (by omega)
            have hpp : (0 : Int) ≤ (pop ((((a + 2 ^ i) * 7 + b') * 2 + t) / 14) 16 : Int) := Int.natCast_nonneg _
            have hpw : 2 ^ i < 64 := Nat.pow_lt_pow_right (by omega) hi
            have es : mz_shl 1 i = ((2 ^ i : Nat) : Int) := by
              have := shl_n (a := 1) (k := i) (by omega) (by omega)
              rwa [Nat.one_mul] at this
            have eo : mz_or a (mz_shl 1 i) = ((a + 2 ^ i : Nat) : Int) := by
              rw [es, or_n (by omega) (by omega), hp.1]
            refine mz_vc_ok 60 (ct := fun _ => false) ?_
            simp only [vcS0, vcS1, vcS2, vcS3, vcS4, vcS5, vcS6, vc_n0, vc_lk, vc_pop, vc_rc, vc_tsw, vc_fr, vc_ar, vc_tb, mz_nx, List.set_cons_zero, List.set_cons_succ, Nat.reduceAdd, Nat.reduceBEq, Nat.reduceEqDiff, Nat.reduceLeDiff, Nat.reduceLT, Nat.reduceMul, Int.reduceToNat, Bool.false_eq_true, Bool.or_self, Bool.or_true, Bool.true_or, Bool.or_false, reduceIte, Option.toList_some, Option.toList_none, List.nil_append, List.cons_append, List.length_cons, List.length_nil, true_and, and_true, Int.cast_ofNat_Int, Int.reduceEq, Int.reduceLT, Int.reduceLE, Nat.zero_le, and_self, or_true, true_or, cdS_68]
            refine ⟨(by unfold mz_w; omega), ?_⟩
            rw [eo]
            refine ⟨_, _, sp_stateIndex _ (by omega) (by omega) (by omega), ?_⟩
            simp only [vcS0, vcS1, vcS2, vcS3, vcS4, vcS5, vcS6, vc_n0, vc_lk, vc_pop, vc_rc, vc_tsw, vc_fr, vc_ar, vc_tb, mz_nx, List.set_cons_zero, List.set_cons_succ, Nat.reduceAdd, Nat.reduceBEq, Nat.reduceEqDiff, Nat.reduceLeDiff, Nat.reduceLT, Nat.reduceMul, Int.reduceToNat, Bool.false_eq_true, Bool.or_self, Bool.or_true, Bool.true_or, Bool.or_false, reduceIte, Option.toList_some, Option.toList_none, List.nil_append, List.cons_append, List.length_cons, List.length_nil, true_and, and_true, Int.cast_ofNat_Int, Int.reduceEq, Int.reduceLT, Int.reduceLE, Nat.zero_le, and_self, or_true, true_or, cdS_68]
            refine ⟨_, _, sp_atN (n := 896) (o := q + 6) _ (show ((a + 2 ^ i) * 7 + b') * 2 + t < 896 by omega), ?_⟩
            simp only [vcS0, vcS1, vcS2, vcS3, vcS4, vcS5, vcS6, vc_n0, vc_lk, vc_pop, vc_rc, vc_tsw, vc_fr, vc_ar, vc_tb, mz_nx, List.set_cons_zero, List.set_cons_succ, Nat.reduceAdd, Nat.reduceBEq, Nat.reduceEqDiff, Nat.reduceLeDiff, Nat.reduceLT, Nat.reduceMul, Int.reduceToNat, Bool.false_eq_true, Bool.or_self, Bool.or_true, Bool.true_or, Bool.or_false, reduceIte, Option.toList_some, Option.toList_none, List.nil_append, List.cons_append, List.length_cons, List.length_nil, true_and, and_true, Int.cast_ofNat_Int, Int.reduceEq, Int.reduceLT, Int.reduceLE, Nat.zero_le, and_self, or_true, true_or, cdS_68]
            exact (by unfold mz_w; omega)
          by_cases h5 : t = 0
          · rw [if_pos (by omega)]
            rw [if_pos h5]
            exact ⟨(by unfold mz_w; omega), tl2 (b + 1) (by rw [if_pos h5])⟩
          · rw [if_neg (by omega)]
            rw [if_neg h5]
            exact tl2 b (by rw [if_neg h5])
  refine mz_cl_vc 60 (fun i => i == 8) [some (mz_r 3 0 q), some (mz_i a), some (mz_i b), some (mz_i f), some (mz_i i), some (mz_i t), none, none, none] rfl ?_
  simp only [vcS0, vcS1, vcS2, vcS3, vcS4, vcS5, vcS6, vc_n0, vc_lk, vc_pop, vc_rc, vc_tsw, vc_fr, vc_ar, vc_tb, mz_nx, List.set_cons_zero, List.set_cons_succ, Nat.reduceAdd, Nat.reduceBEq, Nat.reduceEqDiff, Nat.reduceLeDiff, Nat.reduceLT, Nat.reduceMul, Int.reduceToNat, Bool.false_eq_true, Bool.or_self, Bool.or_true, Bool.true_or, Bool.or_false, reduceIte, Option.toList_some, Option.toList_none, List.nil_append, List.cons_append, List.length_cons, List.length_nil, true_and, and_true, Int.cast_ofNat_Int, Int.reduceEq, Int.reduceLT, Int.reduceLE, Nat.zero_le, and_self, or_true, true_or, cdS_68]
  by_cases h5 : t = 0
  · rw [if_pos (by omega)]
    exact tail b (by rw [if_pos h5])
  · rw [if_neg (by omega)]
    refine ⟨_, _, sp_bitCount m (show a < 65536 by omega), ?_⟩
    simp only [vcS0, vcS1, vcS2, vcS3, vcS4, vcS5, vcS6, vc_n0, vc_lk, vc_pop, vc_rc, vc_tsw, vc_fr, vc_ar, vc_tb, mz_nx, List.set_cons_zero, List.set_cons_succ, Nat.reduceAdd, Nat.reduceBEq, Nat.reduceEqDiff, Nat.reduceLeDiff, Nat.reduceLT, Nat.reduceMul, Int.reduceToNat, Bool.false_eq_true, Bool.or_self, Bool.or_true, Bool.true_or, Bool.or_false, reduceIte, Option.toList_some, Option.toList_none, List.nil_append, List.cons_append, List.length_cons, List.length_nil, true_and, and_true, Int.cast_ofNat_Int, Int.reduceEq, Int.reduceLT, Int.reduceLE, Nat.zero_le, and_self, or_true, true_or, cdS_68]
    exact ⟨(by unfold mz_w; omega), tail _ (by rw [if_neg h5])⟩
