set_option maxRecDepth 8000 in
theorem tr4_copy (m : mz_M) (c p bc bp rm : Nat → Int) (bl : Int) (d : Nat) (bm : Int) (hd : d ≤ 6) (y z w : Option mz_V) (v1 v2 v3 : mz_V) (res : Option mz_V) (m' : mz_M) (hc : sx 231 41 [some (mz_r 9 0 153), some (mz_i d), some v1, some v2, some v3, some (mz_i d), y, z, w] [] (tM m c p (fun i => if i < d then c i else bc i) (fun i => if i < d then p i else bp i) rm bm bl) res m') : ∀ (r j : Nat), j + r = d → sx 231 20 [some (mz_r 9 0 153), some (mz_i d), some v1, some v2, some v3, some (mz_i j), y, z, w] [] (tM m c p (fun i => if i < j then c i else bc i) (fun i => if i < j then p i else bp i) rm bm bl) res m' := by
  intro r
  induction r with
  | zero =>
    intro j hj
    obtain rfl : j = d := by omega
    refine mz_vc_ok 10 (ct := fun i => i == 20 || i == 41) ?_
    simp only [vcS0, vcS1, vcS2, vcS3, vcS4, vcS5, vcS6, vc_n0, vc_lk, vc_pop, vc_rc, vc_tsw, vc_fr, vc_ar, vc_tb, mz_nx, List.set_cons_zero, List.set_cons_succ, Nat.reduceAdd, Nat.reduceBEq, Nat.reduceEqDiff, Nat.reduceLeDiff, Nat.reduceLT, Nat.reduceMul, Int.reduceToNat, Bool.false_eq_true, Bool.or_self, Bool.or_true, Bool.true_or, Bool.or_false, reduceIte, Option.toList_some, Option.toList_none, List.nil_append, List.cons_append, List.length_cons, List.length_nil, true_and, and_true, Int.cast_ofNat_Int, Int.reduceEq, Int.reduceLT, Int.reduceLE, Nat.zero_le, and_self, or_true, true_or, cdS_231]
    rw [if_neg (by omega)]
    exact hc
  | succ r ih =>
    intro j hj
    have hk := ih (j + 1) (by omega)
    have e1 : (fun i => if i < j + 1 then c i else bc i) = vU (fun i => if i < j then c i else bc i) j (c j) := by
      funext i
      unfold vU
      by_cases q : i = j
      · subst q; rw [if_pos rfl, if_pos (by omega)]
      · rw [if_neg q]
        by_cases q2 : i < j
        · rw [if_pos (by omega)]; simp only [if_pos q2]
        · rw [if_neg (by omega)]; simp only [if_neg q2]
    have e2 : (fun i => if i < j + 1 then p i else bp i) = vU (fun i => if i < j then p i else bp i) j (p j) := by
      funext i
      unfold vU
      by_cases q : i = j
      · subst q; rw [if_pos rfl, if_pos (by omega)]
      · rw [if_neg q]
        by_cases q2 : i < j
        · rw [if_pos (by omega)]; simp only [if_pos q2]
        · rw [if_neg (by omega)]; simp only [if_neg q2]
    rw [e1, e2] at hk
    refine mz_vc_ok 40 (ct := fun i => i == 20 || i == 41) ?_
    simp only [vcS0, vcS1, vcS2, vcS3, vcS4, vcS5, vcS6, vc_n0, vc_lk, vc_pop, vc_rc, vc_tsw, vc_fr, vc_ar, vc_tb, mz_nx, List.set_cons_zero, List.set_cons_succ, Nat.reduceAdd, Nat.reduceBEq, Nat.reduceEqDiff, Nat.reduceLeDiff, Nat.reduceLT, Nat.reduceMul, Int.reduceToNat, Bool.false_eq_true, Bool.or_self, Bool.or_true, Bool.true_or, Bool.or_false, reduceIte, Option.toList_some, Option.toList_none, List.nil_append, List.cons_append, List.length_cons, List.length_nil, true_and, and_true, Int.cast_ofNat_Int, Int.reduceEq, Int.reduceLT, Int.reduceLE, Nat.zero_le, and_self, or_true, true_or, cdS_231]
    rw [if_pos (by omega)]
    simp only [tM_gc, tM_bc, tM_gp, tM_bp, Int.toNat_natCast]
    exact ⟨by omega, by omega, by omega, by omega, (by unfold mz_w; omega), hk⟩
set_option maxRecDepth 8000 in
theorem tr4_in (m : mz_M) {cd cp pp : Nat → Nat} {Rm Ln Tb : Nat → Int} {pn cn f0 n i : Nat} {R Qi QF : tR} (hx : tX Rm Ln Tb pn cn f0) (hy : tY m cd cp pp Ln pn cn n) (hch : tSp m cd pp Rm Ln Tb pn cn f0 184 5) (hv : ndV pn cn R) (hl : cn ≤ R.length + (6 - 4)) (hr : rO' Ln f0 R) (hi : i < cn)
  (hc : ∀ (T : tT) (x y : Option mz_V), trI cd pp Rm Ln pn f0 T R (qIn Rm Ln Tb pn cn f0 R i Qi pn) → ∃ T' : tT, sx 231 135 [some (mz_r 9 0 153), some (mz_i R.length), some (mz_i (pp (ndF f0 R))), some (mz_i (ndA R)), some (mz_i (ndL Ln f0 R)), some (mz_i i), some (mz_i (cd i)), x, y] [] (tMT m T) none (tMT m T') ∧ trI cd pp Rm Ln pn f0 T' R QF) :
  ∀ (r q : Nat) (T : tT) (x : Option mz_V), q + r = n → trI cd pp Rm Ln pn f0 T R (qIn Rm Ln Tb pn cn f0 R i Qi (tau pn pp q)) → ∃ T' : tT, sx 231 54 [some (mz_r 9 0 153), some (mz_i R.length), some (mz_i (pp (ndF f0 R))), some (mz_i (ndA R)), some (mz_i (ndL Ln f0 R)), some (mz_i i), some (mz_i (cd i)), some (mz_i q), x] [] (tMT m T) none (tMT m T') ∧ trI cd pp Rm Ln pn f0 T' R QF := by
  have hcn := hx.1
  have hpn := hx.2.1
  obtain ⟨y18, ⟨y0, yn⟩, yi, ypp, yW, yL⟩ := hy
  have o1 := ndV_ok hcn _ hv
  have p5 := pw5 cn (by omega)
  have hlen := ndV_len hcn hv
  have yii := yi i hi
  have hF := ndF_lt hx hv
  have hpF := ypp.1 _ hF
  intro r
  induction r with
  | zero =>
    intro q T x hq hT
    obtain rfl : q = n := by omega
    rw [tau_n hpn ypp] at hT
    obtain ⟨T', h1, h2⟩ := hc T (some (mz_i q)) x hT
    refine ⟨T', ?_, h2⟩
    obtain ⟨c, p, bc, bp, rm, bm, bl⟩ := T
    simp only [tMT] at h1 ⊢
    refine mz_vc_ok 20 (ct := fun i => i == 54 || i == 66 || i == 135) ?_
    simp only [vcS0, vcS1, vcS2, vcS3, vcS4, vcS5, vcS6, vc_n0, vc_lk, vc_pop, vc_rc, vc_tsw, vc_fr, vc_ar, vc_tb, mz_nx, List.set_cons_zero, List.set_cons_succ, Nat.reduceAdd, Nat.reduceBEq, Nat.reduceEqDiff, Nat.reduceLeDiff, Nat.reduceLT, Nat.reduceMul, Int.reduceToNat, Bool.false_eq_true, Bool.or_self, Bool.or_true, Bool.true_or, Bool.or_false, reduceIte, Option.toList_some, Option.toList_none, List.nil_append, List.cons_append, List.length_cons, List.length_nil, true_and, and_true, Int.cast_ofNat_Int, Int.reduceEq, Int.reduceLT, Int.reduceLE, Nat.zero_le, and_self, or_true, true_or, cdS_231]
    rw [tM_154, y0, if_neg (by omega)]
    exact h1
  | succ r ih =>
    intro q T x hq hT
    by_cases hb : ndA R / 2 ^ i % 2 = 1
    · rw [qIn_used hb] at hT
      obtain ⟨T', h1, h2⟩ := hc T (some (mz_i q)) x (by rw [qIn_used hb]; exact hT)
      refine ⟨T', ?_, h2⟩
      obtain ⟨c, p, bc, bp, rm, bm, bl⟩ := T
      simp only [tMT] at h1 ⊢
      refine mz_vc_ok 20 (ct := fun i => i == 54 || i == 66 || i == 135) ?_
      simp only [vcS0, vcS1, vcS2, vcS3, vcS4, vcS5, vcS6, vc_n0, vc_lk, vc_pop, vc_rc, vc_tsw, vc_fr, vc_ar, vc_tb, mz_nx, List.set_cons_zero, List.set_cons_succ, Nat.reduceAdd, Nat.reduceBEq, Nat.reduceEqDiff, Nat.reduceLeDiff, Nat.reduceLT, Nat.reduceMul, Int.reduceToNat, Bool.false_eq_true, Bool.or_self, Bool.or_true, Bool.true_or, Bool.or_false, reduceIte, Option.toList_some, Option.toList_none, List.nil_append, List.cons_append, List.length_cons, List.length_nil, true_and, and_true, Int.cast_ofNat_Int, Int.reduceEq, Int.reduceLT, Int.reduceLE, Nat.zero_le, and_self, or_true, true_or, cdS_231]
      rw [tM_154, y0, if_pos (by omega), shr_n (by omega) (by omega), show (1 : Int) = ((1 : Nat) : Int) from rfl, and_n (by have : ndA R / 2 ^ i ≤ ndA R := Nat.div_le_self _ _; omega) (by omega), Nat.and_one_is_mod, if_neg (by omega)]
      exact h1
    · have w1 := yW (10 * pp (ndF f0 R) + cp i) (by omega)
      have w2 := yW (10 * cp i + q) (by omega)
      obtain ⟨its, hits⟩ : ∃ z, z = mW (m 154) (10 * pp (ndF f0 R) + cp i) + 10 + mW (m 154) (10 * cp i + q) := ⟨_, rfl⟩
      have his : ∀ (c p bc bp rm : Nat → Int) (bm bl : Int) (res : Option mz_V) (m' : mz_M), (if rm q = 0 then sx 231 133 [some (mz_r 9 0 153), some (mz_i R.length), some (mz_i (pp (ndF f0 R))), some (mz_i (ndA R)), some (mz_i (ndL Ln f0 R)), some (mz_i i), some (mz_i (cd i)), some (mz_i q), some (mz_i its)] [] (tM m c p bc bp rm bm bl) res m' else if its < 1000000 then sx 231 93 [some (mz_r 9 0 153), some (mz_i R.length), some (mz_i (pp (ndF f0 R))), some (mz_i (ndA R)), some (mz_i (ndL Ln f0 R)), some (mz_i i), some (mz_i (cd i)), some (mz_i q), some (mz_i its)] [] (tM m c p bc bp rm bm bl) res m' else sx 231 133 [some (mz_r 9 0 153), some (mz_i R.length), some (mz_i (pp (ndF f0 R))), some (mz_i (ndA R)), some (mz_i (ndL Ln f0 R)), some (mz_i i), some (mz_i (cd i)), some (mz_i q), some (mz_i its)] [] (tM m c p bc bp rm bm bl) res m') → sx 231 54 [some (mz_r 9 0 153), some (mz_i R.length), some (mz_i (pp (ndF f0 R))), some (mz_i (ndA R)), some (mz_i (ndL Ln f0 R)), some (mz_i i), some (mz_i (cd i)), some (mz_i q), x] [] (tM m c p bc bp rm bm bl) res m' := by
        intro c p bc bp rm bm bl res m' hk
        have h154 := tM_154 m c p bc bp rm bm bl
        subst hits
        refine mz_vc_ok 50 (ct := fun i => i == 54 || i == 93 || i == 133 || i == 135) ?_
        simp only [vcS0, vcS1, vcS2, vcS3, vcS4, vcS5, vcS6, vc_n0, vc_lk, vc_pop, vc_rc, vc_tsw, vc_fr, vc_ar, vc_tb, mz_nx, List.set_cons_zero, List.set_cons_succ, Nat.reduceAdd, Nat.reduceBEq, Nat.reduceEqDiff, Nat.reduceLeDiff, Nat.reduceLT, Nat.reduceMul, Int.reduceToNat, Bool.false_eq_true, Bool.or_self, Bool.or_true, Bool.true_or, Bool.or_false, reduceIte, Option.toList_some, Option.toList_none, List.nil_append, List.cons_append, List.length_cons, List.length_nil, true_and, and_true, Int.cast_ofNat_Int, Int.reduceEq, Int.reduceLT, Int.reduceLE, Nat.zero_le, and_self, or_true, true_or, cdS_231]
        rw [h154, y0, if_pos (by omega), shr_n (by omega) (by omega), show (1 : Int) = ((1 : Nat) : Int) from rfl, and_n (by have : ndA R / 2 ^ i ≤ ndA R := Nat.div_le_self _ _; omega) (by omega), Nat.and_one_is_mod, if_pos (by omega)]
        have h1 := sp_of1 (tM m c p bc bp rm bm bl) yii.2.1
        rw [h154, yii.2.2.1] at h1
        refine ⟨_, _, h1, ?_⟩
        simp only [vcS0, vcS1, vcS2, vcS3, vcS4, vcS5, vcS6, vc_n0, vc_lk, vc_pop, vc_rc, vc_tsw, vc_fr, vc_ar, vc_tb, mz_nx, List.set_cons_zero, List.set_cons_succ, Nat.reduceAdd, Nat.reduceBEq, Nat.reduceEqDiff, Nat.reduceLeDiff, Nat.reduceLT, Nat.reduceMul, Int.reduceToNat, Bool.false_eq_true, Bool.or_self, Bool.or_true, Bool.true_or, Bool.or_false, reduceIte, Option.toList_some, Option.toList_none, List.nil_append, List.cons_append, List.length_cons, List.length_nil, true_and, and_true, Int.cast_ofNat_Int, Int.reduceEq, Int.reduceLT, Int.reduceLE, Nat.zero_le, and_self, or_true, true_or, cdS_231]
        have h2 := sp_mway (tM m c p bc bp rm bm bl) (show pp (ndF f0 R) < 10 by omega) (show cp i < 10 by omega)
        rw [h154, show m 154 (103 + 10 * pp (ndF f0 R) + cp i) = mW (m 154) (10 * pp (ndF f0 R) + cp i) by unfold mW; rw [show 103 + 10 * pp (ndF f0 R) + cp i = 103 + (10 * pp (ndF f0 R) + cp i) by omega]] at h2
        refine ⟨_, _, h2, ?_⟩
        simp only [vcS0, vcS1, vcS2, vcS3, vcS4, vcS5, vcS6, vc_n0, vc_lk, vc_pop, vc_rc, vc_tsw, vc_fr, vc_ar, vc_tb, mz_nx, List.set_cons_zero, List.set_cons_succ, Nat.reduceAdd, Nat.reduceBEq, Nat.reduceEqDiff, Nat.reduceLeDiff, Nat.reduceLT, Nat.reduceMul, Int.reduceToNat, Bool.false_eq_true, Bool.or_self, Bool.or_true, Bool.true_or, Bool.or_false, reduceIte, Option.toList_some, Option.toList_none, List.nil_append, List.cons_append, List.length_cons, List.length_nil, true_and, and_true, Int.cast_ofNat_Int, Int.reduceEq, Int.reduceLT, Int.reduceLE, Nat.zero_le, and_self, or_true, true_or, cdS_231]
        refine ⟨(by unfold mz_w; omega), _, _, h1, ?_⟩
        simp only [vcS0, vcS1, vcS2, vcS3, vcS4, vcS5, vcS6, vc_n0, vc_lk, vc_pop, vc_rc, vc_tsw, vc_fr, vc_ar, vc_tb, mz_nx, List.set_cons_zero, List.set_cons_succ, Nat.reduceAdd, Nat.reduceBEq, Nat.reduceEqDiff, Nat.reduceLeDiff, Nat.reduceLT, Nat.reduceMul, Int.reduceToNat, Bool.false_eq_true, Bool.or_self, Bool.or_true, Bool.true_or, Bool.or_false, reduceIte, Option.toList_some, Option.toList_none, List.nil_append, List.cons_append, List.length_cons, List.length_nil, true_and, and_true, Int.cast_ofNat_Int, Int.reduceEq, Int.reduceLT, Int.reduceLE, Nat.zero_le, and_self, or_true, true_or, cdS_231]
        have h3 := sp_mway (tM m c p bc bp rm bm bl) (show cp i < 10 by omega) (show q < 10 by omega)
        rw [h154, show m 154 (103 + 10 * cp i + q) = mW (m 154) (10 * cp i + q) by unfold mW; rw [show 103 + 10 * cp i + q = 103 + (10 * cp i + q) by omega]] at h3
        refine ⟨_, _, h3, ?_⟩
        simp only [vcS0, vcS1, vcS2, vcS3, vcS4, vcS5, vcS6, vc_n0, vc_lk, vc_pop, vc_rc, vc_tsw, vc_fr, vc_ar, vc_tb, mz_nx, List.set_cons_zero, List.set_cons_succ, Nat.reduceAdd, Nat.reduceBEq, Nat.reduceEqDiff, Nat.reduceLeDiff, Nat.reduceLT, Nat.reduceMul, Int.reduceToNat, Bool.false_eq_true, Bool.or_self, Bool.or_true, Bool.true_or, Bool.or_false, reduceIte, Option.toList_some, Option.toList_none, List.nil_append, List.cons_append, List.length_cons, List.length_nil, true_and, and_true, Int.cast_ofNat_Int, Int.reduceEq, Int.reduceLT, Int.reduceLE, Nat.zero_le, and_self, or_true, true_or, cdS_231]
        rw [tM_grm, Int.toNat_natCast]
        refine ⟨(by unfold mz_w; omega), by omega, hk⟩
      obtain ⟨c, p, bc, bp, rm, bm, bl⟩ := T
      have hR := hT.2.2.2.1
      have skip : ∀ (T' : tT), sx 231 54 [some (mz_r 9 0 153), some (mz_i R.length), some (mz_i (pp (ndF f0 R))), some (mz_i (ndA R)), some (mz_i (ndL Ln f0 R)), some (mz_i i), some (mz_i (cd i)), some (mz_i ((q + 1 : Nat) : Int)), some (mz_i its)] [] (tM m c p bc bp rm bm bl) none (tMT m T') → (rm q = 0 ∨ 1000000 ≤ its) → sx 231 54 [some (mz_r 9 0 153), some (mz_i R.length), some (mz_i (pp (ndF f0 R))), some (mz_i (ndA R)), some (mz_i (ndL Ln f0 R)), some (mz_i i), some (mz_i (cd i)), some (mz_i q), x] [] (tM m c p bc bp rm bm bl) none (tMT m T') := by
        intro T' hk hz
        have h133 : sx 231 133 [some (mz_r 9 0 153), some (mz_i R.length), some (mz_i (pp (ndF f0 R))), some (mz_i (ndA R)), some (mz_i (ndL Ln f0 R)), some (mz_i i), some (mz_i (cd i)), some (mz_i q), some (mz_i its)] [] (tM m c p bc bp rm bm bl) none (tMT m T') := by
          refine mz_vc_ok 10 (ct := fun i => i == 54) ?_
          simp only [vcS0, vcS1, vcS2, vcS3, vcS4, vcS5, vcS6, vc_n0, vc_lk, vc_pop, vc_rc, vc_tsw, vc_fr, vc_ar, vc_tb, mz_nx, List.set_cons_zero, List.set_cons_succ, Nat.reduceAdd, Nat.reduceBEq, Nat.reduceEqDiff, Nat.reduceLeDiff, Nat.reduceLT, Nat.reduceMul, Int.reduceToNat, Bool.false_eq_true, Bool.or_self, Bool.or_true, Bool.true_or, Bool.or_false, reduceIte, Option.toList_some, Option.toList_none, List.nil_append, List.cons_append, List.length_cons, List.length_nil, true_and, and_true, Int.cast_ofNat_Int, Int.reduceEq, Int.reduceLT, Int.reduceLE, Nat.zero_le, and_self, or_true, true_or, cdS_231]
          exact ⟨(by unfold mz_w; omega), hk⟩
        refine his _ _ _ _ _ _ _ _ _ ?_
        by_cases h0 : rm q = 0
        · rw [if_pos h0]
          exact h133
        · rw [if_neg h0, if_neg (by omega)]
          exact h133
      rcases pp_dec pn pp hpn q with ⟨t, ht, hqt⟩ | hno
      · have htau := tau_t hpn ypp ht
        rw [hqt, htau.1] at hT
        have hRt := hR.1 t ht
        have hLn := yL (ndF f0 R) i t hF hi ht
        simp only at hRt
        by_cases hg : gD Rm Ln f0 R i t
        · have hnx : trI cd pp Rm Ln pn f0 (c, p, bc, bp, rm, bm, bl) R (qIn Rm Ln Tb pn cn f0 R i Qi (tau pn pp (q + 1))) := by
            rw [hqt, htau.2]
            show trI cd pp Rm Ln pn f0 _ R (stQ Rm Ln Tb pn cn f0 R (qIn Rm Ln Tb pn cn f0 R i Qi t) i t)
            rw [stQ_no hg]
            exact hT
          obtain ⟨T', k1, k2⟩ := ih (q + 1) (c, p, bc, bp, rm, bm, bl) (some (mz_i its)) (by omega) hnx
          refine ⟨T', skip T' k1 ?_, k2⟩
          rcases hg with g1 | g2 | g3
          · exact absurd g1 hb
          · left
            rw [hqt]
            have : Rm t ≤ ctO R t := g2
            omega
          · right
            rw [hits, hqt]
            omega
        · have hok := gV_ok hx hv hi ht hg
          have hok2 := hok.2.2
          have hlc := ndV_len hcn hok.1
          simp only [List.length_cons] at hlc
          have hne : rm (pp t) ≠ 0 := fun e => hg (Or.inr (Or.inl (show Rm t ≤ ctO R t by omega)))
          have hpush := trI_push hx ypp hok.1 hT hne
          have hL : ndL Ln f0 ((i, t) :: R) = ndL Ln f0 R + its := by
            show ndL Ln f0 R + Ln ((ndF f0 R * 6 + i) * 2 + t) = _
            rw [hLn, hits, hqt]
            omega
          have hits2 : 0 ≤ its ∧ its ≤ 2000 := by rw [hits, hqt]; omega
          unfold rO' at hr
          obtain ⟨T2, s1, s2⟩ := hch ((i, t) :: R) (qIn Rm Ln Tb pn cn f0 R i Qi t) _ hok.1 (by simp only [List.length_cons]; omega) (by unfold rO'; rw [hL]; simp only [List.length_cons]; omega) hpush
          obtain ⟨c2, p2, bc2, bp2, rm2, bm2, bl2⟩ := T2
          have hpop := trI_pop hx ypp hok.1 s2
          have hnx : trI cd pp Rm Ln pn f0 (c2, p2, bc2, bp2, vU rm2 (pp t) (rm2 (pp t) + 1), bm2, bl2) R (qIn Rm Ln Tb pn cn f0 R i Qi (tau pn pp (q + 1))) := by
            rw [hqt, htau.2]
            show trI cd pp Rm Ln pn f0 _ R (stQ Rm Ln Tb pn cn f0 R (qIn Rm Ln Tb pn cn f0 R i Qi t) i t)
            rw [stQ_ok hg]
            exact hpop
          obtain ⟨T', k1, k2⟩ := ih (q + 1) _ (some (mz_i its)) (by omega) hnx
          refine ⟨T', his _ _ _ _ _ _ _ _ _ ?_, k2⟩
          rw [hL] at s1
          have hrm := (s2.2.2.2.1.1 t ht)
          simp only at hrm s1 k1
          have hRm0 := hx.2.2.2.2.2 t ht
          have hct : 0 ≤ ctO R t ∧ 0 ≤ ctO ((i, t) :: R) t := by
            have o3 := ndV_ok hcn _ hok.1
            unfold ctO
            split <;> omega
          subst hqt
          rw [if_neg hne, if_pos (by omega)]
          refine mz_vc_ok 60 (ct := fun i => i == 54) ?_
          simp only [vcS0, vcS1, vcS2, vcS3, vcS4, vcS5, vcS6, vc_n0, vc_lk, vc_pop, vc_rc, vc_tsw, vc_fr, vc_ar, vc_tb, mz_nx, List.set_cons_zero, List.set_cons_succ, Nat.reduceAdd, Nat.reduceBEq, Nat.reduceEqDiff, Nat.reduceLeDiff, Nat.reduceLT, Nat.reduceMul, Int.reduceToNat, Bool.false_eq_true, Bool.or_self, Bool.or_true, Bool.true_or, Bool.or_false, reduceIte, Option.toList_some, Option.toList_none, List.nil_append, List.cons_append, List.length_cons, List.length_nil, true_and, and_true, Int.cast_ofNat_Int, Int.reduceEq, Int.reduceLT, Int.reduceLE, Nat.zero_le, and_self, or_true, true_or, cdS_231]
          have hpow : 2 ^ i < 64 := Nat.pow_lt_pow_right (by omega) (show i < 6 by omega)
          have es : mz_shl 1 i = ((2 ^ i : Nat) : Int) := by
            have := shl_n (a := 1) (k := i) (by omega) (by omega)
            rwa [Nat.one_mul] at this
          have eo : mz_or (ndA R) (mz_shl 1 i) = ((ndA R + 2 ^ i : Nat) : Int) := by
            rw [es, or_n (by omega) (by omega), (pw1 (ndA R) (by omega) i (by omega) hb).1]
          rw [eo]
          simp only [tM_rm, tM_grm, tM_c, tM_p, Int.toNat_natCast]
          refine ⟨by omega, (by unfold mz_w; omega), by omega, by omega, by omega, (by unfold mz_w; omega), (by unfold mz_w; omega), _, _, s1, ?_⟩
          simp only [vcS0, vcS1, vcS2, vcS3, vcS4, vcS5, vcS6, vc_n0, vc_lk, vc_pop, vc_rc, vc_tsw, vc_fr, vc_ar, vc_tb, mz_nx, List.set_cons_zero, List.set_cons_succ, Nat.reduceAdd, Nat.reduceBEq, Nat.reduceEqDiff, Nat.reduceLeDiff, Nat.reduceLT, Nat.reduceMul, Int.reduceToNat, Bool.false_eq_true, Bool.or_self, Bool.or_true, Bool.true_or, Bool.or_false, reduceIte, Option.toList_some, Option.toList_none, List.nil_append, List.cons_append, List.length_cons, List.length_nil, true_and, and_true, Int.cast_ofNat_Int, Int.reduceEq, Int.reduceLT, Int.reduceLE, Nat.zero_le, and_self, or_true, true_or, cdS_231]
          simp only [tM_rm, tM_grm, Int.toNat_natCast]
          exact ⟨by omega, (by unfold mz_w; omega), by omega, (by unfold mz_w; omega), k1⟩
      · have hnx : trI cd pp Rm Ln pn f0 (c, p, bc, bp, rm, bm, bl) R (qIn Rm Ln Tb pn cn f0 R i Qi (tau pn pp (q + 1))) := by
          rw [tau_s hpn hno]
          exact hT
        obtain ⟨T', k1, k2⟩ := ih (q + 1) (c, p, bc, bp, rm, bm, bl) (some (mz_i its)) (by omega) hnx
        exact ⟨T', skip T' k1 (Or.inl (hR.2 q (by omega) hno)), k2⟩
set_option maxRecDepth 8000 in
theorem tr4_out (m : mz_M) {cd cp pp : Nat → Nat} {Rm Ln Tb : Nat → Int} {pn cn f0 n : Nat} {R Q0 : tR} (hx : tX Rm Ln Tb pn cn f0) (hy : tY m cd cp pp Ln pn cn n) (hch : tSp m cd pp Rm Ln Tb pn cn f0 184 5) (hv : ndV pn cn R) (hl : cn ≤ R.length + (6 - 4)) (hr : rO' Ln f0 R) :
  ∀ (r i : Nat) (T : tT) (x y z : Option mz_V), i + r = cn → trI cd pp Rm Ln pn f0 T R (qOut Rm Ln Tb pn cn f0 R Q0 i) → ∃ T' : tT, sx 231 43 [some (mz_r 9 0 153), some (mz_i R.length), some (mz_i (pp (ndF f0 R))), some (mz_i (ndA R)), some (mz_i (ndL Ln f0 R)), some (mz_i i), x, y, z] [] (tMT m T) none (tMT m T') ∧ trI cd pp Rm Ln pn f0 T' R (qOut Rm Ln Tb pn cn f0 R Q0 cn) := by
  have y18 := hy.1
  have yi := hy.2.2.1
  have hcn := hx.1
  intro r
  induction r with
  | zero =>
    intro i T x y z hi hT
    obtain rfl : i = cn := by omega
    refine ⟨T, ?_, hT⟩
    obtain ⟨c, p, bc, bp, rm, bm, bl⟩ := T
    simp only [tMT]
    refine mz_vc_ok 10 (ct := fun i => i == 43 || i == 47) ?_
    simp only [vcS0, vcS1, vcS2, vcS3, vcS4, vcS5, vcS6, vc_n0, vc_lk, vc_pop, vc_rc, vc_tsw, vc_fr, vc_ar, vc_tb, mz_nx, List.set_cons_zero, List.set_cons_succ, Nat.reduceAdd, Nat.reduceBEq, Nat.reduceEqDiff, Nat.reduceLeDiff, Nat.reduceLT, Nat.reduceMul, Int.reduceToNat, Bool.false_eq_true, Bool.or_self, Bool.or_true, Bool.true_or, Bool.or_false, reduceIte, Option.toList_some, Option.toList_none, List.nil_append, List.cons_append, List.length_cons, List.length_nil, true_and, and_true, Int.cast_ofNat_Int, Int.reduceEq, Int.reduceLT, Int.reduceLE, Nat.zero_le, and_self, or_true, true_or, cdS_231]
    rw [tM_g18, y18, if_neg (by omega)]
    trivial
  | succ r ih =>
    intro i T x y z hi hT
    have yii := yi i (by omega)
    obtain ⟨T', k1, k2⟩ := tr4_in m (i := i) (Qi := qOut Rm Ln Tb pn cn f0 R Q0 i) (QF := qOut Rm Ln Tb pn cn f0 R Q0 cn) hx hy hch hv hl hr (by omega) (fun T2 x2 y2 h2 => by
      obtain ⟨T3, g1, g2⟩ := ih (i + 1) T2 (some (mz_i (cd i))) x2 y2 (by omega) h2
      refine ⟨T3, ?_, g2⟩
      refine mz_vc_ok 10 (ct := fun i => i == 43) ?_
      simp only [vcS0, vcS1, vcS2, vcS3, vcS4, vcS5, vcS6, vc_n0, vc_lk, vc_pop, vc_rc, vc_tsw, vc_fr, vc_ar, vc_tb, mz_nx, List.set_cons_zero, List.set_cons_succ, Nat.reduceAdd, Nat.reduceBEq, Nat.reduceEqDiff, Nat.reduceLeDiff, Nat.reduceLT, Nat.reduceMul, Int.reduceToNat, Bool.false_eq_true, Bool.or_self, Bool.or_true, Bool.true_or, Bool.or_false, reduceIte, Option.toList_some, Option.toList_none, List.nil_append, List.cons_append, List.length_cons, List.length_nil, true_and, and_true, Int.cast_ofNat_Int, Int.reduceEq, Int.reduceLT, Int.reduceLE, Nat.zero_le, and_self, or_true, true_or, cdS_231]
      exact ⟨(by unfold mz_w; omega), g1⟩) n 0 T z (by omega) (by rw [tau_0]; exact hT)
    refine ⟨T', ?_, k2⟩
    obtain ⟨c, p, bc, bp, rm, bm, bl⟩ := T
    simp only [tMT] at k1 ⊢
    refine mz_vc_ok 20 (ct := fun i => i == 43 || i == 54) ?_
    simp only [vcS0, vcS1, vcS2, vcS3, vcS4, vcS5, vcS6, vc_n0, vc_lk, vc_pop, vc_rc, vc_tsw, vc_fr, vc_ar, vc_tb, mz_nx, List.set_cons_zero, List.set_cons_succ, Nat.reduceAdd, Nat.reduceBEq, Nat.reduceEqDiff, Nat.reduceLeDiff, Nat.reduceLT, Nat.reduceMul, Int.reduceToNat, Bool.false_eq_true, Bool.or_self, Bool.or_true, Bool.true_or, Bool.or_false, reduceIte, Option.toList_some, Option.toList_none, List.nil_append, List.cons_append, List.length_cons, List.length_nil, true_and, and_true, Int.cast_ofNat_Int, Int.reduceEq, Int.reduceLT, Int.reduceLE, Nat.zero_le, and_self, or_true, true_or, cdS_231]
    rw [tM_g18, y18, if_pos (by omega), tM_159, Int.toNat_natCast, yii.1]
    exact ⟨by omega, k1⟩
set_option maxRecDepth 8000 in
theorem tr4_sp (m : mz_M) {cd cp pp : Nat → Nat} {Rm Ln Tb : Nat → Int} {pn cn f0 n : Nat} (hx : tX Rm Ln Tb pn cn f0) (hy : tY m cd cp pp Ln pn cn n) (hch : tSp m cd pp Rm Ln Tb pn cn f0 184 5) : tSp m cd pp Rm Ln Tb pn cn f0 231 4 := by
  intro R Q T hv hl hr hT
  have hlen := ndV_len hx.1 hv
  have hcn := hx.1
  have hr' := hr
  unfold rO' at hr'
  have hQ := hT.2.2.2.2
  have hnode : ∀ (T0 : tT) (x : Option mz_V), trI cd pp Rm Ln pn f0 T0 R (if sc Ln f0 Q < sc Ln f0 R then R else Q) → ∃ T' : tT, sx 231 41 [some (mz_r 9 0 153), some (mz_i R.length), some (mz_i (pp (ndF f0 R))), some (mz_i (ndA R)), some (mz_i (ndL Ln f0 R)), x, none, none, none] [] (tMT m T0) none (tMT m T') ∧ trI cd pp Rm Ln pn f0 T' R (nxQ Rm Ln Tb pn cn f0 R Q) := by
    intro T0 x h0
    obtain ⟨T', k1, k2⟩ := tr4_out m (Q0 := if sc Ln f0 Q < sc Ln f0 R then R else Q) hx hy hch hv hl hr cn 0 T0 none none none (by omega) h0
    rw [q_fin hx hv] at k2
    refine ⟨T', ?_, k2⟩
    refine mz_vc_ok 10 (ct := fun i => i == 43) ?_
    simp only [vcS0, vcS1, vcS2, vcS3, vcS4, vcS5, vcS6, vc_n0, vc_lk, vc_pop, vc_rc, vc_tsw, vc_fr, vc_ar, vc_tb, mz_nx, List.set_cons_zero, List.set_cons_succ, Nat.reduceAdd, Nat.reduceBEq, Nat.reduceEqDiff, Nat.reduceLeDiff, Nat.reduceLT, Nat.reduceMul, Int.reduceToNat, Bool.false_eq_true, Bool.or_self, Bool.or_true, Bool.true_or, Bool.or_false, reduceIte, Option.toList_some, Option.toList_none, List.nil_append, List.cons_append, List.length_cons, List.length_nil, true_and, and_true, Int.cast_ofNat_Int, Int.reduceEq, Int.reduceLT, Int.reduceLE, Nat.zero_le, and_self, or_true, true_or, cdS_231]
    exact k1
  obtain ⟨c, p, bc, bp, rm, bm, bl⟩ := T
  obtain ⟨⟨t1, t2⟩, ⟨t3, t4⟩, ⟨t5, t6⟩, t7, t8⟩ := hT
  unfold qO at hQ
  simp only at t1 t2 t3 t4 t5 t6 t7
  by_cases hs : sc Ln f0 Q < sc Ln f0 R
  · have hb : trI cd pp Rm Ln pn f0 (c, p, (fun i => if i < R.length then c i else bc i), (fun i => if i < R.length then p i else bp i), rm, (R.length : Int), ndL Ln f0 R) R (if sc Ln f0 Q < sc Ln f0 R then R else Q) := by
      rw [if_pos hs]
      exact ⟨⟨t1, t2⟩, ⟨arO_congr (fun k hk => if_pos hk) t1, arO_congr (fun k hk => if_pos hk) t2⟩, ⟨rfl, rfl⟩, t7, by unfold qO; omega⟩
    obtain ⟨T', k1, k2⟩ := hnode _ (some (mz_i R.length)) hb
    have h20 : sx 231 20 [some (mz_r 9 0 153), some (mz_i R.length), some (mz_i (pp (ndF f0 R))), some (mz_i (ndA R)), some (mz_i (ndL Ln f0 R)), some (mz_i 0), none, none, none] [] (tM m c p bc bp rm R.length (ndL Ln f0 R)) none (tMT m T') := by
      have := tr4_copy m c p bc bp rm (ndL Ln f0 R) R.length R.length (by omega) none none none (mz_i (pp (ndF f0 R))) (mz_i (ndA R)) (mz_i (ndL Ln f0 R)) none (tMT m T') (by simp only [tMT] at k1 ⊢; exact k1) R.length 0 (by omega)
      rw [show (fun i => if i < 0 then c i else bc i) = bc by funext i; rw [if_neg (by omega)], show (fun i => if i < 0 then p i else bp i) = bp by funext i; rw [if_neg (by omega)]] at this
      exact this
    refine ⟨T', ?_, k2⟩
    simp only [tMT] at k1 ⊢
    refine mz_cl_vc 30 (fun i => i == 20 || i == 41) [some (mz_r 9 0 153), some (mz_i R.length), some (mz_i (pp (ndF f0 R))), some (mz_i (ndA R)), some (mz_i (ndL Ln f0 R)), none, none, none, none] rfl ?_
    simp only [vcS0, vcS1, vcS2, vcS3, vcS4, vcS5, vcS6, vc_n0, vc_lk, vc_pop, vc_rc, vc_tsw, vc_fr, vc_ar, vc_tb, mz_nx, List.set_cons_zero, List.set_cons_succ, Nat.reduceAdd, Nat.reduceBEq, Nat.reduceEqDiff, Nat.reduceLeDiff, Nat.reduceLT, Nat.reduceMul, Int.reduceToNat, Bool.false_eq_true, Bool.or_self, Bool.or_true, Bool.true_or, Bool.or_false, reduceIte, Option.toList_some, Option.toList_none, List.nil_append, List.cons_append, List.length_cons, List.length_nil, true_and, and_true, Int.cast_ofNat_Int, Int.reduceEq, Int.reduceLT, Int.reduceLE, Nat.zero_le, and_self, or_true, true_or, cdS_231]
    simp only [tMT] at h20
    rw [tM_g19, tM_g20, t5, t6]
    simp only [tM_bm, tM_bl]
    unfold sc at hs
    by_cases h1 : Q.length < R.length
    · rw [if_neg (by omega)]
      exact h20
    · rw [if_pos (by omega), if_pos (by omega), if_pos (by omega)]
      exact h20
  · have hb : trI cd pp Rm Ln pn f0 (c, p, bc, bp, rm, bm, bl) R (if sc Ln f0 Q < sc Ln f0 R then R else Q) := by
      rw [if_neg hs]
      exact ⟨⟨t1, t2⟩, ⟨t3, t4⟩, ⟨t5, t6⟩, t7, t8⟩
    obtain ⟨T', k1, k2⟩ := hnode _ none hb
    refine ⟨T', ?_, k2⟩
    simp only [tMT] at k1 ⊢
    refine mz_cl_vc 30 (fun i => i == 20 || i == 41) [some (mz_r 9 0 153), some (mz_i R.length), some (mz_i (pp (ndF f0 R))), some (mz_i (ndA R)), some (mz_i (ndL Ln f0 R)), none, none, none, none] rfl ?_
    simp only [vcS0, vcS1, vcS2, vcS3, vcS4, vcS5, vcS6, vc_n0, vc_lk, vc_pop, vc_rc, vc_tsw, vc_fr, vc_ar, vc_tb, mz_nx, List.set_cons_zero, List.set_cons_succ, Nat.reduceAdd, Nat.reduceBEq, Nat.reduceEqDiff, Nat.reduceLeDiff, Nat.reduceLT, Nat.reduceMul, Int.reduceToNat, Bool.false_eq_true, Bool.or_self, Bool.or_true, Bool.true_or, Bool.or_false, reduceIte, Option.toList_some, Option.toList_none, List.nil_append, List.cons_append, List.length_cons, List.length_nil, true_and, and_true, Int.cast_ofNat_Int, Int.reduceEq, Int.reduceLT, Int.reduceLE, Nat.zero_le, and_self, or_true, true_or, cdS_231]
    rw [t5, t6] at k1 ⊢
    rw [tM_g19, tM_g20]
    unfold sc at hs
    rw [if_pos (by omega)]
    by_cases h1 : (R.length : Int) = Q.length
    · rw [if_pos h1, if_neg (by omega)]
      exact k1
    · rw [if_neg h1]
      exact k1
