set_option maxRecDepth 8000 in
theorem tr6_copy (m : mz_M) (c p bc bp rm : Nat → Int) (bl : Int) (d : Nat) (bm : Int) (hd : d ≤ 6) (y z w : Option mz_V) (v1 v2 v3 : mz_V) (res : Option mz_V) (m' : mz_M) (hc : sx 122 41 [some (mz_r 9 0 153), some (mz_i d), some v1, some v2, some v3, some (mz_i d), y, z, w] [] (tM m c p (fun i => if i < d then c i else bc i) (fun i => if i < d then p i else bp i) rm bm bl) res m') : ∀ (r j : Nat), j + r = d → sx 122 20 [some (mz_r 9 0 153), some (mz_i d), some v1, some v2, some v3, some (mz_i j), y, z, w] [] (tM m c p (fun i => if i < j then c i else bc i) (fun i => if i < j then p i else bp i) rm bm bl) res m' := by
  intro r
  induction r with
  | zero =>
    intro j hj
    obtain rfl : j = d := by omega
    refine mz_vc_ok 10 (ct := fun i => i == 20 || i == 41) ?_
    simp only [vcS0, vcS1, vcS2, vcS3, vcS4, vcS5, vcS6, vc_n0, vc_lk, vc_pop, vc_rc, vc_tsw, vc_fr, vc_ar, vc_tb, mz_nx, List.set_cons_zero, List.set_cons_succ, Nat.reduceAdd, Nat.reduceBEq, Nat.reduceEqDiff, Nat.reduceLeDiff, Nat.reduceLT, Nat.reduceMul, Int.reduceToNat, Bool.false_eq_true, Bool.or_self, Bool.or_true, Bool.true_or, Bool.or_false, reduceIte, Option.toList_some, Option.toList_none, List.nil_append, List.cons_append, List.length_cons, List.length_nil, true_and, and_true, Int.cast_ofNat_Int, Int.reduceEq, Int.reduceLT, Int.reduceLE, Nat.zero_le, and_self, or_true, true_or, cdS_122]
    rw [if_neg (by omega)]
    exact hc
  | succ r ih =>
    intro j hj
    have hk := ih (j + 1) (by omega)
    have e1 : (fun i => if i < j + 1 then c i else bc i) = vU (fun i => if i < j then c i else bc i) j (c j) := by
      funext i
      unfold vU
      by_cases q : i = j
      · subst q; rw [if_pos rfl, if_pos (by omega)]
      · rw [if_neg q]
        by_cases q2 : i < j
        · rw [if_pos (by omega)]; simp only [if_pos q2]
        · rw [if_neg (by omega)]; simp only [if_neg q2]
    have e2 : (fun i => if i < j + 1 then p i else bp i) = vU (fun i => if i < j then p i else bp i) j (p j) := by
      funext i
      unfold vU
      by_cases q : i = j
      · subst q; rw [if_pos rfl, if_pos (by omega)]
      · rw [if_neg q]
        by_cases q2 : i < j
        · rw [if_pos (by omega)]; simp only [if_pos q2]
        · rw [if_neg (by omega)]; simp only [if_neg q2]
    rw [e1, e2] at hk
    refine mz_vc_ok 40 (ct := fun i => i == 20 || i == 41) ?_
    simp only [vcS0, vcS1, vcS2, vcS3, vcS4, vcS5, vcS6, vc_n0, vc_lk, vc_pop, vc_rc, vc_tsw, vc_fr, vc_ar, vc_tb, mz_nx, List.set_cons_zero, List.set_cons_succ, Nat.reduceAdd, Nat.reduceBEq, Nat.reduceEqDiff, Nat.reduceLeDiff, Nat.reduceLT, Nat.reduceMul, Int.reduceToNat, Bool.false_eq_true, Bool.or_self, Bool.or_true, Bool.true_or, Bool.or_false, reduceIte, Option.toList_some, Option.toList_none, List.nil_append, List.cons_append, List.length_cons, List.length_nil, true_and, and_true, Int.cast_ofNat_Int, Int.reduceEq, Int.reduceLT, Int.reduceLE, Nat.zero_le, and_self, or_true, true_or, cdS_122]
    rw [if_pos (by omega)]
    simp only [tM_gc, tM_bc, tM_gp, tM_bp, Int.toNat_natCast]
    exact ⟨by omega, by omega, by omega, by omega, (by unfold mz_w; omega), hk⟩
set_option maxRecDepth 8000 in
theorem tr6_in (m : mz_M) {cd cp pp : Nat → Nat} {Rm Ln Tb : Nat → Int} {pn cn f0 n i : Nat} {R Qi QF : tR} (hx : tX Rm Ln Tb pn cn f0) (hy : tY m cd cp pp Ln pn cn n) (hv : ndV pn cn R) (hl : cn ≤ R.length + (6 - 6)) (hr : rO' Ln f0 R) (hi : i < cn)
  (hc : ∀ (T : tT) (x y : Option mz_V), trI cd pp Rm Ln pn f0 T R (qIn Rm Ln Tb pn cn f0 R i Qi pn) → ∃ T' : tT, sx 122 135 [some (mz_r 9 0 153), some (mz_i R.length), some (mz_i (pp (ndF f0 R))), some (mz_i (ndA R)), some (mz_i (ndL Ln f0 R)), some (mz_i i), some (mz_i (cd i)), x, y] [] (tMT m T) none (tMT m T') ∧ trI cd pp Rm Ln pn f0 T' R QF) :
  ∀ (r q : Nat) (T : tT) (x : Option mz_V), q + r = n → trI cd pp Rm Ln pn f0 T R (qIn Rm Ln Tb pn cn f0 R i Qi (tau pn pp q)) → ∃ T' : tT, sx 122 54 [some (mz_r 9 0 153), some (mz_i R.length), some (mz_i (pp (ndF f0 R))), some (mz_i (ndA R)), some (mz_i (ndL Ln f0 R)), some (mz_i i), some (mz_i (cd i)), some (mz_i q), x] [] (tMT m T) none (tMT m T') ∧ trI cd pp Rm Ln pn f0 T' R QF := by
  have hcn := hx.1
  have hpn := hx.2.1
  obtain ⟨y18, ⟨y0, yn⟩, yi, ypp, yW, yL⟩ := hy
  have o1 := ndV_ok hcn _ hv
  have p5 := pw5 cn (by omega)
  have hlen := ndV_len hcn hv
  have yii := yi i hi
  have hF := ndF_lt hx hv
  have hpF := ypp.1 _ hF
  intro r
  induction r with
  | zero =>
    intro q T x hq hT
    obtain rfl : q = n := by omega
    rw [tau_n hpn ypp] at hT
    obtain ⟨T', h1, h2⟩ := hc T (some (mz_i q)) x hT
    refine ⟨T', ?_, h2⟩
    obtain ⟨c, p, bc, bp, rm, bm, bl⟩ := T
    simp only [tMT] at h1 ⊢
    refine mz_vc_ok 20 (ct := fun i => i == 54 || i == 66 || i == 135) ?_
    simp only [vcS0, vcS1, vcS2, vcS3, vcS4, vcS5, vcS6, vc_n0, vc_lk, vc_pop, vc_rc, vc_tsw, vc_fr, vc_ar, vc_tb, mz_nx, List.set_cons_zero, List.set_cons_succ, Nat.reduceAdd, Nat.reduceBEq, Nat.reduceEqDiff, Nat.reduceLeDiff, Nat.reduceLT, Nat.reduceMul, Int.reduceToNat, Bool.false_eq_true, Bool.or_self, Bool.or_true, Bool.true_or, Bool.or_false, reduceIte, Option.toList_some, Option.toList_none, List.nil_append, List.cons_append, List.length_cons, List.length_nil, true_and, and_true, Int.cast_ofNat_Int, Int.reduceEq, Int.reduceLT, Int.reduceLE, Nat.zero_le, and_self, or_true, true_or, cdS_122]
    rw [tM_154, y0, if_neg (by omega)]
    exact h1
  | succ r ih =>
    intro q T x hq hT
    by_cases hb : ndA R / 2 ^ i % 2 = 1
    · rw [qIn_used hb] at hT
      obtain ⟨T', h1, h2⟩ := hc T (some (mz_i q)) x (by rw [qIn_used hb]; exact hT)
      refine ⟨T', ?_, h2⟩
      obtain ⟨c, p, bc, bp, rm, bm, bl⟩ := T
      simp only [tMT] at h1 ⊢
      refine mz_vc_ok 20 (ct := fun i => i == 54 || i == 66 || i == 135) ?_
      simp only [vcS0, vcS1, vcS2, vcS3, vcS4, vcS5, vcS6, vc_n0, vc_lk, vc_pop, vc_rc, vc_tsw, vc_fr, vc_ar, vc_tb, mz_nx, List.set_cons_zero, List.set_cons_succ, Nat.reduceAdd, Nat.reduceBEq, Nat.reduceEqDiff, Nat.reduceLeDiff, Nat.reduceLT, Nat.reduceMul, Int.reduceToNat, Bool.false_eq_true, Bool.or_self, Bool.or_true, Bool.true_or, Bool.or_false, reduceIte, Option.toList_some, Option.toList_none, List.nil_append, List.cons_append, List.length_cons, List.length_nil, true_and, and_true, Int.cast_ofNat_Int, Int.reduceEq, Int.reduceLT, Int.reduceLE, Nat.zero_le, and_self, or_true, true_or, cdS_122]
      rw [tM_154, y0, if_pos (by omega), shr_n (by omega) (by omega), show (1 : Int) = ((1 : Nat) : Int) from rfl, and_n (by have : ndA R / 2 ^ i ≤ ndA R := Nat.div_le_self _ _; omega) (by omega), Nat.and_one_is_mod, if_neg (by omega)]
      exact h1
    · exact absurd (pw4 cn (by omega) _ o1.1 (by omega) i hi) hb
set_option maxRecDepth 8000 in
theorem tr6_out (m : mz_M) {cd cp pp : Nat → Nat} {Rm Ln Tb : Nat → Int} {pn cn f0 n : Nat} {R Q0 : tR} (hx : tX Rm Ln Tb pn cn f0) (hy : tY m cd cp pp Ln pn cn n) (hv : ndV pn cn R) (hl : cn ≤ R.length + (6 - 6)) (hr : rO' Ln f0 R) :
  ∀ (r i : Nat) (T : tT) (x y z : Option mz_V), i + r = cn → trI cd pp Rm Ln pn f0 T R (qOut Rm Ln Tb pn cn f0 R Q0 i) → ∃ T' : tT, sx 122 43 [some (mz_r 9 0 153), some (mz_i R.length), some (mz_i (pp (ndF f0 R))), some (mz_i (ndA R)), some (mz_i (ndL Ln f0 R)), some (mz_i i), x, y, z] [] (tMT m T) none (tMT m T') ∧ trI cd pp Rm Ln pn f0 T' R (qOut Rm Ln Tb pn cn f0 R Q0 cn) := by
  have y18 := hy.1
  have yi := hy.2.2.1
  have hcn := hx.1
  intro r
  induction r with
  | zero =>
    intro i T x y z hi hT
    obtain rfl : i = cn := by omega
    refine ⟨T, ?_, hT⟩
    obtain ⟨c, p, bc, bp, rm, bm, bl⟩ := T
    simp only [tMT]
    refine mz_vc_ok 10 (ct := fun i => i == 43 || i == 47) ?_
    simp only [vcS0, vcS1, vcS2, vcS3, vcS4, vcS5, vcS6, vc_n0, vc_lk, vc_pop, vc_rc, vc_tsw, vc_fr, vc_ar, vc_tb, mz_nx, List.set_cons_zero, List.set_cons_succ, Nat.reduceAdd, Nat.reduceBEq, Nat.reduceEqDiff, Nat.reduceLeDiff, Nat.reduceLT, Nat.reduceMul, Int.reduceToNat, Bool.false_eq_true, Bool.or_self, Bool.or_true, Bool.true_or, Bool.or_false, reduceIte, Option.toList_some, Option.toList_none, List.nil_append, List.cons_append, List.length_cons, List.length_nil, true_and, and_true, Int.cast_ofNat_Int, Int.reduceEq, Int.reduceLT, Int.reduceLE, Nat.zero_le, and_self, or_true, true_or, cdS_122]
    rw [tM_g18, y18, if_neg (by omega)]
    trivial
  | succ r ih =>
    intro i T x y z hi hT
    have yii := yi i (by omega)
    obtain ⟨T', k1, k2⟩ := tr6_in m (i := i) (Qi := qOut Rm Ln Tb pn cn f0 R Q0 i) (QF := qOut Rm Ln Tb pn cn f0 R Q0 cn) hx hy hv hl hr (by omega) (fun T2 x2 y2 h2 => by
      obtain ⟨T3, g1, g2⟩ := ih (i + 1) T2 (some (mz_i (cd i))) x2 y2 (by omega) h2
      refine ⟨T3, ?_, g2⟩
      refine mz_vc_ok 10 (ct := fun i => i == 43) ?_
      simp only [vcS0, vcS1, vcS2, vcS3, vcS4, vcS5, vcS6, vc_n0, vc_lk, vc_pop, vc_rc, vc_tsw, vc_fr, vc_ar, vc_tb, mz_nx, List.set_cons_zero, List.set_cons_succ, Nat.reduceAdd, Nat.reduceBEq, Nat.reduceEqDiff, Nat.reduceLeDiff, Nat.reduceLT, Nat.reduceMul, Int.reduceToNat, Bool.false_eq_true, Bool.or_self, Bool.or_true, Bool.true_or, Bool.or_false, reduceIte, Option.toList_some, Option.toList_none, List.nil_append, List.cons_append, List.length_cons, List.length_nil, true_and, and_true, Int.cast_ofNat_Int, Int.reduceEq, Int.reduceLT, Int.reduceLE, Nat.zero_le, and_self, or_true, true_or, cdS_122]
      exact ⟨(by unfold mz_w; omega), g1⟩) n 0 T z (by omega) (by rw [tau_0]; exact hT)
    refine ⟨T', ?_, k2⟩
    obtain ⟨c, p, bc, bp, rm, bm, bl⟩ := T
    simp only [tMT] at k1 ⊢
    refine mz_vc_ok 20 (ct := fun i => i == 43 || i == 54) ?_
    simp only [vcS0, vcS1, vcS2, vcS3, vcS4, vcS5, vcS6, vc_n0, vc_lk, vc_pop, vc_rc, vc_tsw, vc_fr, vc_ar, vc_tb, mz_nx, List.set_cons_zero, List.set_cons_succ, Nat.reduceAdd, Nat.reduceBEq, Nat.reduceEqDiff, Nat.reduceLeDiff, Nat.reduceLT, Nat.reduceMul, Int.reduceToNat, Bool.false_eq_true, Bool.or_self, Bool.or_true, Bool.true_or, Bool.or_false, reduceIte, Option.toList_some, Option.toList_none, List.nil_append, List.cons_append, List.length_cons, List.length_nil, true_and, and_true, Int.cast_ofNat_Int, Int.reduceEq, Int.reduceLT, Int.reduceLE, Nat.zero_le, and_self, or_true, true_or, cdS_122]
    rw [tM_g18, y18, if_pos (by omega), tM_159, Int.toNat_natCast, yii.1]
    exact ⟨by omega, k1⟩
set_option maxRecDepth 8000 in
theorem tr6_sp (m : mz_M) {cd cp pp : Nat → Nat} {Rm Ln Tb : Nat → Int} {pn cn f0 n : Nat} (hx : tX Rm Ln Tb pn cn f0) (hy : tY m cd cp pp Ln pn cn n) : tSp m cd pp Rm Ln Tb pn cn f0 122 6 := by
  intro R Q T hv hl hr hT
  have hlen := ndV_len hx.1 hv
  have hcn := hx.1
  have hr' := hr
  unfold rO' at hr'
  have hQ := hT.2.2.2.2
  have hnode : ∀ (T0 : tT) (x : Option mz_V), trI cd pp Rm Ln pn f0 T0 R (if sc Ln f0 Q < sc Ln f0 R then R else Q) → ∃ T' : tT, sx 122 41 [some (mz_r 9 0 153), some (mz_i R.length), some (mz_i (pp (ndF f0 R))), some (mz_i (ndA R)), some (mz_i (ndL Ln f0 R)), x, none, none, none] [] (tMT m T0) none (tMT m T') ∧ trI cd pp Rm Ln pn f0 T' R (nxQ Rm Ln Tb pn cn f0 R Q) := by
    intro T0 x h0
    obtain ⟨T', k1, k2⟩ := tr6_out m (Q0 := if sc Ln f0 Q < sc Ln f0 R then R else Q) hx hy hv hl hr cn 0 T0 none none none (by omega) h0
    rw [q_fin hx hv] at k2
    refine ⟨T', ?_, k2⟩
    refine mz_vc_ok 10 (ct := fun i => i == 43) ?_
    simp only [vcS0, vcS1, vcS2, vcS3, vcS4, vcS5, vcS6, vc_n0, vc_lk, vc_pop, vc_rc, vc_tsw, vc_fr, vc_ar, vc_tb, mz_nx, List.set_cons_zero, List.set_cons_succ, Nat.reduceAdd, Nat.reduceBEq, Nat.reduceEqDiff, Nat.reduceLeDiff, Nat.reduceLT, Nat.reduceMul, Int.reduceToNat, Bool.false_eq_true, Bool.or_self, Bool.or_true, Bool.true_or, Bool.or_false, reduceIte, Option.toList_some, Option.toList_none, List.nil_append, List.cons_append, List.length_cons, List.length_nil, true_and, and_true, Int.cast_ofNat_Int, Int.reduceEq, Int.reduceLT, Int.reduceLE, Nat.zero_le, and_self, or_true, true_or, cdS_122]
    exact k1
  obtain ⟨c, p, bc, bp, rm, bm, bl⟩ := T
  obtain ⟨⟨t1, t2⟩, ⟨t3, t4⟩, ⟨t5, t6⟩, t7, t8⟩ := hT
  unfold qO at hQ
  simp only at t1 t2 t3 t4 t5 t6 t7
  by_cases hs : sc Ln f0 Q < sc Ln f0 R
  · have hb : trI cd pp Rm Ln pn f0 (c, p, (fun i => if i < R.length then c i else bc i), (fun i => if i < R.length then p i else bp i), rm, (R.length : Int), ndL Ln f0 R) R (if sc Ln f0 Q < sc Ln f0 R then R else Q) := by
      rw [if_pos hs]
      exact ⟨⟨t1, t2⟩, ⟨arO_congr (fun k hk => if_pos hk) t1, arO_congr (fun k hk => if_pos hk) t2⟩, ⟨rfl, rfl⟩, t7, by unfold qO; omega⟩
    obtain ⟨T', k1, k2⟩ := hnode _ (some (mz_i R.length)) hb
    have h20 : sx 122 20 [some (mz_r 9 0 153), some (mz_i R.length), some (mz_i (pp (ndF f0 R))), some (mz_i (ndA R)), some (mz_i (ndL Ln f0 R)), some (mz_i 0), none, none, none] [] (tM m c p bc bp rm R.length (ndL Ln f0 R)) none (tMT m T') := by
      have := tr6_copy m c p bc bp rm (ndL Ln f0 R) R.length R.length (by omega) none none none (mz_i (pp (ndF f0 R))) (mz_i (ndA R)) (mz_i (ndL Ln f0 R)) none (tMT m T') (by simp only [tMT] at k1 ⊢; exact k1) R.length 0 (by omega)
      rw [show (fun i => if i < 0 then c i else bc i) = bc by funext i; rw [if_neg (by omega)], show (fun i => if i < 0 then p i else bp i) = bp by funext i; rw [if_neg (by omega)]] at this
      exact this
    refine ⟨T', ?_, k2⟩
    simp only [tMT] at k1 ⊢
    refine mz_cl_vc 30 (fun i => i == 20 || i == 41) [some (mz_r 9 0 153), some (mz_i R.length), some (mz_i (pp (ndF f0 R))), some (mz_i (ndA R)), some (mz_i (ndL Ln f0 R)), none, none, none, none] rfl ?_
    simp only [vcS0, vcS1, vcS2, vcS3, vcS4, vcS5, vcS6, vc_n0, vc_lk, vc_pop, vc_rc, vc_tsw, vc_fr, vc_ar, vc_tb, mz_nx, List.set_cons_zero, List.set_cons_succ, Nat.reduceAdd, Nat.reduceBEq, Nat.reduceEqDiff, Nat.reduceLeDiff, Nat.reduceLT, Nat.reduceMul, Int.reduceToNat, Bool.false_eq_true, Bool.or_self, Bool.or_true, Bool.true_or, Bool.or_false, reduceIte, Option.toList_some, Option.toList_none, List.nil_append, List.cons_append, List.length_cons, List.length_nil, true_and, and_true, Int.cast_ofNat_Int, Int.reduceEq, Int.reduceLT, Int.reduceLE, Nat.zero_le, and_self, or_true, true_or, cdS_122]
    simp only [tMT] at h20
    rw [tM_g19, tM_g20, t5, t6]
    simp only [tM_bm, tM_bl]
    unfold sc at hs
    by_cases h1 : Q.length < R.length
    · rw [if_neg (by omega)]
      exact h20
    · rw [if_pos (by omega), if_pos (by omega), if_pos (by omega)]
      exact h20
  · have hb : trI cd pp Rm Ln pn f0 (c, p, bc, bp, rm, bm, bl) R (if sc Ln f0 Q < sc Ln f0 R then R else Q) := by
      rw [if_neg hs]
      exact ⟨⟨t1, t2⟩, ⟨t3, t4⟩, ⟨t5, t6⟩, t7, t8⟩
    obtain ⟨T', k1, k2⟩ := hnode _ none hb
    refine ⟨T', ?_, k2⟩
    simp only [tMT] at k1 ⊢
    refine mz_cl_vc 30 (fun i => i == 20 || i == 41) [some (mz_r 9 0 153), some (mz_i R.length), some (mz_i (pp (ndF f0 R))), some (mz_i (ndA R)), some (mz_i (ndL Ln f0 R)), none, none, none, none] rfl ?_
    simp only [vcS0, vcS1, vcS2, vcS3, vcS4, vcS5, vcS6, vc_n0, vc_lk, vc_pop, vc_rc, vc_tsw, vc_fr, vc_ar, vc_tb, mz_nx, List.set_cons_zero, List.set_cons_succ, Nat.reduceAdd, Nat.reduceBEq, Nat.reduceEqDiff, Nat.reduceLeDiff, Nat.reduceLT, Nat.reduceMul, Int.reduceToNat, Bool.false_eq_true, Bool.or_self, Bool.or_true, Bool.true_or, Bool.or_false, reduceIte, Option.toList_some, Option.toList_none, List.nil_append, List.cons_append, List.length_cons, List.length_nil, true_and, and_true, Int.cast_ofNat_Int, Int.reduceEq, Int.reduceLT, Int.reduceLE, Nat.zero_le, and_self, or_true, true_or, cdS_122]
    rw [t5, t6] at k1 ⊢
    rw [tM_g19, tM_g20]
    unfold sc at hs
    rw [if_pos (by omega)]
    by_cases h1 : (R.length : Int) = Q.length
    · rw [if_pos h1, if_neg (by omega)]
      exact k1
    · rw [if_neg h1]
      exact k1
