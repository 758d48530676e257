section QR
variable {m : mz_M} {B : Nat → Int} {L : Nat}
theorem ra_loop (p b : Nat) (a : Int) (z : Nat) (v f0 : Int) {t : Nat} (hz : z < 4) (ht : t ≤ 24) : ∀ (r h : Nat) (R : Nat → Int), r = t - h → sx 226 24 [some (mz_r 9 0 153), some (mz_i z), some (mz_i f0), some (mz_i t), some (mz_i v), some (mz_i h)] [] (qM m p b 0 a R) none (qM m p b 0 a (vRt R z h t v)) := by
  intro r
  induction r with
  | zero =>
    intro h R hr
    refine mz_vc_ok 60 (ct := fun i => i == 24) ?_
    simp only [vcS0, vcS1, vcS2, vcS3, vcS4, vcS5, vcS6, vc_n0, vc_lk, vc_pop, vc_rc, vc_tsw, vc_fr, vc_ar, vc_tb, mz_nx, List.set_cons_zero, List.set_cons_succ, Nat.reduceAdd, Nat.reduceBEq, Nat.reduceEqDiff, Nat.reduceLeDiff, Nat.reduceLT, Nat.reduceMul, Int.reduceToNat, Bool.false_eq_true, Bool.or_self, Bool.or_true, Bool.true_or, Bool.or_false, reduceIte, Option.toList_some, Option.toList_none, List.nil_append, List.cons_append, List.length_cons, List.length_nil, true_and, and_true, Int.cast_ofNat_Int, Int.reduceEq, Int.reduceLT, Int.reduceLE, Nat.zero_le, and_self, or_true, true_or, cdS_226]
    rw [if_neg (by omega), show vRt R z h t v = R by funext j; unfold vRt; rw [if_neg (by omega)]]
  | succ r ih =>
    intro h R hr
    have hk := ih (h + 1) (vU R (233 + 24 * z + h) v) (by omega)
    refine mz_vc_ok 60 (ct := fun i => i == 24) ?_
    simp only [vcS0, vcS1, vcS2, vcS3, vcS4, vcS5, vcS6, vc_n0, vc_lk, vc_pop, vc_rc, vc_tsw, vc_fr, vc_ar, vc_tb, mz_nx, List.set_cons_zero, List.set_cons_succ, Nat.reduceAdd, Nat.reduceBEq, Nat.reduceEqDiff, Nat.reduceLeDiff, Nat.reduceLT, Nat.reduceMul, Int.reduceToNat, Bool.false_eq_true, Bool.or_self, Bool.or_true, Bool.true_or, Bool.or_false, reduceIte, Option.toList_some, Option.toList_none, List.nil_append, List.cons_append, List.length_cons, List.length_nil, true_and, and_true, Int.cast_ofNat_Int, Int.reduceEq, Int.reduceLT, Int.reduceLE, Nat.zero_le, and_self, or_true, true_or, cdS_226]
    rw [if_pos (by omega), if_pos (qM_9 _ _ _ _ _ _), show (233 + 24 * (z : Int) + (h : Int)).toNat = 233 + 24 * z + h by omega, qM_uR]
    rw [show vRt R z h t v = vRt (vU R (233 + 24 * z + h) v) z (h + 1) t v by
      funext j
      unfold vRt vU
      by_cases q : j = 233 + 24 * z + h
      · subst q; rw [if_pos (by omega), if_neg (by omega), if_pos rfl]
      · by_cases q2 : 233 + 24 * z + h ≤ j ∧ j < 233 + 24 * z + t
        · rw [if_pos q2, if_pos (by omega)]
        · rw [if_neg q2, if_neg (by omega), if_neg q]]
    exact ⟨(by unfold mz_w; omega), (by unfold mz_w; omega), (by unfold mz_w; omega), by omega, (by unfold mz_w; omega), hk⟩
theorem sp_rateQ {s : rS} {p b : Nat} {e a : Int} {R : Nat → Int} (h : qB m B L) (hs : stP s p e a) (hp : s.1 ≤ L) : ∃ (p' b' : Nat) (e' a' : Int), sp 226 [mz_r 9 0 153] (qM m p b e a R) none (qM m p' b' e' a' (if eS (rtC B L s).2 = 0 then vRt R (styA B L s).1.toNat (rtF B L s).1.toNat (rtT B L s).1.toNat (rtC B L s).1 else R)) ∧ stO (rtC B L s).2 p' b' e' a' := by
  obtain ⟨p1, b1, e1, a1, g1, g2⟩ := sp_number (b := b) R 0 3 h hs hp
  have o1 := nmS_ok (B := B) (L := L) (lo := 0) (hi := 3) hp
  rw [show nmS B L 0 3 s = styA B L s from rfl] at g1 g2 o1
  obtain ⟨p2, b2, e2, a2, k1, k2⟩ := sp_number (b := b1) R 0 23 h (stO_P g2) o1.1
  have o2 := nmS_ok (B := B) (L := L) (lo := 0) (hi := 23) o1.1
  rw [show nmS B L 0 23 (styA B L s).2 = rtF B L s from rfl] at k1 k2 o2
  have o3 := nmS_ok (B := B) (L := L) (lo := (rtF B L s).1 + 1) (hi := 24) o2.1
  rw [show nmS B L ((rtF B L s).1 + 1) 24 (rtF B L s).2 = rtT B L s from rfl] at o3
  -- the third number
  have third : ∃ (p3 b3 : Nat) (e3 a3 : Int), sp 169 [mz_r 9 0 153, mz_i ((if eS (rtF B L s).2 = 0 then (rtF B L s).1 else 0) + 1), mz_i 24] (qM m p2 b2 e2 a2 R) (some (mz_i (if eS (rtT B L s).2 = 0 then (rtT B L s).1 else (if eS (rtF B L s).2 = 0 then (rtF B L s).1 else 0) + 1))) (qM m p3 b3 e3 a3 R) ∧ stO (rtT B L s).2 p3 b3 e3 a3 := by
    have he2 := k2.1
    by_cases hz : eS (rtF B L s).2 = 0
    · rw [if_pos hz]
      exact sp_number (b := b2) R ((rtF B L s).1 + 1) 24 h (stO_P k2) o2.1
    · have q3 := o3.2.2.2 hz
      rw [if_neg hz, if_neg (show ¬ eS (rtT B L s).2 = 0 by rw [q3.1]; exact hz)]
      refine ⟨p2, b2, e2, a2, sp_numErr _ _ _ _ _ _ _ (by omega), by omega, fun q => absurd (he2.symm.trans q) hz, fun _ => ?_⟩
      rw [q3.2.1]
      exact k2.2.2 (by omega)
  obtain ⟨p3, b3, e3, a3, t1, t2⟩ := third
  obtain ⟨p4, b4, e4, a4, f1, f2⟩ := sp_number (b := b3) R 0 999 h (stO_P t2) o3.1
  have o4 := nmS_ok (B := B) (L := L) (lo := 0) (hi := 999) o3.1
  rw [show nmS B L 0 999 (rtT B L s).2 = rtC B L s from rfl] at f1 f2 o4
  refine ⟨p4, b4, e4, a4, ?_, f2⟩
  have he4 := f2.1
  have x2 := o2.2.2.1
  refine mz_cl_vc 60 (fun i => i == 24) [some (mz_r 9 0 153), none, none, none, none, none] rfl ?_
  simp only [vcS0, vcS1, vcS2, vcS3, vcS4, vcS5, vcS6, vc_n0, vc_lk, vc_pop, vc_rc, vc_tsw, vc_fr, vc_ar, vc_tb, mz_nx, List.set_cons_zero, List.set_cons_succ, Nat.reduceAdd, Nat.reduceBEq, Nat.reduceEqDiff, Nat.reduceLeDiff, Nat.reduceLT, Nat.reduceMul, Int.reduceToNat, Bool.false_eq_true, Bool.or_self, Bool.or_true, Bool.true_or, Bool.or_false, reduceIte, Option.toList_some, Option.toList_none, List.nil_append, List.cons_append, List.length_cons, List.length_nil, true_and, and_true, Int.cast_ofNat_Int, Int.reduceEq, Int.reduceLT, Int.reduceLE, Nat.zero_le, and_self, or_true, true_or, cdS_226]
  refine ⟨_, _, g1, ?_⟩
  simp only [vcS0, vcS1, vcS2, vcS3, vcS4, vcS5, vcS6, vc_n0, vc_lk, vc_pop, vc_rc, vc_tsw, vc_fr, vc_ar, vc_tb, mz_nx, List.set_cons_zero, List.set_cons_succ, Nat.reduceAdd, Nat.reduceBEq, Nat.reduceEqDiff, Nat.reduceLeDiff, Nat.reduceLT, Nat.reduceMul, Int.reduceToNat, Bool.false_eq_true, Bool.or_self, Bool.or_true, Bool.true_or, Bool.or_false, reduceIte, Option.toList_some, Option.toList_none, List.nil_append, List.cons_append, List.length_cons, List.length_nil, true_and, and_true, Int.cast_ofNat_Int, Int.reduceEq, Int.reduceLT, Int.reduceLE, Nat.zero_le, and_self, or_true, true_or, cdS_226]
  refine ⟨_, _, k1, ?_⟩
  simp only [vcS0, vcS1, vcS2, vcS3, vcS4, vcS5, vcS6, vc_n0, vc_lk, vc_pop, vc_rc, vc_tsw, vc_fr, vc_ar, vc_tb, mz_nx, List.set_cons_zero, List.set_cons_succ, Nat.reduceAdd, Nat.reduceBEq, Nat.reduceEqDiff, Nat.reduceLeDiff, Nat.reduceLT, Nat.reduceMul, Int.reduceToNat, Bool.false_eq_true, Bool.or_self, Bool.or_true, Bool.true_or, Bool.or_false, reduceIte, Option.toList_some, Option.toList_none, List.nil_append, List.cons_append, List.length_cons, List.length_nil, true_and, and_true, Int.cast_ofNat_Int, Int.reduceEq, Int.reduceLT, Int.reduceLE, Nat.zero_le, and_self, or_true, true_or, cdS_226]
  refine ⟨by unfold mz_w; split <;> omega, _, _, t1, ?_⟩
  simp only [vcS0, vcS1, vcS2, vcS3, vcS4, vcS5, vcS6, vc_n0, vc_lk, vc_pop, vc_rc, vc_tsw, vc_fr, vc_ar, vc_tb, mz_nx, List.set_cons_zero, List.set_cons_succ, Nat.reduceAdd, Nat.reduceBEq, Nat.reduceEqDiff, Nat.reduceLeDiff, Nat.reduceLT, Nat.reduceMul, Int.reduceToNat, Bool.false_eq_true, Bool.or_self, Bool.or_true, Bool.true_or, Bool.or_false, reduceIte, Option.toList_some, Option.toList_none, List.nil_append, List.cons_append, List.length_cons, List.length_nil, true_and, and_true, Int.cast_ofNat_Int, Int.reduceEq, Int.reduceLT, Int.reduceLE, Nat.zero_le, and_self, or_true, true_or, cdS_226]
  refine ⟨_, _, f1, ?_⟩
  simp only [vcS0, vcS1, vcS2, vcS3, vcS4, vcS5, vcS6, vc_n0, vc_lk, vc_pop, vc_rc, vc_tsw, vc_fr, vc_ar, vc_tb, mz_nx, List.set_cons_zero, List.set_cons_succ, Nat.reduceAdd, Nat.reduceBEq, Nat.reduceEqDiff, Nat.reduceLeDiff, Nat.reduceLT, Nat.reduceMul, Int.reduceToNat, Bool.false_eq_true, Bool.or_self, Bool.or_true, Bool.true_or, Bool.or_false, reduceIte, Option.toList_some, Option.toList_none, List.nil_append, List.cons_append, List.length_cons, List.length_nil, true_and, and_true, Int.cast_ofNat_Int, Int.reduceEq, Int.reduceLT, Int.reduceLE, Nat.zero_le, and_self, or_true, true_or, cdS_226]
  by_cases hz : eS (rtC B L s).2 = 0
  · have q4 := o4.2.1 hz
    have q3 := o3.2.1 q4.1
    have q2 := o2.2.1 q3.1
    have q1 := o1.2.1 q2.1
    rw [if_pos hz, if_pos hz, if_pos q4.1, if_pos q3.1, if_pos q2.1, show e4 = 0 by omega]
    obtain ⟨z, hzz⟩ := nat_i q1.2.1
    obtain ⟨f, hf⟩ := nat_i q2.2.1
    obtain ⟨t, htt⟩ := nat_i (show 0 ≤ (rtT B L s).1 by omega)
    rw [hzz, hf, htt, Int.toNat_natCast, Int.toNat_natCast, Int.toNat_natCast]
    exact ra_loop p4 b4 a4 z _ f (by omega) (by omega) (t - f) f R rfl
  · rw [if_neg hz, if_neg hz]
    generalize (if eS (styA B L s).2 = 0 then (styA B L s).1 else 0) = x1
    generalize (if eS (rtF B L s).2 = 0 then (rtF B L s).1 else 0) = x2
    generalize (if eS (rtT B L s).2 = 0 then (rtT B L s).1 else x2 + 1) = x3
    refine mz_vc_ok 60 (ct := fun i => i == 24 || i == 30) ?_
    simp only [vcS0, vcS1, vcS2, vcS3, vcS4, vcS5, vcS6, vc_n0, vc_lk, vc_pop, vc_rc, vc_tsw, vc_fr, vc_ar, vc_tb, mz_nx, List.set_cons_zero, List.set_cons_succ, Nat.reduceAdd, Nat.reduceBEq, Nat.reduceEqDiff, Nat.reduceLeDiff, Nat.reduceLT, Nat.reduceMul, Int.reduceToNat, Bool.false_eq_true, Bool.or_self, Bool.or_true, Bool.true_or, Bool.or_false, reduceIte, Option.toList_some, Option.toList_none, List.nil_append, List.cons_append, List.length_cons, List.length_nil, true_and, and_true, Int.cast_ofNat_Int, Int.reduceEq, Int.reduceLT, Int.reduceLE, Nat.zero_le, and_self, or_true, true_or, cdS_226]
    by_cases hlt : x2 < x3
    · rw [if_pos hlt, if_neg (show ¬ qM m p4 b4 e4 a4 R 153 9 = 0 by rw [qM_9]; omega)]
      trivial
    · rw [if_neg hlt]
      trivial
theorem po_loop' (p b : Nat) (e a : Int) (R : Nat → Int) (pl : Int) (x y : Option mz_V) : ∀ (r j : Nat), j + r = 10 → ∀ (res : Option mz_V) (m' : mz_M), sx 257 28 [some (mz_r 9 0 153), some (mz_i pl), some (mz_i (sm (fun q => if (q : Int) ≠ pl ∧ 0 < R (223 + q) then 1 else 0) 10)), some (mz_i 10)] [] (qM m p b e a R) res m' → sx 257 7 [some (mz_r 9 0 153), some (mz_i pl), some (mz_i (sm (fun q => if (q : Int) ≠ pl ∧ 0 < R (223 + q) then 1 else 0) j)), some (mz_i j)] [] (qM m p b e a R) res m' := by
  intro r
  induction r with
  | zero =>
    intro j hj res m' hk
    obtain rfl : j = 10 := by omega
    refine mz_vc_ok 20 (ct := fun i => i == 7 || i == 28) ?_
    simp only [vcS0, vcS1, vcS2, vcS3, vcS4, vcS5, vcS6, vc_n0, vc_lk, vc_pop, vc_rc, vc_tsw, vc_fr, vc_ar, vc_tb, mz_nx, List.set_cons_zero, List.set_cons_succ, Nat.reduceAdd, Nat.reduceBEq, Nat.reduceEqDiff, Nat.reduceLeDiff, Nat.reduceLT, Nat.reduceMul, Int.reduceToNat, Bool.false_eq_true, Bool.or_self, Bool.or_true, Bool.true_or, Bool.or_false, reduceIte, Option.toList_some, Option.toList_none, List.nil_append, List.cons_append, List.length_cons, List.length_nil, true_and, and_true, Int.cast_ofNat_Int, Int.reduceEq, Int.reduceLT, Int.reduceLE, Nat.zero_le, and_self, or_true, true_or, cdS_257]
    exact hk
  | succ r ih =>
    intro j hj res m' hk
    have hk' := ih (j + 1) (by omega) res m' hk
    have b0 : 0 ≤ sm (fun q => if (q : Int) ≠ pl ∧ 0 < R (223 + q) then 1 else 0) j := sm_0 fun i hi => by split <;> omega
    have b1 : sm (fun q => if (q : Int) ≠ pl ∧ 0 < R (223 + q) then 1 else 0) j ≤ 1 * j := sm_ub fun i hi => by split <;> omega
    rw [sm] at hk'
    refine mz_vc_ok 30 (ct := fun i => i == 7 || i == 28) ?_
    simp only [vcS0, vcS1, vcS2, vcS3, vcS4, vcS5, vcS6, vc_n0, vc_lk, vc_pop, vc_rc, vc_tsw, vc_fr, vc_ar, vc_tb, mz_nx, List.set_cons_zero, List.set_cons_succ, Nat.reduceAdd, Nat.reduceBEq, Nat.reduceEqDiff, Nat.reduceLeDiff, Nat.reduceLT, Nat.reduceMul, Int.reduceToNat, Bool.false_eq_true, Bool.or_self, Bool.or_true, Bool.true_or, Bool.or_false, reduceIte, Option.toList_some, Option.toList_none, List.nil_append, List.cons_append, List.length_cons, List.length_nil, true_and, and_true, Int.cast_ofNat_Int, Int.reduceEq, Int.reduceLT, Int.reduceLE, Nat.zero_le, and_self, or_true, true_or, cdS_257]
    rw [if_pos (by omega), qM_R, show (223 + (j : Int)).toNat = 223 + j by omega]
    by_cases h1 : (j : Int) = pl
    · rw [if_pos h1]
      rw [if_neg (fun q => q.1 h1)] at hk'
      exact ⟨(by unfold mz_w; omega), (by unfold mz_w; omega), hk'⟩
    · rw [if_neg h1]
      refine ⟨(by unfold mz_w; omega), by omega, ?_⟩
      by_cases h2 : 0 < R (223 + j)
      · rw [if_neg (by omega)]
        rw [if_pos ⟨h1, h2⟩] at hk'
        exact ⟨(by unfold mz_w; omega), (by unfold mz_w; omega), hk'⟩
      · rw [if_pos (by omega)]
        rw [if_neg (fun q => h2 q.2)] at hk'
        exact ⟨(by unfold mz_w; omega), (by unfold mz_w; omega), hk'⟩
theorem sm_but {f : Nat → Int} {k : Nat} (hk : k < 10) : sm (fun q => if (q : Int) ≠ (k : Int) ∧ 0 < f q then 1 else 0) 10 = sm (fun q => if 0 < f q then 1 else 0) 10 - if 0 < f k then 1 else 0 := by
  have h := sm_one (n := 10) (h0 := k) (c := -(if 0 < f k then 1 else 0)) (f := fun p => if 0 < f p then 1 else 0) (g := fun q => if (q : Int) ≠ (k : Int) ∧ 0 < f q then 1 else 0) (fun i hi => by
    by_cases q : i = k
    · subst q
      rw [if_neg (fun z => z.1 rfl), if_pos rfl]
      omega
    · rw [if_neg q]
      by_cases z : 0 < f i
      · rw [if_pos ⟨by omega, z⟩, if_pos z]; rfl
      · rw [if_neg (fun y => z y.2), if_neg z]; rfl)
  rw [if_pos hk] at h
  rw [h]
  omega
theorem sp_poundQ {c : mz_M} {r : Nat} {s : rS} {p b : Nat} {e a : Int} {R : Nat → Int} (h : qB m (c (r + 16)) L) (hs : stP s p e a) (hp : s.1 ≤ L) (hq : tQ c (r + 1) R) : ∃ (p' b' : Nat) (e' a' : Int), sp 257 [mz_r 9 0 153] (qM m p b e a R) none (qM m p' b' e' a' (if eS (pdC c r L s).2 = 0 then vU (vU R (223 + (rdA (c (r + 16)) L (c (r + 1) 0) s).1.toNat) (pdC c r L s).1) 1 (if R 1 < 0 then ((rdA (c (r + 16)) L (c (r + 1) 0) s).1.toNat : Int) else R 1) else R)) ∧ stO (pdC c r L s).2 p' b' e' a' := by
  obtain ⟨⟨w1, w2, w3, w4, w5, w6, w7⟩, ⟨q1, q2, q3, q4⟩, q5, q6⟩ := hq
  have hR : 1 ≤ R 0 ∧ R 0 ≤ 10 := by omega
  obtain ⟨p1, b1, e1, a1, g1, g2⟩ := sp_place (b := b) h hs hp hR
  have o1 := nmS_ok (B := c (r + 16)) (L := L) (lo := 0) (hi := R 0 - 1) hp
  rw [show nmS (c (r + 16)) L 0 (R 0 - 1) s = rdA (c (r + 16)) L (R 0) s from rfl] at o1
  rw [q1] at g1 g2 o1
  unfold pdC
  generalize hA : rdA (c (r + 16)) L (c (r + 1) 0) s = A at *
  have mid : ∃ (e3 a3 : Int), stP (pdD c r A) p1 e3 a3 ∧ (e3 = 0 → pdD c r A = A.2) ∧ ∀ (x : Option mz_V) (res : Option mz_V) (m' : mz_M), (∀ y z : mz_V, sx 257 36 [some (mz_r 9 0 153), some (mz_i (if eS A.2 = 0 then A.1 else 0)), some y, some z] [] (qM m p1 b1 e3 a3 R) res m') → sx 257 28 [some (mz_r 9 0 153), some (mz_i (if eS A.2 = 0 then A.1 else 0)), some (mz_i (sm (fun q => if (q : Int) ≠ (if eS A.2 = 0 then A.1 else 0) ∧ 0 < R (223 + q) then 1 else 0) 10)), some (mz_i 10)] [] (qM m p1 b1 e1 a1 R) res m' := by
    have hg := g2.1
    by_cases hz : eS A.2 = 0
    · have y1 := o1.2.1 hz
      obtain ⟨k, hk⟩ := nat_i y1.2.1
      have hb := sm_but (f := fun q => c (r + 1 + 3) q) (k := k) (by omega)
      rw [← w3.1] at hb
      rw [if_pos hz, hk]
      have hsum : sm (fun q => if (q : Int) ≠ (k : Int) ∧ 0 < R (223 + q) then 1 else 0) 10 = c (r + 1) 1 - if 0 < c (r + 1 + 3) k then 1 else 0 := by
        rw [← hb]
        exact sm_congr fun i hi => by rw [(q2 i hi).2.2]
      rw [hsum]
      by_cases hc : ¬ 0 < c (r + 1 + 3) k ∧ 2 ≤ c (r + 1) 1
      · have hf := stP_fl (k := 3) (by omega) g2
        rw [if_pos (show e1 = 0 by omega), if_pos (show e1 = 0 by omega)] at hf
        have hD : pdD c r A = flS 3 (nS A.2) A.2 := by
          unfold pdD
          rw [if_pos ⟨fun q => hc.1 (by have := q.2.2; rw [hk, Int.toNat_natCast] at this; exact this), hc.2⟩]
        refine ⟨3, b1, by rw [hD]; exact hf, fun q => absurd q (by omega), fun x res m' hk2 => ?_⟩
        refine mz_vc_ok 20 (ct := fun i => i == 36) ?_
        simp only [vcS0, vcS1, vcS2, vcS3, vcS4, vcS5, vcS6, vc_n0, vc_lk, vc_pop, vc_rc, vc_tsw, vc_fr, vc_ar, vc_tb, mz_nx, List.set_cons_zero, List.set_cons_succ, Nat.reduceAdd, Nat.reduceBEq, Nat.reduceEqDiff, Nat.reduceLeDiff, Nat.reduceLT, Nat.reduceMul, Int.reduceToNat, Bool.false_eq_true, Bool.or_self, Bool.or_true, Bool.true_or, Bool.or_false, reduceIte, Option.toList_some, Option.toList_none, List.nil_append, List.cons_append, List.length_cons, List.length_nil, true_and, and_true, Int.cast_ofNat_Int, Int.reduceEq, Int.reduceLT, Int.reduceLE, Nat.zero_le, and_self, or_true, true_or, cdS_257]
        rw [if_pos (by rw [if_neg hc.1]; omega), qM_8]
        have hff := sp_qfails (m := m) p1 b1 e1 a1 R 3 b1
        rw [if_pos (show e1 = 0 by omega), if_pos (show e1 = 0 by omega)] at hff
        refine ⟨_, _, hff, ?_⟩
        simp only [vcS0, vcS1, vcS2, vcS3, vcS4, vcS5, vcS6, vc_n0, vc_lk, vc_pop, vc_rc, vc_tsw, vc_fr, vc_ar, vc_tb, mz_nx, List.set_cons_zero, List.set_cons_succ, Nat.reduceAdd, Nat.reduceBEq, Nat.reduceEqDiff, Nat.reduceLeDiff, Nat.reduceLT, Nat.reduceMul, Int.reduceToNat, Bool.false_eq_true, Bool.or_self, Bool.or_true, Bool.true_or, Bool.or_false, reduceIte, Option.toList_some, Option.toList_none, List.nil_append, List.cons_append, List.length_cons, List.length_nil, true_and, and_true, Int.cast_ofNat_Int, Int.reduceEq, Int.reduceLT, Int.reduceLE, Nat.zero_le, and_self, or_true, true_or, cdS_257]
        exact hk2 _ _
      · have hD : pdD c r A = A.2 := by
          unfold pdD
          rw [if_neg (fun q => hc ⟨fun y => q.1 ⟨by omega, by omega, by rw [hk, Int.toNat_natCast]; exact y⟩, q.2⟩)]
        refine ⟨e1, a1, by rw [hD]; exact stO_P g2, fun _ => hD, fun x res m' hk2 => ?_⟩
        refine mz_vc_ok 20 (ct := fun i => i == 36) ?_
        simp only [vcS0, vcS1, vcS2, vcS3, vcS4, vcS5, vcS6, vc_n0, vc_lk, vc_pop, vc_rc, vc_tsw, vc_fr, vc_ar, vc_tb, mz_nx, List.set_cons_zero, List.set_cons_succ, Nat.reduceAdd, Nat.reduceBEq, Nat.reduceEqDiff, Nat.reduceLeDiff, Nat.reduceLT, Nat.reduceMul, Int.reduceToNat, Bool.false_eq_true, Bool.or_self, Bool.or_true, Bool.true_or, Bool.or_false, reduceIte, Option.toList_some, Option.toList_none, List.nil_append, List.cons_append, List.length_cons, List.length_nil, true_and, and_true, Int.cast_ofNat_Int, Int.reduceEq, Int.reduceLT, Int.reduceLE, Nat.zero_le, and_self, or_true, true_or, cdS_257]
        rw [if_neg (by split <;> omega)]
        exact hk2 _ _
    · have hf : stP (pdD c r A) p1 e1 a1 := by
        unfold pdD
        split
        · have hf := stP_fl (k := 3) (by omega) g2
          rw [if_neg (show ¬ e1 = 0 by omega), if_neg (show ¬ e1 = 0 by omega)] at hf
          exact hf
        · exact stO_P g2
      refine ⟨e1, a1, hf, fun q => absurd (hg.symm.trans q) hz, fun x res m' hk2 => ?_⟩
      refine mz_vc_ok 20 (ct := fun i => i == 36) ?_
      simp only [vcS0, vcS1, vcS2, vcS3, vcS4, vcS5, vcS6, vc_n0, vc_lk, vc_pop, vc_rc, vc_tsw, vc_fr, vc_ar, vc_tb, mz_nx, List.set_cons_zero, List.set_cons_succ, Nat.reduceAdd, Nat.reduceBEq, Nat.reduceEqDiff, Nat.reduceLeDiff, Nat.reduceLT, Nat.reduceMul, Int.reduceToNat, Bool.false_eq_true, Bool.or_self, Bool.or_true, Bool.true_or, Bool.or_false, reduceIte, Option.toList_some, Option.toList_none, List.nil_append, List.cons_append, List.length_cons, List.length_nil, true_and, and_true, Int.cast_ofNat_Int, Int.reduceEq, Int.reduceLT, Int.reduceLE, Nat.zero_le, and_self, or_true, true_or, cdS_257]
      rw [if_neg hz] at hk2 ⊢
      generalize sm (fun q => if (q : Int) ≠ 0 ∧ 0 < R (223 + q) then 1 else 0) 10 = y at hk2 ⊢
      by_cases h2 : y = 2
      · rw [if_pos h2, qM_8]
        have hff := sp_qfails (m := m) p1 b1 e1 a1 R 3 b1
        rw [if_neg (show ¬ e1 = 0 by omega), if_neg (show ¬ e1 = 0 by omega)] at hff
        refine ⟨_, _, hff, ?_⟩
        simp only [vcS0, vcS1, vcS2, vcS3, vcS4, vcS5, vcS6, vc_n0, vc_lk, vc_pop, vc_rc, vc_tsw, vc_fr, vc_ar, vc_tb, mz_nx, List.set_cons_zero, List.set_cons_succ, Nat.reduceAdd, Nat.reduceBEq, Nat.reduceEqDiff, Nat.reduceLeDiff, Nat.reduceLT, Nat.reduceMul, Int.reduceToNat, Bool.false_eq_true, Bool.or_self, Bool.or_true, Bool.true_or, Bool.or_false, reduceIte, Option.toList_some, Option.toList_none, List.nil_append, List.cons_append, List.length_cons, List.length_nil, true_and, and_true, Int.cast_ofNat_Int, Int.reduceEq, Int.reduceLT, Int.reduceLE, Nat.zero_le, and_self, or_true, true_or, cdS_257]
        exact hk2 _ _
      · rw [if_neg h2]
        exact hk2 _ _
  obtain ⟨e3, a3, hD, hDe, hmid⟩ := mid
  have oD : (pdD c r A).1 ≤ L := by
    unfold pdD
    split
    · rw [flS_1]; exact o1.1
    · exact o1.1
  obtain ⟨p4, b4, e4, a4, f1, f2⟩ := sp_number (b := b1) R 1 6 h hD oD
  have o4 := nmS_ok (B := c (r + 16)) (L := L) (lo := 1) (hi := 6) oD
  refine ⟨p4, b4, e4, a4, ?_, f2⟩
  have he4 := f2.1
  refine mz_cl_vc 60 (fun i => i == 7) [some (mz_r 9 0 153), none, none, none] rfl ?_
  simp only [vcS0, vcS1, vcS2, vcS3, vcS4, vcS5, vcS6, vc_n0, vc_lk, vc_pop, vc_rc, vc_tsw, vc_fr, vc_ar, vc_tb, mz_nx, List.set_cons_zero, List.set_cons_succ, Nat.reduceAdd, Nat.reduceBEq, Nat.reduceEqDiff, Nat.reduceLeDiff, Nat.reduceLT, Nat.reduceMul, Int.reduceToNat, Bool.false_eq_true, Bool.or_self, Bool.or_true, Bool.true_or, Bool.or_false, reduceIte, Option.toList_some, Option.toList_none, List.nil_append, List.cons_append, List.length_cons, List.length_nil, true_and, and_true, Int.cast_ofNat_Int, Int.reduceEq, Int.reduceLT, Int.reduceLE, Nat.zero_le, and_self, or_true, true_or, cdS_257]
  refine ⟨_, _, g1, ?_⟩
  simp only [vcS0, vcS1, vcS2, vcS3, vcS4, vcS5, vcS6, vc_n0, vc_lk, vc_pop, vc_rc, vc_tsw, vc_fr, vc_ar, vc_tb, mz_nx, List.set_cons_zero, List.set_cons_succ, Nat.reduceAdd, Nat.reduceBEq, Nat.reduceEqDiff, Nat.reduceLeDiff, Nat.reduceLT, Nat.reduceMul, Int.reduceToNat, Bool.false_eq_true, Bool.or_self, Bool.or_true, Bool.true_or, Bool.or_false, reduceIte, Option.toList_some, Option.toList_none, List.nil_append, List.cons_append, List.length_cons, List.length_nil, true_and, and_true, Int.cast_ofNat_Int, Int.reduceEq, Int.reduceLT, Int.reduceLE, Nat.zero_le, and_self, or_true, true_or, cdS_257]
  refine po_loop' p1 b1 e1 a1 R (if eS A.2 = 0 then A.1 else 0) none none 10 0 rfl _ _ ?_
  refine hmid none _ _ fun y z => ?_
  refine mz_vc_ok 60 (ct := fun _ => false) ?_
  simp only [vcS0, vcS1, vcS2, vcS3, vcS4, vcS5, vcS6, vc_n0, vc_lk, vc_pop, vc_rc, vc_tsw, vc_fr, vc_ar, vc_tb, mz_nx, List.set_cons_zero, List.set_cons_succ, Nat.reduceAdd, Nat.reduceBEq, Nat.reduceEqDiff, Nat.reduceLeDiff, Nat.reduceLT, Nat.reduceMul, Int.reduceToNat, Bool.false_eq_true, Bool.or_self, Bool.or_true, Bool.true_or, Bool.or_false, reduceIte, Option.toList_some, Option.toList_none, List.nil_append, List.cons_append, List.length_cons, List.length_nil, true_and, and_true, Int.cast_ofNat_Int, Int.reduceEq, Int.reduceLT, Int.reduceLE, Nat.zero_le, and_self, or_true, true_or, cdS_257]
  refine ⟨_, _, f1, ?_⟩
  simp only [vcS0, vcS1, vcS2, vcS3, vcS4, vcS5, vcS6, vc_n0, vc_lk, vc_pop, vc_rc, vc_tsw, vc_fr, vc_ar, vc_tb, mz_nx, List.set_cons_zero, List.set_cons_succ, Nat.reduceAdd, Nat.reduceBEq, Nat.reduceEqDiff, Nat.reduceLeDiff, Nat.reduceLT, Nat.reduceMul, Int.reduceToNat, Bool.false_eq_true, Bool.or_self, Bool.or_true, Bool.true_or, Bool.or_false, reduceIte, Option.toList_some, Option.toList_none, List.nil_append, List.cons_append, List.length_cons, List.length_nil, true_and, and_true, Int.cast_ofNat_Int, Int.reduceEq, Int.reduceLT, Int.reduceLE, Nat.zero_le, and_self, or_true, true_or, cdS_257]
  by_cases hz : eS (nmS (c (r + 16)) L 1 6 (pdD c r A)).2 = 0
  · have q4 := o4.2.1 hz
    have hA2 := hDe (by have := hD.1; omega)
    rw [hA2] at q4
    have y1 := o1.2.1 q4.1
    obtain ⟨k, hk⟩ := nat_i y1.2.1
    rw [if_pos (show qM m p4 b4 e4 a4 R 153 9 = 0 by rw [qM_9]; omega), if_pos q4.1, if_pos hz, if_pos hz]
    rw [hk, Int.toNat_natCast, show (223 + (k : Int)).toNat = 223 + k by omega]
    simp only [qM_uR, qM_R, vU_n (show 1 ≠ 223 + k by omega)]
    by_cases h1 : R 1 < 0
    · rw [if_pos h1, if_pos h1]
      (repeat' refine And.intro ?_ ?_) <;> first | (unfold mz_w; omega) | omega | trivial | rfl
    · rw [if_neg h1, if_neg h1]
      (repeat' refine And.intro ?_ ?_) <;> first | (unfold mz_w; omega) | omega | trivial | rfl
  · rw [if_neg (show ¬ qM m p4 b4 e4 a4 R 153 9 = 0 by rw [qM_9]; omega), if_neg hz]
end QR
