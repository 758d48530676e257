theorem tx_dist : ∀ i, i < 7 → ∀ j, j < 7 → (mz_tl i = mz_tl j ∧ ∀ k, k < mz_tl i → mz_tc i k = mz_tc j k) → i = j := by decide +kernel
theorem isw_ok {B : Nat → Int} {s w p : Nat} (h : isw B s w p = true) : p = w + mz_tl s ∧ ∀ k, k < mz_tl s → B (w + k) = mz_tc s k := by
  unfold isw at h
  rw [Bool.and_eq_true, decide_eq_true_eq] at h
  refine ⟨h.1, fun k hk => ?_⟩
  cases hf : fst1 (fun i => B (w + i) ≠ mz_tc s i) (mz_tl s) 0 with
  | some j => rw [hf] at h; exact absurd h.2 (by simp)
  | none =>
    have := fst1_none hf k (Nat.zero_le _) (by omega)
    exact Classical.byContradiction this
theorem isw_inj {B : Nat → Int} {i j w p : Nat} (hi : i < 7) (hj : j < 7) (h1 : isw B i w p = true) (h2 : isw B j w p = true) : i = j := by
  have a := isw_ok h1
  have b := isw_ok h2
  exact tx_dist i hi j hj ⟨by omega, fun k hk => by rw [← a.2 k hk, ← b.2 k (by omega)]⟩
theorem wr_i {B : Nat → Int} {i w p : Nat} (hi : i < 7) (h : isw B i w p = true) : wrF B w p 7 0 = (i : Int) + 1 := by
  unfold wrF
  cases hf : fst1 (fun i => isw B i w p = true) 7 0 with
  | none => exact absurd h (fst1_none hf i (Nat.zero_le _) (by omega))
  | some j =>
    have q := fst1_some hf
    have e := isw_inj (i := j) (j := i) (by omega) hi q.1 h
    subst e
    rfl
theorem wr_inv {B : Nat → Int} {i w p : Nat} (h : wrF B w p 7 0 = (i : Int) + 1) : isw B i w p = true := by
  unfold wrF at h
  cases hf : fst1 (fun i => isw B i w p = true) 7 0 with
  | none => rw [hf] at h; simp only at h; omega
  | some j =>
    rw [hf] at h
    simp only at h
    obtain rfl : j = i := by omega
    exact (fst1_some hf).1
section QL
variable {m : mz_M} {L : Nat}
theorem qM_ex {k : Nat} {as : List mz_V} {m0 : mz_M} {r : Option mz_V} {p b : Nat} {e a : Int} {R1 : Nat → Int} (h : sp k as m0 r (qM m p b e a R1)) : ∃ R', R' = R1 ∧ sp k as m0 r (qM m p b e a R') := ⟨R1, rfl, h⟩
set_option maxRecDepth 8000 in
theorem sp_stmtQ {c : mz_M} {r : Nat} {s : rS} {p b : Nat} {a : Int} {R : Nat → Int} (h : qB m (c (r + 16)) L) (hs : stP s p 0 a) (hp : s.1 ≤ L) (hq : tQ c (r + 1) R) : ∃ (p' b' : Nat) (e' a' : Int) (R' : Nat → Int), sp 275 [mz_r 9 0 153] (qM m p b 0 a R) none (qM m p' b' e' a' R') ∧ stP (stR c r L s).2 p' e' a' ∧ (e' = 0 → tQ (stR c r L s).1 (r + 1) R') := by
  have he : eS s = 0 := hs.1.symm
  have hps : p = s.1 := hs.2.1 rfl
  have hr0 := hq.2.1.1
  have hw0 := hq.1.1
  have hsk := sk_le (B := c (r + 16)) hp
  have hwd := wd_le (B := c (r + 16)) hsk.2
  subst hps
  have hsW : stP (wdS (c (r + 16)) L s) (wd (c (r + 16)) L (sk (c (r + 16)) L s.1)) 0 a := ⟨he.symm, fun _ => rfl, fun q => absurd rfl q⟩
  have hpW : (wdS (c (r + 16)) L s).1 ≤ L := hwd.2
  have hrd := sp_reads (m := m) (B := c (r + 16)) (L := L) s.1 b 0 a R h
  have hwS : wS' (wdS (c (r + 16)) L s) = sk (c (r + 16)) L s.1 := rfl
  have hiw : ∀ s', s' < 18 → sp 255 [mz_r 9 0 153, mz_r 90 0 s'] (qM m (wd (c (r + 16)) L (sk (c (r + 16)) L s.1)) (sk (c (r + 16)) L s.1) 0 a R) (some (mz_i (if isw (c (r + 16)) s' (sk (c (r + 16)) L s.1) (wd (c (r + 16)) L (sk (c (r + 16)) L s.1)) = true then 1 else 0))) (qM m (wd (c (r + 16)) L (sk (c (r + 16)) L s.1)) (sk (c (r + 16)) L s.1) 0 a R) := fun s' hs' => sp_isWord _ _ 0 a R h hs' hwd.1 hwd.2
  have h12 := hiw 12 (by omega)
  have h13 := hiw 13 (by omega)
  have h14 := hiw 14 (by omega)
  have h15 := hiw 15 (by omega)
  have h16 := hiw 16 (by omega)
  have h17 := hiw 17 (by omega)
  have e12 : ∀ w p, isw (c (r + 16)) 12 w p = isw (c (r + 16)) 1 w p := fun _ _ => rfl
  have e13 : ∀ w p, isw (c (r + 16)) 13 w p = isw (c (r + 16)) 2 w p := fun _ _ => rfl
  have e14 : ∀ w p, isw (c (r + 16)) 14 w p = isw (c (r + 16)) 3 w p := fun _ _ => rfl
  have e15 : ∀ w p, isw (c (r + 16)) 15 w p = isw (c (r + 16)) 4 w p := fun _ _ => rfl
  have e16 : ∀ w p, isw (c (r + 16)) 16 w p = isw (c (r + 16)) 5 w p := fun _ _ => rfl
  have e17 : ∀ w p, isw (c (r + 16)) 17 w p = isw (c (r + 16)) 6 w p := fun _ _ => rfl
  rw [e12] at h12
  rw [e13] at h13
  rw [e14] at h14
  rw [e15] at h15
  rw [e16] at h16
  rw [e17] at h17
  clear hiw e12 e13 e14 e15 e16 e17
  unfold stR
  rw [if_pos he]
  have hrwd : rwd (c (r + 16)) L s.1 = wrF (c (r + 16)) (sk (c (r + 16)) L s.1) (wd (c (r + 16)) L (sk (c (r + 16)) L s.1)) 7 0 := rfl
  rw [hrwd]
  generalize hx : sk (c (r + 16)) L s.1 = x at *
  generalize hy : wd (c (r + 16)) L x = y at *
  generalize hW : wdS (c (r + 16)) L s = sW at *
  have rR : R 0 = c (r + 1) 0 := hr0
  by_cases w1 : isw (c (r + 16)) 1 x y = true
  · have v := wr_i (i := 1) (by omega) w1
    rw [if_pos w1] at h12
    rw [if_pos (by rw [v]; rfl)]
    obtain ⟨p', b', e', a', k1, k2⟩ := sp_roadQ (b := x) h hsW hpW (R := R) (by omega)
    rw [rR] at k1 k2
    obtain ⟨R1, hR1, k1⟩ := qM_ex k1
    refine ⟨p', b', e', a', R1, ?_, stO_P k2, fun z => ?_⟩
    rotate_left
    · unfold roadR
      have z2 : eS (rdF (c (r + 16)) L (c (r + 1) 0) sW).2 = 0 := by have := k2.1; omega
      simp only [if_pos z2]
      rw [hR1, if_pos z2]
      have o4 := nmS_ok (B := c (r + 16)) (L := L) (lo := 1) (hi := 99) (s := rdD (rdA (c (r + 16)) L (c (r + 1) 0) (rdA (c (r + 16)) L (c (r + 1) 0) sW).2) (rdA (c (r + 16)) L (c (r + 1) 0) sW).1) (by
        have o1 := nmS_ok (B := c (r + 16)) (L := L) (lo := 0) (hi := c (r + 1) 0 - 1) hpW
        have o2 := nmS_ok (B := c (r + 16)) (L := L) (lo := 0) (hi := c (r + 1) 0 - 1) o1.1
        unfold rdD
        split
        · rw [flS_1]; exact o2.1
        · exact o2.1)
      have q4 := o4.2.1 z2
      have o1 := nmS_ok (B := c (r + 16)) (L := L) (lo := 0) (hi := c (r + 1) 0 - 1) hpW
      have o2 := nmS_ok (B := c (r + 16)) (L := L) (lo := 0) (hi := c (r + 1) 0 - 1) o1.1
      have hz2 : eS (rdA (c (r + 16)) L (c (r + 1) 0) (rdA (c (r + 16)) L (c (r + 1) 0) sW).2).2 = 0 := by
        have q := q4.1
        unfold rdD at q
        split at q
        · exact absurd q (flS_e (by omega))
        · exact q
      have q2 := o2.2.1 hz2
      have q1 := o1.2.1 q2.1
      exact tQ_road hq (by have := q1.2; unfold rdA; omega) (by have := q2.2; unfold rdA; omega) q4.2
    · skip
      refine mz_cl_vc 20 (fun i => i == 9 || i == 71) [some (mz_r 9 0 153)] rfl ?_
      simp only [vcS0, vcS1, vcS2, vcS3, vcS4, vcS5, vcS6, vc_n0, vc_lk, vc_pop, vc_rc, vc_tsw, vc_fr, vc_ar, vc_tb, mz_nx, List.set_cons_zero, List.set_cons_succ, Nat.reduceAdd, Nat.reduceBEq, Nat.reduceEqDiff, Nat.reduceLeDiff, Nat.reduceLT, Nat.reduceMul, Int.reduceToNat, Bool.false_eq_true, Bool.or_self, Bool.or_true, Bool.true_or, Bool.or_false, reduceIte, Option.toList_some, Option.toList_none, List.nil_append, List.cons_append, List.length_cons, List.length_nil, true_and, and_true, Int.cast_ofNat_Int, Int.reduceEq, Int.reduceLT, Int.reduceLE, Nat.zero_le, and_self, or_true, true_or, cdS_275]
      refine ⟨_, _, hrd, ?_⟩
      simp only [vcS0, vcS1, vcS2, vcS3, vcS4, vcS5, vcS6, vc_n0, vc_lk, vc_pop, vc_rc, vc_tsw, vc_fr, vc_ar, vc_tb, mz_nx, List.set_cons_zero, List.set_cons_succ, Nat.reduceAdd, Nat.reduceBEq, Nat.reduceEqDiff, Nat.reduceLeDiff, Nat.reduceLT, Nat.reduceMul, Int.reduceToNat, Bool.false_eq_true, Bool.or_self, Bool.or_true, Bool.true_or, Bool.or_false, reduceIte, Option.toList_some, Option.toList_none, List.nil_append, List.cons_append, List.length_cons, List.length_nil, true_and, and_true, Int.cast_ofNat_Int, Int.reduceEq, Int.reduceLT, Int.reduceLE, Nat.zero_le, and_self, or_true, true_or, cdS_275]
      refine ⟨_, _, h12, ?_⟩
      simp only [vcS0, vcS1, vcS2, vcS3, vcS4, vcS5, vcS6, vc_n0, vc_lk, vc_pop, vc_rc, vc_tsw, vc_fr, vc_ar, vc_tb, mz_nx, List.set_cons_zero, List.set_cons_succ, Nat.reduceAdd, Nat.reduceBEq, Nat.reduceEqDiff, Nat.reduceLeDiff, Nat.reduceLT, Nat.reduceMul, Int.reduceToNat, Bool.false_eq_true, Bool.or_self, Bool.or_true, Bool.true_or, Bool.or_false, reduceIte, Option.toList_some, Option.toList_none, List.nil_append, List.cons_append, List.length_cons, List.length_nil, true_and, and_true, Int.cast_ofNat_Int, Int.reduceEq, Int.reduceLT, Int.reduceLE, Nat.zero_le, and_self, or_true, true_or, cdS_275]
      refine ⟨_, _, k1, ?_⟩
      simp only [vcS0, vcS1, vcS2, vcS3, vcS4, vcS5, vcS6, vc_n0, vc_lk, vc_pop, vc_rc, vc_tsw, vc_fr, vc_ar, vc_tb, mz_nx, List.set_cons_zero, List.set_cons_succ, Nat.reduceAdd, Nat.reduceBEq, Nat.reduceEqDiff, Nat.reduceLeDiff, Nat.reduceLT, Nat.reduceMul, Int.reduceToNat, Bool.false_eq_true, Bool.or_self, Bool.or_true, Bool.true_or, Bool.or_false, reduceIte, Option.toList_some, Option.toList_none, List.nil_append, List.cons_append, List.length_cons, List.length_nil, true_and, and_true, Int.cast_ofNat_Int, Int.reduceEq, Int.reduceLT, Int.reduceLE, Nat.zero_le, and_self, or_true, true_or, cdS_275]
      refine mz_vc_ok 5 (ct := fun _ => false) ?_
      simp only [vcS0, vcS1, vcS2, vcS3, vcS4, vcS5, vcS6, vc_n0, vc_lk, vc_pop, vc_rc, vc_tsw, vc_fr, vc_ar, vc_tb, mz_nx, List.set_cons_zero, List.set_cons_succ, Nat.reduceAdd, Nat.reduceBEq, Nat.reduceEqDiff, Nat.reduceLeDiff, Nat.reduceLT, Nat.reduceMul, Int.reduceToNat, Bool.false_eq_true, Bool.or_self, Bool.or_true, Bool.true_or, Bool.or_false, reduceIte, Option.toList_some, Option.toList_none, List.nil_append, List.cons_append, List.length_cons, List.length_nil, true_and, and_true, Int.cast_ofNat_Int, Int.reduceEq, Int.reduceLT, Int.reduceLE, Nat.zero_le, and_self, or_true, true_or, cdS_275]
  · have v1 : ¬ wrF (c (r + 16)) x y 7 0 = 2 := fun q => w1 (wr_inv (i := 1) q)
    rw [if_neg w1] at h12
    rw [if_neg v1]
    have t9 : ∀ (res : Option mz_V) (m' : mz_M), sx 275 9 [some (mz_r 9 0 153)] [] (qM m y x 0 a R) res m' → sx 275 0 [some (mz_r 9 0 153)] [] (qM m s.1 b 0 a R) res m' := by
      intro res m' hk
      refine mz_vc_ok 20 (ct := fun i => i == 9 || i == 71) ?_
      simp only [vcS0, vcS1, vcS2, vcS3, vcS4, vcS5, vcS6, vc_n0, vc_lk, vc_pop, vc_rc, vc_tsw, vc_fr, vc_ar, vc_tb, mz_nx, List.set_cons_zero, List.set_cons_succ, Nat.reduceAdd, Nat.reduceBEq, Nat.reduceEqDiff, Nat.reduceLeDiff, Nat.reduceLT, Nat.reduceMul, Int.reduceToNat, Bool.false_eq_true, Bool.or_self, Bool.or_true, Bool.true_or, Bool.or_false, reduceIte, Option.toList_some, Option.toList_none, List.nil_append, List.cons_append, List.length_cons, List.length_nil, true_and, and_true, Int.cast_ofNat_Int, Int.reduceEq, Int.reduceLT, Int.reduceLE, Nat.zero_le, and_self, or_true, true_or, cdS_275]
      refine ⟨_, _, hrd, ?_⟩
      simp only [vcS0, vcS1, vcS2, vcS3, vcS4, vcS5, vcS6, vc_n0, vc_lk, vc_pop, vc_rc, vc_tsw, vc_fr, vc_ar, vc_tb, mz_nx, List.set_cons_zero, List.set_cons_succ, Nat.reduceAdd, Nat.reduceBEq, Nat.reduceEqDiff, Nat.reduceLeDiff, Nat.reduceLT, Nat.reduceMul, Int.reduceToNat, Bool.false_eq_true, Bool.or_self, Bool.or_true, Bool.true_or, Bool.or_false, reduceIte, Option.toList_some, Option.toList_none, List.nil_append, List.cons_append, List.length_cons, List.length_nil, true_and, and_true, Int.cast_ofNat_Int, Int.reduceEq, Int.reduceLT, Int.reduceLE, Nat.zero_le, and_self, or_true, true_or, cdS_275]
      refine ⟨_, _, h12, ?_⟩
      simp only [vcS0, vcS1, vcS2, vcS3, vcS4, vcS5, vcS6, vc_n0, vc_lk, vc_pop, vc_rc, vc_tsw, vc_fr, vc_ar, vc_tb, mz_nx, List.set_cons_zero, List.set_cons_succ, Nat.reduceAdd, Nat.reduceBEq, Nat.reduceEqDiff, Nat.reduceLeDiff, Nat.reduceLT, Nat.reduceMul, Int.reduceToNat, Bool.false_eq_true, Bool.or_self, Bool.or_true, Bool.true_or, Bool.or_false, reduceIte, Option.toList_some, Option.toList_none, List.nil_append, List.cons_append, List.length_cons, List.length_nil, true_and, and_true, Int.cast_ofNat_Int, Int.reduceEq, Int.reduceLT, Int.reduceLE, Nat.zero_le, and_self, or_true, true_or, cdS_275]
      exact hk
    have ent : ∀ (m' : mz_M), sx 275 9 [some (mz_r 9 0 153)] [] (qM m y x 0 a R) none m' → sp 275 [mz_r 9 0 153] (qM m s.1 b 0 a R) none m' := fun m' hk => by
      refine mz_cl_vc 0 (fun _ => false) [some (mz_r 9 0 153)] rfl ?_
      exact t9 _ _ hk
    by_cases w2 : isw (c (r + 16)) 2 x y = true
    · have v := wr_i (i := 2) (by omega) w2
      rw [if_pos w2] at h13
      rw [if_pos (by rw [v]; rfl)]
      obtain ⟨p', b', e', a', k1, k2⟩ := sp_rowQ (b := x) (R := R) 203 (R 0 - 1) 0 3 h hsW hpW (by omega)
      rw [rR] at k1 k2
      obtain ⟨R1, hR1, k1⟩ := qM_ex k1
      refine ⟨p', b', e', a', R1, ent _ ?_, stO_P k2, fun z => ?_⟩
      rotate_left
      · unfold zoneR
        have z2 : eS (zoX (c (r + 16)) L 3 (rdA (c (r + 16)) L (c (r + 1) 0) sW) 0).2 = 0 := by have := k2.1; unfold zoX rdA; omega
        have o1 := nmS_ok (B := c (r + 16)) (L := L) (lo := 0) (hi := c (r + 1) 0 - 1) hpW
        have o2 := nmS_ok (B := c (r + 16)) (L := L) (lo := 0) (hi := 3) o1.1
        have q2 := o2.2.1 z2
        have q1 := o1.2.1 q2.1
        simp only [if_pos z2]
        rw [hR1, if_pos (show eS (nmS (c (r + 16)) L 0 3 (nmS (c (r + 16)) L 0 (c (r + 1) 0 - 1) sW).2).2 = 0 from z2)]
        exact tQ_zone hq (by have := q1.2; unfold rdA; omega) q2.2
      · skip
        refine mz_vc_ok 20 (ct := fun i => i == 25 || i == 71) ?_
        simp only [vcS0, vcS1, vcS2, vcS3, vcS4, vcS5, vcS6, vc_n0, vc_lk, vc_pop, vc_rc, vc_tsw, vc_fr, vc_ar, vc_tb, mz_nx, List.set_cons_zero, List.set_cons_succ, Nat.reduceAdd, Nat.reduceBEq, Nat.reduceEqDiff, Nat.reduceLeDiff, Nat.reduceLT, Nat.reduceMul, Int.reduceToNat, Bool.false_eq_true, Bool.or_self, Bool.or_true, Bool.true_or, Bool.or_false, reduceIte, Option.toList_some, Option.toList_none, List.nil_append, List.cons_append, List.length_cons, List.length_nil, true_and, and_true, Int.cast_ofNat_Int, Int.reduceEq, Int.reduceLT, Int.reduceLE, Nat.zero_le, and_self, or_true, true_or, cdS_275]
        refine ⟨_, _, h13, ?_⟩
        simp only [vcS0, vcS1, vcS2, vcS3, vcS4, vcS5, vcS6, vc_n0, vc_lk, vc_pop, vc_rc, vc_tsw, vc_fr, vc_ar, vc_tb, mz_nx, List.set_cons_zero, List.set_cons_succ, Nat.reduceAdd, Nat.reduceBEq, Nat.reduceEqDiff, Nat.reduceLeDiff, Nat.reduceLT, Nat.reduceMul, Int.reduceToNat, Bool.false_eq_true, Bool.or_self, Bool.or_true, Bool.true_or, Bool.or_false, reduceIte, Option.toList_some, Option.toList_none, List.nil_append, List.cons_append, List.length_cons, List.length_nil, true_and, and_true, Int.cast_ofNat_Int, Int.reduceEq, Int.reduceLT, Int.reduceLE, Nat.zero_le, and_self, or_true, true_or, cdS_275]
        rw [qM_R, rR]
        refine ⟨(by unfold mz_w; omega), _, _, k1, ?_⟩
        simp only [vcS0, vcS1, vcS2, vcS3, vcS4, vcS5, vcS6, vc_n0, vc_lk, vc_pop, vc_rc, vc_tsw, vc_fr, vc_ar, vc_tb, mz_nx, List.set_cons_zero, List.set_cons_succ, Nat.reduceAdd, Nat.reduceBEq, Nat.reduceEqDiff, Nat.reduceLeDiff, Nat.reduceLT, Nat.reduceMul, Int.reduceToNat, Bool.false_eq_true, Bool.or_self, Bool.or_true, Bool.true_or, Bool.or_false, reduceIte, Option.toList_some, Option.toList_none, List.nil_append, List.cons_append, List.length_cons, List.length_nil, true_and, and_true, Int.cast_ofNat_Int, Int.reduceEq, Int.reduceLT, Int.reduceLE, Nat.zero_le, and_self, or_true, true_or, cdS_275]
        refine mz_vc_ok 5 (ct := fun _ => false) ?_
        simp only [vcS0, vcS1, vcS2, vcS3, vcS4, vcS5, vcS6, vc_n0, vc_lk, vc_pop, vc_rc, vc_tsw, vc_fr, vc_ar, vc_tb, mz_nx, List.set_cons_zero, List.set_cons_succ, Nat.reduceAdd, Nat.reduceBEq, Nat.reduceEqDiff, Nat.reduceLeDiff, Nat.reduceLT, Nat.reduceMul, Int.reduceToNat, Bool.false_eq_true, Bool.or_self, Bool.or_true, Bool.true_or, Bool.or_false, reduceIte, Option.toList_some, Option.toList_none, List.nil_append, List.cons_append, List.length_cons, List.length_nil, true_and, and_true, Int.cast_ofNat_Int, Int.reduceEq, Int.reduceLT, Int.reduceLE, Nat.zero_le, and_self, or_true, true_or, cdS_275]
    · have v2 : ¬ wrF (c (r + 16)) x y 7 0 = 3 := fun q => w2 (wr_inv (i := 2) q)
      rw [if_neg w2] at h13
      rw [if_neg v2]
      have t25 : ∀ (m' : mz_M), sx 275 25 [some (mz_r 9 0 153)] [] (qM m y x 0 a R) none m' → sx 275 9 [some (mz_r 9 0 153)] [] (qM m y x 0 a R) none m' := by
        intro m' hk
        refine mz_vc_ok 20 (ct := fun i => i == 25 || i == 71) ?_
        simp only [vcS0, vcS1, vcS2, vcS3, vcS4, vcS5, vcS6, vc_n0, vc_lk, vc_pop, vc_rc, vc_tsw, vc_fr, vc_ar, vc_tb, mz_nx, List.set_cons_zero, List.set_cons_succ, Nat.reduceAdd, Nat.reduceBEq, Nat.reduceEqDiff, Nat.reduceLeDiff, Nat.reduceLT, Nat.reduceMul, Int.reduceToNat, Bool.false_eq_true, Bool.or_self, Bool.or_true, Bool.true_or, Bool.or_false, reduceIte, Option.toList_some, Option.toList_none, List.nil_append, List.cons_append, List.length_cons, List.length_nil, true_and, and_true, Int.cast_ofNat_Int, Int.reduceEq, Int.reduceLT, Int.reduceLE, Nat.zero_le, and_self, or_true, true_or, cdS_275]
        refine ⟨_, _, h13, ?_⟩
        simp only [vcS0, vcS1, vcS2, vcS3, vcS4, vcS5, vcS6, vc_n0, vc_lk, vc_pop, vc_rc, vc_tsw, vc_fr, vc_ar, vc_tb, mz_nx, List.set_cons_zero, List.set_cons_succ, Nat.reduceAdd, Nat.reduceBEq, Nat.reduceEqDiff, Nat.reduceLeDiff, Nat.reduceLT, Nat.reduceMul, Int.reduceToNat, Bool.false_eq_true, Bool.or_self, Bool.or_true, Bool.true_or, Bool.or_false, reduceIte, Option.toList_some, Option.toList_none, List.nil_append, List.cons_append, List.length_cons, List.length_nil, true_and, and_true, Int.cast_ofNat_Int, Int.reduceEq, Int.reduceLT, Int.reduceLE, Nat.zero_le, and_self, or_true, true_or, cdS_275]
        exact hk
      by_cases w3 : isw (c (r + 16)) 3 x y = true
      · have v := wr_i (i := 3) (by omega) w3
        rw [if_pos w3] at h14
        rw [if_pos (by rw [v]; rfl)]
        obtain ⟨p', b', e', a', k1, k2⟩ := sp_rateQ (b := x) (R := R) h hsW hpW
        obtain ⟨R1, hR1, k1⟩ := qM_ex k1
        refine ⟨p', b', e', a', R1, ent _ (t25 _ ?_), stO_P k2, fun z => ?_⟩
        rotate_left
        · unfold rateR
          have z2 : eS (rtC (c (r + 16)) L sW).2 = 0 := by have := k2.1; omega
          have o1 := nmS_ok (B := c (r + 16)) (L := L) (lo := 0) (hi := 3) hpW
          have o2 := nmS_ok (B := c (r + 16)) (L := L) (lo := 0) (hi := 23) o1.1
          have o3 := nmS_ok (B := c (r + 16)) (L := L) (lo := (rtF (c (r + 16)) L sW).1 + 1) (hi := 24) o2.1
          have o4 := nmS_ok (B := c (r + 16)) (L := L) (lo := 0) (hi := 999) o3.1
          have q4 := o4.2.1 z2
          have q3 := o3.2.1 q4.1
          have q2 := o2.2.1 q3.1
          have q1 := o1.2.1 q2.1
          simp only [if_pos z2]
          rw [hR1, if_pos z2]
          exact tQ_rate hq (by have : (styA (c (r + 16)) L sW).1 ≤ 3 := q1.2.2; omega) (by have : (rtT (c (r + 16)) L sW).1 ≤ 24 := q3.2.2; omega) q4.2
        · skip
          refine mz_vc_ok 20 (ct := fun i => i == 32 || i == 71) ?_
          simp only [vcS0, vcS1, vcS2, vcS3, vcS4, vcS5, vcS6, vc_n0, vc_lk, vc_pop, vc_rc, vc_tsw, vc_fr, vc_ar, vc_tb, mz_nx, List.set_cons_zero, List.set_cons_succ, Nat.reduceAdd, Nat.reduceBEq, Nat.reduceEqDiff, Nat.reduceLeDiff, Nat.reduceLT, Nat.reduceMul, Int.reduceToNat, Bool.false_eq_true, Bool.or_self, Bool.or_true, Bool.true_or, Bool.or_false, reduceIte, Option.toList_some, Option.toList_none, List.nil_append, List.cons_append, List.length_cons, List.length_nil, true_and, and_true, Int.cast_ofNat_Int, Int.reduceEq, Int.reduceLT, Int.reduceLE, Nat.zero_le, and_self, or_true, true_or, cdS_275]
          refine ⟨_, _, h14, ?_⟩
          simp only [vcS0, vcS1, vcS2, vcS3, vcS4, vcS5, vcS6, vc_n0, vc_lk, vc_pop, vc_rc, vc_tsw, vc_fr, vc_ar, vc_tb, mz_nx, List.set_cons_zero, List.set_cons_succ, Nat.reduceAdd, Nat.reduceBEq, Nat.reduceEqDiff, Nat.reduceLeDiff, Nat.reduceLT, Nat.reduceMul, Int.reduceToNat, Bool.false_eq_true, Bool.or_self, Bool.or_true, Bool.true_or, Bool.or_false, reduceIte, Option.toList_some, Option.toList_none, List.nil_append, List.cons_append, List.length_cons, List.length_nil, true_and, and_true, Int.cast_ofNat_Int, Int.reduceEq, Int.reduceLT, Int.reduceLE, Nat.zero_le, and_self, or_true, true_or, cdS_275]
          refine ⟨_, _, k1, ?_⟩
          simp only [vcS0, vcS1, vcS2, vcS3, vcS4, vcS5, vcS6, vc_n0, vc_lk, vc_pop, vc_rc, vc_tsw, vc_fr, vc_ar, vc_tb, mz_nx, List.set_cons_zero, List.set_cons_succ, Nat.reduceAdd, Nat.reduceBEq, Nat.reduceEqDiff, Nat.reduceLeDiff, Nat.reduceLT, Nat.reduceMul, Int.reduceToNat, Bool.false_eq_true, Bool.or_self, Bool.or_true, Bool.true_or, Bool.or_false, reduceIte, Option.toList_some, Option.toList_none, List.nil_append, List.cons_append, List.length_cons, List.length_nil, true_and, and_true, Int.cast_ofNat_Int, Int.reduceEq, Int.reduceLT, Int.reduceLE, Nat.zero_le, and_self, or_true, true_or, cdS_275]
          refine mz_vc_ok 5 (ct := fun _ => false) ?_
          simp only [vcS0, vcS1, vcS2, vcS3, vcS4, vcS5, vcS6, vc_n0, vc_lk, vc_pop, vc_rc, vc_tsw, vc_fr, vc_ar, vc_tb, mz_nx, List.set_cons_zero, List.set_cons_succ, Nat.reduceAdd, Nat.reduceBEq, Nat.reduceEqDiff, Nat.reduceLeDiff, Nat.reduceLT, Nat.reduceMul, Int.reduceToNat, Bool.false_eq_true, Bool.or_self, Bool.or_true, Bool.true_or, Bool.or_false, reduceIte, Option.toList_some, Option.toList_none, List.nil_append, List.cons_append, List.length_cons, List.length_nil, true_and, and_true, Int.cast_ofNat_Int, Int.reduceEq, Int.reduceLT, Int.reduceLE, Nat.zero_le, and_self, or_true, true_or, cdS_275]
      · have v3 : ¬ wrF (c (r + 16)) x y 7 0 = 4 := fun q => w3 (wr_inv (i := 3) q)
        rw [if_neg w3] at h14
        rw [if_neg v3]
        have t32 : ∀ (m' : mz_M), sx 275 32 [some (mz_r 9 0 153)] [] (qM m y x 0 a R) none m' → sx 275 25 [some (mz_r 9 0 153)] [] (qM m y x 0 a R) none m' := by
          intro m' hk
          refine mz_vc_ok 20 (ct := fun i => i == 32 || i == 71) ?_
          simp only [vcS0, vcS1, vcS2, vcS3, vcS4, vcS5, vcS6, vc_n0, vc_lk, vc_pop, vc_rc, vc_tsw, vc_fr, vc_ar, vc_tb, mz_nx, List.set_cons_zero, List.set_cons_succ, Nat.reduceAdd, Nat.reduceBEq, Nat.reduceEqDiff, Nat.reduceLeDiff, Nat.reduceLT, Nat.reduceMul, Int.reduceToNat, Bool.false_eq_true, Bool.or_self, Bool.or_true, Bool.true_or, Bool.or_false, reduceIte, Option.toList_some, Option.toList_none, List.nil_append, List.cons_append, List.length_cons, List.length_nil, true_and, and_true, Int.cast_ofNat_Int, Int.reduceEq, Int.reduceLT, Int.reduceLE, Nat.zero_le, and_self, or_true, true_or, cdS_275]
          refine ⟨_, _, h14, ?_⟩
          simp only [vcS0, vcS1, vcS2, vcS3, vcS4, vcS5, vcS6, vc_n0, vc_lk, vc_pop, vc_rc, vc_tsw, vc_fr, vc_ar, vc_tb, mz_nx, List.set_cons_zero, List.set_cons_succ, Nat.reduceAdd, Nat.reduceBEq, Nat.reduceEqDiff, Nat.reduceLeDiff, Nat.reduceLT, Nat.reduceMul, Int.reduceToNat, Bool.false_eq_true, Bool.or_self, Bool.or_true, Bool.true_or, Bool.or_false, reduceIte, Option.toList_some, Option.toList_none, List.nil_append, List.cons_append, List.length_cons, List.length_nil, true_and, and_true, Int.cast_ofNat_Int, Int.reduceEq, Int.reduceLT, Int.reduceLE, Nat.zero_le, and_self, or_true, true_or, cdS_275]
          exact hk
        by_cases w4 : isw (c (r + 16)) 4 x y = true
        · have v := wr_i (i := 4) (by omega) w4
          rw [if_pos w4] at h15
          rw [if_pos (by rw [v]; rfl)]
          obtain ⟨p', b', e', a', k1, k2⟩ := sp_rowQ (b := x) (R := R) 329 3 10 600 h hsW hpW (by omega)
          obtain ⟨R1, hR1, k1⟩ := qM_ex k1
          refine ⟨p', b', e', a', R1, ent _ (t25 _ (t32 _ ?_)), stO_P k2, fun z => ?_⟩
          rotate_left
          · unfold stayR
            have z2 : eS (zoX (c (r + 16)) L 600 (styA (c (r + 16)) L sW) 10).2 = 0 := by have := k2.1; unfold zoX styA; omega
            have o1 := nmS_ok (B := c (r + 16)) (L := L) (lo := 0) (hi := 3) hpW
            have o2 := nmS_ok (B := c (r + 16)) (L := L) (lo := 10) (hi := 600) o1.1
            have q2 := o2.2.1 z2
            have q1 := o1.2.1 q2.1
            simp only [if_pos z2]
            rw [hR1, if_pos (show eS (nmS (c (r + 16)) L 10 600 (nmS (c (r + 16)) L 0 3 sW).2).2 = 0 from z2)]
            have := tQ_stay (w := r + 1) (k := (styA (c (r + 16)) L sW).1.toNat) (v := (zoX (c (r + 16)) L 600 (styA (c (r + 16)) L sW) 10).1) hq (by have := q1.2; unfold styA; omega) q2.2
            rw [show r + 1 + 7 + 2 * (styA (c (r + 16)) L sW).1.toNat = r + 8 + 2 * (styA (c (r + 16)) L sW).1.toNat by omega] at this
            exact this
          · skip
            refine mz_vc_ok 20 (ct := fun i => i == 43 || i == 71) ?_
            simp only [vcS0, vcS1, vcS2, vcS3, vcS4, vcS5, vcS6, vc_n0, vc_lk, vc_pop, vc_rc, vc_tsw, vc_fr, vc_ar, vc_tb, mz_nx, List.set_cons_zero, List.set_cons_succ, Nat.reduceAdd, Nat.reduceBEq, Nat.reduceEqDiff, Nat.reduceLeDiff, Nat.reduceLT, Nat.reduceMul, Int.reduceToNat, Bool.false_eq_true, Bool.or_self, Bool.or_true, Bool.true_or, Bool.or_false, reduceIte, Option.toList_some, Option.toList_none, List.nil_append, List.cons_append, List.length_cons, List.length_nil, true_and, and_true, Int.cast_ofNat_Int, Int.reduceEq, Int.reduceLT, Int.reduceLE, Nat.zero_le, and_self, or_true, true_or, cdS_275]
            refine ⟨_, _, h15, ?_⟩
            simp only [vcS0, vcS1, vcS2, vcS3, vcS4, vcS5, vcS6, vc_n0, vc_lk, vc_pop, vc_rc, vc_tsw, vc_fr, vc_ar, vc_tb, mz_nx, List.set_cons_zero, List.set_cons_succ, Nat.reduceAdd, Nat.reduceBEq, Nat.reduceEqDiff, Nat.reduceLeDiff, Nat.reduceLT, Nat.reduceMul, Int.reduceToNat, Bool.false_eq_true, Bool.or_self, Bool.or_true, Bool.true_or, Bool.or_false, reduceIte, Option.toList_some, Option.toList_none, List.nil_append, List.cons_append, List.length_cons, List.length_nil, true_and, and_true, Int.cast_ofNat_Int, Int.reduceEq, Int.reduceLT, Int.reduceLE, Nat.zero_le, and_self, or_true, true_or, cdS_275]
            refine ⟨_, _, k1, ?_⟩
            simp only [vcS0, vcS1, vcS2, vcS3, vcS4, vcS5, vcS6, vc_n0, vc_lk, vc_pop, vc_rc, vc_tsw, vc_fr, vc_ar, vc_tb, mz_nx, List.set_cons_zero, List.set_cons_succ, Nat.reduceAdd, Nat.reduceBEq, Nat.reduceEqDiff, Nat.reduceLeDiff, Nat.reduceLT, Nat.reduceMul, Int.reduceToNat, Bool.false_eq_true, Bool.or_self, Bool.or_true, Bool.true_or, Bool.or_false, reduceIte, Option.toList_some, Option.toList_none, List.nil_append, List.cons_append, List.length_cons, List.length_nil, true_and, and_true, Int.cast_ofNat_Int, Int.reduceEq, Int.reduceLT, Int.reduceLE, Nat.zero_le, and_self, or_true, true_or, cdS_275]
            refine mz_vc_ok 5 (ct := fun _ => false) ?_
            simp only [vcS0, vcS1, vcS2, vcS3, vcS4, vcS5, vcS6, vc_n0, vc_lk, vc_pop, vc_rc, vc_tsw, vc_fr, vc_ar, vc_tb, mz_nx, List.set_cons_zero, List.set_cons_succ, Nat.reduceAdd, Nat.reduceBEq, Nat.reduceEqDiff, Nat.reduceLeDiff, Nat.reduceLT, Nat.reduceMul, Int.reduceToNat, Bool.false_eq_true, Bool.or_self, Bool.or_true, Bool.true_or, Bool.or_false, reduceIte, Option.toList_some, Option.toList_none, List.nil_append, List.cons_append, List.length_cons, List.length_nil, true_and, and_true, Int.cast_ofNat_Int, Int.reduceEq, Int.reduceLT, Int.reduceLE, Nat.zero_le, and_self, or_true, true_or, cdS_275]
        · have v4 : ¬ wrF (c (r + 16)) x y 7 0 = 5 := fun q => w4 (wr_inv (i := 4) q)
          rw [if_neg w4] at h15
          rw [if_neg v4]
          have t43 : ∀ (m' : mz_M), sx 275 43 [some (mz_r 9 0 153)] [] (qM m y x 0 a R) none m' → sx 275 32 [some (mz_r 9 0 153)] [] (qM m y x 0 a R) none m' := by
            intro m' hk
            refine mz_vc_ok 20 (ct := fun i => i == 43 || i == 71) ?_
            simp only [vcS0, vcS1, vcS2, vcS3, vcS4, vcS5, vcS6, vc_n0, vc_lk, vc_pop, vc_rc, vc_tsw, vc_fr, vc_ar, vc_tb, mz_nx, List.set_cons_zero, List.set_cons_succ, Nat.reduceAdd, Nat.reduceBEq, Nat.reduceEqDiff, Nat.reduceLeDiff, Nat.reduceLT, Nat.reduceMul, Int.reduceToNat, Bool.false_eq_true, Bool.or_self, Bool.or_true, Bool.true_or, Bool.or_false, reduceIte, Option.toList_some, Option.toList_none, List.nil_append, List.cons_append, List.length_cons, List.length_nil, true_and, and_true, Int.cast_ofNat_Int, Int.reduceEq, Int.reduceLT, Int.reduceLE, Nat.zero_le, and_self, or_true, true_or, cdS_275]
            refine ⟨_, _, h15, ?_⟩
            simp only [vcS0, vcS1, vcS2, vcS3, vcS4, vcS5, vcS6, vc_n0, vc_lk, vc_pop, vc_rc, vc_tsw, vc_fr, vc_ar, vc_tb, mz_nx, List.set_cons_zero, List.set_cons_succ, Nat.reduceAdd, Nat.reduceBEq, Nat.reduceEqDiff, Nat.reduceLeDiff, Nat.reduceLT, Nat.reduceMul, Int.reduceToNat, Bool.false_eq_true, Bool.or_self, Bool.or_true, Bool.true_or, Bool.or_false, reduceIte, Option.toList_some, Option.toList_none, List.nil_append, List.cons_append, List.length_cons, List.length_nil, true_and, and_true, Int.cast_ofNat_Int, Int.reduceEq, Int.reduceLT, Int.reduceLE, Nat.zero_le, and_self, or_true, true_or, cdS_275]
            exact hk
          by_cases w5 : isw (c (r + 16)) 5 x y = true
          · have v := wr_i (i := 5) (by omega) w5
            rw [if_pos w5] at h16
            rw [if_pos (by rw [v]; rfl)]
            obtain ⟨p', b', e', a', k1, k2⟩ := sp_rowQ (b := x) (R := R) 213 (R 0 - 1) 0 8 h hsW hpW (by omega)
            rw [rR] at k1 k2
            obtain ⟨R1, hR1, k1⟩ := qM_ex k1
            refine ⟨p', b', e', a', R1, ent _ (t25 _ (t32 _ (t43 _ ?_))), stO_P k2, fun z => ?_⟩
            rotate_left
            · unfold spacesR
              have z2 : eS (zoX (c (r + 16)) L 8 (rdA (c (r + 16)) L (c (r + 1) 0) sW) 0).2 = 0 := by have := k2.1; unfold zoX rdA; omega
              have o1 := nmS_ok (B := c (r + 16)) (L := L) (lo := 0) (hi := c (r + 1) 0 - 1) hpW
              have o2 := nmS_ok (B := c (r + 16)) (L := L) (lo := 0) (hi := 8) o1.1
              have q2 := o2.2.1 z2
              have q1 := o1.2.1 q2.1
              simp only [if_pos z2]
              rw [hR1, if_pos (show eS (nmS (c (r + 16)) L 0 8 (nmS (c (r + 16)) L 0 (c (r + 1) 0 - 1) sW).2).2 = 0 from z2)]
              exact tQ_spaces hq (by have := q1.2; unfold rdA; omega) q2.2
            · skip
              refine mz_vc_ok 20 (ct := fun i => i == 59 || i == 71) ?_
              simp only [vcS0, vcS1, vcS2, vcS3, vcS4, vcS5, vcS6, vc_n0, vc_lk, vc_pop, vc_rc, vc_tsw, vc_fr, vc_ar, vc_tb, mz_nx, List.set_cons_zero, List.set_cons_succ, Nat.reduceAdd, Nat.reduceBEq, Nat.reduceEqDiff, Nat.reduceLeDiff, Nat.reduceLT, Nat.reduceMul, Int.reduceToNat, Bool.false_eq_true, Bool.or_self, Bool.or_true, Bool.true_or, Bool.or_false, reduceIte, Option.toList_some, Option.toList_none, List.nil_append, List.cons_append, List.length_cons, List.length_nil, true_and, and_true, Int.cast_ofNat_Int, Int.reduceEq, Int.reduceLT, Int.reduceLE, Nat.zero_le, and_self, or_true, true_or, cdS_275]
              refine ⟨_, _, h16, ?_⟩
              simp only [vcS0, vcS1, vcS2, vcS3, vcS4, vcS5, vcS6, vc_n0, vc_lk, vc_pop, vc_rc, vc_tsw, vc_fr, vc_ar, vc_tb, mz_nx, List.set_cons_zero, List.set_cons_succ, Nat.reduceAdd, Nat.reduceBEq, Nat.reduceEqDiff, Nat.reduceLeDiff, Nat.reduceLT, Nat.reduceMul, Int.reduceToNat, Bool.false_eq_true, Bool.or_self, Bool.or_true, Bool.true_or, Bool.or_false, reduceIte, Option.toList_some, Option.toList_none, List.nil_append, List.cons_append, List.length_cons, List.length_nil, true_and, and_true, Int.cast_ofNat_Int, Int.reduceEq, Int.reduceLT, Int.reduceLE, Nat.zero_le, and_self, or_true, true_or, cdS_275]
              rw [qM_R, rR]
              refine ⟨(by unfold mz_w; omega), _, _, k1, ?_⟩
              simp only [vcS0, vcS1, vcS2, vcS3, vcS4, vcS5, vcS6, vc_n0, vc_lk, vc_pop, vc_rc, vc_tsw, vc_fr, vc_ar, vc_tb, mz_nx, List.set_cons_zero, List.set_cons_succ, Nat.reduceAdd, Nat.reduceBEq, Nat.reduceEqDiff, Nat.reduceLeDiff, Nat.reduceLT, Nat.reduceMul, Int.reduceToNat, Bool.false_eq_true, Bool.or_self, Bool.or_true, Bool.true_or, Bool.or_false, reduceIte, Option.toList_some, Option.toList_none, List.nil_append, List.cons_append, List.length_cons, List.length_nil, true_and, and_true, Int.cast_ofNat_Int, Int.reduceEq, Int.reduceLT, Int.reduceLE, Nat.zero_le, and_self, or_true, true_or, cdS_275]
              refine mz_vc_ok 5 (ct := fun _ => false) ?_
              simp only [vcS0, vcS1, vcS2, vcS3, vcS4, vcS5, vcS6, vc_n0, vc_lk, vc_pop, vc_rc, vc_tsw, vc_fr, vc_ar, vc_tb, mz_nx, List.set_cons_zero, List.set_cons_succ, Nat.reduceAdd, Nat.reduceBEq, Nat.reduceEqDiff, Nat.reduceLeDiff, Nat.reduceLT, Nat.reduceMul, Int.reduceToNat, Bool.false_eq_true, Bool.or_self, Bool.or_true, Bool.true_or, Bool.or_false, reduceIte, Option.toList_some, Option.toList_none, List.nil_append, List.cons_append, List.length_cons, List.length_nil, true_and, and_true, Int.cast_ofNat_Int, Int.reduceEq, Int.reduceLT, Int.reduceLE, Nat.zero_le, and_self, or_true, true_or, cdS_275]
          · have v5 : ¬ wrF (c (r + 16)) x y 7 0 = 6 := fun q => w5 (wr_inv (i := 5) q)
            rw [if_neg w5] at h16
            rw [if_neg v5]
            have t59 : ∀ (m' : mz_M), sx 275 59 [some (mz_r 9 0 153)] [] (qM m y x 0 a R) none m' → sx 275 43 [some (mz_r 9 0 153)] [] (qM m y x 0 a R) none m' := by
              intro m' hk
              refine mz_vc_ok 20 (ct := fun i => i == 59 || i == 71) ?_
              simp only [vcS0, vcS1, vcS2, vcS3, vcS4, vcS5, vcS6, vc_n0, vc_lk, vc_pop, vc_rc, vc_tsw, vc_fr, vc_ar, vc_tb, mz_nx, List.set_cons_zero, List.set_cons_succ, Nat.reduceAdd, Nat.reduceBEq, Nat.reduceEqDiff, Nat.reduceLeDiff, Nat.reduceLT, Nat.reduceMul, Int.reduceToNat, Bool.false_eq_true, Bool.or_self, Bool.or_true, Bool.true_or, Bool.or_false, reduceIte, Option.toList_some, Option.toList_none, List.nil_append, List.cons_append, List.length_cons, List.length_nil, true_and, and_true, Int.cast_ofNat_Int, Int.reduceEq, Int.reduceLT, Int.reduceLE, Nat.zero_le, and_self, or_true, true_or, cdS_275]
              refine ⟨_, _, h16, ?_⟩
              simp only [vcS0, vcS1, vcS2, vcS3, vcS4, vcS5, vcS6, vc_n0, vc_lk, vc_pop, vc_rc, vc_tsw, vc_fr, vc_ar, vc_tb, mz_nx, List.set_cons_zero, List.set_cons_succ, Nat.reduceAdd, Nat.reduceBEq, Nat.reduceEqDiff, Nat.reduceLeDiff, Nat.reduceLT, Nat.reduceMul, Int.reduceToNat, Bool.false_eq_true, Bool.or_self, Bool.or_true, Bool.true_or, Bool.or_false, reduceIte, Option.toList_some, Option.toList_none, List.nil_append, List.cons_append, List.length_cons, List.length_nil, true_and, and_true, Int.cast_ofNat_Int, Int.reduceEq, Int.reduceLT, Int.reduceLE, Nat.zero_le, and_self, or_true, true_or, cdS_275]
              exact hk
            by_cases w6 : isw (c (r + 16)) 6 x y = true
            · have v := wr_i (i := 6) (by omega) w6
              rw [if_pos w6] at h17
              rw [if_pos (by rw [v]; rfl)]
              obtain ⟨p', b', e', a', k1, k2⟩ := sp_poundQ (b := x) (R := R) h hsW hpW hq
              obtain ⟨R1, hR1, k1⟩ := qM_ex k1
              refine ⟨p', b', e', a', R1, ent _ (t25 _ (t32 _ (t43 _ (t59 _ ?_)))), stO_P k2, fun z => ?_⟩
              rotate_left
              · unfold poundR
                have z2 : eS (pdC c r L sW).2 = 0 := by have := k2.1; omega
                have o1 := nmS_ok (B := c (r + 16)) (L := L) (lo := 0) (hi := c (r + 1) 0 - 1) hpW
                have oD : (pdD c r (rdA (c (r + 16)) L (c (r + 1) 0) sW)).1 ≤ L := by
                  unfold pdD
                  split
                  · rw [flS_1]; exact o1.1
                  · exact o1.1
                have o2 := nmS_ok (B := c (r + 16)) (L := L) (lo := 1) (hi := 6) oD
                have q2 := o2.2.1 z2
                have hnd : ¬ (¬ (0 ≤ (rdA (c (r + 16)) L (c (r + 1) 0) sW).1 ∧ (rdA (c (r + 16)) L (c (r + 1) 0) sW).1 < 10 ∧ 0 < c (r + 4) (rdA (c (r + 16)) L (c (r + 1) 0) sW).1.toNat) ∧ 2 ≤ c (r + 1) 1) := fun q => by
                  have q9 := q2.1
                  unfold pdD at q9
                  rw [if_pos q] at q9
                  exact flS_e (by omega) q9
                have hA2 : eS (rdA (c (r + 16)) L (c (r + 1) 0) sW).2 = 0 := by
                  have q9 := q2.1
                  unfold pdD at q9
                  rw [if_neg hnd] at q9
                  exact q9
                have q1 := o1.2.1 hA2
                simp only [if_pos z2]
                rw [hR1, if_pos z2]
                have q1' : 0 ≤ (rdA (c (r + 16)) L (c (r + 1) 0) sW).1 ∧ (rdA (c (r + 16)) L (c (r + 1) 0) sW).1 ≤ c (r + 1) 0 - 1 := q1.2
                refine tQ_pound hq (by omega) q2.2 ?_
                by_cases q : 0 < c (r + 1 + 3) (rdA (c (r + 16)) L (c (r + 1) 0) sW).1.toNat
                · exact Or.inl q
                · right
                  rcases Int.lt_or_le (c (r + 1) 1) 2 with q8 | q8
                  · exact q8
                  · exact absurd ⟨fun q7 => q q7.2.2, q8⟩ hnd
              · skip
                refine mz_vc_ok 20 (ct := fun i => i == 66 || i == 71) ?_
                simp only [vcS0, vcS1, vcS2, vcS3, vcS4, vcS5, vcS6, vc_n0, vc_lk, vc_pop, vc_rc, vc_tsw, vc_fr, vc_ar, vc_tb, mz_nx, List.set_cons_zero, List.set_cons_succ, Nat.reduceAdd, Nat.reduceBEq, Nat.reduceEqDiff, Nat.reduceLeDiff, Nat.reduceLT, Nat.reduceMul, Int.reduceToNat, Bool.false_eq_true, Bool.or_self, Bool.or_true, Bool.true_or, Bool.or_false, reduceIte, Option.toList_some, Option.toList_none, List.nil_append, List.cons_append, List.length_cons, List.length_nil, true_and, and_true, Int.cast_ofNat_Int, Int.reduceEq, Int.reduceLT, Int.reduceLE, Nat.zero_le, and_self, or_true, true_or, cdS_275]
                refine ⟨_, _, h17, ?_⟩
                simp only [vcS0, vcS1, vcS2, vcS3, vcS4, vcS5, vcS6, vc_n0, vc_lk, vc_pop, vc_rc, vc_tsw, vc_fr, vc_ar, vc_tb, mz_nx, List.set_cons_zero, List.set_cons_succ, Nat.reduceAdd, Nat.reduceBEq, Nat.reduceEqDiff, Nat.reduceLeDiff, Nat.reduceLT, Nat.reduceMul, Int.reduceToNat, Bool.false_eq_true, Bool.or_self, Bool.or_true, Bool.true_or, Bool.or_false, reduceIte, Option.toList_some, Option.toList_none, List.nil_append, List.cons_append, List.length_cons, List.length_nil, true_and, and_true, Int.cast_ofNat_Int, Int.reduceEq, Int.reduceLT, Int.reduceLE, Nat.zero_le, and_self, or_true, true_or, cdS_275]
                refine ⟨_, _, k1, ?_⟩
                simp only [vcS0, vcS1, vcS2, vcS3, vcS4, vcS5, vcS6, vc_n0, vc_lk, vc_pop, vc_rc, vc_tsw, vc_fr, vc_ar, vc_tb, mz_nx, List.set_cons_zero, List.set_cons_succ, Nat.reduceAdd, Nat.reduceBEq, Nat.reduceEqDiff, Nat.reduceLeDiff, Nat.reduceLT, Nat.reduceMul, Int.reduceToNat, Bool.false_eq_true, Bool.or_self, Bool.or_true, Bool.true_or, Bool.or_false, reduceIte, Option.toList_some, Option.toList_none, List.nil_append, List.cons_append, List.length_cons, List.length_nil, true_and, and_true, Int.cast_ofNat_Int, Int.reduceEq, Int.reduceLT, Int.reduceLE, Nat.zero_le, and_self, or_true, true_or, cdS_275]
                refine mz_vc_ok 5 (ct := fun _ => false) ?_
                simp only [vcS0, vcS1, vcS2, vcS3, vcS4, vcS5, vcS6, vc_n0, vc_lk, vc_pop, vc_rc, vc_tsw, vc_fr, vc_ar, vc_tb, mz_nx, List.set_cons_zero, List.set_cons_succ, Nat.reduceAdd, Nat.reduceBEq, Nat.reduceEqDiff, Nat.reduceLeDiff, Nat.reduceLT, Nat.reduceMul, Int.reduceToNat, Bool.false_eq_true, Bool.or_self, Bool.or_true, Bool.true_or, Bool.or_false, reduceIte, Option.toList_some, Option.toList_none, List.nil_append, List.cons_append, List.length_cons, List.length_nil, true_and, and_true, Int.cast_ofNat_Int, Int.reduceEq, Int.reduceLT, Int.reduceLE, Nat.zero_le, and_self, or_true, true_or, cdS_275]
            · have v6 : ¬ wrF (c (r + 16)) x y 7 0 = 7 := fun q => w6 (wr_inv (i := 6) q)
              rw [if_neg w6] at h17
              rw [if_neg v6]
              have hff := sp_qfails (m := m) y x 0 a R 1 x
              rw [if_pos rfl, if_pos rfl] at hff
              refine ⟨y, x, 1, x, R, ent _ (t25 _ (t32 _ (t43 _ (t59 _ ?_)))), ?_, fun z => absurd z (by omega)⟩
              · skip
                refine mz_vc_ok 20 (ct := fun i => i == 66 || i == 71) ?_
                simp only [vcS0, vcS1, vcS2, vcS3, vcS4, vcS5, vcS6, vc_n0, vc_lk, vc_pop, vc_rc, vc_tsw, vc_fr, vc_ar, vc_tb, mz_nx, List.set_cons_zero, List.set_cons_succ, Nat.reduceAdd, Nat.reduceBEq, Nat.reduceEqDiff, Nat.reduceLeDiff, Nat.reduceLT, Nat.reduceMul, Int.reduceToNat, Bool.false_eq_true, Bool.or_self, Bool.or_true, Bool.true_or, Bool.or_false, reduceIte, Option.toList_some, Option.toList_none, List.nil_append, List.cons_append, List.length_cons, List.length_nil, true_and, and_true, Int.cast_ofNat_Int, Int.reduceEq, Int.reduceLT, Int.reduceLE, Nat.zero_le, and_self, or_true, true_or, cdS_275]
                refine ⟨_, _, h17, ?_⟩
                simp only [vcS0, vcS1, vcS2, vcS3, vcS4, vcS5, vcS6, vc_n0, vc_lk, vc_pop, vc_rc, vc_tsw, vc_fr, vc_ar, vc_tb, mz_nx, List.set_cons_zero, List.set_cons_succ, Nat.reduceAdd, Nat.reduceBEq, Nat.reduceEqDiff, Nat.reduceLeDiff, Nat.reduceLT, Nat.reduceMul, Int.reduceToNat, Bool.false_eq_true, Bool.or_self, Bool.or_true, Bool.true_or, Bool.or_false, reduceIte, Option.toList_some, Option.toList_none, List.nil_append, List.cons_append, List.length_cons, List.length_nil, true_and, and_true, Int.cast_ofNat_Int, Int.reduceEq, Int.reduceLT, Int.reduceLE, Nat.zero_le, and_self, or_true, true_or, cdS_275]
                refine mz_vc_ok 20 (ct := fun _ => false) ?_
                simp only [vcS0, vcS1, vcS2, vcS3, vcS4, vcS5, vcS6, vc_n0, vc_lk, vc_pop, vc_rc, vc_tsw, vc_fr, vc_ar, vc_tb, mz_nx, List.set_cons_zero, List.set_cons_succ, Nat.reduceAdd, Nat.reduceBEq, Nat.reduceEqDiff, Nat.reduceLeDiff, Nat.reduceLT, Nat.reduceMul, Int.reduceToNat, Bool.false_eq_true, Bool.or_self, Bool.or_true, Bool.true_or, Bool.or_false, reduceIte, Option.toList_some, Option.toList_none, List.nil_append, List.cons_append, List.length_cons, List.length_nil, true_and, and_true, Int.cast_ofNat_Int, Int.reduceEq, Int.reduceLT, Int.reduceLE, Nat.zero_le, and_self, or_true, true_or, cdS_275]
                rw [qM_8]
                refine ⟨_, _, hff, ?_⟩
                simp only [vcS0, vcS1, vcS2, vcS3, vcS4, vcS5, vcS6, vc_n0, vc_lk, vc_pop, vc_rc, vc_tsw, vc_fr, vc_ar, vc_tb, mz_nx, List.set_cons_zero, List.set_cons_succ, Nat.reduceAdd, Nat.reduceBEq, Nat.reduceEqDiff, Nat.reduceLeDiff, Nat.reduceLT, Nat.reduceMul, Int.reduceToNat, Bool.false_eq_true, Bool.or_self, Bool.or_true, Bool.true_or, Bool.or_false, reduceIte, Option.toList_some, Option.toList_none, List.nil_append, List.cons_append, List.length_cons, List.length_nil, true_and, and_true, Int.cast_ofNat_Int, Int.reduceEq, Int.reduceLT, Int.reduceLE, Nat.zero_le, and_self, or_true, true_or, cdS_275]
              · have hz : eS sW = 0 := hsW.1.symm
                refine ⟨?_, fun q => absurd q (by omega), fun _ => ?_⟩
                · show (1 : Int) = if eS sW = 0 then 1 else eS sW
                  rw [if_pos hz]
                · show (x : Int) = if eS sW = 0 then wS' sW else aS sW
                  rw [if_pos hz, hwS]
end QL
