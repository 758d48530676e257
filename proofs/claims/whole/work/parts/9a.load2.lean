section QK
variable {m : mz_M} {B : Nat → Int} {L : Nat}
theorem sp_isMore (p b : Nat) (e a : Int) (R : Nat → Int) (h : qB m B L) : sp 160 [mz_r 9 0 153] (qM m p b e a R) (some (mz_i (if e = 0 ∧ sk B L p < L ∧ B (sk B L p) = 59 then 1 else 0))) (if e = 0 then (if sk B L p < L then (if B (sk B L p) = 59 then qM m (sk B L p + 1) (sk B L p) 0 a R else qM m (sk B L p) (sk B L p) 1 (sk B L p) R) else qM m (sk B L p) (sk B L p) 0 a R) else qM m p b e a R) := by
  have hL := h.2.1
  refine mz_cl_vc 60 (fun _ => false) [some (mz_r 9 0 153)] rfl ?_
  simp only [vcS0, vcS1, vcS2, vcS3, vcS4, vcS5, vcS6, vc_n0, vc_lk, vc_pop, vc_rc, vc_tsw, vc_fr, vc_ar, vc_tb, mz_nx, List.set_cons_zero, List.set_cons_succ, Nat.reduceAdd, Nat.reduceBEq, Nat.reduceEqDiff, Nat.reduceLeDiff, Nat.reduceLT, Nat.reduceMul, Int.reduceToNat, Bool.false_eq_true, Bool.or_self, Bool.or_true, Bool.true_or, Bool.or_false, reduceIte, Option.toList_some, Option.toList_none, List.nil_append, List.cons_append, List.length_cons, List.length_nil, true_and, and_true, Int.cast_ofNat_Int, Int.reduceEq, Int.reduceLT, Int.reduceLE, Nat.zero_le, and_self, or_true, true_or, cdS_160]
  by_cases he : e = 0
  · subst he
    rw [if_pos (qM_9 _ _ _ _ _ _), if_pos rfl]
    refine ⟨_, _, sp_next p b 0 a R h, ?_⟩
    simp only [vcS0, vcS1, vcS2, vcS3, vcS4, vcS5, vcS6, vc_n0, vc_lk, vc_pop, vc_rc, vc_tsw, vc_fr, vc_ar, vc_tb, mz_nx, List.set_cons_zero, List.set_cons_succ, Nat.reduceAdd, Nat.reduceBEq, Nat.reduceEqDiff, Nat.reduceLeDiff, Nat.reduceLT, Nat.reduceMul, Int.reduceToNat, Bool.false_eq_true, Bool.or_self, Bool.or_true, Bool.true_or, Bool.or_false, reduceIte, Option.toList_some, Option.toList_none, List.nil_append, List.cons_append, List.length_cons, List.length_nil, true_and, and_true, Int.cast_ofNat_Int, Int.reduceEq, Int.reduceLT, Int.reduceLE, Nat.zero_le, and_self, or_true, true_or, cdS_160]
    by_cases h1 : sk B L p < L
    · have hb := h.2.2 (sk B L p) h1
      have en : nb B L (sk B L p) = B (sk B L p) := by unfold nb; rw [if_pos h1]
      have hge : ¬ nb B L (sk B L p) < 0 := by rw [en]; omega
      rw [if_neg hge, if_pos h1]
      refine ⟨_, _, sp_here (sk B L p) (sk B L p) 0 a R h, ?_⟩
      simp only [vcS0, vcS1, vcS2, vcS3, vcS4, vcS5, vcS6, vc_n0, vc_lk, vc_pop, vc_rc, vc_tsw, vc_fr, vc_ar, vc_tb, mz_nx, List.set_cons_zero, List.set_cons_succ, Nat.reduceAdd, Nat.reduceBEq, Nat.reduceEqDiff, Nat.reduceLeDiff, Nat.reduceLT, Nat.reduceMul, Int.reduceToNat, Bool.false_eq_true, Bool.or_self, Bool.or_true, Bool.true_or, Bool.or_false, reduceIte, Option.toList_some, Option.toList_none, List.nil_append, List.cons_append, List.length_cons, List.length_nil, true_and, and_true, Int.cast_ofNat_Int, Int.reduceEq, Int.reduceLT, Int.reduceLE, Nat.zero_le, and_self, or_true, true_or, cdS_160]
      rw [en]
      by_cases h2 : B (sk B L p) = 59
      · rw [if_pos h2, if_pos (show sk B L p < L ∧ B (sk B L p) = 59 from ⟨h1, h2⟩), if_pos h2, qM_7, show ((sk B L p : Nat) : Int) + 1 = ((sk B L p + 1 : Nat) : Int) by omega, qM_u7]
        exact ⟨(by unfold mz_w; omega), rfl, rfl⟩
      · rw [if_neg h2, if_neg (fun q => h2 q.2), if_neg h2, qM_7]
        have hf := sp_qfails (m := m) (sk B L p) (sk B L p) 0 a R 1 (sk B L p)
        rw [if_pos rfl, if_pos rfl] at hf
        refine ⟨_, _, hf, ?_⟩
        simp only [vcS0, vcS1, vcS2, vcS3, vcS4, vcS5, vcS6, vc_n0, vc_lk, vc_pop, vc_rc, vc_tsw, vc_fr, vc_ar, vc_tb, mz_nx, List.set_cons_zero, List.set_cons_succ, Nat.reduceAdd, Nat.reduceBEq, Nat.reduceEqDiff, Nat.reduceLeDiff, Nat.reduceLT, Nat.reduceMul, Int.reduceToNat, Bool.false_eq_true, Bool.or_self, Bool.or_true, Bool.true_or, Bool.or_false, reduceIte, Option.toList_some, Option.toList_none, List.nil_append, List.cons_append, List.length_cons, List.length_nil, true_and, and_true, Int.cast_ofNat_Int, Int.reduceEq, Int.reduceLT, Int.reduceLE, Nat.zero_le, and_self, or_true, true_or, cdS_160]
    · have hlt : nb B L (sk B L p) < 0 := by unfold nb; rw [if_neg h1]; omega
      rw [if_pos hlt, if_neg (fun q => h1 q.1), if_neg h1]
      all_goals ((repeat' refine And.intro ?_ ?_) <;> first | trivial | rfl | (unfold mz_w; omega) | omega)
  · rw [if_neg (show ¬ qM m p b e a R 153 9 = 0 by rw [qM_9]; exact he), if_neg (fun q => he q.1), if_neg he]
    all_goals ((repeat' refine And.intro ?_ ?_) <;> first | trivial | rfl | (unfold mz_w; omega) | omega)
end QK
theorem nmS_ge {B : Nat → Int} {L : Nat} {lo hi : Int} {s : rS} (hp : s.1 ≤ L) : s.1 ≤ (nmS B L lo hi s).2.1 := by
  have hs := sk_le (B := B) hp
  have hn := nv_ok B (L - sk B L s.1) (sk B L s.1) 0 (by omega) (by omega)
  show s.1 ≤ (rnm B L lo hi s.1 (nS s) (eS s) (aS s)).2.1
  unfold rnm
  split
  · exact hs.1
  · split <;> (simp only; omega)
theorem stR_ge {c : mz_M} {r L : Nat} {s : rS} (h : tW c (r + 1)) (hp : s.1 ≤ L) : s.1 ≤ (stR c r L s).2.1 ∧ (stR c r L s).2.1 ≤ L := by
  have hsk := sk_le (B := c (r + 16)) hp
  have hwd := wd_le (B := c (r + 16)) hsk.2
  have hpW : (wdS (c (r + 16)) L s).1 ≤ L := hwd.2
  have hge : s.1 ≤ (wdS (c (r + 16)) L s).1 := Nat.le_trans hsk.1 hwd.1
  have N : ∀ (lo hi : Int) (s' : rS), s.1 ≤ s'.1 → s'.1 ≤ L → s.1 ≤ (nmS (c (r + 16)) L lo hi s').2.1 ∧ (nmS (c (r + 16)) L lo hi s').2.1 ≤ L := fun lo hi s' h1 h2 => ⟨Nat.le_trans h1 (nmS_ge h2), (nmS_ok h2).1⟩
  unfold stR
  split
  · have a1 := N 0 (c (r + 1) 0 - 1) _ hge hpW
    have a3 := N 0 3 _ hge hpW
    split
    · unfold roadR
      have a2 := N 0 (c (r + 1) 0 - 1) _ a1.1 a1.2
      have aD : s.1 ≤ (rdD (rdA (c (r + 16)) L (c (r + 1) 0) (rdA (c (r + 16)) L (c (r + 1) 0) (wdS (c (r + 16)) L s)).2) (rdA (c (r + 16)) L (c (r + 1) 0) (wdS (c (r + 16)) L s)).1).1 ∧ (rdD (rdA (c (r + 16)) L (c (r + 1) 0) (rdA (c (r + 16)) L (c (r + 1) 0) (wdS (c (r + 16)) L s)).2) (rdA (c (r + 16)) L (c (r + 1) 0) (wdS (c (r + 16)) L s)).1).1 ≤ L := by
        unfold rdD
        split
        · rw [flS_1]; exact a2
        · exact a2
      exact N 1 99 _ aD.1 aD.2
    · split
      · exact N 0 3 _ a1.1 a1.2
      · split
        · have b2 := N 0 23 _ a3.1 a3.2
          have b3 := N ((rtF (c (r + 16)) L (wdS (c (r + 16)) L s)).1 + 1) 24 _ b2.1 b2.2
          exact N 0 999 _ b3.1 b3.2
        · split
          · exact N 10 600 _ a3.1 a3.2
          · split
            · exact N 0 8 _ a1.1 a1.2
            · split
              · unfold poundR
                have aD : s.1 ≤ (pdD c r (rdA (c (r + 16)) L (c (r + 1) 0) (wdS (c (r + 16)) L s))).1 ∧ (pdD c r (rdA (c (r + 16)) L (c (r + 1) 0) (wdS (c (r + 16)) L s))).1 ≤ L := by
                  unfold pdD
                  split
                  · rw [flS_1]; exact a1
                  · exact a1
                exact N 1 6 _ aD.1 aD.2
              · exact ⟨hge, hpW⟩
  · exact ⟨Nat.le_refl _, hp⟩
theorem stR_16 {c : mz_M} {r L : Nat} {s : rS} (h : rdOk c r L) (hp : s.1 ≤ L) : (stR c r L s).1 (r + 16) = c (r + 16) := frO_16 (stR_ok h hp).1.2
section QJ
variable {m : mz_M} {L : Nat}
theorem lo_loop {r : Nat} {B : Nat → Int} (h : qB m B L) : ∀ (k : Nat) (c : mz_M) (s : rS) (p b : Nat) (e a : Int) (R : Nat → Int), c (r + 16) = B → rdOk c r L → stP s p e a → s.1 ≤ L → L - s.1 ≤ k → (e = 0 → tQ c (r + 1) R) →
    ∃ (p' b' : Nat) (e' a' : Int) (R' : Nat → Int), stP (rbL r L k c (spS B L s)).2 p' e' a' ∧ (e' = 0 → tQ (rbL r L k c (spS B L s)).1 (r + 1) R') ∧ ∀ (res : Option mz_V) (m' : mz_M), sx 285 33 [some (mz_r 9 0 153)] [] (qM m p' b' e' a' R') res m' → sx 285 27 [some (mz_r 9 0 153)] [] (qM m p b e a R) res m' := by
  intro k
  have stop : ∀ (p b : Nat) (e a : Int) (R : Nat → Int) (M1 : mz_M), sp 160 [mz_r 9 0 153] (qM m p b e a R) (some (mz_i 0)) M1 → ∀ (res : Option mz_V) (m' : mz_M), sx 285 33 [some (mz_r 9 0 153)] [] M1 res m' → sx 285 27 [some (mz_r 9 0 153)] [] (qM m p b e a R) res m' := by
    intro p b e a R M1 h1 res m' h2
    refine mz_vc_ok 20 (ct := fun i => i == 27 || i == 33) ?_
    simp only [vcS0, vcS1, vcS2, vcS3, vcS4, vcS5, vcS6, vc_n0, vc_lk, vc_pop, vc_rc, vc_tsw, vc_fr, vc_ar, vc_tb, mz_nx, List.set_cons_zero, List.set_cons_succ, Nat.reduceAdd, Nat.reduceBEq, Nat.reduceEqDiff, Nat.reduceLeDiff, Nat.reduceLT, Nat.reduceMul, Int.reduceToNat, Bool.false_eq_true, Bool.or_self, Bool.or_true, Bool.true_or, Bool.or_false, reduceIte, Option.toList_some, Option.toList_none, List.nil_append, List.cons_append, List.length_cons, List.length_nil, true_and, and_true, Int.cast_ofNat_Int, Int.reduceEq, Int.reduceLT, Int.reduceLE, Nat.zero_le, and_self, or_true, true_or, cdS_285]
    refine ⟨_, _, h1, ?_⟩
    simp only [vcS0, vcS1, vcS2, vcS3, vcS4, vcS5, vcS6, vc_n0, vc_lk, vc_pop, vc_rc, vc_tsw, vc_fr, vc_ar, vc_tb, mz_nx, List.set_cons_zero, List.set_cons_succ, Nat.reduceAdd, Nat.reduceBEq, Nat.reduceEqDiff, Nat.reduceLeDiff, Nat.reduceLT, Nat.reduceMul, Int.reduceToNat, Bool.false_eq_true, Bool.or_self, Bool.or_true, Bool.true_or, Bool.or_false, reduceIte, Option.toList_some, Option.toList_none, List.nil_append, List.cons_append, List.length_cons, List.length_nil, true_and, and_true, Int.cast_ofNat_Int, Int.reduceEq, Int.reduceLT, Int.reduceLE, Nat.zero_le, and_self, or_true, true_or, cdS_285]
    exact h2
  have hend : ∀ (k : Nat) (c : mz_M) (s : rS), (eS s ≠ 0 ∨ L ≤ sk B L s.1) → rbL r L k c (spS B L s) = (c, spS B L s) := by
    intro k c s hx
    cases k with
    | zero => rfl
    | succ k =>
      unfold rbL
      rw [if_neg]
      rintro ⟨q1, q2⟩
      rcases hx with q | q
      · exact q q1
      · have : (spS B L s).1 = sk B L s.1 := rfl
        omega
  have common : ∀ (k : Nat) (c : mz_M) (s : rS) (p b : Nat) (e a : Int) (R : Nat → Int), stP s p e a → s.1 ≤ L → (e = 0 → tQ c (r + 1) R) → (eS s ≠ 0 ∨ L ≤ sk B L s.1) → ∃ (p' b' : Nat) (e' a' : Int) (R' : Nat → Int), stP (rbL r L k c (spS B L s)).2 p' e' a' ∧ (e' = 0 → tQ (rbL r L k c (spS B L s)).1 (r + 1) R') ∧ ∀ (res : Option mz_V) (m' : mz_M), sx 285 33 [some (mz_r 9 0 153)] [] (qM m p' b' e' a' R') res m' → sx 285 27 [some (mz_r 9 0 153)] [] (qM m p b e a R) res m' := by
    intro k c s p b e a R hs hp hq hx
    rw [hend k c s hx]
    have hi := sp_isMore p b e a R h
    have he : e = eS s := hs.1
    by_cases h0 : e = 0
    · have hps := hs.2.1 h0
      subst hps
      have hx2 : ¬ sk B L s.1 < L := by omega
      rw [if_neg (fun q => hx2 q.2.1), if_pos h0, if_neg hx2] at hi
      refine ⟨sk B L s.1, sk B L s.1, 0, a, R, ⟨?_, fun _ => rfl, fun q => absurd rfl q⟩, fun _ => hq h0, stop _ _ _ _ _ _ hi⟩
      show (0 : Int) = eS s
      omega
    · rw [if_neg (fun q => h0 q.1), if_neg h0] at hi
      exact ⟨p, b, e, a, R, ⟨he, fun q => absurd q h0, fun _ => hs.2.2 h0⟩, fun q => absurd q h0, stop _ _ _ _ _ _ hi⟩
  induction k with
  | zero =>
    intro c s p b e a R hB hr hs hp hk hq
    refine common 0 c s p b e a R hs hp hq (Or.inr ?_)
    have := sk_le (B := B) hp
    omega
  | succ k ih =>
    intro c s p b e a R hB hr hs hp hk hq
    have hsk := sk_le (B := B) hp
    by_cases hx : eS s ≠ 0 ∨ L ≤ sk B L s.1
    · exact common (k + 1) c s p b e a R hs hp hq hx
    · have he0 : eS s = 0 := Classical.byContradiction fun q => hx (Or.inl q)
      have hlt : sk B L s.1 < L := by omega
      have he : e = 0 := hs.1.trans he0
      have hps := hs.2.1 he
      subst hps
      subst he
      have hi := sp_isMore s.1 b 0 a R h
      rw [if_pos rfl, if_pos hlt] at hi
      have hrb : rbL r L (k + 1) c (spS B L s) = rbL r L k (stR c r L (smS B L (spS B L s))).1 (spS B L (stR c r L (smS B L (spS B L s))).2) := by
        rw [rbL, if_pos ⟨he0, hlt⟩, hB]
      rw [hrb]
      have hnb : nb B L (spS B L s).1 = B (sk B L s.1) := by show nb B L (sk B L s.1) = _; unfold nb; rw [if_pos hlt]
      by_cases h59 : B (sk B L s.1) = 59
      · rw [if_pos ⟨rfl, hlt, h59⟩, if_pos h59] at hi
        have hsm : smS B L (spS B L s) = (sk B L s.1 + 1, nS s, wS' s, eS s, aS s) := by
          unfold smS
          rw [hnb, if_pos h59]
          rfl
        rw [hsm]
        have hst : stP ((sk B L s.1 + 1, nS s, wS' s, eS s, aS s) : rS) (sk B L s.1 + 1) 0 a := ⟨he0.symm, fun _ => rfl, fun q => absurd rfl q⟩
        have hge := stR_ge (s := (sk B L s.1 + 1, nS s, wS' s, eS s, aS s)) (hq rfl).1 (show sk B L s.1 + 1 ≤ L by omega)
        have hok := stR_ok (s := (sk B L s.1 + 1, nS s, wS' s, eS s, aS s)) hr (show sk B L s.1 + 1 ≤ L by omega)
        have h' : qB m (c (r + 16)) L := by rw [hB]; exact h
        obtain ⟨p', b', e', a', R', k1, k2, k3⟩ := sp_stmtQ (b := sk B L s.1) (r := r) h' hst (show sk B L s.1 + 1 ≤ L by omega) (hq rfl)
        have hg1 : sk B L s.1 + 1 ≤ (stR c r L (sk B L s.1 + 1, nS s, wS' s, eS s, aS s)).2.1 := hge.1
        obtain ⟨p2, b2, e2, a2, R2, g1, g2, g3⟩ := ih (stR c r L (sk B L s.1 + 1, nS s, wS' s, eS s, aS s)).1 (stR c r L (sk B L s.1 + 1, nS s, wS' s, eS s, aS s)).2 p' b' e' a' R' (by rw [stR_16 hr (show sk B L s.1 + 1 ≤ L by omega)]; exact hB) hok.1.1 k2 hge.2 (by omega) k3
        refine ⟨p2, b2, e2, a2, R2, g1, g2, fun res m' hk3 => ?_⟩
        refine mz_vc_ok 20 (ct := fun i => i == 27 || i == 33) ?_
        simp only [vcS0, vcS1, vcS2, vcS3, vcS4, vcS5, vcS6, vc_n0, vc_lk, vc_pop, vc_rc, vc_tsw, vc_fr, vc_ar, vc_tb, mz_nx, List.set_cons_zero, List.set_cons_succ, Nat.reduceAdd, Nat.reduceBEq, Nat.reduceEqDiff, Nat.reduceLeDiff, Nat.reduceLT, Nat.reduceMul, Int.reduceToNat, Bool.false_eq_true, Bool.or_self, Bool.or_true, Bool.true_or, Bool.or_false, reduceIte, Option.toList_some, Option.toList_none, List.nil_append, List.cons_append, List.length_cons, List.length_nil, true_and, and_true, Int.cast_ofNat_Int, Int.reduceEq, Int.reduceLT, Int.reduceLE, Nat.zero_le, and_self, or_true, true_or, cdS_285]
        refine ⟨_, _, hi, ?_⟩
        simp only [vcS0, vcS1, vcS2, vcS3, vcS4, vcS5, vcS6, vc_n0, vc_lk, vc_pop, vc_rc, vc_tsw, vc_fr, vc_ar, vc_tb, mz_nx, List.set_cons_zero, List.set_cons_succ, Nat.reduceAdd, Nat.reduceBEq, Nat.reduceEqDiff, Nat.reduceLeDiff, Nat.reduceLT, Nat.reduceMul, Int.reduceToNat, Bool.false_eq_true, Bool.or_self, Bool.or_true, Bool.true_or, Bool.or_false, reduceIte, Option.toList_some, Option.toList_none, List.nil_append, List.cons_append, List.length_cons, List.length_nil, true_and, and_true, Int.cast_ofNat_Int, Int.reduceEq, Int.reduceLT, Int.reduceLE, Nat.zero_le, and_self, or_true, true_or, cdS_285]
        refine ⟨_, _, k1, ?_⟩
        simp only [vcS0, vcS1, vcS2, vcS3, vcS4, vcS5, vcS6, vc_n0, vc_lk, vc_pop, vc_rc, vc_tsw, vc_fr, vc_ar, vc_tb, mz_nx, List.set_cons_zero, List.set_cons_succ, Nat.reduceAdd, Nat.reduceBEq, Nat.reduceEqDiff, Nat.reduceLeDiff, Nat.reduceLT, Nat.reduceMul, Int.reduceToNat, Bool.false_eq_true, Bool.or_self, Bool.or_true, Bool.true_or, Bool.or_false, reduceIte, Option.toList_some, Option.toList_none, List.nil_append, List.cons_append, List.length_cons, List.length_nil, true_and, and_true, Int.cast_ofNat_Int, Int.reduceEq, Int.reduceLT, Int.reduceLE, Nat.zero_le, and_self, or_true, true_or, cdS_285]
        exact g3 res m' hk3
      · rw [if_neg (fun q => h59 q.2.2), if_neg h59] at hi
        have hsm : smS B L (spS B L s) = flS 1 (sk B L s.1) (spS B L s) := by
          unfold smS
          rw [hnb, if_neg h59]
          rfl
        have hef : eS (smS B L (spS B L s)) = 1 := by rw [hsm]; show (if eS s = 0 then (1 : Int) else eS s) = 1; rw [if_pos he0]
        have haf : aS (smS B L (spS B L s)) = sk B L s.1 := by rw [hsm]; show (if eS s = 0 then (sk B L s.1 : Int) else aS s) = _; rw [if_pos he0]
        have hle : (smS B L (spS B L s)).1 ≤ L := by rw [hsm]; exact hsk.2
        have hsame := (stR_ok hr hle).2.2 (by rw [hef]; omega)
        rw [hsame, hend k c (smS B L (spS B L s)) (Or.inl (by rw [hef]; omega))]
        refine ⟨sk B L s.1, sk B L s.1, 1, sk B L s.1, R, ⟨?_, fun q => absurd q (by omega), fun _ => ?_⟩, fun q => absurd q (by omega), stop _ _ _ _ _ _ hi⟩
        · show (1 : Int) = eS (smS B L (spS B L s))
          rw [hef]
        · show (sk B L s.1 : Int) = aS (smS B L (spS B L s))
          rw [haf]
end QJ
