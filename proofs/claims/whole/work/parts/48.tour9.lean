theorem chS_pl {m : mz_M} {q u a : Nat} (hp : ∀ c, c < 16 → 0 ≤ m (u + 24 + c) 2 ∧ m (u + 24 + c) 2 < 10) : ∀ j, j ≤ 16 → ∀ i, i < (chS m q u a j).2 → i < 6 → 0 ≤ (chS m q u a j).1 (q + 2) i ∧ (chS m q u a j).1 (q + 2) i < 10 := by
  intro j
  induction j with
  | zero => intro _ i hi; exact absurd hi (by simp [chS])
  | succ j ih =>
    intro hj i hi h6
    rw [chS] at hi ⊢
    split
    · rename_i hc
      rw [if_pos hc] at hi
      simp only at hi ⊢
      rw [up_o (by omega)]
      unfold ptU
      by_cases he : i = (chS m q u a j).2
      · rw [if_pos (by omega), he, up_s]
        exact hp j (by omega)
      · have h1 := ih (by omega) i (by omega) h6
        split
        · rw [up_k he, up_o (by omega)]
          exact h1
        · exact h1
    · rename_i hc
      rw [if_neg hc] at hi
      exact ih (by omega) i hi h6
theorem cpS_pl {m : mz_M} {q u : Nat} : ∀ j, j ≤ 10 → ∀ i, i < (cpS m q u j).2 → 0 ≤ (cpS m q u j).1 (q + 3) i ∧ (cpS m q u j).1 (q + 3) i < 10 := by
  intro j
  induction j with
  | zero => intro _ i hi; exact absurd hi (by simp [cpS])
  | succ j ih =>
    intro hj i hi
    rw [cpS] at hi ⊢
    split
    · rename_i hc
      rw [if_pos hc] at hi
      simp only at hi ⊢
      rw [up_o (by omega), up_o (by omega)]
      by_cases he : i = (cpS m q u j).2
      · rw [he, up_s]; omega
      · rw [up_k he]
        exact ih (by omega) i (by omega)
    · rename_i hc
      rw [if_neg hc] at hi
      exact ih (by omega) i hi
theorem mtT_ok {m : mz_M} {q w cn pn f i t : Nat} (h : plO m q cn pn) (hW : fwO (m (w + 5))) (hL : lnO (m (q + 5))) : lnO (mtT m q w cn pn f i t) := by
  obtain ⟨h9, h10, hcn, hpn, hC, hP⟩ := h
  intro k hk
  unfold mtT
  split
  · rename_i hc
    have a1 := hP (k / 12) hc.1.1
    have a2 := hC (k / 2 % 6) hc.1.2.1
    have a3 := hP (k % 2) hc.1.2.2
    have w1 := hW (10 * (m (q + 3) (k / 12)).toNat + (m (q + 2) (k / 2 % 6)).toNat) (by omega)
    have w2 := hW (10 * (m (q + 2) (k / 2 % 6)).toNat + (m (q + 3) (k % 2)).toNat) (by omega)
    unfold mtL
    omega
  · exact hL k hk
def tpA (m : mz_M) (q u : Nat) : mz_M × Nat := chS m q u (bs (ctt m u) 16) 16
def tpB (m : mz_M) (q u n : Nat) : mz_M × Nat := cpS (tpA m q u).1 q u n
def tpC (m : mz_M) (q u n : Nat) : mz_M := rowS (tpB m q u n).1 (q + 5) 24 (mtT (tpB m q u n).1 q (u + 1) (tpA m q u).2 (tpB m q u n).2 (tpB m q u n).2 0 0)
theorem tpB_o {m : mz_M} {q u n b : Nat} (h : b < q ∨ q + 4 < b) : (tpB m q u n).1 b = m b := by
  funext i
  unfold tpB
  rw [(cpS_ok (m := (tpA m q u).1) (q := q) (u := u) n).2.2 b i (by omega) (by omega) (by omega)]
  exact (chS_ok (m := m) (q := q) (u := u) (a := bs (ctt m u) 16) 16).2.2 b i (by omega) (by omega) (by omega)
theorem tpC_o {m : mz_M} {q u n b : Nat} (h : b < q ∨ q + 5 < b) : tpC m q u n b = m b := by
  funext i
  unfold tpC
  rw [rowS_o (by omega), tpB_o (by omega)]
theorem tpB_pl {m : mz_M} {q u n : Nat} (h : cnO m u) (hp : ∀ c, c < 16 → 0 ≤ m (u + 24 + c) 2 ∧ m (u + 24 + c) 2 < 10) (hn : n ≤ 10) : plO (tpB m q u n).1 q (tpA m q u).2 (tpB m q u n).2 := by
  have hA := chS_ok (m := m) (q := q) (u := u) (a := bs (ctt m u) 16) 16
  have hB := cpS_ok (m := (tpA m q u).1) (q := q) (u := u) n
  have h6 := chS_6 (q := q) (a := bs (ctt m u) 16) h
  refine ⟨?_, hB.1, h6, hB.2.1, fun i hi => ?_, fun f hf => cpS_pl n hn f hf⟩
  · unfold tpB
    rw [hB.2.2 q 9 (by omega) (by omega) (by omega)]
    exact hA.1
  · unfold tpB
    rw [hB.2.2 (q + 2) i (by omega) (by omega) (by omega)]
    exact chS_pl hp 16 (Nat.le_refl _) i hi (by unfold tpA at hi; omega)
theorem tpC_tp {m : mz_M} {q u n : Nat} (h : cnO m u) (hp : ∀ c, c < 16 → 0 ≤ m (u + 24 + c) 2 ∧ m (u + 24 + c) 2 < 10) (hn : n ≤ 10) (hW : fwO (m (u + 6))) (hq : u + 40 < q) (hL : lnO (m (q + 5))) (hWo : woB (m (q + 6))) : tpO (tpC m q u n) q (tpA m q u).2 (tpB m q u n).2 := by
  have hB := tpB_pl (q := q) (n := n) h hp hn
  have e5 : (tpB m q u n).1 (u + 1 + 5) = m (u + 6) := tpB_o (by omega)
  have hT := mtT_ok (m := (tpB m q u n).1) (q := q) (w := u + 1) (f := (tpB m q u n).2) (i := 0) (t := 0) hB (by rw [e5]; exact hW) (by rw [tpB_o (by omega)]; exact hL)
  refine ⟨?_, ?_, hB.2.2.1, hB.2.2.2.1, fun k hk => ?_, fun k hk => ?_⟩
  · unfold tpC; rw [rowS_o (by omega)]; exact hB.1
  · unfold tpC; rw [rowS_o (by omega)]; exact hB.2.1
  · unfold tpC; rw [rowS_at hk]; exact hT k hk
  · rw [tpC_o (by omega)]; exact hWo k hk
set_option maxRecDepth 8000 in
theorem sp_tplan (m : mz_M) {q u n : Nat} (h : cnO m u) (ht : 0 ≤ m u 3 ∧ m u 3 ≤ 100000) (hp : ∀ c, c < 16 → 0 ≤ m (u + 24 + c) 2 ∧ m (u + 24 + c) 2 < 10) (hn : n ≤ 10) (h0 : m (u + 1) 0 = n) (hpd : ∀ p, p < 10 → 0 ≤ m (u + 4) p ∧ m (u + 4) p ≤ 1000) (hW : fwO (m (u + 6))) (hq : u + 40 < q) (hL : lnO (m (q + 5))) (hWo : woB (m (q + 6))) :
    ∃ T', weI (tpC m q u n (q + 4)) (tpC m q u n (q + 5)) T' (tpB m q u n).2 (tpA m q u).2 0 0 (tpB m q u n).2 ∧ sp 262 [mz_r 3 0 q, mz_r 6 0 u] m none (tbS q (tpA m q u).2 (tpB m q u n).2 (tpA m q u).2 0 0 (tbF (rowS (tpC m q u n) (q + 6) 896 T') (tpB m q u n).2 q (m u 4)) (mz_up (rowS (tpC m q u n) (q + 6) 896 T') q 11 0)) := by
  have hC := tpC_tp (q := q) (n := n) h hp hn hW hq hL hWo
  have hB := tpB_pl (q := q) (n := n) h hp hn
  obtain ⟨T', hT', hk⟩ := sp_weighStates (tpC m q u n) hC
  refine ⟨T', hT', ?_⟩
  have e5 : (tpB m q u n).1 (u + 1 + 5) = m (u + 6) := tpB_o (by omega)
  have hA : ∀ b, b < q → (tpA m q u).1 b = m b := fun b hb => by
    funext i
    exact (chS_ok (m := m) (q := q) (u := u) (a := bs (ctt m u) 16) 16).2.2 b i (by omega) (by omega) (by omega)
  refine mz_cl_vc 60 (fun _ => false) [some (mz_r 3 0 q), some (mz_r 6 0 u)] rfl ?_
  simp only [vcS0, vcS1, vcS2, vcS3, vcS4, vcS5, vcS6, vc_n0, vc_lk, vc_pop, vc_rc, vc_tsw, vc_fr, vc_ar, vc_tb, mz_nx, List.set_cons_zero, List.set_cons_succ, Nat.reduceAdd, Nat.reduceBEq, Nat.reduceEqDiff, Nat.reduceLeDiff, Nat.reduceLT, Nat.reduceMul, Int.reduceToNat, Bool.false_eq_true, Bool.or_self, Bool.or_true, Bool.true_or, Bool.or_false, reduceIte, Option.toList_some, Option.toList_none, List.nil_append, List.cons_append, List.length_cons, List.length_nil, true_and, and_true, Int.cast_ofNat_Int, Int.reduceEq, Int.reduceLT, Int.reduceLE, Nat.zero_le, and_self, or_true, true_or, cdS_262]
  refine ⟨_, _, sp_chooseCandidates m h ht hq, ?_⟩
  simp only [vcS0, vcS1, vcS2, vcS3, vcS4, vcS5, vcS6, vc_n0, vc_lk, vc_pop, vc_rc, vc_tsw, vc_fr, vc_ar, vc_tb, mz_nx, List.set_cons_zero, List.set_cons_succ, Nat.reduceAdd, Nat.reduceBEq, Nat.reduceEqDiff, Nat.reduceLeDiff, Nat.reduceLT, Nat.reduceMul, Int.reduceToNat, Bool.false_eq_true, Bool.or_self, Bool.or_true, Bool.true_or, Bool.or_false, reduceIte, Option.toList_some, Option.toList_none, List.nil_append, List.cons_append, List.length_cons, List.length_nil, true_and, and_true, Int.cast_ofNat_Int, Int.reduceEq, Int.reduceLT, Int.reduceLE, Nat.zero_le, and_self, or_true, true_or, cdS_262]
  rw [show (chS m q u (bs (ctt m u) 16) 16).1 = (tpA m q u).1 from rfl]
  refine ⟨_, _, sp_choosePounds (tpA m q u).1 hn (by rw [hA _ (by omega)]; exact h0) (fun p hp => by rw [hA _ (by omega)]; exact hpd p hp) hq, ?_⟩
  simp only [vcS0, vcS1, vcS2, vcS3, vcS4, vcS5, vcS6, vc_n0, vc_lk, vc_pop, vc_rc, vc_tsw, vc_fr, vc_ar, vc_tb, mz_nx, List.set_cons_zero, List.set_cons_succ, Nat.reduceAdd, Nat.reduceBEq, Nat.reduceEqDiff, Nat.reduceLeDiff, Nat.reduceLT, Nat.reduceMul, Int.reduceToNat, Bool.false_eq_true, Bool.or_self, Bool.or_true, Bool.true_or, Bool.or_false, reduceIte, Option.toList_some, Option.toList_none, List.nil_append, List.cons_append, List.length_cons, List.length_nil, true_and, and_true, Int.cast_ofNat_Int, Int.reduceEq, Int.reduceLT, Int.reduceLE, Nat.zero_le, and_self, or_true, true_or, cdS_262]
  rw [show (cpS (tpA m q u).1 q u n).1 = (tpB m q u n).1 from rfl]
  refine ⟨_, _, sp_measureTrips (tpB m q u n).1 (w := u + 1) hB (by rw [e5]; exact hW) (by omega), ?_⟩
  simp only [vcS0, vcS1, vcS2, vcS3, vcS4, vcS5, vcS6, vc_n0, vc_lk, vc_pop, vc_rc, vc_tsw, vc_fr, vc_ar, vc_tb, mz_nx, List.set_cons_zero, List.set_cons_succ, Nat.reduceAdd, Nat.reduceBEq, Nat.reduceEqDiff, Nat.reduceLeDiff, Nat.reduceLT, Nat.reduceMul, Int.reduceToNat, Bool.false_eq_true, Bool.or_self, Bool.or_true, Bool.true_or, Bool.or_false, reduceIte, Option.toList_some, Option.toList_none, List.nil_append, List.cons_append, List.length_cons, List.length_nil, true_and, and_true, Int.cast_ofNat_Int, Int.reduceEq, Int.reduceLT, Int.reduceLE, Nat.zero_le, and_self, or_true, true_or, cdS_262]
  rw [show rowS (tpB m q u n).1 (q + 5) 24 (mtT (tpB m q u n).1 q (u + 1) (tpA m q u).2 (tpB m q u n).2 (tpB m q u n).2 0 0) = tpC m q u n from rfl]
  refine ⟨_, _, hk, ?_⟩
  simp only [vcS0, vcS1, vcS2, vcS3, vcS4, vcS5, vcS6, vc_n0, vc_lk, vc_pop, vc_rc, vc_tsw, vc_fr, vc_ar, vc_tb, mz_nx, List.set_cons_zero, List.set_cons_succ, Nat.reduceAdd, Nat.reduceBEq, Nat.reduceEqDiff, Nat.reduceLeDiff, Nat.reduceLT, Nat.reduceMul, Int.reduceToNat, Bool.false_eq_true, Bool.or_self, Bool.or_true, Bool.true_or, Bool.or_false, reduceIte, Option.toList_some, Option.toList_none, List.nil_append, List.cons_append, List.length_cons, List.length_nil, true_and, and_true, Int.cast_ofNat_Int, Int.reduceEq, Int.reduceLT, Int.reduceLE, Nat.zero_le, and_self, or_true, true_or, cdS_262]
  have h4 : rowS (tpC m q u n) (q + 6) 896 T' u 4 = m u 4 := by rw [rowS_o (by omega), tpC_o (by omega)]
  rw [h4]
  refine ⟨_, _, sp_takeBestTrips _ (tpO_row hC hT'.1), ?_⟩
  simp only [vcS0, vcS1, vcS2, vcS3, vcS4, vcS5, vcS6, vc_n0, vc_lk, vc_pop, vc_rc, vc_tsw, vc_fr, vc_ar, vc_tb, mz_nx, List.set_cons_zero, List.set_cons_succ, Nat.reduceAdd, Nat.reduceBEq, Nat.reduceEqDiff, Nat.reduceLeDiff, Nat.reduceLT, Nat.reduceMul, Int.reduceToNat, Bool.false_eq_true, Bool.or_self, Bool.or_true, Bool.true_or, Bool.or_false, reduceIte, Option.toList_some, Option.toList_none, List.nil_append, List.cons_append, List.length_cons, List.length_nil, true_and, and_true, Int.cast_ofNat_Int, Int.reduceEq, Int.reduceLT, Int.reduceLE, Nat.zero_le, and_self, or_true, true_or, cdS_262]
