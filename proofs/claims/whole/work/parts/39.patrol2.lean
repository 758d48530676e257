theorem znP_congr {m m' : mz_M} {w : Nat} {p : Int} (h : m' (w + 1) = m (w + 1)) : znP m' w p = znP m w p := by unfold znP; rw [h]
theorem znP_lt (m : mz_M) (w : Nat) (p : Int) : znP m w p < 4 := by unfold znP; split <;> omega
theorem ovr_congr {m m' : mz_M} {u k t : Nat} (h : ∀ a, a < u + 40 → m' a = m a) (hk : k < u + 40) : ovr m' u k t = ovr m u k t := by
  have hz : ∀ p : Nat, zoA m' u p = zoA m u p := fun p => by unfold zoA; rw [znP_congr (h _ (by omega))]
  unfold ovr
  rw [h k hk, hz, h (zoA m u (m k 2).toNat + 1) (by have := znP_lt m (u + 1) ((m k 2).toNat : Nat); unfold zoA; omega)]
theorem tkF_congr {m m' : mz_M} {u k t : Nat} (h : ∀ a, a < u + 40 → m' a = m a) (hk : k < u + 40) : tkF m' u k t = tkF m u k t := by
  unfold tkF
  rw [ovr_congr h hk, h k hk]
theorem tkS_congr {m m' : mz_M} {u p t c : Nat} (h : ∀ a, a < u + 40 → m' a = m a) (hc : c < 16) : tkS m' u p t c = tkS m u p t c := by
  unfold tkS
  rw [tkF_congr h (by omega), h (u + 24 + c) (by omega)]
def fvF (m : mz_M) (u t p : Nat) : Int := sm (tkS m u p t) 16
theorem fv_loop (m : mz_M) {q u t n : Nat} (h : ∀ c, c < 16 → caO m (u + 24 + c) ∧ m (u + 24 + c) 6 ≤ m (u + 24 + c) 5) (h3 : m u 3 = t) (ht : t < 20000) (hn : n ≤ 10) (h0 : m (u + 1) 0 = n) (hq : u + 40 < q) : ∀ (r j : Nat) (x : Option mz_V), j + r = n → sx 261 4 [some (mz_r 2 0 q), some (mz_r 6 0 u), some (mz_i (bs (fun p => decide (0 < fvF m u t p)) j)), some (mz_i j), x] [] (rowS m (q + 1) 10 (fun i => if i < j then fvF m u t i else m (q + 1) i)) (some (mz_i (bs (fun p => decide (0 < fvF m u t p)) n))) (rowS m (q + 1) 10 (fun i => if i < n then fvF m u t i else m (q + 1) i)) := by
  intro r
  induction r with
  | zero =>
    intro j x hj
    obtain rfl : j = n := by omega
    refine mz_vc_ok 60 (ct := fun i => i == 4) ?_
    simp only [vcS0, vcS1, vcS2, vcS3, vcS4, vcS5, vcS6, vc_n0, vc_lk, vc_pop, vc_rc, vc_tsw, vc_fr, vc_ar, vc_tb, mz_nx, List.set_cons_zero, List.set_cons_succ, Nat.reduceAdd, Nat.reduceBEq, Nat.reduceEqDiff, Nat.reduceLeDiff, Nat.reduceLT, Nat.reduceMul, Int.reduceToNat, Bool.false_eq_true, Bool.or_self, Bool.or_true, Bool.true_or, Bool.or_false, reduceIte, Option.toList_some, Option.toList_none, List.nil_append, List.cons_append, List.length_cons, List.length_nil, true_and, and_true, Int.cast_ofNat_Int, Int.reduceEq, Int.reduceLT, Int.reduceLE, Nat.zero_le, and_self, or_true, true_or, cdS_261]
    rw [rowS_o (by omega), if_neg (by omega)]
    trivial
  | succ r ih =>
    intro j x hj
    have hk := fun x => ih (j + 1) x (by omega)
    have hT : (fun i => if i < j + 1 then fvF m u t i else m (q + 1) i) = fun i => if i = j then fvF m u t j else (if i < j then fvF m u t i else m (q + 1) i) := by
      funext i
      by_cases hi : i = j
      · subst hi; rw [if_pos (by omega), if_pos rfl]
      · rw [if_neg hi]
        by_cases hi2 : i < j
        · rw [if_pos hi2, if_pos (by omega)]
        · rw [if_neg hi2, if_neg (by omega)]
    rw [hT] at hk
    generalize hM : rowS m (q + 1) 10 (fun i => if i < j then fvF m u t i else m (q + 1) i) = M
    have hMo : ∀ a, a < u + 40 → M a = m a := fun a ha => by funext i; rw [← hM, rowS_o (by omega)]
    have hcar : ∀ c, c < 16 → caO M (u + 24 + c) ∧ M (u + 24 + c) 6 ≤ M (u + 24 + c) 5 := fun c hc => by
      have := h c hc
      unfold caO at this ⊢
      rw [hMo (u + 24 + c) (by omega)]
      exact this
    have hv := sp_ticketSum M (u := u) (p := j) (t := t) hcar ht
    rw [sm_congr (fun c hc => tkS_congr hMo hc)] at hv
    refine mz_vc_ok 60 (ct := fun i => i == 4) ?_
    simp only [vcS0, vcS1, vcS2, vcS3, vcS4, vcS5, vcS6, vc_n0, vc_lk, vc_pop, vc_rc, vc_tsw, vc_fr, vc_ar, vc_tb, mz_nx, List.set_cons_zero, List.set_cons_succ, Nat.reduceAdd, Nat.reduceBEq, Nat.reduceEqDiff, Nat.reduceLeDiff, Nat.reduceLT, Nat.reduceMul, Int.reduceToNat, Bool.false_eq_true, Bool.or_self, Bool.or_true, Bool.true_or, Bool.or_false, reduceIte, Option.toList_some, Option.toList_none, List.nil_append, List.cons_append, List.length_cons, List.length_nil, true_and, and_true, Int.cast_ofNat_Int, Int.reduceEq, Int.reduceLT, Int.reduceLE, Nat.zero_le, and_self, or_true, true_or, cdS_261]
    rw [show M (u + 1) 0 = n by rw [hMo _ (by omega)]; exact h0, if_pos (by omega), show M u 3 = t by rw [hMo _ (by omega)]; exact h3]
    refine ⟨_, _, hv, ?_⟩
    simp only [vcS0, vcS1, vcS2, vcS3, vcS4, vcS5, vcS6, vc_n0, vc_lk, vc_pop, vc_rc, vc_tsw, vc_fr, vc_ar, vc_tb, mz_nx, List.set_cons_zero, List.set_cons_succ, Nat.reduceAdd, Nat.reduceBEq, Nat.reduceEqDiff, Nat.reduceLeDiff, Nat.reduceLT, Nat.reduceMul, Int.reduceToNat, Bool.false_eq_true, Bool.or_self, Bool.or_true, Bool.true_or, Bool.or_false, reduceIte, Option.toList_some, Option.toList_none, List.nil_append, List.cons_append, List.length_cons, List.length_nil, true_and, and_true, Int.cast_ofNat_Int, Int.reduceEq, Int.reduceLT, Int.reduceLE, Nat.zero_le, and_self, or_true, true_or, cdS_261]
    rw [show sm (tkS m u j t) 16 = fvF m u t j from rfl]
    refine ⟨_, _, sp_putN _ _ (show j < 10 by omega), ?_⟩
    simp only [vcS0, vcS1, vcS2, vcS3, vcS4, vcS5, vcS6, vc_n0, vc_lk, vc_pop, vc_rc, vc_tsw, vc_fr, vc_ar, vc_tb, mz_nx, List.set_cons_zero, List.set_cons_succ, Nat.reduceAdd, Nat.reduceBEq, Nat.reduceEqDiff, Nat.reduceLeDiff, Nat.reduceLT, Nat.reduceMul, Int.reduceToNat, Bool.false_eq_true, Bool.or_self, Bool.or_true, Bool.true_or, Bool.or_false, reduceIte, Option.toList_some, Option.toList_none, List.nil_append, List.cons_append, List.length_cons, List.length_nil, true_and, and_true, Int.cast_ofNat_Int, Int.reduceEq, Int.reduceLT, Int.reduceLE, Nat.zero_le, and_self, or_true, true_or, cdS_261]
    rw [← hM, rowS_up (by omega)]
    by_cases hp : 0 < fvF m u t j
    · rw [if_neg (by omega)]
      have e1 : bs (fun p => decide (0 < fvF m u t p)) (j + 1) = bs (fun p => decide (0 < fvF m u t p)) j + 2 ^ j := by
        rw [bs, if_pos (by simp [hp])]
      rw [e1, ← bs_or _ (by omega)] at hk
      exact ⟨(by unfold mz_w; omega), hk _⟩
    · rw [if_pos (by omega)]
      have e1 : bs (fun p => decide (0 < fvF m u t p)) (j + 1) = bs (fun p => decide (0 < fvF m u t p)) j := by
        rw [bs, if_neg (by simp; omega)]
      rw [e1] at hk
      exact ⟨(by unfold mz_w; omega), hk _⟩
theorem sp_findValues (m : mz_M) {q u t n : Nat} (h : ∀ c, c < 16 → caO m (u + 24 + c) ∧ m (u + 24 + c) 6 ≤ m (u + 24 + c) 5) (h3 : m u 3 = t) (ht : t < 20000) (hn : n ≤ 10) (h0 : m (u + 1) 0 = n) (hq : u + 40 < q) : sp 261 [mz_r 2 0 q, mz_r 6 0 u] m (some (mz_i (bs (fun p => decide (0 < fvF m u t p)) n))) (rowS m (q + 1) 10 (fun i => if i < n then fvF m u t i else m (q + 1) i)) := by
  refine mz_cl_vc 60 (fun i => i == 4) [some (mz_r 2 0 q), some (mz_r 6 0 u), none, none, none] rfl ?_
  simp only [vcS0, vcS1, vcS2, vcS3, vcS4, vcS5, vcS6, vc_n0, vc_lk, vc_pop, vc_rc, vc_tsw, vc_fr, vc_ar, vc_tb, mz_nx, List.set_cons_zero, List.set_cons_succ, Nat.reduceAdd, Nat.reduceBEq, Nat.reduceEqDiff, Nat.reduceLeDiff, Nat.reduceLT, Nat.reduceMul, Int.reduceToNat, Bool.false_eq_true, Bool.or_self, Bool.or_true, Bool.true_or, Bool.or_false, reduceIte, Option.toList_some, Option.toList_none, List.nil_append, List.cons_append, List.length_cons, List.length_nil, true_and, and_true, Int.cast_ofNat_Int, Int.reduceEq, Int.reduceLT, Int.reduceLE, Nat.zero_le, and_self, or_true, true_or, cdS_261]
  have := fv_loop m h h3 ht hn h0 hq n 0 none (by omega)
  rw [show (fun i => if i < 0 then fvF m u t i else m (q + 1) i) = m (q + 1) by funext i; rw [if_neg (by omega)], rowS_self] at this
  exact this
