theorem znP_congr {m m' : mz_M} {w : Nat} {p : Int} (h : m' (w + 1) = m (w + 1)) : znP m' w p = znP m w p := by unfold znP; rw [h]
theorem znP_lt (m : mz_M) (w : Nat) (p : Int) : znP m w p < 4 := by unfold znP; split <;> omega
theorem ovr_congr {m m' : mz_M} {u k t : Nat} (h : ∀ a, a < u + 40 → m' a = m a) (hk : k < u + 40) : ovr m' u k t = ovr m u k t := by
  have hz : ∀ p : Nat, zoA m' u p = zoA m u p := fun p => by unfold zoA; rw [znP_congr (h _ (by omega))]
  unfold ovr
  rw [h k hk, hz, h (zoA m u (m k 2).toNat + 1) (by have := znP_lt m (u + 1) ((m k 2).toNat : Nat); unfold zoA; omega)]
theorem tkF_congr {m m' : mz_M} {u k t : Nat} (h : ∀ a, a < u + 40 → m' a = m a) (hk : k < u + 40) : tkF m' u k t = tkF m u k t := by
  unfold tkF
  rw [ovr_congr h hk, h k hk]
theorem tkS_congr {m m' : mz_M} {u p t c : Nat} (h : ∀ a, a < u + 40 → m' a = m a) (hc : c < 16) : tkS m' u p t c = tkS m u p t c := by
  unfold tkS
  rw [tkF_congr h (by omega), h (u + 24 + c) (by omega)]
def fvF (m : mz_M) (u t p : Nat) : Int := sm (tkS m u p t) 16
theorem fv_loop (m : mz_M) {q u t n : Nat} (h : ∀ c, c < 16 → caO m (u + 24 + c) ∧ m (u + 24 + c) 6 ≤ m (u + 24 + c) 5) (h3 : m u 3 = t) (ht : t < 20000) (hn : n ≤ 10) (h0 : m (u + 1) 0 = n) (hq : u + 40 < q) : ∀ (r j : Nat) (x : Option mz_V), j + r = n → sx 261 4 [some (mz_r 2 0 q), some (mz_r 6 0 u), some (mz_i (bs (fun p => decide (0 < fvF m u t p)) j)), some (mz_i j), x] [] (rowS m (q + 1) 10 (fun i => if i < j then fvF m u t i else m (q + 1) i)) (some (mz_i (bs (fun p => decide (0 < fvF m u t p)) n))) (rowS m (q + 1) 10 (fun i => if i < n then fvF m u t i else m (q + 1) i)) := by
  intro r
  induction r with
  | zero =>
    intro j x hj
    obtain rfl : j = n := by omega
    refine mz_vc_ok 60 (ct := fun i => i == 4) ?_
    simp only [vcS0, vcS1, vcS2, vcS3, vcS4, vcS5, vcS6, vc_n0, vc_lk, vc_pop, vc_rc, vc_tsw, vc_fr, vc_ar, vc_tb, mz_nx, List.set_cons_zero, List.set_cons_succ, Nat.reduceAdd, Nat.reduceBEq, Nat.reduceEqDiff, Nat.reduceLeDiff, Nat.reduceLT, Nat.reduceMul, Int.reduceToNat, Bool.false_eq_true, Bool.or_self, Bool.or_true, Bool.true_or, Bool.or_false, reduceIte, Option.toList_some, Option.toList_none, List.nil_append, List.cons_append, List.length_cons, List.length_nil, true_and, and_true, Int.cast_ofNat_Int, Int.reduceEq, Int.reduceLT, Int.reduceLE, Nat.zero_le, and_self, or_true, true_or, cdS_261]
    rw [rowS_o (by omega), if_neg (by omega)]
    trivial
  | succ r ih =>
    intro j x hj
    have hk := fun x => ih (j + 1) x (by omega)
    have hT : (fun i => if i < j + 1 then fvF m u t i else m (q + 1) i) = fun i => if i = j then fvF m u t j else (if i < j then fvF m u t i else m (q + 1) i) := by
      funext i
      by_cases hi : i = j
      · subst hi; rw [if_pos (by omega), if_pos rfl]
      · rw [if_neg hi]
        by_cases hi2 : i < j
        · rw [if_pos hi2, if_pos (by omega)]
        · rw [if_neg hi2, if_neg (by omega)]
    rw [hT] at hk
    generalize hM : rowS m (q + 1) 10 (fun i => if i < j then fvF m u t i else m (q + 1) i) = M
    have hMo : ∀ a, a < u + 40 → M a = m a := fun a ha => by funext i; rw [← hM, rowS_o (by omega)]
    have hcar : ∀ c, c < 16 → caO M (u + 24 + c) ∧ M (u + 24 + c) 6 ≤ M (u + 24 + c) 5 := fun c hc => by
      have := h c hc
      unfold caO at this ⊢
      rw [hMo (u + 24 + c) (by omega)]
      exact this
    have hv := sp_ticketSum M (u := u) (p := j) (t := t) hcar ht
    rw [sm_congr (fun c hc => tkS_congr hMo hc)] at hv
    refine mz_vc_ok 60 (ct := fun i => i == 4) ?_
    simp only [vcS0, vcS1, vcS2, vcS3, vcS4, vcS5, vcS6, vc_n0, vc_lk, vc_pop, vc_rc, vc_tsw, vc_fr, vc_ar, vc_tb, mz_nx, List.set_cons_zero, List.set_cons_succ, Nat.reduceAdd, Nat.reduceBEq, Nat.reduceEqDiff, Nat.reduceLeDiff, Nat.reduceLT, Nat.reduceMul, Int.reduceToNat, Bool.false_eq_true, Bool.or_self, Bool.or_true, Bool.true_or, Bool.or_false, reduceIte, Option.toList_some, Option.toList_none, List.nil_append, List.cons_append, List.length_cons, List.length_nil, true_and, and_true, Int.cast_ofNat_Int, Int.reduceEq, Int.reduceLT, Int.reduceLE, Nat.zero_le, and_self, or_true, true_or, cdS_261]
    rw [show M (u + 1) 0 = n by rw [hMo _ (by omega)]; exact h0, if_pos (by omega), show M u 3 = t by rw [hMo _ (by omega)]; exact h3]
    refine ⟨_, _, hv, ?_⟩
    simp only [vcS0, vcS1, vcS2, vcS3, vcS4, vcS5, vcS6, vc_n0, vc_lk, vc_pop, vc_rc, vc_tsw, vc_fr, vc_ar, vc_tb, mz_nx, List.set_cons_zero, List.set_cons_succ, Nat.reduceAdd, Nat.reduceBEq, Nat.reduceEqDiff, Nat.reduceLeDiff, Nat.reduceLT, Nat.reduceMul, Int.reduceToNat, Bool.false_eq_true, Bool.or_self, Bool.or_true, Bool.true_or, Bool.or_false, reduceIte, Option.toList_some, Option.toList_none, List.nil_append, List.cons_append, List.length_cons, List.length_nil, true_and, and_true, Int.cast_ofNat_Int, Int.reduceEq, Int.reduceLT, Int.reduceLE, Nat.zero_le, and_self, or_true, true_or, cdS_261]
    rw [show sm (tkS m u j t) 16 = fvF m u t j from rfl]
    refine ⟨_, _, sp_putN _ _ (show j < 10 by omega), ?_⟩
    simp only [vcS0, vcS1, vcS2, vcS3, vcS4, vcS5, vcS6, vc_n0, vc_lk, vc_pop, vc_rc, vc_tsw, vc_fr, vc_ar, vc_tb, mz_nx, List.set_cons_zero, List.set_cons_succ, Nat.reduceAdd, Nat.reduceBEq, Nat.reduceEqDiff, Nat.reduceLeDiff, Nat.reduceLT, Nat.reduceMul, Int.reduceToNat, Bool.false_eq_true, Bool.or_self, Bool.or_true, Bool.true_or, Bool.or_false, reduceIte, Option.toList_some, Option.toList_none, List.nil_append, List.cons_append, List.length_cons, List.length_nil, true_and, and_true, Int.cast_ofNat_Int, Int.reduceEq, Int.reduceLT, Int.reduceLE, Nat.zero_le, and_self, or_true, true_or, cdS_261]
    rw [← hM, rowS_up (by omega)]
    by_cases hp : 0 < fvF m u t j
    · rw [if_neg (by omega)]
      have e1 : bs (fun p => decide (0 < fvF m u t p)) (j + 1) = bs (fun p => decide (0 < fvF m u t p)) j + 2 ^ j := by
        rw [bs, if_pos (by simp [hp])]
      rw [e1, ← bs_or _ (by omega)] at hk
      exact ⟨(by unfold mz_w; omega), hk _⟩
    · rw [if_pos (by omega)]
      have e1 : bs (fun p => decide (0 < fvF m u t p)) (j + 1) = bs (fun p => decide (0 < fvF m u t p)) j := by
        rw [bs, if_neg (by simp; omega)]
      rw [e1] at hk
      exact ⟨(by unfold mz_w; omega), hk _⟩
theorem sp_findValues (m : mz_M) {q u t n : Nat} (h : ∀ c, c < 16 → caO m (u + 24 + c) ∧ m (u + 24 + c) 6 ≤ m (u + 24 + c) 5) (h3 : m u 3 = t) (ht : t < 20000) (hn : n ≤ 10) (h0 : m (u + 1) 0 = n) (hq : u + 40 < q) : sp 261 [mz_r 2 0 q, mz_r 6 0 u] m (some (mz_i (bs (fun p => decide (0 < fvF m u t p)) n))) (rowS m (q + 1) 10 (fun i => if i < n then fvF m u t i else m (q + 1) i)) := by
  refine mz_cl_vc 60 (fun i => i == 4) [some (mz_r 2 0 q), some (mz_r 6 0 u), none, none, none] rfl ?_
  simp only [vcS0, vcS1, vcS2, vcS3, vcS4, vcS5, vcS6, vc_n0, vc_lk, vc_pop, vc_rc, vc_tsw, vc_fr, vc_ar, vc_tb, mz_nx, List.set_cons_zero, List.set_cons_succ, Nat.reduceAdd, Nat.reduceBEq, Nat.reduceEqDiff, Nat.reduceLeDiff, Nat.reduceLT, Nat.reduceMul, Int.reduceToNat, Bool.false_eq_true, Bool.or_self, Bool.or_true, Bool.true_or, Bool.or_false, reduceIte, Option.toList_some, Option.toList_none, List.nil_append, List.cons_append, List.length_cons, List.length_nil, true_and, and_true, Int.cast_ofNat_Int, Int.reduceEq, Int.reduceLT, Int.reduceLE, Nat.zero_le, and_self, or_true, true_or, cdS_261]
  have := fv_loop m h h3 ht hn h0 hq n 0 none (by omega)
  rw [show (fun i => if i < 0 then fvF m u t i else m (q + 1) i) = m (q + 1) by funext i; rw [if_neg (by omega)], rowS_self] at this
  exact this
theorem csM_o {m : mz_M} {q w st n s a i : Nat} {t : Int} (h : a ≠ q) (h2 : a ≠ q + 2) : csM m q w st n t s a i = m a i := by
  unfold csM
  split <;> simp (disch := omega) only [up_o, rowS_o]
theorem csM_q {m : mz_M} {q w st n s : Nat} {t : Int} : csM m q w st n t s q 2 = m q 2 := by
  unfold csM
  split <;> simp (disch := omega) only [up_k, rowS_o]
theorem csM_S {m : mz_M} {q w st n s : Nat} {t : Int} : ∀ i, i < 10240 → csM m q w st n t s (q + 2) i = (csF (m (q + 1)) (m (w + 5)) st n s (m (q + 2)) n).1 i := by
  intro i hi
  unfold csM
  split
  · rw [up_o (by omega), up_o (by omega), up_o (by omega), rowS_at hi]
  · rw [rowS_at hi]
def plI (q w st n : Nat) (t : Int) (v : Nat) : Nat → Nat → mz_M → mz_M
  | 0, _, m => m
  | r + 1, s, m => plI q w st n t v r (s + 1) (if adn s v = 0 then csM m q w st n t s else m)
def paO (m : mz_M) (q w n st : Nat) : Prop := m w 0 = n ∧ m q 2 = st ∧ fwO (m (w + 5)) ∧ shO (m (q + 2)) ∧ ∀ j, j < n → 0 ≤ m (q + 1) j ∧ m (q + 1) j ≤ 1000000
theorem csM_ok {m : mz_M} {q w n st s : Nat} {t : Int} (hn : n ≤ 10) (hs : s < 1024) (hst : st < 10) (hq : w + 5 < q) (h : paO m q w n st) : paO (csM m q w st n t s) q w n st := by
  obtain ⟨h0, h2, hW, hS, hV⟩ := h
  refine ⟨?_, ?_, fun j hj => ?_, fun j hj => ?_, fun j hj => ?_⟩
  · rw [csM_o (by omega) (by omega)]; exact h0
  · rw [csM_q]; exact h2
  · rw [csM_o (by omega) (by omega)]; exact hW j hj
  · rw [csM_S j hj]; exact (csF_ok hn hs hst hW hS hV n (Nat.le_refl n)).1 j hj
  · rw [csM_o (by omega) (by omega)]; exact hV j hj
theorem pl_loop {q u v n st : Nat} {t : Int} (hn : n ≤ 10) (hst : st < 10) (hv : v < 1024) (hq : u + 40 < q) : ∀ (r s : Nat) (m : mz_M), s + r = 2 ^ n → paO m q (u + 1) n st → sx 277 18 [some (mz_r 2 0 q), some (mz_r 6 0 u), some (mz_i st), some (mz_i t), some (mz_i v), some (mz_i s)] [] m none (plI q (u + 1) st n t v r s m) := by
  have hp : 2 ^ n ≤ 1024 := Nat.pow_le_pow_right (by omega) (show n ≤ 10 from hn)
  have e : mz_shl 1 n = ((2 ^ n : Nat) : Int) := by
    have := shl_n (a := 1) (k := n) (by omega) (by omega)
    rwa [Nat.one_mul] at this
  intro r
  induction r with
  | zero =>
    intro s m hs ho
    unfold plI
    refine mz_vc_ok 60 (ct := fun i => i == 18) ?_
    simp only [vcS0, vcS1, vcS2, vcS3, vcS4, vcS5, vcS6, vc_n0, vc_lk, vc_pop, vc_rc, vc_tsw, vc_fr, vc_ar, vc_tb, mz_nx, List.set_cons_zero, List.set_cons_succ, Nat.reduceAdd, Nat.reduceBEq, Nat.reduceEqDiff, Nat.reduceLeDiff, Nat.reduceLT, Nat.reduceMul, Int.reduceToNat, Bool.false_eq_true, Bool.or_self, Bool.or_true, Bool.true_or, Bool.or_false, reduceIte, Option.toList_some, Option.toList_none, List.nil_append, List.cons_append, List.length_cons, List.length_nil, true_and, and_true, Int.cast_ofNat_Int, Int.reduceEq, Int.reduceLT, Int.reduceLE, Nat.zero_le, and_self, or_true, true_or, cdS_277]
    rw [ho.1, e, if_neg (by omega)]
    trivial
  | succ r ih =>
    intro s m hs ho
    obtain ⟨h0, h2, hW, hS, hV⟩ := ho
    unfold plI
    refine mz_vc_ok 60 (ct := fun i => i == 18) ?_
    simp only [vcS0, vcS1, vcS2, vcS3, vcS4, vcS5, vcS6, vc_n0, vc_lk, vc_pop, vc_rc, vc_tsw, vc_fr, vc_ar, vc_tb, mz_nx, List.set_cons_zero, List.set_cons_succ, Nat.reduceAdd, Nat.reduceBEq, Nat.reduceEqDiff, Nat.reduceLeDiff, Nat.reduceLT, Nat.reduceMul, Int.reduceToNat, Bool.false_eq_true, Bool.or_self, Bool.or_true, Bool.true_or, Bool.or_false, reduceIte, Option.toList_some, Option.toList_none, List.nil_append, List.cons_append, List.length_cons, List.length_nil, true_and, and_true, Int.cast_ofNat_Int, Int.reduceEq, Int.reduceLT, Int.reduceLE, Nat.zero_le, and_self, or_true, true_or, cdS_277]
    rw [h0, e, if_pos (by omega), andn_n (by omega) (by omega)]
    by_cases hc : adn s v = 0
    · rw [if_pos (by omega), if_pos hc]
      refine ⟨_, _, sp_considerSet m hn h0 (by omega) hst h2 hW hS hV (by omega), ?_⟩
      simp only [vcS0, vcS1, vcS2, vcS3, vcS4, vcS5, vcS6, vc_n0, vc_lk, vc_pop, vc_rc, vc_tsw, vc_fr, vc_ar, vc_tb, mz_nx, List.set_cons_zero, List.set_cons_succ, Nat.reduceAdd, Nat.reduceBEq, Nat.reduceEqDiff, Nat.reduceLeDiff, Nat.reduceLT, Nat.reduceMul, Int.reduceToNat, Bool.false_eq_true, Bool.or_self, Bool.or_true, Bool.true_or, Bool.or_false, reduceIte, Option.toList_some, Option.toList_none, List.nil_append, List.cons_append, List.length_cons, List.length_nil, true_and, and_true, Int.cast_ofNat_Int, Int.reduceEq, Int.reduceLT, Int.reduceLE, Nat.zero_le, and_self, or_true, true_or, cdS_277]
      exact ⟨(by unfold mz_w; omega), ih (s + 1) _ (by omega) (csM_ok hn (by omega) hst (by omega) ⟨h0, h2, hW, hS, hV⟩)⟩
    · rw [if_neg (by omega), if_neg hc]
      exact ⟨(by unfold mz_w; omega), ih (s + 1) _ (by omega) ⟨h0, h2, hW, hS, hV⟩⟩
def pvM (m : mz_M) (q u st t n : Nat) : mz_M := rowS (mz_up (mz_up (mz_up (mz_up m q 2 st) q 3 0) q 4 0) q 5 0) (q + 1) 10 (fun i => if i < n then fvF m u t i else m (q + 1) i)
theorem fvF_congr {m m' : mz_M} {u t p : Nat} (h : ∀ a, a < u + 40 → m' a = m a) : fvF m' u t p = fvF m u t p := sm_congr fun _ hc => tkS_congr h hc
theorem fvF_ok {m : mz_M} {u t p : Nat} (h : ∀ c, c < 16 → caO m (u + 24 + c) ∧ m (u + 24 + c) 6 ≤ m (u + 24 + c) 5) : 0 ≤ fvF m u t p ∧ fvF m u t p ≤ 8500 * 16 :=
  ⟨sm_0 fun i hi => (tks_ok (h i hi).1 (h i hi).2).1, sm_ub fun i hi => (tks_ok (h i hi).1 (h i hi).2).2⟩
theorem sp_pplan (m : mz_M) {q u t n st : Nat} {k : Int} (h : ∀ c, c < 16 → caO m (u + 24 + c) ∧ m (u + 24 + c) 6 ≤ m (u + 24 + c) 5) (h3 : m u 3 = t) (ht : t < 20000) (hn : n ≤ 10) (h0 : m (u + 1) 0 = n) (hst : st < 10) (hq : u + 40 < q) (hW : fwO (m (u + 6))) (hS : shO (m (q + 2))) : sp 277 [mz_r 2 0 q, mz_r 6 0 u, mz_i st, mz_i k] m none (plI q (u + 1) st n k (bs (fun p => decide (0 < fvF m u t p)) n) (2 ^ n - 1) 1 (pvM m q u st t n)) := by
  have hm : ∀ a, a < u + 40 → mz_up (mz_up (mz_up (mz_up m q 2 st) q 3 0) q 4 0) q 5 0 a = m a := fun a ha => by funext i; simp (disch := omega) only [up_o]
  have hp : 2 ^ n ≤ 1024 := Nat.pow_le_pow_right (by omega) (show n ≤ 10 from hn)
  have hp1 : 1 ≤ 2 ^ n := Nat.one_le_two_pow
  refine mz_cl_vc 60 (fun i => i == 18) [some (mz_r 2 0 q), some (mz_r 6 0 u), some (mz_i st), some (mz_i k), none, none] rfl ?_
  simp only [vcS0, vcS1, vcS2, vcS3, vcS4, vcS5, vcS6, vc_n0, vc_lk, vc_pop, vc_rc, vc_tsw, vc_fr, vc_ar, vc_tb, mz_nx, List.set_cons_zero, List.set_cons_succ, Nat.reduceAdd, Nat.reduceBEq, Nat.reduceEqDiff, Nat.reduceLeDiff, Nat.reduceLT, Nat.reduceMul, Int.reduceToNat, Bool.false_eq_true, Bool.or_self, Bool.or_true, Bool.true_or, Bool.or_false, reduceIte, Option.toList_some, Option.toList_none, List.nil_append, List.cons_append, List.length_cons, List.length_nil, true_and, and_true, Int.cast_ofNat_Int, Int.reduceEq, Int.reduceLT, Int.reduceLE, Nat.zero_le, and_self, or_true, true_or, cdS_277]
  have hf := sp_findValues (mz_up (mz_up (mz_up (mz_up m q 2 st) q 3 0) q 4 0) q 5 0) (q := q) (u := u) (t := t) (n := n) (fun c hc => by
    have := h c hc
    unfold caO at this ⊢
    rw [hm _ (by omega)]
    exact this) (by rw [hm _ (by omega)]; exact h3) ht hn (by rw [hm _ (by omega)]; exact h0) hq
  rw [show (fun p => decide (0 < fvF (mz_up (mz_up (mz_up (mz_up m q 2 st) q 3 0) q 4 0) q 5 0) u t p)) = fun p => decide (0 < fvF m u t p) by funext p; rw [fvF_congr hm]] at hf
  rw [show (fun i => if i < n then fvF (mz_up (mz_up (mz_up (mz_up m q 2 st) q 3 0) q 4 0) q 5 0) u t i else mz_up (mz_up (mz_up (mz_up m q 2 st) q 3 0) q 4 0) q 5 0 (q + 1) i) = fun i => if i < n then fvF m u t i else m (q + 1) i by funext i; rw [fvF_congr hm]; simp (disch := omega) only [up_o]] at hf
  refine ⟨_, _, hf, ?_⟩
  simp only [vcS0, vcS1, vcS2, vcS3, vcS4, vcS5, vcS6, vc_n0, vc_lk, vc_pop, vc_rc, vc_tsw, vc_fr, vc_ar, vc_tb, mz_nx, List.set_cons_zero, List.set_cons_succ, Nat.reduceAdd, Nat.reduceBEq, Nat.reduceEqDiff, Nat.reduceLeDiff, Nat.reduceLT, Nat.reduceMul, Int.reduceToNat, Bool.false_eq_true, Bool.or_self, Bool.or_true, Bool.true_or, Bool.or_false, reduceIte, Option.toList_some, Option.toList_none, List.nil_append, List.cons_append, List.length_cons, List.length_nil, true_and, and_true, Int.cast_ofNat_Int, Int.reduceEq, Int.reduceLT, Int.reduceLE, Nat.zero_le, and_self, or_true, true_or, cdS_277]
  refine pl_loop hn hst (Nat.lt_of_lt_of_le (bs_lt _ n) hp) hq (2 ^ n - 1) 1 _ (by omega) ⟨?_, ?_, fun j hj => ?_, fun j hj => ?_, fun j hj => ?_⟩
  · simp (disch := omega) only [rowS_o, up_o]; exact h0
  · simp (disch := omega) only [rowS_o, up_k, up_s]
  · simp (disch := omega) only [rowS_o, up_o]; exact hW j hj
  · simp (disch := omega) only [rowS_o, up_o]; exact hS j hj
  · have := fvF_ok (t := t) (p := j) h
    rw [rowS_at (by omega), if_pos hj]
    omega
