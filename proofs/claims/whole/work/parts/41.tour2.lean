def ptU (m : mz_M) (o n k : Nat) (v : Int) : mz_M := if k < n then mz_up m o k v else m
theorem ptU_o {m : mz_M} {o n k a j : Nat} {v : Int} (h : a ≠ o) : ptU m o n k v a j = m a j := by
  unfold ptU
  split
  · exact up_o h
  · rfl
theorem sp_ptU (m : mz_M) (n o k : Nat) (v : Int) : sp 31 [mz_r 100 n o, mz_i k, mz_i v] m none (ptU m o n k v) := by
  have := sp_put m n o k v
  unfold ptU
  rw [Int.toNat_natCast] at this
  by_cases h : k < n
  · rw [if_pos h]; rwa [if_pos (by omega)] at this
  · rw [if_neg h]; rwa [if_neg (by omega)] at this
def chP (m : mz_M) (u a c : Nat) : Prop := a / 2 ^ c % 2 = 1 ∧ sm (ccN m u (u + 24 + c) a) 16 < 6
def chS (m : mz_M) (q u a : Nat) : Nat → mz_M × Nat
  | 0 => (mz_up m q 9 0, 0)
  | j + 1 => if a / 2 ^ j % 2 = 1 ∧ sm (ccN m u (u + 24 + j) a) 16 < 6 then
      (mz_up (ptU (ptU (chS m q u a j).1 (q + 1) 6 (chS m q u a j).2 j) (q + 2) 6 (chS m q u a j).2 (m (u + 24 + j) 2)) q 9 ((chS m q u a j).2 + 1 : Nat), (chS m q u a j).2 + 1)
    else chS m q u a j
theorem chS_ok {m : mz_M} {q u a : Nat} : ∀ j, (chS m q u a j).1 q 9 = (chS m q u a j).2 ∧ (chS m q u a j).2 ≤ j ∧ ∀ b i, b ≠ q + 1 → b ≠ q + 2 → (b ≠ q ∨ i ≠ 9) → (chS m q u a j).1 b i = m b i := by
  intro j
  induction j with
  | zero => exact ⟨by simp [chS, up_s], Nat.le_refl _, fun b i _ _ h => by simp only [chS]; exact up_n (by omega)⟩
  | succ j ih =>
    unfold chS
    split
    · refine ⟨up_s, by simp only; omega, fun b i h1 h2 h3 => ?_⟩
      simp only
      rw [up_n (by omega), ptU_o h2, ptU_o h1]
      exact ih.2.2 b i h1 h2 h3
    · exact ⟨ih.1, by omega, ih.2.2⟩
theorem ccN_congr {m m' : mz_M} {u k a c : Nat} (h : ∀ b, b < u + 40 → m' b = m b) (hk : k < u + 40) (hc : c < 16) : ccN m' u k a c = ccN m u k a c := by
  unfold ccN
  rw [h (u + 24 + c) (by omega), h k hk]
theorem ch_loop (m : mz_M) {q u a : Nat} (h : cnO m u) (ha : a < 65536) (hq : u + 40 < q) : ∀ (r j : Nat) (x : Option mz_V), j + r = 16 → sx 131 14 [some (mz_r 3 0 q), some (mz_r 6 0 u), some (mz_i a), some (mz_r 104 16 (u + 16)), some (mz_i 16), some (mz_i j), x] [] (chS m q u a j).1 none (chS m q u a 16).1 := by
  intro r
  induction r with
  | zero =>
    intro j x hj
    obtain rfl : j = 16 := by omega
    refine mz_vc_ok 60 (ct := fun i => i == 14) ?_
    simp only [vcS0, vcS1, vcS2, vcS3, vcS4, vcS5, vcS6, vc_n0, vc_lk, vc_pop, vc_rc, vc_tsw, vc_fr, vc_ar, vc_tb, mz_nx, List.set_cons_zero, List.set_cons_succ, Nat.reduceAdd, Nat.reduceBEq, Nat.reduceEqDiff, Nat.reduceLeDiff, Nat.reduceLT, Nat.reduceMul, Int.reduceToNat, Bool.false_eq_true, Bool.or_self, Bool.or_true, Bool.true_or, Bool.or_false, reduceIte, Option.toList_some, Option.toList_none, List.nil_append, List.cons_append, List.length_cons, List.length_nil, true_and, and_true, Int.cast_ofNat_Int, Int.reduceEq, Int.reduceLT, Int.reduceLE, Nat.zero_le, and_self, or_true, true_or, cdS_131]
  | succ r ih =>
    intro j x hj
    have hk := fun x => ih (j + 1) x (by omega)
    have ho := chS_ok (m := m) (q := q) (u := u) (a := a) j
    unfold chS at hk
    generalize chS m q u a j = C at hk ho ⊢
    have hC : ∀ b, b < u + 40 → C.1 b = m b := fun b hb => by funext i; exact ho.2.2 b i (by omega) (by omega) (by omega)
    have hcn : cnO C.1 u := fun c hc => by rw [hC _ (by omega)]; exact h c hc
    have hb := sp_countBefore C.1 (q := q) (k := u + 24 + j) hcn ha
    rw [sm_congr (fun c hc => ccN_congr hC (by omega) hc)] at hb
    refine mz_vc_ok 60 (ct := fun i => i == 14) ?_
    simp only [vcS0, vcS1, vcS2, vcS3, vcS4, vcS5, vcS6, vc_n0, vc_lk, vc_pop, vc_rc, vc_tsw, vc_fr, vc_ar, vc_tb, mz_nx, List.set_cons_zero, List.set_cons_succ, Nat.reduceAdd, Nat.reduceBEq, Nat.reduceEqDiff, Nat.reduceLeDiff, Nat.reduceLT, Nat.reduceMul, Int.reduceToNat, Bool.false_eq_true, Bool.or_self, Bool.or_true, Bool.true_or, Bool.or_false, reduceIte, Option.toList_some, Option.toList_none, List.nil_append, List.cons_append, List.length_cons, List.length_nil, true_and, and_true, Int.cast_ofNat_Int, Int.reduceEq, Int.reduceLT, Int.reduceLE, Nat.zero_le, and_self, or_true, true_or, cdS_131]
    rw [if_pos (by omega), Int.toNat_natCast, show u + 16 + (8 + 1 * j) = u + 24 + j by omega, hcn j (by omega)]
    refine ⟨by omega, ?_⟩
    refine ⟨_, _, sp_contains _ (by omega) (by omega), ?_⟩
    by_cases h1 : a / 2 ^ j % 2 = 1
    · rw [if_pos h1]
      simp only [vcS0, vcS1, vcS2, vcS3, vcS4, vcS5, vcS6, vc_n0, vc_lk, vc_pop, vc_rc, vc_tsw, vc_fr, vc_ar, vc_tb, mz_nx, List.set_cons_zero, List.set_cons_succ, Nat.reduceAdd, Nat.reduceBEq, Nat.reduceEqDiff, Nat.reduceLeDiff, Nat.reduceLT, Nat.reduceMul, Int.reduceToNat, Bool.false_eq_true, Bool.or_self, Bool.or_true, Bool.true_or, Bool.or_false, reduceIte, Option.toList_some, Option.toList_none, List.nil_append, List.cons_append, List.length_cons, List.length_nil, true_and, and_true, Int.cast_ofNat_Int, Int.reduceEq, Int.reduceLT, Int.reduceLE, Nat.zero_le, and_self, or_true, true_or, cdS_131]
      refine ⟨_, _, hb, ?_⟩
      simp only [vcS0, vcS1, vcS2, vcS3, vcS4, vcS5, vcS6, vc_n0, vc_lk, vc_pop, vc_rc, vc_tsw, vc_fr, vc_ar, vc_tb, mz_nx, List.set_cons_zero, List.set_cons_succ, Nat.reduceAdd, Nat.reduceBEq, Nat.reduceEqDiff, Nat.reduceLeDiff, Nat.reduceLT, Nat.reduceMul, Int.reduceToNat, Bool.false_eq_true, Bool.or_self, Bool.or_true, Bool.true_or, Bool.or_false, reduceIte, Option.toList_some, Option.toList_none, List.nil_append, List.cons_append, List.length_cons, List.length_nil, true_and, and_true, Int.cast_ofNat_Int, Int.reduceEq, Int.reduceLT, Int.reduceLE, Nat.zero_le, and_self, or_true, true_or, cdS_131]
      by_cases h2 : sm (ccN m u (u + 24 + j) a) 16 < 6
      · rw [if_pos (by omega), ho.1, hcn j (by omega)]
        rw [if_pos ⟨h1, h2⟩] at hk
        refine ⟨_, _, sp_ptU _ 6 (q + 1) _ _, ?_⟩
        simp only [vcS0, vcS1, vcS2, vcS3, vcS4, vcS5, vcS6, vc_n0, vc_lk, vc_pop, vc_rc, vc_tsw, vc_fr, vc_ar, vc_tb, mz_nx, List.set_cons_zero, List.set_cons_succ, Nat.reduceAdd, Nat.reduceBEq, Nat.reduceEqDiff, Nat.reduceLeDiff, Nat.reduceLT, Nat.reduceMul, Int.reduceToNat, Bool.false_eq_true, Bool.or_self, Bool.or_true, Bool.true_or, Bool.or_false, reduceIte, Option.toList_some, Option.toList_none, List.nil_append, List.cons_append, List.length_cons, List.length_nil, true_and, and_true, Int.cast_ofNat_Int, Int.reduceEq, Int.reduceLT, Int.reduceLE, Nat.zero_le, and_self, or_true, true_or, cdS_131]
        rw [ptU_o (by omega), ptU_o (by omega), ho.1, hC (u + 24 + j) (by omega)]
        refine ⟨_, _, sp_ptU _ 6 (q + 2) _ _, ?_⟩
        simp only [vcS0, vcS1, vcS2, vcS3, vcS4, vcS5, vcS6, vc_n0, vc_lk, vc_pop, vc_rc, vc_tsw, vc_fr, vc_ar, vc_tb, mz_nx, List.set_cons_zero, List.set_cons_succ, Nat.reduceAdd, Nat.reduceBEq, Nat.reduceEqDiff, Nat.reduceLeDiff, Nat.reduceLT, Nat.reduceMul, Int.reduceToNat, Bool.false_eq_true, Bool.or_self, Bool.or_true, Bool.true_or, Bool.or_false, reduceIte, Option.toList_some, Option.toList_none, List.nil_append, List.cons_append, List.length_cons, List.length_nil, true_and, and_true, Int.cast_ofNat_Int, Int.reduceEq, Int.reduceLT, Int.reduceLE, Nat.zero_le, and_self, or_true, true_or, cdS_131]
        rw [ptU_o (by omega), ptU_o (by omega), ho.1]
        exact ⟨(by unfold mz_w; omega), (by unfold mz_w; omega), hk _⟩
      · rw [if_neg (by omega)]
        rw [if_neg (fun h => h2 h.2)] at hk
        exact ⟨(by unfold mz_w; omega), hk _⟩
    · rw [if_neg h1]
      rw [if_neg (fun h => h1 h.1)] at hk
      simp only [vcS0, vcS1, vcS2, vcS3, vcS4, vcS5, vcS6, vc_n0, vc_lk, vc_pop, vc_rc, vc_tsw, vc_fr, vc_ar, vc_tb, mz_nx, List.set_cons_zero, List.set_cons_succ, Nat.reduceAdd, Nat.reduceBEq, Nat.reduceEqDiff, Nat.reduceLeDiff, Nat.reduceLT, Nat.reduceMul, Int.reduceToNat, Bool.false_eq_true, Bool.or_self, Bool.or_true, Bool.true_or, Bool.or_false, reduceIte, Option.toList_some, Option.toList_none, List.nil_append, List.cons_append, List.length_cons, List.length_nil, true_and, and_true, Int.cast_ofNat_Int, Int.reduceEq, Int.reduceLT, Int.reduceLE, Nat.zero_le, and_self, or_true, true_or, cdS_131]
      exact ⟨(by unfold mz_w; omega), hk _⟩
theorem sp_chooseCandidates (m : mz_M) {q u : Nat} (h : cnO m u) (ht : 0 ≤ m u 3 ∧ m u 3 ≤ 100000) (hq : u + 40 < q) : sp 131 [mz_r 3 0 q, mz_r 6 0 u] m none (chS m q u (bs (ctt m u) 16) 16).1 := by
  refine mz_cl_vc 60 (fun i => i == 14) [some (mz_r 3 0 q), some (mz_r 6 0 u), none, none, none, none, none] rfl ?_
  simp only [vcS0, vcS1, vcS2, vcS3, vcS4, vcS5, vcS6, vc_n0, vc_lk, vc_pop, vc_rc, vc_tsw, vc_fr, vc_ar, vc_tb, mz_nx, List.set_cons_zero, List.set_cons_succ, Nat.reduceAdd, Nat.reduceBEq, Nat.reduceEqDiff, Nat.reduceLeDiff, Nat.reduceLT, Nat.reduceMul, Int.reduceToNat, Bool.false_eq_true, Bool.or_self, Bool.or_true, Bool.true_or, Bool.or_false, reduceIte, Option.toList_some, Option.toList_none, List.nil_append, List.cons_append, List.length_cons, List.length_nil, true_and, and_true, Int.cast_ofNat_Int, Int.reduceEq, Int.reduceLT, Int.reduceLE, Nat.zero_le, and_self, or_true, true_or, cdS_131]
  refine ⟨_, _, sp_carsToTow m h ht, ?_⟩
  simp only [vcS0, vcS1, vcS2, vcS3, vcS4, vcS5, vcS6, vc_n0, vc_lk, vc_pop, vc_rc, vc_tsw, vc_fr, vc_ar, vc_tb, mz_nx, List.set_cons_zero, List.set_cons_succ, Nat.reduceAdd, Nat.reduceBEq, Nat.reduceEqDiff, Nat.reduceLeDiff, Nat.reduceLT, Nat.reduceMul, Int.reduceToNat, Bool.false_eq_true, Bool.or_self, Bool.or_true, Bool.true_or, Bool.or_false, reduceIte, Option.toList_some, Option.toList_none, List.nil_append, List.cons_append, List.length_cons, List.length_nil, true_and, and_true, Int.cast_ofNat_Int, Int.reduceEq, Int.reduceLT, Int.reduceLE, Nat.zero_le, and_self, or_true, true_or, cdS_131]
  exact ch_loop m h (bs_lt _ 16) hq 16 0 none rfl
def cpS (m : mz_M) (q u : Nat) : Nat → mz_M × Nat
  | 0 => (mz_up m q 10 0, 0)
  | j + 1 => if 0 < m (u + 4) j ∧ (cpS m q u j).2 < 2 then
      (mz_up (mz_up (mz_up (cpS m q u j).1 (q + 3) (cpS m q u j).2 j) (q + 4) (cpS m q u j).2 (m (u + 4) j - sm (pnd m u j) 16)) q 10 ((cpS m q u j).2 + 1 : Nat), (cpS m q u j).2 + 1)
    else cpS m q u j
theorem cpS_ok {m : mz_M} {q u : Nat} : ∀ j, (cpS m q u j).1 q 10 = (cpS m q u j).2 ∧ (cpS m q u j).2 ≤ 2 ∧ ∀ b i, b ≠ q + 3 → b ≠ q + 4 → (b ≠ q ∨ i ≠ 10) → (cpS m q u j).1 b i = m b i := by
  intro j
  induction j with
  | zero => exact ⟨by simp [cpS, up_s], by simp [cpS], fun b i _ _ h => by simp only [cpS]; exact up_n (by omega)⟩
  | succ j ih =>
    unfold cpS
    split
    · refine ⟨up_s, by simp only; omega, fun b i h1 h2 h3 => ?_⟩
      simp only
      rw [up_n (by omega), up_o h2, up_o h1]
      exact ih.2.2 b i h1 h2 h3
    · exact ⟨ih.1, ih.2.1, ih.2.2⟩
theorem pnd_congr {m m' : mz_M} {u c : Nat} {p : Int} (h : ∀ b, b < u + 40 → m' b = m b) (hc : c < 16) : pnd m' u p c = pnd m u p c := by
  unfold pnd
  rw [h (u + 24 + c) (by omega)]
theorem cp_loop (m : mz_M) {q u n : Nat} (hn : n ≤ 10) (h0 : m (u + 1) 0 = n) (hp : ∀ p, p < 10 → 0 ≤ m (u + 4) p ∧ m (u + 4) p ≤ 1000) (hq : u + 40 < q) : ∀ (r j : Nat), j + r = n → sx 132 5 [some (mz_r 3 0 q), some (mz_r 6 0 u), some (mz_i j)] [] (cpS m q u j).1 none (cpS m q u n).1 := by
  intro r
  induction r with
  | zero =>
    intro j hj
    obtain rfl : j = n := by omega
    have ho := cpS_ok (m := m) (q := q) (u := u) j
    refine mz_vc_ok 60 (ct := fun i => i == 5) ?_
    simp only [vcS0, vcS1, vcS2, vcS3, vcS4, vcS5, vcS6, vc_n0, vc_lk, vc_pop, vc_rc, vc_tsw, vc_fr, vc_ar, vc_tb, mz_nx, List.set_cons_zero, List.set_cons_succ, Nat.reduceAdd, Nat.reduceBEq, Nat.reduceEqDiff, Nat.reduceLeDiff, Nat.reduceLT, Nat.reduceMul, Int.reduceToNat, Bool.false_eq_true, Bool.or_self, Bool.or_true, Bool.true_or, Bool.or_false, reduceIte, Option.toList_some, Option.toList_none, List.nil_append, List.cons_append, List.length_cons, List.length_nil, true_and, and_true, Int.cast_ofNat_Int, Int.reduceEq, Int.reduceLT, Int.reduceLE, Nat.zero_le, and_self, or_true, true_or, cdS_132]
    rw [ho.2.2 _ _ (by omega) (by omega) (by omega), if_neg (by omega)]
    trivial
  | succ r ih =>
    intro j hj
    have hk := ih (j + 1) (by omega)
    have ho := cpS_ok (m := m) (q := q) (u := u) j
    rw [cpS] at hk
    generalize cpS m q u j = C at hk ho ⊢
    have hC : ∀ b, b < u + 40 → C.1 b = m b := fun b hb => by funext i; exact ho.2.2 b i (by omega) (by omega) (by omega)
    have hpj := hp j (by omega)
    refine mz_vc_ok 60 (ct := fun i => i == 5) ?_
    simp only [vcS0, vcS1, vcS2, vcS3, vcS4, vcS5, vcS6, vc_n0, vc_lk, vc_pop, vc_rc, vc_tsw, vc_fr, vc_ar, vc_tb, mz_nx, List.set_cons_zero, List.set_cons_succ, Nat.reduceAdd, Nat.reduceBEq, Nat.reduceEqDiff, Nat.reduceLeDiff, Nat.reduceLT, Nat.reduceMul, Int.reduceToNat, Bool.false_eq_true, Bool.or_self, Bool.or_true, Bool.true_or, Bool.or_false, reduceIte, Option.toList_some, Option.toList_none, List.nil_append, List.cons_append, List.length_cons, List.length_nil, true_and, and_true, Int.cast_ofNat_Int, Int.reduceEq, Int.reduceLT, Int.reduceLE, Nat.zero_le, and_self, or_true, true_or, cdS_132]
    rw [hC (u + 1) (by omega), if_pos (by omega)]
    have hh := sp_hasPoundN C.1 (u + 1) (p := j) (by omega)
    rw [show u + 1 + 3 = u + 4 from rfl, hC (u + 4) (by omega)] at hh
    refine ⟨_, _, hh, ?_⟩
    by_cases h1 : 0 < m (u + 4) j
    · rw [if_pos h1]
      simp only [vcS0, vcS1, vcS2, vcS3, vcS4, vcS5, vcS6, vc_n0, vc_lk, vc_pop, vc_rc, vc_tsw, vc_fr, vc_ar, vc_tb, mz_nx, List.set_cons_zero, List.set_cons_succ, Nat.reduceAdd, Nat.reduceBEq, Nat.reduceEqDiff, Nat.reduceLeDiff, Nat.reduceLT, Nat.reduceMul, Int.reduceToNat, Bool.false_eq_true, Bool.or_self, Bool.or_true, Bool.true_or, Bool.or_false, reduceIte, Option.toList_some, Option.toList_none, List.nil_append, List.cons_append, List.length_cons, List.length_nil, true_and, and_true, Int.cast_ofNat_Int, Int.reduceEq, Int.reduceLT, Int.reduceLE, Nat.zero_le, and_self, or_true, true_or, cdS_132]
      rw [ho.1]
      by_cases h2 : C.2 < 2
      · rw [if_pos (by omega)]
        rw [if_pos ⟨h1, h2⟩] at hk
        refine ⟨_, _, sp_putN (n := 2) (o := q + 3) _ _ h2, ?_⟩
        simp only [vcS0, vcS1, vcS2, vcS3, vcS4, vcS5, vcS6, vc_n0, vc_lk, vc_pop, vc_rc, vc_tsw, vc_fr, vc_ar, vc_tb, mz_nx, List.set_cons_zero, List.set_cons_succ, Nat.reduceAdd, Nat.reduceBEq, Nat.reduceEqDiff, Nat.reduceLeDiff, Nat.reduceLT, Nat.reduceMul, Int.reduceToNat, Bool.false_eq_true, Bool.or_self, Bool.or_true, Bool.true_or, Bool.or_false, reduceIte, Option.toList_some, Option.toList_none, List.nil_append, List.cons_append, List.length_cons, List.length_nil, true_and, and_true, Int.cast_ofNat_Int, Int.reduceEq, Int.reduceLT, Int.reduceLE, Nat.zero_le, and_self, or_true, true_or, cdS_132]
        have hr := sp_poundRoom (mz_up C.1 (q + 3) C.2 j) (u := u) (p := j) (by omega) (by rw [up_o (by omega), hC _ (by omega)]; exact hpj)
        rw [sm_congr (fun c hc => pnd_congr (m := m) (fun b hb => by funext i; rw [up_o (by omega), hC b hb]) hc), up_o (by omega), hC (u + 4) (by omega)] at hr
        refine ⟨_, _, hr, ?_⟩
        simp only [vcS0, vcS1, vcS2, vcS3, vcS4, vcS5, vcS6, vc_n0, vc_lk, vc_pop, vc_rc, vc_tsw, vc_fr, vc_ar, vc_tb, mz_nx, List.set_cons_zero, List.set_cons_succ, Nat.reduceAdd, Nat.reduceBEq, Nat.reduceEqDiff, Nat.reduceLeDiff, Nat.reduceLT, Nat.reduceMul, Int.reduceToNat, Bool.false_eq_true, Bool.or_self, Bool.or_true, Bool.true_or, Bool.or_false, reduceIte, Option.toList_some, Option.toList_none, List.nil_append, List.cons_append, List.length_cons, List.length_nil, true_and, and_true, Int.cast_ofNat_Int, Int.reduceEq, Int.reduceLT, Int.reduceLE, Nat.zero_le, and_self, or_true, true_or, cdS_132]
        rw [up_o (by omega), ho.1]
        refine ⟨_, _, sp_putN (n := 2) (o := q + 4) _ _ h2, ?_⟩
        simp only [vcS0, vcS1, vcS2, vcS3, vcS4, vcS5, vcS6, vc_n0, vc_lk, vc_pop, vc_rc, vc_tsw, vc_fr, vc_ar, vc_tb, mz_nx, List.set_cons_zero, List.set_cons_succ, Nat.reduceAdd, Nat.reduceBEq, Nat.reduceEqDiff, Nat.reduceLeDiff, Nat.reduceLT, Nat.reduceMul, Int.reduceToNat, Bool.false_eq_true, Bool.or_self, Bool.or_true, Bool.true_or, Bool.or_false, reduceIte, Option.toList_some, Option.toList_none, List.nil_append, List.cons_append, List.length_cons, List.length_nil, true_and, and_true, Int.cast_ofNat_Int, Int.reduceEq, Int.reduceLT, Int.reduceLE, Nat.zero_le, and_self, or_true, true_or, cdS_132]
        rw [up_o (by omega), up_o (by omega), ho.1]
        exact ⟨(by unfold mz_w; omega), (by unfold mz_w; omega), hk⟩
      · rw [if_neg (by omega)]
        rw [if_neg (fun h => h2 h.2)] at hk
        exact ⟨(by unfold mz_w; omega), hk⟩
    · rw [if_neg h1]
      rw [if_neg (fun h => h1 h.1)] at hk
      simp only [vcS0, vcS1, vcS2, vcS3, vcS4, vcS5, vcS6, vc_n0, vc_lk, vc_pop, vc_rc, vc_tsw, vc_fr, vc_ar, vc_tb, mz_nx, List.set_cons_zero, List.set_cons_succ, Nat.reduceAdd, Nat.reduceBEq, Nat.reduceEqDiff, Nat.reduceLeDiff, Nat.reduceLT, Nat.reduceMul, Int.reduceToNat, Bool.false_eq_true, Bool.or_self, Bool.or_true, Bool.true_or, Bool.or_false, reduceIte, Option.toList_some, Option.toList_none, List.nil_append, List.cons_append, List.length_cons, List.length_nil, true_and, and_true, Int.cast_ofNat_Int, Int.reduceEq, Int.reduceLT, Int.reduceLE, Nat.zero_le, and_self, or_true, true_or, cdS_132]
      exact ⟨(by unfold mz_w; omega), hk⟩
theorem sp_choosePounds (m : mz_M) {q u n : Nat} (hn : n ≤ 10) (h0 : m (u + 1) 0 = n) (hp : ∀ p, p < 10 → 0 ≤ m (u + 4) p ∧ m (u + 4) p ≤ 1000) (hq : u + 40 < q) : sp 132 [mz_r 3 0 q, mz_r 6 0 u] m none (cpS m q u n).1 := by
  refine mz_cl_vc 60 (fun i => i == 5) [some (mz_r 3 0 q), some (mz_r 6 0 u), none] rfl ?_
  simp only [vcS0, vcS1, vcS2, vcS3, vcS4, vcS5, vcS6, vc_n0, vc_lk, vc_pop, vc_rc, vc_tsw, vc_fr, vc_ar, vc_tb, mz_nx, List.set_cons_zero, List.set_cons_succ, Nat.reduceAdd, Nat.reduceBEq, Nat.reduceEqDiff, Nat.reduceLeDiff, Nat.reduceLT, Nat.reduceMul, Int.reduceToNat, Bool.false_eq_true, Bool.or_self, Bool.or_true, Bool.true_or, Bool.or_false, reduceIte, Option.toList_some, Option.toList_none, List.nil_append, List.cons_append, List.length_cons, List.length_nil, true_and, and_true, Int.cast_ofNat_Int, Int.reduceEq, Int.reduceLT, Int.reduceLE, Nat.zero_le, and_self, or_true, true_or, cdS_132]
  exact cp_loop m hn h0 hp hq n 0 (by omega)
