theorem sp_roldest (m : mz_M) (V : Nat → Int) (c : Int) {n : Nat} (h0 : V 429 = n) (hn : n ≤ 400) : sp 111 [mz_r 9 0 153, mz_i c] (rM m V) (some (mz_i (opI (-1) (fst1 (fun i => me V i 1 = 4 ∧ me V i 2 = c ∧ me V i 4 = 0) n 0)))) (rM m V) := by
  have := sp_oldest (rM m V) c (n := n) (by rw [rM_154]; exact h0) hn
  rw [rM_154] at this
  exact this
theorem sp_rentry (m : mz_M) (V : Nat → Int) {i : Nat} (h : i < 400) : sp 37 [mz_r 9 0 153, mz_i i, mz_i 3] (rM m V) (some (mz_i (me V i 3))) (rM m V) := by
  have := sp_e3 (rM m V) h
  rw [rM_154] at this
  exact this
/-- a ticket paid -/
def vOn (V : Nat → Int) (c k : Nat) : Nat → Int := vL (vU (vU V (333 + 6 * c + 3) (mc V c 3 - me V k 3)) (430 + 5 * k + 4) 1) 7 c (me V k 3)
def vPt (c : Nat) : Nat → (Nat → Int) → Nat → Int
  | 0, V => V
  | r + 1, V => match fst1 (fun i => me V i 1 = 4 ∧ me V i 2 = c ∧ me V i 4 = 0) (V 429).toNat 0 with
    | some k => if me V k 3 ≤ mc V c 3 then vPt c r (vOn V c k) else V
    | none => V
theorem vOn_e {V : Nat → Int} {c k n i w : Nat} (hc : c < 16) (h0 : V 429 = n) (hi : i < n) (hw : w < 5) : me (vOn V c k) i w = if i = k ∧ w = 4 then 1 else me V i w := by
  unfold vOn
  rw [vL_e (n := n) (by rw [vU_n (by omega), vU_n (by omega)]; exact h0) hi hw]
  unfold me
  by_cases h : i = k ∧ w = 4
  · rw [if_pos h, h.1, h.2, vU_s]
  · rw [if_neg h, vU_n (by omega), vU_n (by omega)]
theorem vOn_z {V : Nat → Int} {c k n : Nat} (hc : c < 16) (h0 : V 429 = n) : vOn V c k 429 = ((n + 1 : Nat) : Int) := by
  unfold vOn
  rw [vL_z, vU_n (by omega), vU_n (by omega), h0]
  omega
theorem vOn_n {V : Nat → Int} {c k n : Nat} (hc : c < 16) (hk : k < n) (h0 : V 429 = n) : me (vOn V c k) n 0 = V 2 ∧ me (vOn V c k) n 1 = 7 ∧ me (vOn V c k) n 2 = c ∧ me (vOn V c k) n 3 = me V k 3 ∧ me (vOn V c k) n 4 = 0 := by
  have h := vL_0 (V := vU (vU V (333 + 6 * c + 3) (mc V c 3 - me V k 3)) (430 + 5 * k + 4) 1) (k := 7) (c := c) (x := me V k 3) (n := n) (by rw [vU_n (by omega), vU_n (by omega)]; exact h0)
  rw [show vU (vU V (333 + 6 * c + 3) (mc V c 3 - me V k 3)) (430 + 5 * k + 4) 1 2 = V 2 by rw [vU_n (by omega), vU_n (by omega)]] at h
  exact h
theorem vOn_lo {V : Nat → Int} {c k j : Nat} (hc : c < 16) (h : j < 429) (h3 : j ≠ 333 + 6 * c + 3) : vOn V c k j = V j := by
  unfold vOn
  rw [vL_lo h, vU_n (by omega), vU_n h3]
theorem vOn_3 {V : Nat → Int} {c k : Nat} (hc : c < 16) : mc (vOn V c k) c 3 = mc V c 3 - me V k 3 := by
  unfold vOn
  rw [show mc (vL (vU (vU V (333 + 6 * c + 3) (mc V c 3 - me V k 3)) (430 + 5 * k + 4) 1) 7 c (me V k 3)) c 3 = _ from vL_lo (by omega), vU_n (by omega), vU_s]
theorem vOn_up {V : Nat → Int} {c k n : Nat} (hc : c < 16) (h0 : V 429 = n) (hk : k < n) (hP : me V k 1 = 4 ∧ me V k 2 = c ∧ me V k 4 = 0) : mUp (vOn V c k) (n + 1) c = mUp V n c - 1 := by
  have hn := vOn_n hc hk h0
  have h := sm_one (n := n) (h0 := k) (c := -1) (f := fun i => if me V i 1 = 4 ∧ me V i 2 = c ∧ me V i 4 = 0 then 1 else 0) (g := fun i => if me (vOn V c k) i 1 = 4 ∧ me (vOn V c k) i 2 = c ∧ me (vOn V c k) i 4 = 0 then 1 else 0) (fun i hi => by
    rw [vOn_e hc h0 hi (by omega), vOn_e hc h0 hi (by omega), vOn_e hc h0 hi (by omega), if_neg (show ¬ (i = k ∧ 1 = 4) by omega), if_neg (show ¬ (i = k ∧ 2 = 4) by omega)]
    by_cases e : i = k
    · subst e
      rw [if_pos (show i = i ∧ 4 = 4 from ⟨rfl, rfl⟩), if_neg (by omega), if_pos hP, if_pos rfl]
      rfl
    · rw [if_neg (show ¬ (i = k ∧ 4 = 4) from fun q => e q.1), if_neg e]
      omega)
  rw [if_pos hk] at h
  show sm _ (n + 1) = _
  rw [sm, h, if_neg (by omega)]
  unfold mUp
  omega
def pfO (V : Nat → Int) (n c : Nat) : Prop := V 429 = n ∧ (∀ i, i < n → 0 ≤ me V i 3 ∧ me V i 3 ≤ 100000) ∧ 0 ≤ mc V c 3 ∧ mc V c 3 ≤ 100000000
theorem vOn_pf {V : Nat → Int} {c k n : Nat} (hc : c < 16) (h : pfO V n c) (hk : k < n) (hle : me V k 3 ≤ mc V c 3) : pfO (vOn V c k) (n + 1) c := by
  have hak := h.2.1 k hk
  refine ⟨vOn_z hc h.1, fun i hi => ?_, ?_⟩
  · rcases Nat.lt_or_ge i n with q | q
    · rw [vOn_e hc h.1 q (by omega), if_neg (by omega)]; exact h.2.1 i q
    · obtain rfl : i = n := by omega
      rw [(vOn_n hc hk h.1).2.2.2.1]; exact hak
  · have := h.2.2
    rw [vOn_3 hc]
    omega
theorem pt_mloop (m : mz_M) {c : Nat} (hc : c < 16) : ∀ (r n : Nat) (V : Nat → Int), pfO V n c → mUp V n c ≤ r → n + r ≤ 399 → sx 174 4 [some (mz_r 9 0 153), some (mz_i c), some (mz_i (opI (-1) (fst1 (fun i => me V i 1 = 4 ∧ me V i 2 = c ∧ me V i 4 = 0) n 0)))] [] (rM m V) none (rM m (vPt c r V)) := by
  intro r
  induction r with
  | zero =>
    intro n V h hu hn
    have hno : fst1 (fun i => me V i 1 = 4 ∧ me V i 2 = c ∧ me V i 4 = 0) n 0 = none := by
      cases hk : fst1 (fun i => me V i 1 = 4 ∧ me V i 2 = c ∧ me V i 4 = 0) n 0 with
      | none => rfl
      | some k =>
        have h1 := fst1_some hk
        have h2 := vOn_up hc h.1 (show k < n by omega) h1.1
        have h3 := mUp_ok (vOn V c k) (n + 1) c
        omega
    rw [hno]
    simp only [opI]
    refine mz_vc_ok 60 (ct := fun i => i == 4) ?_
    simp only [vcS0, vcS1, vcS2, vcS3, vcS4, vcS5, vcS6, vc_n0, vc_lk, vc_pop, vc_rc, vc_tsw, vc_fr, vc_ar, vc_tb, mz_nx, List.set_cons_zero, List.set_cons_succ, Nat.reduceAdd, Nat.reduceBEq, Nat.reduceEqDiff, Nat.reduceLeDiff, Nat.reduceLT, Nat.reduceMul, Int.reduceToNat, Bool.false_eq_true, Bool.or_self, Bool.or_true, Bool.true_or, Bool.or_false, reduceIte, Option.toList_some, Option.toList_none, List.nil_append, List.cons_append, List.length_cons, List.length_nil, true_and, and_true, Int.cast_ofNat_Int, Int.reduceEq, Int.reduceLT, Int.reduceLE, Nat.zero_le, and_self, or_true, true_or, cdS_174]
    rfl
  | succ r ih =>
    intro n V h hu hn
    unfold vPt
    rw [h.1, Int.toNat_natCast]
    cases hk : fst1 (fun i => me V i 1 = 4 ∧ me V i 2 = c ∧ me V i 4 = 0) n 0 with
    | none =>
      simp only [opI]
      refine mz_vc_ok 60 (ct := fun i => i == 4) ?_
      simp only [vcS0, vcS1, vcS2, vcS3, vcS4, vcS5, vcS6, vc_n0, vc_lk, vc_pop, vc_rc, vc_tsw, vc_fr, vc_ar, vc_tb, mz_nx, List.set_cons_zero, List.set_cons_succ, Nat.reduceAdd, Nat.reduceBEq, Nat.reduceEqDiff, Nat.reduceLeDiff, Nat.reduceLT, Nat.reduceMul, Int.reduceToNat, Bool.false_eq_true, Bool.or_self, Bool.or_true, Bool.true_or, Bool.or_false, reduceIte, Option.toList_some, Option.toList_none, List.nil_append, List.cons_append, List.length_cons, List.length_nil, true_and, and_true, Int.cast_ofNat_Int, Int.reduceEq, Int.reduceLT, Int.reduceLE, Nat.zero_le, and_self, or_true, true_or, cdS_174]
    | some k =>
      have h1 := fst1_some hk
      have hkn : k < n := by omega
      have hak := h.2.1 k hkn
      have hcr := h.2.2
      simp only [opI]
      refine mz_vc_ok 60 (ct := fun i => i == 4) ?_
      simp only [vcS0, vcS1, vcS2, vcS3, vcS4, vcS5, vcS6, vc_n0, vc_lk, vc_pop, vc_rc, vc_tsw, vc_fr, vc_ar, vc_tb, mz_nx, List.set_cons_zero, List.set_cons_succ, Nat.reduceAdd, Nat.reduceBEq, Nat.reduceEqDiff, Nat.reduceLeDiff, Nat.reduceLT, Nat.reduceMul, Int.reduceToNat, Bool.false_eq_true, Bool.or_self, Bool.or_true, Bool.true_or, Bool.or_false, reduceIte, Option.toList_some, Option.toList_none, List.nil_append, List.cons_append, List.length_cons, List.length_nil, true_and, and_true, Int.cast_ofNat_Int, Int.reduceEq, Int.reduceLT, Int.reduceLE, Nat.zero_le, and_self, or_true, true_or, cdS_174]
      rw [if_neg (by omega)]
      refine ⟨_, _, (sp_rof _ V hc).2.2.2.1, ?_⟩
      simp only [vcS0, vcS1, vcS2, vcS3, vcS4, vcS5, vcS6, vc_n0, vc_lk, vc_pop, vc_rc, vc_tsw, vc_fr, vc_ar, vc_tb, mz_nx, List.set_cons_zero, List.set_cons_succ, Nat.reduceAdd, Nat.reduceBEq, Nat.reduceEqDiff, Nat.reduceLeDiff, Nat.reduceLT, Nat.reduceMul, Int.reduceToNat, Bool.false_eq_true, Bool.or_self, Bool.or_true, Bool.true_or, Bool.or_false, reduceIte, Option.toList_some, Option.toList_none, List.nil_append, List.cons_append, List.length_cons, List.length_nil, true_and, and_true, Int.cast_ofNat_Int, Int.reduceEq, Int.reduceLT, Int.reduceLE, Nat.zero_le, and_self, or_true, true_or, cdS_174]
      refine ⟨_, _, sp_rentry _ V (show k < 400 by omega), ?_⟩
      simp only [vcS0, vcS1, vcS2, vcS3, vcS4, vcS5, vcS6, vc_n0, vc_lk, vc_pop, vc_rc, vc_tsw, vc_fr, vc_ar, vc_tb, mz_nx, List.set_cons_zero, List.set_cons_succ, Nat.reduceAdd, Nat.reduceBEq, Nat.reduceEqDiff, Nat.reduceLeDiff, Nat.reduceLT, Nat.reduceMul, Int.reduceToNat, Bool.false_eq_true, Bool.or_self, Bool.or_true, Bool.true_or, Bool.or_false, reduceIte, Option.toList_some, Option.toList_none, List.nil_append, List.cons_append, List.length_cons, List.length_nil, true_and, and_true, Int.cast_ofNat_Int, Int.reduceEq, Int.reduceLT, Int.reduceLE, Nat.zero_le, and_self, or_true, true_or, cdS_174]
      by_cases h2 : me V k 3 ≤ mc V c 3
      · rw [if_neg (by omega), if_pos h2]
        refine ⟨_, _, (sp_rof _ V hc).2.2.2.1, ?_⟩
        simp only [vcS0, vcS1, vcS2, vcS3, vcS4, vcS5, vcS6, vc_n0, vc_lk, vc_pop, vc_rc, vc_tsw, vc_fr, vc_ar, vc_tb, mz_nx, List.set_cons_zero, List.set_cons_succ, Nat.reduceAdd, Nat.reduceBEq, Nat.reduceEqDiff, Nat.reduceLeDiff, Nat.reduceLT, Nat.reduceMul, Int.reduceToNat, Bool.false_eq_true, Bool.or_self, Bool.or_true, Bool.true_or, Bool.or_false, reduceIte, Option.toList_some, Option.toList_none, List.nil_append, List.cons_append, List.length_cons, List.length_nil, true_and, and_true, Int.cast_ofNat_Int, Int.reduceEq, Int.reduceLT, Int.reduceLE, Nat.zero_le, and_self, or_true, true_or, cdS_174]
        refine ⟨_, _, sp_rentry _ V (show k < 400 by omega), ?_⟩
        simp only [vcS0, vcS1, vcS2, vcS3, vcS4, vcS5, vcS6, vc_n0, vc_lk, vc_pop, vc_rc, vc_tsw, vc_fr, vc_ar, vc_tb, mz_nx, List.set_cons_zero, List.set_cons_succ, Nat.reduceAdd, Nat.reduceBEq, Nat.reduceEqDiff, Nat.reduceLeDiff, Nat.reduceLT, Nat.reduceMul, Int.reduceToNat, Bool.false_eq_true, Bool.or_self, Bool.or_true, Bool.true_or, Bool.or_false, reduceIte, Option.toList_some, Option.toList_none, List.nil_append, List.cons_append, List.length_cons, List.length_nil, true_and, and_true, Int.cast_ofNat_Int, Int.reduceEq, Int.reduceLT, Int.reduceLE, Nat.zero_le, and_self, or_true, true_or, cdS_174]
        refine ⟨(by unfold mz_w; omega), _, _, (sp_rset _ V (mc V c 3 - me V k 3) hc).2.2.2.1, ?_⟩
        simp only [vcS0, vcS1, vcS2, vcS3, vcS4, vcS5, vcS6, vc_n0, vc_lk, vc_pop, vc_rc, vc_tsw, vc_fr, vc_ar, vc_tb, mz_nx, List.set_cons_zero, List.set_cons_succ, Nat.reduceAdd, Nat.reduceBEq, Nat.reduceEqDiff, Nat.reduceLeDiff, Nat.reduceLT, Nat.reduceMul, Int.reduceToNat, Bool.false_eq_true, Bool.or_self, Bool.or_true, Bool.true_or, Bool.or_false, reduceIte, Option.toList_some, Option.toList_none, List.nil_append, List.cons_append, List.length_cons, List.length_nil, true_and, and_true, Int.cast_ofNat_Int, Int.reduceEq, Int.reduceLT, Int.reduceLE, Nat.zero_le, and_self, or_true, true_or, cdS_174]
        rw [show (430 + 5 * (k : Int) + 4).toNat = 430 + 5 * k + 4 by omega, rM_up]
        refine ⟨(by unfold mz_w; omega), (by unfold mz_w; omega), (by unfold mz_w; omega), by omega, ?_⟩
        have he := sp_rentry m (vU (vU V (333 + 6 * c + 3) (mc V c 3 - me V k 3)) (430 + 5 * k + 4) 1) (show k < 400 by omega)
        rw [show me (vU (vU V (333 + 6 * c + 3) (mc V c 3 - me V k 3)) (430 + 5 * k + 4) 1) k 3 = me V k 3 by unfold me; rw [vU_n (by omega), vU_n (by omega)]] at he
        refine ⟨_, _, he, ?_⟩
        simp only [vcS0, vcS1, vcS2, vcS3, vcS4, vcS5, vcS6, vc_n0, vc_lk, vc_pop, vc_rc, vc_tsw, vc_fr, vc_ar, vc_tb, mz_nx, List.set_cons_zero, List.set_cons_succ, Nat.reduceAdd, Nat.reduceBEq, Nat.reduceEqDiff, Nat.reduceLeDiff, Nat.reduceLT, Nat.reduceMul, Int.reduceToNat, Bool.false_eq_true, Bool.or_self, Bool.or_true, Bool.true_or, Bool.or_false, reduceIte, Option.toList_some, Option.toList_none, List.nil_append, List.cons_append, List.length_cons, List.length_nil, true_and, and_true, Int.cast_ofNat_Int, Int.reduceEq, Int.reduceLT, Int.reduceLE, Nat.zero_le, and_self, or_true, true_or, cdS_174]
        refine ⟨_, _, sp_rlogs _ _ (n := n) 7 c (me V k 3) (by rw [vU_n (by omega), vU_n (by omega)]; exact h.1) (by omega), ?_⟩
        simp only [vcS0, vcS1, vcS2, vcS3, vcS4, vcS5, vcS6, vc_n0, vc_lk, vc_pop, vc_rc, vc_tsw, vc_fr, vc_ar, vc_tb, mz_nx, List.set_cons_zero, List.set_cons_succ, Nat.reduceAdd, Nat.reduceBEq, Nat.reduceEqDiff, Nat.reduceLeDiff, Nat.reduceLT, Nat.reduceMul, Int.reduceToNat, Bool.false_eq_true, Bool.or_self, Bool.or_true, Bool.true_or, Bool.or_false, reduceIte, Option.toList_some, Option.toList_none, List.nil_append, List.cons_append, List.length_cons, List.length_nil, true_and, and_true, Int.cast_ofNat_Int, Int.reduceEq, Int.reduceLT, Int.reduceLE, Nat.zero_le, and_self, or_true, true_or, cdS_174]
        refine ⟨_, _, sp_roldest _ (vOn V c k) c (n := n + 1) (vOn_z hc h.1) (by omega), ?_⟩
        simp only [vcS0, vcS1, vcS2, vcS3, vcS4, vcS5, vcS6, vc_n0, vc_lk, vc_pop, vc_rc, vc_tsw, vc_fr, vc_ar, vc_tb, mz_nx, List.set_cons_zero, List.set_cons_succ, Nat.reduceAdd, Nat.reduceBEq, Nat.reduceEqDiff, Nat.reduceLeDiff, Nat.reduceLT, Nat.reduceMul, Int.reduceToNat, Bool.false_eq_true, Bool.or_self, Bool.or_true, Bool.true_or, Bool.or_false, reduceIte, Option.toList_some, Option.toList_none, List.nil_append, List.cons_append, List.length_cons, List.length_nil, true_and, and_true, Int.cast_ofNat_Int, Int.reduceEq, Int.reduceLT, Int.reduceLE, Nat.zero_le, and_self, or_true, true_or, cdS_174]
        exact ih (n + 1) (vOn V c k) (vOn_pf hc h hkn h2) (by rw [vOn_up hc h.1 hkn h1.1]; omega) (by omega)
      · rw [if_pos (by omega), if_neg h2]
        all_goals ((repeat' refine And.intro ?_ ?_) <;> first | trivial | rfl | (unfold mz_w; omega) | omega)
theorem vPt_inv {c : Nat} (hc : c < 16) : ∀ (r n : Nat) (V : Nat → Int), pfO V n c → ∃ n', pfO (vPt c r V) n' c ∧ n' ≤ n + r ∧ ∀ j, j < 429 → j ≠ 333 + 6 * c + 3 → vPt c r V j = V j := by
  intro r
  induction r with
  | zero => intro n V h; exact ⟨n, h, by omega, fun _ _ _ => rfl⟩
  | succ r ih =>
    intro n V h
    unfold vPt
    rw [h.1, Int.toNat_natCast]
    cases hk : fst1 (fun i => me V i 1 = 4 ∧ me V i 2 = c ∧ me V i 4 = 0) n 0 with
    | none => exact ⟨n, h, by omega, fun _ _ _ => rfl⟩
    | some k =>
      have h1 := fst1_some hk
      by_cases h2 : me V k 3 ≤ mc V c 3
      · obtain ⟨n', h3, h4, h5⟩ := ih (n + 1) (vOn V c k) (vOn_pf hc h (by omega) h2)
        refine ⟨n', ?_, by omega, fun j hj hj3 => ?_⟩
        · simp only [if_pos h2]; exact h3
        · simp only [if_pos h2]; rw [h5 j hj hj3, vOn_lo hc hj hj3]
      · refine ⟨n, ?_, by omega, fun _ _ _ => ?_⟩ <;> simp only [if_neg h2]
        exact h
theorem sp_rPaysT (m : mz_M) {c n : Nat} (V : Nat → Int) (r : Nat) (hc : c < 16) (h : pfO V n c) (hu : mUp V n c ≤ r) (hn : n + r ≤ 399) : sp 174 [mz_r 9 0 153, mz_i c] (rM m V) none (rM m (vPt c r V)) := by
  refine mz_cl_vc 60 (fun i => i == 4) [some (mz_r 9 0 153), some (mz_i c), none] rfl ?_
  simp only [vcS0, vcS1, vcS2, vcS3, vcS4, vcS5, vcS6, vc_n0, vc_lk, vc_pop, vc_rc, vc_tsw, vc_fr, vc_ar, vc_tb, mz_nx, List.set_cons_zero, List.set_cons_succ, Nat.reduceAdd, Nat.reduceBEq, Nat.reduceEqDiff, Nat.reduceLeDiff, Nat.reduceLT, Nat.reduceMul, Int.reduceToNat, Bool.false_eq_true, Bool.or_self, Bool.or_true, Bool.true_or, Bool.or_false, reduceIte, Option.toList_some, Option.toList_none, List.nil_append, List.cons_append, List.length_cons, List.length_nil, true_and, and_true, Int.cast_ofNat_Int, Int.reduceEq, Int.reduceLT, Int.reduceLE, Nat.zero_le, and_self, or_true, true_or, cdS_174]
  refine ⟨_, _, sp_roldest _ V c h.1 (by omega), ?_⟩
  simp only [vcS0, vcS1, vcS2, vcS3, vcS4, vcS5, vcS6, vc_n0, vc_lk, vc_pop, vc_rc, vc_tsw, vc_fr, vc_ar, vc_tb, mz_nx, List.set_cons_zero, List.set_cons_succ, Nat.reduceAdd, Nat.reduceBEq, Nat.reduceEqDiff, Nat.reduceLeDiff, Nat.reduceLT, Nat.reduceMul, Int.reduceToNat, Bool.false_eq_true, Bool.or_self, Bool.or_true, Bool.true_or, Bool.or_false, reduceIte, Option.toList_some, Option.toList_none, List.nil_append, List.cons_append, List.length_cons, List.length_nil, true_and, and_true, Int.cast_ofNat_Int, Int.reduceEq, Int.reduceLT, Int.reduceLE, Nat.zero_le, and_self, or_true, true_or, cdS_174]
  exact pt_mloop m hc r n V h hu hn
def vRl (V : Nat → Int) (c : Nat) : Nat → Int := if mc V c 0 = 2 then vL (vU (vU V (333 + 6 * c) 1) (333 + 6 * c + 2) (V 2)) 9 c (mc V c 1) else if mc V c 0 = 3 then vL (vU V (333 + 6 * c) 0) 9 c (mc V c 1) else V
theorem sp_rRel (m : mz_M) (V : Nat → Int) {c n : Nat} (hc : c < 16) (h0 : V 429 = n) (hn : n < 400) : sp 116 [mz_r 9 0 153, mz_i c] (rM m V) none (rM m (vRl V c)) := by
  unfold vRl
  refine mz_cl_vc 60 (fun _ => false) [some (mz_r 9 0 153), some (mz_i c)] rfl ?_
  simp only [vcS0, vcS1, vcS2, vcS3, vcS4, vcS5, vcS6, vc_n0, vc_lk, vc_pop, vc_rc, vc_tsw, vc_fr, vc_ar, vc_tb, mz_nx, List.set_cons_zero, List.set_cons_succ, Nat.reduceAdd, Nat.reduceBEq, Nat.reduceEqDiff, Nat.reduceLeDiff, Nat.reduceLT, Nat.reduceMul, Int.reduceToNat, Bool.false_eq_true, Bool.or_self, Bool.or_true, Bool.true_or, Bool.or_false, reduceIte, Option.toList_some, Option.toList_none, List.nil_append, List.cons_append, List.length_cons, List.length_nil, true_and, and_true, Int.cast_ofNat_Int, Int.reduceEq, Int.reduceLT, Int.reduceLE, Nat.zero_le, and_self, or_true, true_or, cdS_116]
  refine ⟨_, _, (sp_rof _ V hc).1, ?_⟩
  simp only [vcS0, vcS1, vcS2, vcS3, vcS4, vcS5, vcS6, vc_n0, vc_lk, vc_pop, vc_rc, vc_tsw, vc_fr, vc_ar, vc_tb, mz_nx, List.set_cons_zero, List.set_cons_succ, Nat.reduceAdd, Nat.reduceBEq, Nat.reduceEqDiff, Nat.reduceLeDiff, Nat.reduceLT, Nat.reduceMul, Int.reduceToNat, Bool.false_eq_true, Bool.or_self, Bool.or_true, Bool.true_or, Bool.or_false, reduceIte, Option.toList_some, Option.toList_none, List.nil_append, List.cons_append, List.length_cons, List.length_nil, true_and, and_true, Int.cast_ofNat_Int, Int.reduceEq, Int.reduceLT, Int.reduceLE, Nat.zero_le, and_self, or_true, true_or, cdS_116]
  by_cases h1 : mc V c 0 = 2
  · rw [if_pos h1, if_pos h1]
    refine ⟨_, _, (sp_rset _ V 1 hc).1, ?_⟩
    simp only [vcS0, vcS1, vcS2, vcS3, vcS4, vcS5, vcS6, vc_n0, vc_lk, vc_pop, vc_rc, vc_tsw, vc_fr, vc_ar, vc_tb, mz_nx, List.set_cons_zero, List.set_cons_succ, Nat.reduceAdd, Nat.reduceBEq, Nat.reduceEqDiff, Nat.reduceLeDiff, Nat.reduceLT, Nat.reduceMul, Int.reduceToNat, Bool.false_eq_true, Bool.or_self, Bool.or_true, Bool.true_or, Bool.or_false, reduceIte, Option.toList_some, Option.toList_none, List.nil_append, List.cons_append, List.length_cons, List.length_nil, true_and, and_true, Int.cast_ofNat_Int, Int.reduceEq, Int.reduceLT, Int.reduceLE, Nat.zero_le, and_self, or_true, true_or, cdS_116]
    rw [rM_154, vU_n (by omega)]
    refine ⟨_, _, (sp_rset _ _ (V 2) hc).2.2.1, ?_⟩
    simp only [vcS0, vcS1, vcS2, vcS3, vcS4, vcS5, vcS6, vc_n0, vc_lk, vc_pop, vc_rc, vc_tsw, vc_fr, vc_ar, vc_tb, mz_nx, List.set_cons_zero, List.set_cons_succ, Nat.reduceAdd, Nat.reduceBEq, Nat.reduceEqDiff, Nat.reduceLeDiff, Nat.reduceLT, Nat.reduceMul, Int.reduceToNat, Bool.false_eq_true, Bool.or_self, Bool.or_true, Bool.true_or, Bool.or_false, reduceIte, Option.toList_some, Option.toList_none, List.nil_append, List.cons_append, List.length_cons, List.length_nil, true_and, and_true, Int.cast_ofNat_Int, Int.reduceEq, Int.reduceLT, Int.reduceLE, Nat.zero_le, and_self, or_true, true_or, cdS_116]
    refine ⟨_, _, (sp_rof _ _ hc).2.1, ?_⟩
    rw [show mc (vU (vU V (333 + 6 * c) 1) (333 + 6 * c + 2) (V 2)) c 1 = mc V c 1 by unfold mc; rw [vU_n (by omega), vU_n (by omega)]]
    simp only [vcS0, vcS1, vcS2, vcS3, vcS4, vcS5, vcS6, vc_n0, vc_lk, vc_pop, vc_rc, vc_tsw, vc_fr, vc_ar, vc_tb, mz_nx, List.set_cons_zero, List.set_cons_succ, Nat.reduceAdd, Nat.reduceBEq, Nat.reduceEqDiff, Nat.reduceLeDiff, Nat.reduceLT, Nat.reduceMul, Int.reduceToNat, Bool.false_eq_true, Bool.or_self, Bool.or_true, Bool.true_or, Bool.or_false, reduceIte, Option.toList_some, Option.toList_none, List.nil_append, List.cons_append, List.length_cons, List.length_nil, true_and, and_true, Int.cast_ofNat_Int, Int.reduceEq, Int.reduceLT, Int.reduceLE, Nat.zero_le, and_self, or_true, true_or, cdS_116]
    refine ⟨_, _, sp_rlogs _ _ (n := n) 9 c (mc V c 1) (by rw [vU_n (by omega), vU_n (by omega)]; exact h0) hn, ?_⟩
    simp only [vcS0, vcS1, vcS2, vcS3, vcS4, vcS5, vcS6, vc_n0, vc_lk, vc_pop, vc_rc, vc_tsw, vc_fr, vc_ar, vc_tb, mz_nx, List.set_cons_zero, List.set_cons_succ, Nat.reduceAdd, Nat.reduceBEq, Nat.reduceEqDiff, Nat.reduceLeDiff, Nat.reduceLT, Nat.reduceMul, Int.reduceToNat, Bool.false_eq_true, Bool.or_self, Bool.or_true, Bool.true_or, Bool.or_false, reduceIte, Option.toList_some, Option.toList_none, List.nil_append, List.cons_append, List.length_cons, List.length_nil, true_and, and_true, Int.cast_ofNat_Int, Int.reduceEq, Int.reduceLT, Int.reduceLE, Nat.zero_le, and_self, or_true, true_or, cdS_116]
  · rw [if_neg h1, if_neg h1]
    refine ⟨_, _, (sp_rof _ V hc).1, ?_⟩
    simp only [vcS0, vcS1, vcS2, vcS3, vcS4, vcS5, vcS6, vc_n0, vc_lk, vc_pop, vc_rc, vc_tsw, vc_fr, vc_ar, vc_tb, mz_nx, List.set_cons_zero, List.set_cons_succ, Nat.reduceAdd, Nat.reduceBEq, Nat.reduceEqDiff, Nat.reduceLeDiff, Nat.reduceLT, Nat.reduceMul, Int.reduceToNat, Bool.false_eq_true, Bool.or_self, Bool.or_true, Bool.true_or, Bool.or_false, reduceIte, Option.toList_some, Option.toList_none, List.nil_append, List.cons_append, List.length_cons, List.length_nil, true_and, and_true, Int.cast_ofNat_Int, Int.reduceEq, Int.reduceLT, Int.reduceLE, Nat.zero_le, and_self, or_true, true_or, cdS_116]
    by_cases h2 : mc V c 0 = 3
    · rw [if_pos h2, if_pos h2]
      refine ⟨_, _, (sp_rset _ V 0 hc).1, ?_⟩
      simp only [vcS0, vcS1, vcS2, vcS3, vcS4, vcS5, vcS6, vc_n0, vc_lk, vc_pop, vc_rc, vc_tsw, vc_fr, vc_ar, vc_tb, mz_nx, List.set_cons_zero, List.set_cons_succ, Nat.reduceAdd, Nat.reduceBEq, Nat.reduceEqDiff, Nat.reduceLeDiff, Nat.reduceLT, Nat.reduceMul, Int.reduceToNat, Bool.false_eq_true, Bool.or_self, Bool.or_true, Bool.true_or, Bool.or_false, reduceIte, Option.toList_some, Option.toList_none, List.nil_append, List.cons_append, List.length_cons, List.length_nil, true_and, and_true, Int.cast_ofNat_Int, Int.reduceEq, Int.reduceLT, Int.reduceLE, Nat.zero_le, and_self, or_true, true_or, cdS_116]
      refine ⟨_, _, (sp_rof _ _ hc).2.1, ?_⟩
      rw [show mc (vU V (333 + 6 * c) 0) c 1 = mc V c 1 by unfold mc; rw [vU_n (by omega)]]
      simp only [vcS0, vcS1, vcS2, vcS3, vcS4, vcS5, vcS6, vc_n0, vc_lk, vc_pop, vc_rc, vc_tsw, vc_fr, vc_ar, vc_tb, mz_nx, List.set_cons_zero, List.set_cons_succ, Nat.reduceAdd, Nat.reduceBEq, Nat.reduceEqDiff, Nat.reduceLeDiff, Nat.reduceLT, Nat.reduceMul, Int.reduceToNat, Bool.false_eq_true, Bool.or_self, Bool.or_true, Bool.true_or, Bool.or_false, reduceIte, Option.toList_some, Option.toList_none, List.nil_append, List.cons_append, List.length_cons, List.length_nil, true_and, and_true, Int.cast_ofNat_Int, Int.reduceEq, Int.reduceLT, Int.reduceLE, Nat.zero_le, and_self, or_true, true_or, cdS_116]
      refine ⟨_, _, sp_rlogs _ _ (n := n) 9 c (mc V c 1) (by rw [vU_n (by omega)]; exact h0) hn, ?_⟩
      simp only [vcS0, vcS1, vcS2, vcS3, vcS4, vcS5, vcS6, vc_n0, vc_lk, vc_pop, vc_rc, vc_tsw, vc_fr, vc_ar, vc_tb, mz_nx, List.set_cons_zero, List.set_cons_succ, Nat.reduceAdd, Nat.reduceBEq, Nat.reduceEqDiff, Nat.reduceLeDiff, Nat.reduceLT, Nat.reduceMul, Int.reduceToNat, Bool.false_eq_true, Bool.or_self, Bool.or_true, Bool.true_or, Bool.or_false, reduceIte, Option.toList_some, Option.toList_none, List.nil_append, List.cons_append, List.length_cons, List.length_nil, true_and, and_true, Int.cast_ofNat_Int, Int.reduceEq, Int.reduceLT, Int.reduceLE, Nat.zero_le, and_self, or_true, true_or, cdS_116]
    · rw [if_neg h2, if_neg h2]
      all_goals ((repeat' refine And.intro ?_ ?_) <;> first | trivial | rfl | (unfold mz_w; omega) | omega)
