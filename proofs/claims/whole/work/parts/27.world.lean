/-! The world: what only reads. -/
def cnO (m : mz_M) (u : Nat) : Prop := ∀ c, c < 16 → m (u + 24 + c) 0 = (c : Int)
def coR (u : Nat) (p : Int) : mz_V := if 0 ≤ p ∧ p < 16 then mz_r 0 0 (u + 24 + p.toNat) else .inr none
theorem sp_carOrNull (m : mz_M) (u : Nat) (p : Int) : sp 22 [mz_r 6 0 u, mz_i p] m (some (coR u p)) m := by
  unfold coR
  refine mz_cl_vc 20 (fun _ => false) [some (mz_r 6 0 u), some (mz_i p)] rfl ?_
  simp only [vcS0, vcS1, vcS2, vcS3, vcS4, vcS5, vcS6, vc_n0, vc_lk, vc_pop, vc_rc, vc_tsw, vc_fr, vc_ar, vc_tb, mz_nx, List.set_cons_zero, List.set_cons_succ, Nat.reduceAdd, Nat.reduceBEq, Nat.reduceEqDiff, Nat.reduceLeDiff, Nat.reduceLT, Nat.reduceMul, Int.reduceToNat, Bool.false_eq_true, Bool.or_self, Bool.or_true, Bool.true_or, Bool.or_false, reduceIte, Option.toList_some, Option.toList_none, List.nil_append, List.cons_append, List.length_cons, List.length_nil, true_and, and_true, Int.cast_ofNat_Int, Int.reduceEq, Int.reduceLT, Int.reduceLE, Nat.zero_le, and_self, or_true, true_or, cdS_22]
  grind
def cps (m : mz_M) (u : Nat) (p e : Int) (c : Nat) : Bool := decide (m (u + 24 + c) 1 = 1 ∧ m (u + 24 + c) 2 = p ∧ m (u + 24 + c) 3 ≤ e)
theorem cps_loop (m : mz_M) {u : Nat} {p e : Int} (h : cnO m u) : ∀ (r j : Nat) (x : Option mz_V), j + r = 16 → sx 76 10 [some (mz_r 6 0 u), some (mz_i p), some (mz_i e), some (mz_i (bs (cps m u p e) j)), some (mz_r 104 16 (u + 16)), some (mz_i 16), some (mz_i j), x] [] m (some (mz_i (bs (cps m u p e) 16))) m := by
  intro r
  induction r with
  | zero =>
    intro j x hj
    obtain rfl : j = 16 := by omega
    refine mz_vc_ok 60 (ct := fun i => i == 10) ?_
    simp only [vcS0, vcS1, vcS2, vcS3, vcS4, vcS5, vcS6, vc_n0, vc_lk, vc_pop, vc_rc, vc_tsw, vc_fr, vc_ar, vc_tb, mz_nx, List.set_cons_zero, List.set_cons_succ, Nat.reduceAdd, Nat.reduceBEq, Nat.reduceEqDiff, Nat.reduceLeDiff, Nat.reduceLT, Nat.reduceMul, Int.reduceToNat, Bool.false_eq_true, Bool.or_self, Bool.or_true, Bool.true_or, Bool.or_false, reduceIte, Option.toList_some, Option.toList_none, List.nil_append, List.cons_append, List.length_cons, List.length_nil, true_and, and_true, Int.cast_ofNat_Int, Int.reduceEq, Int.reduceLT, Int.reduceLE, Nat.zero_le, and_self, or_true, true_or, cdS_76]
  | succ r ih =>
    intro j x hj
    have hk := fun x => ih (j + 1) x (by omega)
    have hc := h j (by omega)
    refine mz_vc_ok 60 (ct := fun i => i == 10) ?_
    simp only [vcS0, vcS1, vcS2, vcS3, vcS4, vcS5, vcS6, vc_n0, vc_lk, vc_pop, vc_rc, vc_tsw, vc_fr, vc_ar, vc_tb, mz_nx, List.set_cons_zero, List.set_cons_succ, Nat.reduceAdd, Nat.reduceBEq, Nat.reduceEqDiff, Nat.reduceLeDiff, Nat.reduceLT, Nat.reduceMul, Int.reduceToNat, Bool.false_eq_true, Bool.or_self, Bool.or_true, Bool.true_or, Bool.or_false, reduceIte, Option.toList_some, Option.toList_none, List.nil_append, List.cons_append, List.length_cons, List.length_nil, true_and, and_true, Int.cast_ofNat_Int, Int.reduceEq, Int.reduceLT, Int.reduceLE, Nat.zero_le, and_self, or_true, true_or, cdS_76]
    rw [if_pos (by omega), Int.toNat_natCast, show u + 16 + (8 + 1 * j) = u + 24 + j by omega]
    refine ⟨by omega, ?_⟩
    refine ⟨_, _, sp_isAt m _ _ _, ?_⟩
    by_cases h1 : m (u + 24 + j) 1 = 1 ∧ m (u + 24 + j) 2 = p
    · rw [if_pos h1]
      simp only [vcS0, vcS1, vcS2, vcS3, vcS4, vcS5, vcS6, vc_n0, vc_lk, vc_pop, vc_rc, vc_tsw, vc_fr, vc_ar, vc_tb, mz_nx, List.set_cons_zero, List.set_cons_succ, Nat.reduceAdd, Nat.reduceBEq, Nat.reduceEqDiff, Nat.reduceLeDiff, Nat.reduceLT, Nat.reduceMul, Int.reduceToNat, Bool.false_eq_true, Bool.or_self, Bool.or_true, Bool.true_or, Bool.or_false, reduceIte, Option.toList_some, Option.toList_none, List.nil_append, List.cons_append, List.length_cons, List.length_nil, true_and, and_true, Int.cast_ofNat_Int, Int.reduceEq, Int.reduceLT, Int.reduceLE, Nat.zero_le, and_self, or_true, true_or, cdS_76]
      by_cases h2 : m (u + 24 + j) 3 ≤ e
      · rw [if_pos h2, hc, show (1 : Int) = ((1 : Nat) : Int) from rfl]
        have e1 : bs (cps m u p e) (j + 1) = bs (cps m u p e) j + 2 ^ j := by
          rw [bs, if_pos (by simp [cps, h1, h2])]
        rw [e1, ← bs_or _ (by omega)] at hk
        exact ⟨(by unfold mz_w; omega), hk _⟩
      · rw [if_neg h2]
        have e1 : bs (cps m u p e) (j + 1) = bs (cps m u p e) j := by
          rw [bs, if_neg (by simp [cps]; omega)]
        rw [e1] at hk
        exact ⟨(by unfold mz_w; omega), hk _⟩
    · rw [if_neg h1]
      simp only [vcS0, vcS1, vcS2, vcS3, vcS4, vcS5, vcS6, vc_n0, vc_lk, vc_pop, vc_rc, vc_tsw, vc_fr, vc_ar, vc_tb, mz_nx, List.set_cons_zero, List.set_cons_succ, Nat.reduceAdd, Nat.reduceBEq, Nat.reduceEqDiff, Nat.reduceLeDiff, Nat.reduceLT, Nat.reduceMul, Int.reduceToNat, Bool.false_eq_true, Bool.or_self, Bool.or_true, Bool.true_or, Bool.or_false, reduceIte, Option.toList_some, Option.toList_none, List.nil_append, List.cons_append, List.length_cons, List.length_nil, true_and, and_true, Int.cast_ofNat_Int, Int.reduceEq, Int.reduceLT, Int.reduceLE, Nat.zero_le, and_self, or_true, true_or, cdS_76]
      have e1 : bs (cps m u p e) (j + 1) = bs (cps m u p e) j := by
        rw [bs, if_neg (by simp [cps]; omega)]
      rw [e1] at hk
      exact ⟨(by unfold mz_w; omega), hk _⟩
theorem sp_carsPaidTo (m : mz_M) {u : Nat} {p e : Int} (h : cnO m u) : sp 76 [mz_r 6 0 u, mz_i p, mz_i e] m (some (mz_i (bs (cps m u p e) 16))) m := by
  refine mz_cl_vc 60 (fun i => i == 10) [some (mz_r 6 0 u), some (mz_i p), some (mz_i e), none, none, none, none, none] rfl ?_
  simp only [vcS0, vcS1, vcS2, vcS3, vcS4, vcS5, vcS6, vc_n0, vc_lk, vc_pop, vc_rc, vc_tsw, vc_fr, vc_ar, vc_tb, mz_nx, List.set_cons_zero, List.set_cons_succ, Nat.reduceAdd, Nat.reduceBEq, Nat.reduceEqDiff, Nat.reduceLeDiff, Nat.reduceLT, Nat.reduceMul, Int.reduceToNat, Bool.false_eq_true, Bool.or_self, Bool.or_true, Bool.true_or, Bool.or_false, reduceIte, Option.toList_some, Option.toList_none, List.nil_append, List.cons_append, List.length_cons, List.length_nil, true_and, and_true, Int.cast_ofNat_Int, Int.reduceEq, Int.reduceLT, Int.reduceLE, Nat.zero_le, and_self, or_true, true_or, cdS_76]
  exact cps_loop m h 16 0 none rfl
def ctt (m : mz_M) (u : Nat) (c : Nat) : Bool := decide (m (u + 24 + c) 1 = 2 ∧ m (u + 24 + c) 4 ≤ m u 3 - 180)
theorem ctt_loop (m : mz_M) {u : Nat} (h : cnO m u) (ht : 0 ≤ m u 3 ∧ m u 3 ≤ 100000) : ∀ (r j : Nat) (x : Option mz_V), j + r = 16 → sx 77 10 [some (mz_r 6 0 u), some (mz_i (bs (ctt m u) j)), some (mz_r 104 16 (u + 16)), some (mz_i 16), some (mz_i j), x] [] m (some (mz_i (bs (ctt m u) 16))) m := by
  intro r
  induction r with
  | zero =>
    intro j x hj
    obtain rfl : j = 16 := by omega
    refine mz_vc_ok 60 (ct := fun i => i == 10) ?_
    simp only [vcS0, vcS1, vcS2, vcS3, vcS4, vcS5, vcS6, vc_n0, vc_lk, vc_pop, vc_rc, vc_tsw, vc_fr, vc_ar, vc_tb, mz_nx, List.set_cons_zero, List.set_cons_succ, Nat.reduceAdd, Nat.reduceBEq, Nat.reduceEqDiff, Nat.reduceLeDiff, Nat.reduceLT, Nat.reduceMul, Int.reduceToNat, Bool.false_eq_true, Bool.or_self, Bool.or_true, Bool.true_or, Bool.or_false, reduceIte, Option.toList_some, Option.toList_none, List.nil_append, List.cons_append, List.length_cons, List.length_nil, true_and, and_true, Int.cast_ofNat_Int, Int.reduceEq, Int.reduceLT, Int.reduceLE, Nat.zero_le, and_self, or_true, true_or, cdS_77]
  | succ r ih =>
    intro j x hj
    have hk := fun x => ih (j + 1) x (by omega)
    have hc := h j (by omega)
    refine mz_vc_ok 60 (ct := fun i => i == 10) ?_
    simp only [vcS0, vcS1, vcS2, vcS3, vcS4, vcS5, vcS6, vc_n0, vc_lk, vc_pop, vc_rc, vc_tsw, vc_fr, vc_ar, vc_tb, mz_nx, List.set_cons_zero, List.set_cons_succ, Nat.reduceAdd, Nat.reduceBEq, Nat.reduceEqDiff, Nat.reduceLeDiff, Nat.reduceLT, Nat.reduceMul, Int.reduceToNat, Bool.false_eq_true, Bool.or_self, Bool.or_true, Bool.true_or, Bool.or_false, reduceIte, Option.toList_some, Option.toList_none, List.nil_append, List.cons_append, List.length_cons, List.length_nil, true_and, and_true, Int.cast_ofNat_Int, Int.reduceEq, Int.reduceLT, Int.reduceLE, Nat.zero_le, and_self, or_true, true_or, cdS_77]
    rw [if_pos (by omega), Int.toNat_natCast, show u + 16 + (8 + 1 * j) = u + 24 + j by omega]
    refine ⟨by omega, ?_⟩
    refine ⟨_, _, sp_canBeTowedAt m _ _ ht, ?_⟩
    by_cases h1 : m (u + 24 + j) 1 = 2 ∧ m (u + 24 + j) 4 ≤ m u 3 - 180
    · rw [if_pos h1]
      simp only [vcS0, vcS1, vcS2, vcS3, vcS4, vcS5, vcS6, vc_n0, vc_lk, vc_pop, vc_rc, vc_tsw, vc_fr, vc_ar, vc_tb, mz_nx, List.set_cons_zero, List.set_cons_succ, Nat.reduceAdd, Nat.reduceBEq, Nat.reduceEqDiff, Nat.reduceLeDiff, Nat.reduceLT, Nat.reduceMul, Int.reduceToNat, Bool.false_eq_true, Bool.or_self, Bool.or_true, Bool.true_or, Bool.or_false, reduceIte, Option.toList_some, Option.toList_none, List.nil_append, List.cons_append, List.length_cons, List.length_nil, true_and, and_true, Int.cast_ofNat_Int, Int.reduceEq, Int.reduceLT, Int.reduceLE, Nat.zero_le, and_self, or_true, true_or, cdS_77]
      rw [hc, show (1 : Int) = ((1 : Nat) : Int) from rfl]
      have e1 : bs (ctt m u) (j + 1) = bs (ctt m u) j + 2 ^ j := by
        rw [bs, if_pos (by simp [ctt, h1])]
      rw [e1, ← bs_or _ (by omega)] at hk
      exact ⟨(by unfold mz_w; omega), hk _⟩
    · rw [if_neg h1]
      simp only [vcS0, vcS1, vcS2, vcS3, vcS4, vcS5, vcS6, vc_n0, vc_lk, vc_pop, vc_rc, vc_tsw, vc_fr, vc_ar, vc_tb, mz_nx, List.set_cons_zero, List.set_cons_succ, Nat.reduceAdd, Nat.reduceBEq, Nat.reduceEqDiff, Nat.reduceLeDiff, Nat.reduceLT, Nat.reduceMul, Int.reduceToNat, Bool.false_eq_true, Bool.or_self, Bool.or_true, Bool.true_or, Bool.or_false, reduceIte, Option.toList_some, Option.toList_none, List.nil_append, List.cons_append, List.length_cons, List.length_nil, true_and, and_true, Int.cast_ofNat_Int, Int.reduceEq, Int.reduceLT, Int.reduceLE, Nat.zero_le, and_self, or_true, true_or, cdS_77]
      have e1 : bs (ctt m u) (j + 1) = bs (ctt m u) j := by
        rw [bs, if_neg (by simp [ctt]; omega)]
      rw [e1] at hk
      exact ⟨(by unfold mz_w; omega), hk _⟩
theorem sp_carsToTow (m : mz_M) {u : Nat} (h : cnO m u) (ht : 0 ≤ m u 3 ∧ m u 3 ≤ 100000) : sp 77 [mz_r 6 0 u] m (some (mz_i (bs (ctt m u) 16))) m := by
  refine mz_cl_vc 60 (fun i => i == 10) [some (mz_r 6 0 u), none, none, none, none, none] rfl ?_
  simp only [vcS0, vcS1, vcS2, vcS3, vcS4, vcS5, vcS6, vc_n0, vc_lk, vc_pop, vc_rc, vc_tsw, vc_fr, vc_ar, vc_tb, mz_nx, List.set_cons_zero, List.set_cons_succ, Nat.reduceAdd, Nat.reduceBEq, Nat.reduceEqDiff, Nat.reduceLeDiff, Nat.reduceLT, Nat.reduceMul, Int.reduceToNat, Bool.false_eq_true, Bool.or_self, Bool.or_true, Bool.true_or, Bool.or_false, reduceIte, Option.toList_some, Option.toList_none, List.nil_append, List.cons_append, List.length_cons, List.length_nil, true_and, and_true, Int.cast_ofNat_Int, Int.reduceEq, Int.reduceLT, Int.reduceLE, Nat.zero_le, and_self, or_true, true_or, cdS_77]
  exact ctt_loop m h ht 16 0 none rfl
def cos (m : mz_M) (u : Nat) (p : Int) (c : Nat) : Bool := decide ((m (u + 24 + c) 1 = 1 ∨ m (u + 24 + c) 1 = 2) ∧ m (u + 24 + c) 2 = p)
theorem cos_loop (m : mz_M) {u : Nat} {p : Int} (h : cnO m u) : ∀ (r j : Nat) (x : Option mz_V), j + r = 16 → sx 139 10 [some (mz_r 6 0 u), some (mz_i p), some (mz_i (bs (cos m u p) j)), some (mz_r 104 16 (u + 16)), some (mz_i 16), some (mz_i j), x] [] m (some (mz_i (bs (cos m u p) 16))) m := by
  intro r
  induction r with
  | zero =>
    intro j x hj
    obtain rfl : j = 16 := by omega
    refine mz_vc_ok 60 (ct := fun i => i == 10) ?_
    simp only [vcS0, vcS1, vcS2, vcS3, vcS4, vcS5, vcS6, vc_n0, vc_lk, vc_pop, vc_rc, vc_tsw, vc_fr, vc_ar, vc_tb, mz_nx, List.set_cons_zero, List.set_cons_succ, Nat.reduceAdd, Nat.reduceBEq, Nat.reduceEqDiff, Nat.reduceLeDiff, Nat.reduceLT, Nat.reduceMul, Int.reduceToNat, Bool.false_eq_true, Bool.or_self, Bool.or_true, Bool.true_or, Bool.or_false, reduceIte, Option.toList_some, Option.toList_none, List.nil_append, List.cons_append, List.length_cons, List.length_nil, true_and, and_true, Int.cast_ofNat_Int, Int.reduceEq, Int.reduceLT, Int.reduceLE, Nat.zero_le, and_self, or_true, true_or, cdS_139]
  | succ r ih =>
    intro j x hj
    have hk := fun x => ih (j + 1) x (by omega)
    have hc := h j (by omega)
    refine mz_vc_ok 60 (ct := fun i => i == 10) ?_
    simp only [vcS0, vcS1, vcS2, vcS3, vcS4, vcS5, vcS6, vc_n0, vc_lk, vc_pop, vc_rc, vc_tsw, vc_fr, vc_ar, vc_tb, mz_nx, List.set_cons_zero, List.set_cons_succ, Nat.reduceAdd, Nat.reduceBEq, Nat.reduceEqDiff, Nat.reduceLeDiff, Nat.reduceLT, Nat.reduceMul, Int.reduceToNat, Bool.false_eq_true, Bool.or_self, Bool.or_true, Bool.true_or, Bool.or_false, reduceIte, Option.toList_some, Option.toList_none, List.nil_append, List.cons_append, List.length_cons, List.length_nil, true_and, and_true, Int.cast_ofNat_Int, Int.reduceEq, Int.reduceLT, Int.reduceLE, Nat.zero_le, and_self, or_true, true_or, cdS_139]
    rw [if_pos (by omega), Int.toNat_natCast, show u + 16 + (8 + 1 * j) = u + 24 + j by omega]
    refine ⟨by omega, ?_⟩
    refine ⟨_, _, sp_takesSpaceAt m _ _, ?_⟩
    by_cases h1 : (m (u + 24 + j) 1 = 1 ∨ m (u + 24 + j) 1 = 2) ∧ m (u + 24 + j) 2 = p
    · rw [if_pos h1]
      simp only [vcS0, vcS1, vcS2, vcS3, vcS4, vcS5, vcS6, vc_n0, vc_lk, vc_pop, vc_rc, vc_tsw, vc_fr, vc_ar, vc_tb, mz_nx, List.set_cons_zero, List.set_cons_succ, Nat.reduceAdd, Nat.reduceBEq, Nat.reduceEqDiff, Nat.reduceLeDiff, Nat.reduceLT, Nat.reduceMul, Int.reduceToNat, Bool.false_eq_true, Bool.or_self, Bool.or_true, Bool.true_or, Bool.or_false, reduceIte, Option.toList_some, Option.toList_none, List.nil_append, List.cons_append, List.length_cons, List.length_nil, true_and, and_true, Int.cast_ofNat_Int, Int.reduceEq, Int.reduceLT, Int.reduceLE, Nat.zero_le, and_self, or_true, true_or, cdS_139]
      rw [hc, show (1 : Int) = ((1 : Nat) : Int) from rfl]
      have e1 : bs (cos m u p) (j + 1) = bs (cos m u p) j + 2 ^ j := by
        rw [bs, if_pos (by unfold cos; rw [decide_eq_true_eq]; exact h1)]
      rw [e1, ← bs_or _ (by omega)] at hk
      exact ⟨(by unfold mz_w; omega), hk _⟩
    · rw [if_neg h1]
      simp only [vcS0, vcS1, vcS2, vcS3, vcS4, vcS5, vcS6, vc_n0, vc_lk, vc_pop, vc_rc, vc_tsw, vc_fr, vc_ar, vc_tb, mz_nx, List.set_cons_zero, List.set_cons_succ, Nat.reduceAdd, Nat.reduceBEq, Nat.reduceEqDiff, Nat.reduceLeDiff, Nat.reduceLT, Nat.reduceMul, Int.reduceToNat, Bool.false_eq_true, Bool.or_self, Bool.or_true, Bool.true_or, Bool.or_false, reduceIte, Option.toList_some, Option.toList_none, List.nil_append, List.cons_append, List.length_cons, List.length_nil, true_and, and_true, Int.cast_ofNat_Int, Int.reduceEq, Int.reduceLT, Int.reduceLE, Nat.zero_le, and_self, or_true, true_or, cdS_139]
      have e1 : bs (cos m u p) (j + 1) = bs (cos m u p) j := by
        rw [bs, if_neg (by unfold cos; rw [decide_eq_true_eq]; exact h1)]
      rw [e1] at hk
      exact ⟨(by unfold mz_w; omega), hk _⟩
theorem sp_carsOnSpaces (m : mz_M) {u : Nat} {p : Int} (h : cnO m u) : sp 139 [mz_r 6 0 u, mz_i p] m (some (mz_i (bs (cos m u p) 16))) m := by
  refine mz_cl_vc 60 (fun i => i == 10) [some (mz_r 6 0 u), some (mz_i p), none, none, none, none, none] rfl ?_
  simp only [vcS0, vcS1, vcS2, vcS3, vcS4, vcS5, vcS6, vc_n0, vc_lk, vc_pop, vc_rc, vc_tsw, vc_fr, vc_ar, vc_tb, mz_nx, List.set_cons_zero, List.set_cons_succ, Nat.reduceAdd, Nat.reduceBEq, Nat.reduceEqDiff, Nat.reduceLeDiff, Nat.reduceLT, Nat.reduceMul, Int.reduceToNat, Bool.false_eq_true, Bool.or_self, Bool.or_true, Bool.true_or, Bool.or_false, reduceIte, Option.toList_some, Option.toList_none, List.nil_append, List.cons_append, List.length_cons, List.length_nil, true_and, and_true, Int.cast_ofNat_Int, Int.reduceEq, Int.reduceLT, Int.reduceLE, Nat.zero_le, and_self, or_true, true_or, cdS_139]
  exact cos_loop m h 16 0 none rfl
theorem sp_spacesLeft (m : mz_M) {u : Nat} {p : Nat} (h : cnO m u) (hp : p < 10) (hs : 0 ≤ m (u + 3) p ∧ m (u + 3) p ≤ 1000) : sp 202 [mz_r 6 0 u, mz_i p] m (some (mz_i (m (u + 3) p - sm (fun c => if cos m u p c then 1 else 0) 16))) m := by
  refine mz_cl_vc 60 (fun _ => false) [some (mz_r 6 0 u), some (mz_i p)] rfl ?_
  simp only [vcS0, vcS1, vcS2, vcS3, vcS4, vcS5, vcS6, vc_n0, vc_lk, vc_pop, vc_rc, vc_tsw, vc_fr, vc_ar, vc_tb, mz_nx, List.set_cons_zero, List.set_cons_succ, Nat.reduceAdd, Nat.reduceBEq, Nat.reduceEqDiff, Nat.reduceLeDiff, Nat.reduceLT, Nat.reduceMul, Int.reduceToNat, Bool.false_eq_true, Bool.or_self, Bool.or_true, Bool.true_or, Bool.or_false, reduceIte, Option.toList_some, Option.toList_none, List.nil_append, List.cons_append, List.length_cons, List.length_nil, true_and, and_true, Int.cast_ofNat_Int, Int.reduceEq, Int.reduceLT, Int.reduceLE, Nat.zero_le, and_self, or_true, true_or, cdS_202]
  refine ⟨_, _, sp_atN (o := u + 3) m hp, ?_⟩
  simp only [vcS0, vcS1, vcS2, vcS3, vcS4, vcS5, vcS6, vc_n0, vc_lk, vc_pop, vc_rc, vc_tsw, vc_fr, vc_ar, vc_tb, mz_nx, List.set_cons_zero, List.set_cons_succ, Nat.reduceAdd, Nat.reduceBEq, Nat.reduceEqDiff, Nat.reduceLeDiff, Nat.reduceLT, Nat.reduceMul, Int.reduceToNat, Bool.false_eq_true, Bool.or_self, Bool.or_true, Bool.true_or, Bool.or_false, reduceIte, Option.toList_some, Option.toList_none, List.nil_append, List.cons_append, List.length_cons, List.length_nil, true_and, and_true, Int.cast_ofNat_Int, Int.reduceEq, Int.reduceLT, Int.reduceLE, Nat.zero_le, and_self, or_true, true_or, cdS_202]
  refine ⟨_, _, sp_carsOnSpaces m h, ?_⟩
  simp only [vcS0, vcS1, vcS2, vcS3, vcS4, vcS5, vcS6, vc_n0, vc_lk, vc_pop, vc_rc, vc_tsw, vc_fr, vc_ar, vc_tb, mz_nx, List.set_cons_zero, List.set_cons_succ, Nat.reduceAdd, Nat.reduceBEq, Nat.reduceEqDiff, Nat.reduceLeDiff, Nat.reduceLT, Nat.reduceMul, Int.reduceToNat, Bool.false_eq_true, Bool.or_self, Bool.or_true, Bool.true_or, Bool.or_false, reduceIte, Option.toList_some, Option.toList_none, List.nil_append, List.cons_append, List.length_cons, List.length_nil, true_and, and_true, Int.cast_ofNat_Int, Int.reduceEq, Int.reduceLT, Int.reduceLE, Nat.zero_le, and_self, or_true, true_or, cdS_202]
  refine ⟨_, _, sp_bitCount m (bs_lt _ 16), ?_⟩
  simp only [vcS0, vcS1, vcS2, vcS3, vcS4, vcS5, vcS6, vc_n0, vc_lk, vc_pop, vc_rc, vc_tsw, vc_fr, vc_ar, vc_tb, mz_nx, List.set_cons_zero, List.set_cons_succ, Nat.reduceAdd, Nat.reduceBEq, Nat.reduceEqDiff, Nat.reduceLeDiff, Nat.reduceLT, Nat.reduceMul, Int.reduceToNat, Bool.false_eq_true, Bool.or_self, Bool.or_true, Bool.true_or, Bool.or_false, reduceIte, Option.toList_some, Option.toList_none, List.nil_append, List.cons_append, List.length_cons, List.length_nil, true_and, and_true, Int.cast_ofNat_Int, Int.reduceEq, Int.reduceLT, Int.reduceLE, Nat.zero_le, and_self, or_true, true_or, cdS_202]
  rw [pop_bs _ _ (Nat.le_refl 16)]
  have h0 : 0 ≤ sm (fun c => if cos m u p c then 1 else 0) 16 := sm_0 fun i hi => by split <;> omega
  have h1 : sm (fun c => if cos m u p c then 1 else 0) 16 ≤ 1 * 16 := sm_ub fun i hi => by split <;> omega
  exact ⟨(by unfold mz_w; omega), rfl⟩
def pnd (m : mz_M) (u : Nat) (p : Int) (c : Nat) : Int := if m (u + 24 + c) 1 = 3 ∧ m (u + 24 + c) 2 = p then 1 else 0
theorem pr_loop (m : mz_M) {u : Nat} {p s : Int} (hs : 0 ≤ s ∧ s ≤ 1000) : ∀ (r j : Nat) (x : Option mz_V), j + r = 16 → sx 78 14 [some (mz_r 6 0 u), some (mz_i p), some (mz_i (s - sm (pnd m u p) j)), some (mz_r 104 16 (u + 16)), some (mz_i 16), some (mz_i j), x] [] m (some (mz_i (s - sm (pnd m u p) 16))) m := by
  intro r
  induction r with
  | zero =>
    intro j x hj
    obtain rfl : j = 16 := by omega
    refine mz_vc_ok 60 (ct := fun i => i == 14) ?_
    simp only [vcS0, vcS1, vcS2, vcS3, vcS4, vcS5, vcS6, vc_n0, vc_lk, vc_pop, vc_rc, vc_tsw, vc_fr, vc_ar, vc_tb, mz_nx, List.set_cons_zero, List.set_cons_succ, Nat.reduceAdd, Nat.reduceBEq, Nat.reduceEqDiff, Nat.reduceLeDiff, Nat.reduceLT, Nat.reduceMul, Int.reduceToNat, Bool.false_eq_true, Bool.or_self, Bool.or_true, Bool.true_or, Bool.or_false, reduceIte, Option.toList_some, Option.toList_none, List.nil_append, List.cons_append, List.length_cons, List.length_nil, true_and, and_true, Int.cast_ofNat_Int, Int.reduceEq, Int.reduceLT, Int.reduceLE, Nat.zero_le, and_self, or_true, true_or, cdS_78]
  | succ r ih =>
    intro j x hj
    have hk := fun x => ih (j + 1) x (by omega)
    have h0 : 0 ≤ sm (pnd m u p) j := sm_0 fun i hi => by unfold pnd; split <;> omega
    have h1 : sm (pnd m u p) j ≤ 1 * j := sm_ub fun i hi => by unfold pnd; split <;> omega
    refine mz_vc_ok 60 (ct := fun i => i == 14) ?_
    simp only [vcS0, vcS1, vcS2, vcS3, vcS4, vcS5, vcS6, vc_n0, vc_lk, vc_pop, vc_rc, vc_tsw, vc_fr, vc_ar, vc_tb, mz_nx, List.set_cons_zero, List.set_cons_succ, Nat.reduceAdd, Nat.reduceBEq, Nat.reduceEqDiff, Nat.reduceLeDiff, Nat.reduceLT, Nat.reduceMul, Int.reduceToNat, Bool.false_eq_true, Bool.or_self, Bool.or_true, Bool.true_or, Bool.or_false, reduceIte, Option.toList_some, Option.toList_none, List.nil_append, List.cons_append, List.length_cons, List.length_nil, true_and, and_true, Int.cast_ofNat_Int, Int.reduceEq, Int.reduceLT, Int.reduceLE, Nat.zero_le, and_self, or_true, true_or, cdS_78]
    rw [if_pos (by omega), Int.toNat_natCast, show u + 16 + (8 + 1 * j) = u + 24 + j by omega]
    refine ⟨by omega, ?_⟩
    refine ⟨_, _, sp_isAt m _ _ _, ?_⟩
    by_cases h2 : m (u + 24 + j) 1 = 3 ∧ m (u + 24 + j) 2 = p
    · rw [if_pos h2]
      simp only [vcS0, vcS1, vcS2, vcS3, vcS4, vcS5, vcS6, vc_n0, vc_lk, vc_pop, vc_rc, vc_tsw, vc_fr, vc_ar, vc_tb, mz_nx, List.set_cons_zero, List.set_cons_succ, Nat.reduceAdd, Nat.reduceBEq, Nat.reduceEqDiff, Nat.reduceLeDiff, Nat.reduceLT, Nat.reduceMul, Int.reduceToNat, Bool.false_eq_true, Bool.or_self, Bool.or_true, Bool.true_or, Bool.or_false, reduceIte, Option.toList_some, Option.toList_none, List.nil_append, List.cons_append, List.length_cons, List.length_nil, true_and, and_true, Int.cast_ofNat_Int, Int.reduceEq, Int.reduceLT, Int.reduceLE, Nat.zero_le, and_self, or_true, true_or, cdS_78]
      have e1 : s - sm (pnd m u p) (j + 1) = s - sm (pnd m u p) j + -1 := by
        rw [sm, show pnd m u p j = 1 from if_pos h2]; omega
      rw [e1] at hk
      exact ⟨(by unfold mz_w; omega), (by unfold mz_w; omega), hk _⟩
    · rw [if_neg h2]
      simp only [vcS0, vcS1, vcS2, vcS3, vcS4, vcS5, vcS6, vc_n0, vc_lk, vc_pop, vc_rc, vc_tsw, vc_fr, vc_ar, vc_tb, mz_nx, List.set_cons_zero, List.set_cons_succ, Nat.reduceAdd, Nat.reduceBEq, Nat.reduceEqDiff, Nat.reduceLeDiff, Nat.reduceLT, Nat.reduceMul, Int.reduceToNat, Bool.false_eq_true, Bool.or_self, Bool.or_true, Bool.true_or, Bool.or_false, reduceIte, Option.toList_some, Option.toList_none, List.nil_append, List.cons_append, List.length_cons, List.length_nil, true_and, and_true, Int.cast_ofNat_Int, Int.reduceEq, Int.reduceLT, Int.reduceLE, Nat.zero_le, and_self, or_true, true_or, cdS_78]
      have e1 : sm (pnd m u p) (j + 1) = sm (pnd m u p) j := by
        rw [sm, show pnd m u p j = 0 from if_neg h2]; omega
      rw [e1] at hk
      exact ⟨(by unfold mz_w; omega), hk _⟩
theorem sp_poundRoom (m : mz_M) {u p : Nat} (hp : p < 10) (hs : 0 ≤ m (u + 4) p ∧ m (u + 4) p ≤ 1000) : sp 78 [mz_r 6 0 u, mz_i p] m (some (mz_i (m (u + 4) p - sm (pnd m u p) 16))) m := by
  refine mz_cl_vc 60 (fun i => i == 14) [some (mz_r 6 0 u), some (mz_i p), none, none, none, none, none] rfl ?_
  simp only [vcS0, vcS1, vcS2, vcS3, vcS4, vcS5, vcS6, vc_n0, vc_lk, vc_pop, vc_rc, vc_tsw, vc_fr, vc_ar, vc_tb, mz_nx, List.set_cons_zero, List.set_cons_succ, Nat.reduceAdd, Nat.reduceBEq, Nat.reduceEqDiff, Nat.reduceLeDiff, Nat.reduceLT, Nat.reduceMul, Int.reduceToNat, Bool.false_eq_true, Bool.or_self, Bool.or_true, Bool.true_or, Bool.or_false, reduceIte, Option.toList_some, Option.toList_none, List.nil_append, List.cons_append, List.length_cons, List.length_nil, true_and, and_true, Int.cast_ofNat_Int, Int.reduceEq, Int.reduceLT, Int.reduceLE, Nat.zero_le, and_self, or_true, true_or, cdS_78]
  refine ⟨_, _, sp_atN (o := u + 4) m hp, ?_⟩
  simp only [vcS0, vcS1, vcS2, vcS3, vcS4, vcS5, vcS6, vc_n0, vc_lk, vc_pop, vc_rc, vc_tsw, vc_fr, vc_ar, vc_tb, mz_nx, List.set_cons_zero, List.set_cons_succ, Nat.reduceAdd, Nat.reduceBEq, Nat.reduceEqDiff, Nat.reduceLeDiff, Nat.reduceLT, Nat.reduceMul, Int.reduceToNat, Bool.false_eq_true, Bool.or_self, Bool.or_true, Bool.true_or, Bool.or_false, reduceIte, Option.toList_some, Option.toList_none, List.nil_append, List.cons_append, List.length_cons, List.length_nil, true_and, and_true, Int.cast_ofNat_Int, Int.reduceEq, Int.reduceLT, Int.reduceLE, Nat.zero_le, and_self, or_true, true_or, cdS_78]
  have := pr_loop m (u := u) (p := p) hs 16 0 none rfl
  rw [show m (u + 4) p - sm (pnd m u p) 0 = m (u + 4) p by simp [sm]] at this
  exact this
def cmy (m : mz_M) (k : Nat) : Prop := 0 ≤ m k 8 ∧ m k 8 ≤ 100000000 ∧ 0 ≤ m k 9 ∧ m k 9 ≤ 100000000 ∧ 0 ≤ m k 10 ∧ m k 10 ≤ 100000000
def owe (m : mz_M) (k : Nat) : Int := max 0 (m k 8 + m k 9 - m k 10)
theorem ao_loop (m : mz_M) {u : Nat} (hm : ∀ c, c < 16 → cmy m (u + 24 + c) ∧ owe m (u + 24 + c) ≤ 10000000) : ∀ (r j : Nat) (x : Option mz_V), j + r = 16 → sx 138 10 [some (mz_r 6 0 u), some (mz_i (sm (fun c => owe m (u + 24 + c)) j)), some (mz_r 104 16 (u + 16)), some (mz_i 16), some (mz_i j), x] [] m (some (mz_i (sm (fun c => owe m (u + 24 + c)) 16))) m := by
  intro r
  induction r with
  | zero =>
    intro j x hj
    obtain rfl : j = 16 := by omega
    refine mz_vc_ok 60 (ct := fun i => i == 10) ?_
    simp only [vcS0, vcS1, vcS2, vcS3, vcS4, vcS5, vcS6, vc_n0, vc_lk, vc_pop, vc_rc, vc_tsw, vc_fr, vc_ar, vc_tb, mz_nx, List.set_cons_zero, List.set_cons_succ, Nat.reduceAdd, Nat.reduceBEq, Nat.reduceEqDiff, Nat.reduceLeDiff, Nat.reduceLT, Nat.reduceMul, Int.reduceToNat, Bool.false_eq_true, Bool.or_self, Bool.or_true, Bool.true_or, Bool.or_false, reduceIte, Option.toList_some, Option.toList_none, List.nil_append, List.cons_append, List.length_cons, List.length_nil, true_and, and_true, Int.cast_ofNat_Int, Int.reduceEq, Int.reduceLT, Int.reduceLE, Nat.zero_le, and_self, or_true, true_or, cdS_138]
  | succ r ih =>
    intro j x hj
    have hk := fun x => ih (j + 1) x (by omega)
    have hmj := hm j (by omega)
    have h0 : 0 ≤ sm (fun c => owe m (u + 24 + c)) j := sm_0 fun i hi => by unfold owe; omega
    have h1 : sm (fun c => owe m (u + 24 + c)) j ≤ 10000000 * j := sm_ub fun i hi => (hm i (by omega)).2
    have h2 : 0 ≤ owe m (u + 24 + j) := by unfold owe; omega
    refine mz_vc_ok 60 (ct := fun i => i == 10) ?_
    simp only [vcS0, vcS1, vcS2, vcS3, vcS4, vcS5, vcS6, vc_n0, vc_lk, vc_pop, vc_rc, vc_tsw, vc_fr, vc_ar, vc_tb, mz_nx, List.set_cons_zero, List.set_cons_succ, Nat.reduceAdd, Nat.reduceBEq, Nat.reduceEqDiff, Nat.reduceLeDiff, Nat.reduceLT, Nat.reduceMul, Int.reduceToNat, Bool.false_eq_true, Bool.or_self, Bool.or_true, Bool.true_or, Bool.or_false, reduceIte, Option.toList_some, Option.toList_none, List.nil_append, List.cons_append, List.length_cons, List.length_nil, true_and, and_true, Int.cast_ofNat_Int, Int.reduceEq, Int.reduceLT, Int.reduceLE, Nat.zero_le, and_self, or_true, true_or, cdS_138]
    rw [if_pos (by omega), Int.toNat_natCast, show u + 16 + (8 + 1 * j) = u + 24 + j by omega]
    refine ⟨by omega, ?_⟩
    refine ⟨_, _, sp_owed m _ hmj.1, ?_⟩
    simp only [vcS0, vcS1, vcS2, vcS3, vcS4, vcS5, vcS6, vc_n0, vc_lk, vc_pop, vc_rc, vc_tsw, vc_fr, vc_ar, vc_tb, mz_nx, List.set_cons_zero, List.set_cons_succ, Nat.reduceAdd, Nat.reduceBEq, Nat.reduceEqDiff, Nat.reduceLeDiff, Nat.reduceLT, Nat.reduceMul, Int.reduceToNat, Bool.false_eq_true, Bool.or_self, Bool.or_true, Bool.true_or, Bool.or_false, reduceIte, Option.toList_some, Option.toList_none, List.nil_append, List.cons_append, List.length_cons, List.length_nil, true_and, and_true, Int.cast_ofNat_Int, Int.reduceEq, Int.reduceLT, Int.reduceLE, Nat.zero_le, and_self, or_true, true_or, cdS_138]
    exact ⟨by unfold owe at hmj h2; unfold mz_w; omega, (by unfold mz_w; omega), hk _⟩
theorem sp_allOwed (m : mz_M) {u : Nat} (hm : ∀ c, c < 16 → cmy m (u + 24 + c) ∧ owe m (u + 24 + c) ≤ 10000000) : sp 138 [mz_r 6 0 u] m (some (mz_i (sm (fun c => owe m (u + 24 + c)) 16))) m := by
  refine mz_cl_vc 60 (fun i => i == 10) [some (mz_r 6 0 u), none, none, none, none, none] rfl ?_
  simp only [vcS0, vcS1, vcS2, vcS3, vcS4, vcS5, vcS6, vc_n0, vc_lk, vc_pop, vc_rc, vc_tsw, vc_fr, vc_ar, vc_tb, mz_nx, List.set_cons_zero, List.set_cons_succ, Nat.reduceAdd, Nat.reduceBEq, Nat.reduceEqDiff, Nat.reduceLeDiff, Nat.reduceLT, Nat.reduceMul, Int.reduceToNat, Bool.false_eq_true, Bool.or_self, Bool.or_true, Bool.true_or, Bool.or_false, reduceIte, Option.toList_some, Option.toList_none, List.nil_append, List.cons_append, List.length_cons, List.length_nil, true_and, and_true, Int.cast_ofNat_Int, Int.reduceEq, Int.reduceLT, Int.reduceLE, Nat.zero_le, and_self, or_true, true_or, cdS_138]
  exact ao_loop m hm 16 0 none rfl
def zoA (m : mz_M) (u p : Nat) : Nat := u + 8 + 2 * znP m (u + 1) p
theorem sp_zoneAtW (m : mz_M) (u p : Nat) : sp 72 [mz_r 4 0 (u + 1), mz_i p] m (some (mz_r 7 0 (zoA m u p))) m := sp_zoneAt m (u + 1) p
theorem sp_boughtUntil (m : mz_M) {u p f c : Nat} {t s : Nat} (h3 : m u 3 = t) (hz : m (zoA m u p) 1 = s) (hR : okR (m (zoA m u p + 1))) (ht : t < 20000) (hs : s < 1000) (hf : f < 100000) (hc : c < 30000) : sp 195 [mz_r 6 0 u, mz_i p, mz_i f, mz_i c] m (some (mz_i (lu (m (zoA m u p + 1)) (t + s - f) (60 * c) f))) m := by
  refine mz_cl_vc 60 (fun _ => false) [some (mz_r 6 0 u), some (mz_i p), some (mz_i f), some (mz_i c), none] rfl ?_
  simp only [vcS0, vcS1, vcS2, vcS3, vcS4, vcS5, vcS6, vc_n0, vc_lk, vc_pop, vc_rc, vc_tsw, vc_fr, vc_ar, vc_tb, mz_nx, List.set_cons_zero, List.set_cons_succ, Nat.reduceAdd, Nat.reduceBEq, Nat.reduceEqDiff, Nat.reduceLeDiff, Nat.reduceLT, Nat.reduceMul, Int.reduceToNat, Bool.false_eq_true, Bool.or_self, Bool.or_true, Bool.true_or, Bool.or_false, reduceIte, Option.toList_some, Option.toList_none, List.nil_append, List.cons_append, List.length_cons, List.length_nil, true_and, and_true, Int.cast_ofNat_Int, Int.reduceEq, Int.reduceLT, Int.reduceLE, Nat.zero_le, and_self, or_true, true_or, cdS_195]
  refine ⟨_, _, sp_zoneAtW m u p, ?_⟩
  simp only [vcS0, vcS1, vcS2, vcS3, vcS4, vcS5, vcS6, vc_n0, vc_lk, vc_pop, vc_rc, vc_tsw, vc_fr, vc_ar, vc_tb, mz_nx, List.set_cons_zero, List.set_cons_succ, Nat.reduceAdd, Nat.reduceBEq, Nat.reduceEqDiff, Nat.reduceLeDiff, Nat.reduceLT, Nat.reduceMul, Int.reduceToNat, Bool.false_eq_true, Bool.or_self, Bool.or_true, Bool.true_or, Bool.or_false, reduceIte, Option.toList_some, Option.toList_none, List.nil_append, List.cons_append, List.length_cons, List.length_nil, true_and, and_true, Int.cast_ofNat_Int, Int.reduceEq, Int.reduceLT, Int.reduceLE, Nat.zero_le, and_self, or_true, true_or, cdS_195]
  rw [h3, hz]
  refine ⟨(by unfold mz_w; omega), ?_⟩
  refine ⟨_, _, sp_lastsUntil m (lim := t + s) hR (by omega) hf hc, ?_⟩
  simp only [vcS0, vcS1, vcS2, vcS3, vcS4, vcS5, vcS6, vc_n0, vc_lk, vc_pop, vc_rc, vc_tsw, vc_fr, vc_ar, vc_tb, mz_nx, List.set_cons_zero, List.set_cons_succ, Nat.reduceAdd, Nat.reduceBEq, Nat.reduceEqDiff, Nat.reduceLeDiff, Nat.reduceLT, Nat.reduceMul, Int.reduceToNat, Bool.false_eq_true, Bool.or_self, Bool.or_true, Bool.true_or, Bool.or_false, reduceIte, Option.toList_some, Option.toList_none, List.nil_append, List.cons_append, List.length_cons, List.length_nil, true_and, and_true, Int.cast_ofNat_Int, Int.reduceEq, Int.reduceLT, Int.reduceLE, Nat.zero_le, and_self, or_true, true_or, cdS_195]
theorem sp_overtimeOf (m : mz_M) {u k p f t : Nat} (h3 : m u 3 = t) (hp : m k 2 = p) (hf : m k 3 = f) (hf2 : f < 100000) (ht : t < 100000) : sp 197 [mz_r 6 0 u, mz_r 0 0 k] m (some (mz_i (cm (m (zoA m u p + 1)) f (t - f)))) m := by
  refine mz_cl_vc 60 (fun _ => false) [some (mz_r 6 0 u), some (mz_r 0 0 k)] rfl ?_
  simp only [vcS0, vcS1, vcS2, vcS3, vcS4, vcS5, vcS6, vc_n0, vc_lk, vc_pop, vc_rc, vc_tsw, vc_fr, vc_ar, vc_tb, mz_nx, List.set_cons_zero, List.set_cons_succ, Nat.reduceAdd, Nat.reduceBEq, Nat.reduceEqDiff, Nat.reduceLeDiff, Nat.reduceLT, Nat.reduceMul, Int.reduceToNat, Bool.false_eq_true, Bool.or_self, Bool.or_true, Bool.true_or, Bool.or_false, reduceIte, Option.toList_some, Option.toList_none, List.nil_append, List.cons_append, List.length_cons, List.length_nil, true_and, and_true, Int.cast_ofNat_Int, Int.reduceEq, Int.reduceLT, Int.reduceLE, Nat.zero_le, and_self, or_true, true_or, cdS_197]
  rw [hp]
  refine ⟨_, _, sp_zoneAtW m u p, ?_⟩
  simp only [vcS0, vcS1, vcS2, vcS3, vcS4, vcS5, vcS6, vc_n0, vc_lk, vc_pop, vc_rc, vc_tsw, vc_fr, vc_ar, vc_tb, mz_nx, List.set_cons_zero, List.set_cons_succ, Nat.reduceAdd, Nat.reduceBEq, Nat.reduceEqDiff, Nat.reduceLeDiff, Nat.reduceLT, Nat.reduceMul, Int.reduceToNat, Bool.false_eq_true, Bool.or_self, Bool.or_true, Bool.true_or, Bool.or_false, reduceIte, Option.toList_some, Option.toList_none, List.nil_append, List.cons_append, List.length_cons, List.length_nil, true_and, and_true, Int.cast_ofNat_Int, Int.reduceEq, Int.reduceLT, Int.reduceLE, Nat.zero_le, and_self, or_true, true_or, cdS_197]
  rw [h3, hf]
  refine ⟨_, _, sp_chargedMinutes m hf2 ht, ?_⟩
  simp only [vcS0, vcS1, vcS2, vcS3, vcS4, vcS5, vcS6, vc_n0, vc_lk, vc_pop, vc_rc, vc_tsw, vc_fr, vc_ar, vc_tb, mz_nx, List.set_cons_zero, List.set_cons_succ, Nat.reduceAdd, Nat.reduceBEq, Nat.reduceEqDiff, Nat.reduceLeDiff, Nat.reduceLT, Nat.reduceMul, Int.reduceToNat, Bool.false_eq_true, Bool.or_self, Bool.or_true, Bool.true_or, Bool.or_false, reduceIte, Option.toList_some, Option.toList_none, List.nil_append, List.cons_append, List.length_cons, List.length_nil, true_and, and_true, Int.cast_ofNat_Int, Int.reduceEq, Int.reduceLT, Int.reduceLE, Nat.zero_le, and_self, or_true, true_or, cdS_197]
