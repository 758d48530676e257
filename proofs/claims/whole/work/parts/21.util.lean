/-! The small helpers: rows, copies, sets. -/
theorem sp_at (m : mz_M) (n o : Nat) (j : Int) : sp 23 [mz_r 100 n o, mz_i j] m (some (mz_i (if 0 ≤ j ∧ j < n then m o j.toNat else 0))) m := by
  refine mz_cl_vc 20 (fun _ => false) [some (mz_r 100 n o), some (mz_i j)] rfl ?_
  simp only [vcS0, vcS1, vcS2, vcS3, vcS4, vcS5, vcS6, vc_n0, vc_lk, vc_pop, vc_rc, vc_tsw, vc_fr, vc_ar, vc_tb, mz_nx, List.set_cons_zero, List.set_cons_succ, Nat.reduceAdd, Nat.reduceBEq, Nat.reduceEqDiff, Nat.reduceLeDiff, Nat.reduceLT, Nat.reduceMul, Int.reduceToNat, Bool.false_eq_true, Bool.or_self, Bool.or_true, Bool.true_or, Bool.or_false, reduceIte, Option.toList_some, Option.toList_none, List.nil_append, List.cons_append, List.length_cons, List.length_nil, true_and, and_true, Int.cast_ofNat_Int, Int.reduceEq, Int.reduceLT, Int.reduceLE, Nat.zero_le, and_self, or_true, true_or, cdS_23]
  grind
theorem sp_atN (m : mz_M) {n o j : Nat} (h : j < n) : sp 23 [mz_r 100 n o, mz_i j] m (some (mz_i (m o j))) m := by
  have := sp_at m n o j
  rwa [if_pos (by omega), Int.toNat_natCast] at this
theorem sp_put (m : mz_M) (n o : Nat) (j v : Int) : sp 31 [mz_r 100 n o, mz_i j, mz_i v] m none (if 0 ≤ j ∧ j < n then mz_up m o j.toNat v else m) := by
  refine mz_cl_vc 20 (fun _ => false) [some (mz_r 100 n o), some (mz_i j), some (mz_i v)] rfl ?_
  simp only [vcS0, vcS1, vcS2, vcS3, vcS4, vcS5, vcS6, vc_n0, vc_lk, vc_pop, vc_rc, vc_tsw, vc_fr, vc_ar, vc_tb, mz_nx, List.set_cons_zero, List.set_cons_succ, Nat.reduceAdd, Nat.reduceBEq, Nat.reduceEqDiff, Nat.reduceLeDiff, Nat.reduceLT, Nat.reduceMul, Int.reduceToNat, Bool.false_eq_true, Bool.or_self, Bool.or_true, Bool.true_or, Bool.or_false, reduceIte, Option.toList_some, Option.toList_none, List.nil_append, List.cons_append, List.length_cons, List.length_nil, true_and, and_true, Int.cast_ofNat_Int, Int.reduceEq, Int.reduceLT, Int.reduceLE, Nat.zero_le, and_self, or_true, true_or, cdS_31]
  grind
theorem sp_putN (m : mz_M) {n o j : Nat} (v : Int) (h : j < n) : sp 31 [mz_r 100 n o, mz_i j, mz_i v] m none (mz_up m o j v) := by
  have := sp_put m n o j v
  rwa [if_pos (by omega), Int.toNat_natCast] at this
theorem sp_within (m : mz_M) (v a b : Int) : sp 33 [mz_i v, mz_i a, mz_i b] m (some (mz_i (if a ≤ v ∧ v ≤ b then 1 else 0))) m := by
  refine mz_cl_vc 20 (fun _ => false) [some (mz_i v), some (mz_i a), some (mz_i b)] rfl ?_
  simp only [vcS0, vcS1, vcS2, vcS3, vcS4, vcS5, vcS6, vc_n0, vc_lk, vc_pop, vc_rc, vc_tsw, vc_fr, vc_ar, vc_tb, mz_nx, List.set_cons_zero, List.set_cons_succ, Nat.reduceAdd, Nat.reduceBEq, Nat.reduceEqDiff, Nat.reduceLeDiff, Nat.reduceLT, Nat.reduceMul, Int.reduceToNat, Bool.false_eq_true, Bool.or_self, Bool.or_true, Bool.true_or, Bool.or_false, reduceIte, Option.toList_some, Option.toList_none, List.nil_append, List.cons_append, List.length_cons, List.length_nil, true_and, and_true, Int.cast_ofNat_Int, Int.reduceEq, Int.reduceLT, Int.reduceLE, Nat.zero_le, and_self, or_true, true_or, cdS_33]
  grind
theorem sp_copyRow (m : mz_M) (n o d : Nat) : sp 85 [mz_r 100 n o, mz_r 100 n d] m none (mz_cp m o d n) := by
  refine mz_cl_vc 20 (fun _ => false) [some (mz_r 100 n o), some (mz_r 100 n d)] rfl ?_
  simp only [vcS0, vcS1, vcS2, vcS3, vcS4, vcS5, vcS6, vc_n0, vc_lk, vc_pop, vc_rc, vc_tsw, vc_fr, vc_ar, vc_tb, mz_nx, List.set_cons_zero, List.set_cons_succ, Nat.reduceAdd, Nat.reduceBEq, Nat.reduceEqDiff, Nat.reduceLeDiff, Nat.reduceLT, Nat.reduceMul, Int.reduceToNat, Bool.false_eq_true, Bool.or_self, Bool.or_true, Bool.true_or, Bool.or_false, reduceIte, Option.toList_some, Option.toList_none, List.nil_append, List.cons_append, List.length_cons, List.length_nil, true_and, and_true, Int.cast_ofNat_Int, Int.reduceEq, Int.reduceLT, Int.reduceLE, Nat.zero_le, and_self, or_true, true_or, cdS_85]
  rw [show (min (n : Int) n).toNat = n by omega]
  grind
theorem sp_fullCents (m : mz_M) (v : Int) (h : 0 ≤ v) (h2 : v ≤ 100000000) : sp 25 [mz_i v] m (some (mz_i ((v + 59) / 60))) m := by
  refine mz_cl_vc 20 (fun _ => false) [some (mz_i v)] rfl ?_
  simp only [vcS0, vcS1, vcS2, vcS3, vcS4, vcS5, vcS6, vc_n0, vc_lk, vc_pop, vc_rc, vc_tsw, vc_fr, vc_ar, vc_tb, mz_nx, List.set_cons_zero, List.set_cons_succ, Nat.reduceAdd, Nat.reduceBEq, Nat.reduceEqDiff, Nat.reduceLeDiff, Nat.reduceLT, Nat.reduceMul, Int.reduceToNat, Bool.false_eq_true, Bool.or_self, Bool.or_true, Bool.true_or, Bool.or_false, reduceIte, Option.toList_some, Option.toList_none, List.nil_append, List.cons_append, List.length_cons, List.length_nil, true_and, and_true, Int.cast_ofNat_Int, Int.reduceEq, Int.reduceLT, Int.reduceLE, Nat.zero_le, and_self, or_true, true_or, cdS_25]
  exact ⟨by unfold mz_w; omega, by omega⟩
theorem sp_contains (m : mz_M) {s i : Nat} (hs : s < 2147483648) (hi : i < 32) : sp 24 [mz_i s, mz_i i] m (some (mz_i (if s / 2 ^ i % 2 = 1 then 1 else 0))) m := by
  refine mz_cl_vc 20 (fun _ => false) [some (mz_i s), some (mz_i i)] rfl ?_
  simp only [vcS0, vcS1, vcS2, vcS3, vcS4, vcS5, vcS6, vc_n0, vc_lk, vc_pop, vc_rc, vc_tsw, vc_fr, vc_ar, vc_tb, mz_nx, List.set_cons_zero, List.set_cons_succ, Nat.reduceAdd, Nat.reduceBEq, Nat.reduceEqDiff, Nat.reduceLeDiff, Nat.reduceLT, Nat.reduceMul, Int.reduceToNat, Bool.false_eq_true, Bool.or_self, Bool.or_true, Bool.true_or, Bool.or_false, reduceIte, Option.toList_some, Option.toList_none, List.nil_append, List.cons_append, List.length_cons, List.length_nil, true_and, and_true, Int.cast_ofNat_Int, Int.reduceEq, Int.reduceLT, Int.reduceLE, Nat.zero_le, and_self, or_true, true_or, cdS_24]
  rw [shr_n hi hs]
  have h1 : s / 2 ^ i < 2147483648 := Nat.lt_of_le_of_lt (Nat.div_le_self _ _) hs
  rw [show (1 : Int) = ((1 : Nat) : Int) from rfl, and_n h1 (by omega), Nat.and_one_is_mod]
  grind
theorem sp_bitCount (m : mz_M) {x : Nat} (h : x < 65536) : sp 3 [mz_i x] m (some (mz_i (pop x 16))) m := by
  refine mz_cl_vc 60 (fun _ => false) [some (mz_i x)] rfl ?_
  simp only [vcS0, vcS1, vcS2, vcS3, vcS4, vcS5, vcS6, vc_n0, vc_lk, vc_pop, vc_rc, vc_tsw, vc_fr, vc_ar, vc_tb, mz_nx, List.set_cons_zero, List.set_cons_succ, Nat.reduceAdd, Nat.reduceBEq, Nat.reduceEqDiff, Nat.reduceLeDiff, Nat.reduceLT, Nat.reduceMul, Int.reduceToNat, Bool.false_eq_true, Bool.or_self, Bool.or_true, Bool.true_or, Bool.or_false, reduceIte, Option.toList_some, Option.toList_none, List.nil_append, List.cons_append, List.length_cons, List.length_nil, true_and, and_true, Int.cast_ofNat_Int, Int.reduceEq, Int.reduceLT, Int.reduceLE, Nat.zero_le, and_self, or_true, true_or, cdS_3]
  have e1 : mz_ushr (x : Int) 1 = ((x / 2 : Nat) : Int) := ushr_n (k := 1) (by omega) (by omega)
  have e2 : mz_and ((x / 2 : Nat) : Int) 1431655765 = ((x / 2 &&& 1431655765 : Nat) : Int) := and_n (b := 1431655765) (by omega) (by omega)
  have h2 : x / 2 &&& 1431655765 ≤ x / 2 := Nat.and_le_left
  have e3 : (x : Int) - ((x / 2 &&& 1431655765 : Nat) : Int) = ((x - (x / 2 &&& 1431655765) : Nat) : Int) := by omega
  simp only [e1, e2, e3]
  rw [← bcn_ok h]
  unfold bcn
  simp only
  generalize hA : x - (x / 2 &&& 1431655765) = a
  have ha : a < 65536 := by omega
  have f1 : mz_ushr (a : Int) 2 = ((a / 4 : Nat) : Int) := ushr_n (k := 2) (by omega) (by omega)
  have f2 : mz_and ((a / 4 : Nat) : Int) 858993459 = ((a / 4 &&& 858993459 : Nat) : Int) := and_n (b := 858993459) (by omega) (by omega)
  have f3 : mz_and (a : Int) 858993459 = ((a &&& 858993459 : Nat) : Int) := and_n (b := 858993459) (by omega) (by omega)
  have h3 : a / 4 &&& 858993459 ≤ a / 4 := Nat.and_le_left
  have h4 : a &&& 858993459 ≤ a := Nat.and_le_left
  simp only [f1, f2, f3, ← Int.natCast_add]
  generalize hB : (a &&& 858993459) + (a / 4 &&& 858993459) = b
  have hb : b < 131072 := by omega
  have g1 : mz_ushr (b : Int) 4 = ((b / 16 : Nat) : Int) := ushr_n (k := 4) (by omega) (by omega)
  have g2 : mz_and ((b + b / 16 : Nat) : Int) 252645135 = ((b + b / 16 &&& 252645135 : Nat) : Int) := and_n (b := 252645135) (by omega) (by omega)
  have h5 : b + b / 16 &&& 252645135 ≤ b + b / 16 := Nat.and_le_left
  simp only [g1, ← Int.natCast_add, g2]
  generalize hC : b + b / 16 &&& 252645135 = c
  have hc : c < 200000 := by omega
  have i1 : mz_ushr (c : Int) 8 = ((c / 256 : Nat) : Int) := ushr_n (k := 8) (by omega) (by omega)
  simp only [i1, ← Int.natCast_add]
  generalize hD : c + c / 256 = d
  have hd : d < 300000 := by omega
  have j1 : mz_ushr (d : Int) 16 = ((d / 65536 : Nat) : Int) := ushr_n (k := 16) (by omega) (by omega)
  have j2 : mz_and ((d + d / 65536 : Nat) : Int) 63 = ((d + d / 65536 &&& 63 : Nat) : Int) := and_n (b := 63) (by omega) (by omega)
  simp only [j1, ← Int.natCast_add, j2]
  unfold mz_w
  refine ⟨by omega, by omega, by omega, by omega, by omega, ?_⟩
  trivial
theorem fill_loop (n o : Nat) (v : Int) (hn : n < 100000) : ∀ (r j : Nat) (m : mz_M), j + r = n → sx 4 5 [some (mz_r 100 n o), some (mz_i v), some (mz_i j), some (mz_i n)] [] m none (fun a i => if a = o ∧ j ≤ i ∧ i < n then v else m a i) := by
  intro r
  induction r with
  | zero =>
    intro j m hj
    have e : (fun a i => if a = o ∧ j ≤ i ∧ i < n then v else m a i) = m := by funext a i; rw [if_neg (by omega)]
    rw [e]
    refine mz_vc_ok 20 (ct := fun i => i == 5) ?_
    simp only [vcS0, vcS1, vcS2, vcS3, vcS4, vcS5, vcS6, vc_n0, vc_lk, vc_pop, vc_rc, vc_tsw, vc_fr, vc_ar, vc_tb, mz_nx, List.set_cons_zero, List.set_cons_succ, Nat.reduceAdd, Nat.reduceBEq, Nat.reduceEqDiff, Nat.reduceLeDiff, Nat.reduceLT, Nat.reduceMul, Int.reduceToNat, Bool.false_eq_true, Bool.or_self, Bool.or_true, Bool.true_or, Bool.or_false, reduceIte, Option.toList_some, Option.toList_none, List.nil_append, List.cons_append, List.length_cons, List.length_nil, true_and, and_true, Int.cast_ofNat_Int, Int.reduceEq, Int.reduceLT, Int.reduceLE, Nat.zero_le, and_self, or_true, true_or, cdS_4]
    rw [if_neg (by omega)]
    trivial
  | succ r ih =>
    intro j m hj
    have e : (fun a i => if a = o ∧ j ≤ i ∧ i < n then v else m a i) = (fun a i => if a = o ∧ j + 1 ≤ i ∧ i < n then v else mz_up m o j v a i) := by
      funext a i
      unfold mz_up
      grind
    rw [e]
    refine mz_vc_ok 20 (ct := fun i => i == 5) ?_
    simp only [vcS0, vcS1, vcS2, vcS3, vcS4, vcS5, vcS6, vc_n0, vc_lk, vc_pop, vc_rc, vc_tsw, vc_fr, vc_ar, vc_tb, mz_nx, List.set_cons_zero, List.set_cons_succ, Nat.reduceAdd, Nat.reduceBEq, Nat.reduceEqDiff, Nat.reduceLeDiff, Nat.reduceLT, Nat.reduceMul, Int.reduceToNat, Bool.false_eq_true, Bool.or_self, Bool.or_true, Bool.true_or, Bool.or_false, reduceIte, Option.toList_some, Option.toList_none, List.nil_append, List.cons_append, List.length_cons, List.length_nil, true_and, and_true, Int.cast_ofNat_Int, Int.reduceEq, Int.reduceLT, Int.reduceLE, Nat.zero_le, and_self, or_true, true_or, cdS_4]
    rw [if_pos (by omega)]
    refine ⟨by omega, by unfold mz_w; omega, ?_⟩
    exact ih (j + 1) _ (by omega)
theorem sp_fill (m : mz_M) (n o : Nat) (v : Int) (hn : n < 100000) : sp 4 [mz_r 100 n o, mz_i v] m none (fun a j => if a = o ∧ j < n then v else m a j) := by
  refine mz_cl_vc 20 (fun i => i == 5) [some (mz_r 100 n o), some (mz_i v), none, none] rfl ?_
  simp only [vcS0, vcS1, vcS2, vcS3, vcS4, vcS5, vcS6, vc_n0, vc_lk, vc_pop, vc_rc, vc_tsw, vc_fr, vc_ar, vc_tb, mz_nx, List.set_cons_zero, List.set_cons_succ, Nat.reduceAdd, Nat.reduceBEq, Nat.reduceEqDiff, Nat.reduceLeDiff, Nat.reduceLT, Nat.reduceMul, Int.reduceToNat, Bool.false_eq_true, Bool.or_self, Bool.or_true, Bool.true_or, Bool.or_false, reduceIte, Option.toList_some, Option.toList_none, List.nil_append, List.cons_append, List.length_cons, List.length_nil, true_and, and_true, Int.cast_ofNat_Int, Int.reduceEq, Int.reduceLT, Int.reduceLE, Nat.zero_le, and_self, or_true, true_or, cdS_4]
  have := fill_loop n o v hn n 0 m (by omega)
  simpa using this
