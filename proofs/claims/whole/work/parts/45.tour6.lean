theorem mxl_congr {f g : Nat → Int} {b b' : Int} {n : Nat} (h : ∀ i, i < n → f i = g i) (hb : b = b') : mxl f b n = mxl g b' n := by
  induction n with
  | zero => exact hb
  | succ n ih => unfold mxl; rw [ih (fun i hi => h i (by omega)), h n (by omega)]
theorem bwO_congr {g g' : Nat → Nat → Int} {pn : Nat} : ∀ n, (∀ i, i < n → ∀ t, t < pn → g i t = g' i t) → bwO g pn n = bwO g' pn n := by
  intro n
  induction n with
  | zero => intro _; rfl
  | succ n ih => intro h; unfold bwO; exact mxl_congr (h n (by omega)) (ih (fun i hi => h i (by omega)))
theorem woF_congr {Rm Ln T T2 : Nat → Int} {a b f i t : Nat} (ha : a < 64) (hb : b ≤ pop a 16) (hi : i < 6) (ht : t < 2) (h : ∀ k, k < 896 → a < k / 14 → T2 k = T k) : woF Rm Ln T2 a b f i t = woF Rm Ln T a b f i t := by
  unfold woF
  by_cases hc : a / 2 ^ i % 2 = 1 ∨ Rm t ≤ (if t = 0 then (b : Int) else pop a 16 - b) ∨ 1000000 ≤ Ln ((f * 6 + i) * 2 + t)
  · rw [if_pos hc, if_pos hc]
  · rw [if_neg hc, if_neg hc]
    have h1 := pw1 a ha i hi (fun h => hc (Or.inl h))
    have hp : 0 < 2 ^ i := Nat.two_pow_pos i
    generalize 2 ^ i = p at h1 hp ⊢
    have hb' : (if t = 0 then b + 1 else b) ≤ 6 := by split <;> omega
    generalize (if t = 0 then b + 1 else b) = b' at hb' ⊢
    rw [h (((a + p) * 7 + b') * 2 + t) (by omega) (by omega)]
def weQ (Rm Ln T : Nat → Int) (pn cn a b f : Nat) : Prop := T ((a * 7 + b) * 2 + f) = bwO (woF Rm Ln T a b f) pn cn
def weI (Rm Ln T : Nat → Int) (pn cn a b f : Nat) : Prop := woB T ∧ ∀ a' b' f', a' < 2 ^ cn → b' ≤ pop a' 16 → f' < pn → (a < a' ∨ a' = a ∧ (b' < b ∨ b' = b ∧ f' < f)) → weQ Rm Ln T pn cn a' b' f'
theorem tpO_row {m : mz_M} {q cn pn : Nat} {T : Nat → Int} (h : tpO m q cn pn) (hT : woB T) : tpO (rowS m (q + 6) 896 T) q cn pn := by
  obtain ⟨h9, h10, hcn, hpn, hL, hW⟩ := h
  refine ⟨by rw [rowS_o (by omega)]; exact h9, by rw [rowS_o (by omega)]; exact h10, hcn, hpn, fun k hk => by rw [rowS_o (by omega)]; exact hL k hk, fun k hk => by rw [rowS_at hk]; exact hT k hk⟩
theorem we_step {Rm Ln T : Nat → Int} {pn cn a b f : Nat} (hcn : cn ≤ 6) (hpn : pn ≤ 2) (ha : a < 2 ^ cn) (hb : b ≤ pop a 16) (hf : f < pn) (hL : lnO Ln) (h : weI Rm Ln T pn cn a b f) : weI Rm Ln (fun k => if k = (a * 7 + b) * 2 + f then bwO (woF Rm Ln T a b f) pn cn else T k) pn cn a b (f + 1) := by
  have hp : 2 ^ cn ≤ 64 := Nat.pow_le_pow_right (by omega) (show cn ≤ 6 from hcn)
  have h2 := pw2 a (by omega)
  have hv := bwO_ok (g := woF Rm Ln T a b f) (pn := pn) (c := 100000 * (6 - (pop a 16 : Int))) (by omega) cn (fun i hi t ht => (woF_ok (by omega) hb (by omega) (by omega) (by omega) hL h.1).2)
  refine ⟨fun k hk => ?_, fun a' b' f' ha' hb' hf' ho => ?_⟩
  · simp only
    split
    · rename_i he
      have : k / 14 = a := by omega
      rw [this]
      exact hv
    · exact h.1 k hk
  · have hb6 := pw2 a' (by omega)
    have e : bwO (woF Rm Ln (fun k => if k = (a * 7 + b) * 2 + f then bwO (woF Rm Ln T a b f) pn cn else T k) a' b' f') pn cn = bwO (woF Rm Ln T a' b' f') pn cn := bwO_congr cn fun i hi t ht => woF_congr (by omega) hb' (by omega) (by omega) fun k hk hk2 => by
      rw [if_neg (by omega)]
    unfold weQ
    rw [e]
    simp only
    by_cases hs : a' = a ∧ b' = b ∧ f' = f
    · obtain ⟨rfl, rfl, rfl⟩ := hs
      rw [if_pos rfl]
    · rw [if_neg (by omega)]
      exact h.2 a' b' f' ha' hb' hf' (by omega)
set_option maxRecDepth 8000 in
theorem we_loop (m : mz_M) {q cn pn : Nat} (h : tpO m q cn pn) : ∀ (r a b f : Nat) (T : Nat → Int), (a * 8 + (7 - b)) * 4 + (3 - f) ≤ r → a < 2 ^ cn → b ≤ pop a 16 → f ≤ pn → weI (m (q + 4)) (m (q + 5)) T pn cn a b f → ∃ T', weI (m (q + 4)) (m (q + 5)) T' pn cn 0 0 pn ∧ sx 189 17 [some (mz_r 3 0 q), some (mz_i a), some (mz_i b), some (mz_i f)] [] (rowS m (q + 6) 896 T) none (rowS m (q + 6) 896 T') := by
  have h' := h
  obtain ⟨h9, h10, hcn, hpn, hL, hW⟩ := h
  have hp : 2 ^ cn ≤ 64 := Nat.pow_le_pow_right (by omega) (show cn ≤ 6 from hcn)
  intro r
  induction r with
  | zero => intro a b f T hr ha hb hf hI; omega
  | succ r ih =>
    intro a b f T hr ha hb hf hI
    have h2 := pw2 a (by omega)
    by_cases hlt : f < pn
    · have hI2 := we_step hcn hpn ha hb hlt hL hI
      obtain ⟨T', hT', hk⟩ := ih a b (f + 1) _ (by omega) ha hb (by omega) hI2
      refine ⟨T', hT', ?_⟩
      have ht := tpO_row h' hI.1
      have hbw := sp_bestWorth (rowS m (q + 6) 896 T) (a := a) (b := b) (f := f) ht (by omega) hb (by omega)
      have e4 : rowS m (q + 6) 896 T (q + 4) = m (q + 4) := by funext k; exact rowS_o (by omega)
      have e5 : rowS m (q + 6) 896 T (q + 5) = m (q + 5) := by funext k; exact rowS_o (by omega)
      have ew : bwO (woM (rowS m (q + 6) 896 T) q a b f) pn cn = bwO (woF (m (q + 4)) (m (q + 5)) T a b f) pn cn := bwO_congr cn fun i hi t ht => by
        show woF _ _ _ a b f i t = _
        rw [e4, e5]
        exact woF_congr (by omega) hb (by omega) (by omega) fun k hk _ => rowS_at hk
      rw [ew] at hbw
      refine mz_vc_ok 60 (ct := fun i => i == 17) ?_
      simp only [vcS0, vcS1, vcS2, vcS3, vcS4, vcS5, vcS6, vc_n0, vc_lk, vc_pop, vc_rc, vc_tsw, vc_fr, vc_ar, vc_tb, mz_nx, List.set_cons_zero, List.set_cons_succ, Nat.reduceAdd, Nat.reduceBEq, Nat.reduceEqDiff, Nat.reduceLeDiff, Nat.reduceLT, Nat.reduceMul, Int.reduceToNat, Bool.false_eq_true, Bool.or_self, Bool.or_true, Bool.true_or, Bool.or_false, reduceIte, Option.toList_some, Option.toList_none, List.nil_append, List.cons_append, List.length_cons, List.length_nil, true_and, and_true, Int.cast_ofNat_Int, Int.reduceEq, Int.reduceLT, Int.reduceLE, Nat.zero_le, and_self, or_true, true_or, cdS_189]
      rw [rowS_o (by omega), if_pos (by omega)]
      refine ⟨_, _, sp_stateIndex _ (by omega) (by omega) (by omega), ?_⟩
      simp only [vcS0, vcS1, vcS2, vcS3, vcS4, vcS5, vcS6, vc_n0, vc_lk, vc_pop, vc_rc, vc_tsw, vc_fr, vc_ar, vc_tb, mz_nx, List.set_cons_zero, List.set_cons_succ, Nat.reduceAdd, Nat.reduceBEq, Nat.reduceEqDiff, Nat.reduceLeDiff, Nat.reduceLT, Nat.reduceMul, Int.reduceToNat, Bool.false_eq_true, Bool.or_self, Bool.or_true, Bool.true_or, Bool.or_false, reduceIte, Option.toList_some, Option.toList_none, List.nil_append, List.cons_append, List.length_cons, List.length_nil, true_and, and_true, Int.cast_ofNat_Int, Int.reduceEq, Int.reduceLT, Int.reduceLE, Nat.zero_le, and_self, or_true, true_or, cdS_189]
      refine ⟨_, _, hbw, ?_⟩
      simp only [vcS0, vcS1, vcS2, vcS3, vcS4, vcS5, vcS6, vc_n0, vc_lk, vc_pop, vc_rc, vc_tsw, vc_fr, vc_ar, vc_tb, mz_nx, List.set_cons_zero, List.set_cons_succ, Nat.reduceAdd, Nat.reduceBEq, Nat.reduceEqDiff, Nat.reduceLeDiff, Nat.reduceLT, Nat.reduceMul, Int.reduceToNat, Bool.false_eq_true, Bool.or_self, Bool.or_true, Bool.true_or, Bool.or_false, reduceIte, Option.toList_some, Option.toList_none, List.nil_append, List.cons_append, List.length_cons, List.length_nil, true_and, and_true, Int.cast_ofNat_Int, Int.reduceEq, Int.reduceLT, Int.reduceLE, Nat.zero_le, and_self, or_true, true_or, cdS_189]
      refine ⟨_, _, sp_putN (n := 896) (o := q + 6) _ _ (show (a * 7 + b) * 2 + f < 896 by omega), ?_⟩
      simp only [vcS0, vcS1, vcS2, vcS3, vcS4, vcS5, vcS6, vc_n0, vc_lk, vc_pop, vc_rc, vc_tsw, vc_fr, vc_ar, vc_tb, mz_nx, List.set_cons_zero, List.set_cons_succ, Nat.reduceAdd, Nat.reduceBEq, Nat.reduceEqDiff, Nat.reduceLeDiff, Nat.reduceLT, Nat.reduceMul, Int.reduceToNat, Bool.false_eq_true, Bool.or_self, Bool.or_true, Bool.true_or, Bool.or_false, reduceIte, Option.toList_some, Option.toList_none, List.nil_append, List.cons_append, List.length_cons, List.length_nil, true_and, and_true, Int.cast_ofNat_Int, Int.reduceEq, Int.reduceLT, Int.reduceLE, Nat.zero_le, and_self, or_true, true_or, cdS_189]
      rw [rowS_up (by omega)]
      exact ⟨(by unfold mz_w; omega), hk⟩
    · obtain rfl : f = pn := by omega
      by_cases hb1 : b < pop a 16
      · obtain ⟨T', hT', hk⟩ := ih a (b + 1) 0 T (by omega) ha (by omega) (by omega) ⟨hI.1, fun a' b' f' q1 q2 q3 q4 => hI.2 a' b' f' q1 q2 q3 (by omega)⟩
        refine ⟨T', hT', ?_⟩
        refine mz_vc_ok 60 (ct := fun i => i == 17) ?_
        simp only [vcS0, vcS1, vcS2, vcS3, vcS4, vcS5, vcS6, vc_n0, vc_lk, vc_pop, vc_rc, vc_tsw, vc_fr, vc_ar, vc_tb, mz_nx, List.set_cons_zero, List.set_cons_succ, Nat.reduceAdd, Nat.reduceBEq, Nat.reduceEqDiff, Nat.reduceLeDiff, Nat.reduceLT, Nat.reduceMul, Int.reduceToNat, Bool.false_eq_true, Bool.or_self, Bool.or_true, Bool.true_or, Bool.or_false, reduceIte, Option.toList_some, Option.toList_none, List.nil_append, List.cons_append, List.length_cons, List.length_nil, true_and, and_true, Int.cast_ofNat_Int, Int.reduceEq, Int.reduceLT, Int.reduceLE, Nat.zero_le, and_self, or_true, true_or, cdS_189]
        rw [rowS_o (by omega), if_neg (by omega)]
        refine ⟨(by unfold mz_w; omega), ?_⟩
        refine ⟨_, _, sp_bitCount _ (show a < 65536 by omega), ?_⟩
        simp only [vcS0, vcS1, vcS2, vcS3, vcS4, vcS5, vcS6, vc_n0, vc_lk, vc_pop, vc_rc, vc_tsw, vc_fr, vc_ar, vc_tb, mz_nx, List.set_cons_zero, List.set_cons_succ, Nat.reduceAdd, Nat.reduceBEq, Nat.reduceEqDiff, Nat.reduceLeDiff, Nat.reduceLT, Nat.reduceMul, Int.reduceToNat, Bool.false_eq_true, Bool.or_self, Bool.or_true, Bool.true_or, Bool.or_false, reduceIte, Option.toList_some, Option.toList_none, List.nil_append, List.cons_append, List.length_cons, List.length_nil, true_and, and_true, Int.cast_ofNat_Int, Int.reduceEq, Int.reduceLT, Int.reduceLE, Nat.zero_le, and_self, or_true, true_or, cdS_189]
        rw [if_pos (by omega)]
        exact hk
      · by_cases ha0 : a = 0
        · subst ha0
          have hb0 : b = 0 := by
            have : pop 0 16 = 0 := by decide
            omega
          subst hb0
          refine ⟨T, hI, ?_⟩
          refine mz_vc_ok 60 (ct := fun i => i == 17) ?_
          simp only [vcS0, vcS1, vcS2, vcS3, vcS4, vcS5, vcS6, vc_n0, vc_lk, vc_pop, vc_rc, vc_tsw, vc_fr, vc_ar, vc_tb, mz_nx, List.set_cons_zero, List.set_cons_succ, Nat.reduceAdd, Nat.reduceBEq, Nat.reduceEqDiff, Nat.reduceLeDiff, Nat.reduceLT, Nat.reduceMul, Int.reduceToNat, Bool.false_eq_true, Bool.or_self, Bool.or_true, Bool.true_or, Bool.or_false, reduceIte, Option.toList_some, Option.toList_none, List.nil_append, List.cons_append, List.length_cons, List.length_nil, true_and, and_true, Int.cast_ofNat_Int, Int.reduceEq, Int.reduceLT, Int.reduceLE, Nat.zero_le, and_self, or_true, true_or, cdS_189]
          rw [rowS_o (by omega), if_neg (by omega)]
          refine ⟨by simp [mz_w], ?_⟩
          refine ⟨_, _, sp_bitCount _ (show 0 < 65536 by omega), ?_⟩
          simp only [vcS0, vcS1, vcS2, vcS3, vcS4, vcS5, vcS6, vc_n0, vc_lk, vc_pop, vc_rc, vc_tsw, vc_fr, vc_ar, vc_tb, mz_nx, List.set_cons_zero, List.set_cons_succ, Nat.reduceAdd, Nat.reduceBEq, Nat.reduceEqDiff, Nat.reduceLeDiff, Nat.reduceLT, Nat.reduceMul, Int.reduceToNat, Bool.false_eq_true, Bool.or_self, Bool.or_true, Bool.true_or, Bool.or_false, reduceIte, Option.toList_some, Option.toList_none, List.nil_append, List.cons_append, List.length_cons, List.length_nil, true_and, and_true, Int.cast_ofNat_Int, Int.reduceEq, Int.reduceLT, Int.reduceLE, Nat.zero_le, and_self, or_true, true_or, cdS_189]
          rw [if_neg (by have : pop 0 16 = 0 := (by decide); omega)]
          simp [mz_w]
        · obtain ⟨c, rfl⟩ : ∃ c, a = c + 1 := ⟨a - 1, by omega⟩
          obtain ⟨T', hT', hk⟩ := ih c 0 0 T (by omega) (by omega) (by omega) (by omega) ⟨hI.1, fun a' b' f' q1 q2 q3 q4 => hI.2 a' b' f' q1 q2 q3 (by
            rcases (by omega : c + 1 < a' ∨ a' = c + 1) with q5 | q5
            · exact Or.inl q5
            · subst q5; omega)⟩
          refine ⟨T', hT', ?_⟩
          refine mz_vc_ok 60 (ct := fun i => i == 17) ?_
          simp only [vcS0, vcS1, vcS2, vcS3, vcS4, vcS5, vcS6, vc_n0, vc_lk, vc_pop, vc_rc, vc_tsw, vc_fr, vc_ar, vc_tb, mz_nx, List.set_cons_zero, List.set_cons_succ, Nat.reduceAdd, Nat.reduceBEq, Nat.reduceEqDiff, Nat.reduceLeDiff, Nat.reduceLT, Nat.reduceMul, Int.reduceToNat, Bool.false_eq_true, Bool.or_self, Bool.or_true, Bool.true_or, Bool.or_false, reduceIte, Option.toList_some, Option.toList_none, List.nil_append, List.cons_append, List.length_cons, List.length_nil, true_and, and_true, Int.cast_ofNat_Int, Int.reduceEq, Int.reduceLT, Int.reduceLE, Nat.zero_le, and_self, or_true, true_or, cdS_189]
          rw [rowS_o (by omega), if_neg (by omega)]
          refine ⟨(by unfold mz_w; omega), ?_⟩
          refine ⟨_, _, sp_bitCount _ (show c + 1 < 65536 by omega), ?_⟩
          simp only [vcS0, vcS1, vcS2, vcS3, vcS4, vcS5, vcS6, vc_n0, vc_lk, vc_pop, vc_rc, vc_tsw, vc_fr, vc_ar, vc_tb, mz_nx, List.set_cons_zero, List.set_cons_succ, Nat.reduceAdd, Nat.reduceBEq, Nat.reduceEqDiff, Nat.reduceLeDiff, Nat.reduceLT, Nat.reduceMul, Int.reduceToNat, Bool.false_eq_true, Bool.or_self, Bool.or_true, Bool.true_or, Bool.or_false, reduceIte, Option.toList_some, Option.toList_none, List.nil_append, List.cons_append, List.length_cons, List.length_nil, true_and, and_true, Int.cast_ofNat_Int, Int.reduceEq, Int.reduceLT, Int.reduceLE, Nat.zero_le, and_self, or_true, true_or, cdS_189]
          rw [if_neg (by omega), show ((c + 1 : Nat) : Int) + -1 = (c : Int) by omega]
          refine ⟨(by unfold mz_w; omega), ?_⟩
          rw [if_neg (by omega)]
          refine ⟨_, _, sp_bitCount _ (show c < 65536 by omega), ?_⟩
          simp only [vcS0, vcS1, vcS2, vcS3, vcS4, vcS5, vcS6, vc_n0, vc_lk, vc_pop, vc_rc, vc_tsw, vc_fr, vc_ar, vc_tb, mz_nx, List.set_cons_zero, List.set_cons_succ, Nat.reduceAdd, Nat.reduceBEq, Nat.reduceEqDiff, Nat.reduceLeDiff, Nat.reduceLT, Nat.reduceMul, Int.reduceToNat, Bool.false_eq_true, Bool.or_self, Bool.or_true, Bool.true_or, Bool.or_false, reduceIte, Option.toList_some, Option.toList_none, List.nil_append, List.cons_append, List.length_cons, List.length_nil, true_and, and_true, Int.cast_ofNat_Int, Int.reduceEq, Int.reduceLT, Int.reduceLE, Nat.zero_le, and_self, or_true, true_or, cdS_189]
          rw [if_pos (by omega)]
          exact hk
set_option maxRecDepth 8000 in
theorem sp_weighStates (m : mz_M) {q cn pn : Nat} (h : tpO m q cn pn) : ∃ T', weI (m (q + 4)) (m (q + 5)) T' pn cn 0 0 pn ∧ sp 189 [mz_r 3 0 q] m none (rowS m (q + 6) 896 T') := by
  have hcn := h.2.2.1
  have hp : 2 ^ cn ≤ 64 := Nat.pow_le_pow_right (by omega) (show cn ≤ 6 from hcn)
  have hp1 : 1 ≤ 2 ^ cn := Nat.one_le_two_pow
  obtain ⟨T', hT', hk⟩ := we_loop m h (((2 ^ cn - 1) * 8 + (7 - 0)) * 4 + (3 - 0)) (2 ^ cn - 1) 0 0 (m (q + 6)) (Nat.le_refl _) (by omega) (Nat.zero_le _) (Nat.zero_le _) ⟨h.2.2.2.2.2, fun a' b' f' q1 q2 q3 q4 => by omega⟩
  rw [rowS_self] at hk
  refine ⟨T', hT', ?_⟩
  have e : mz_shl 1 cn = ((2 ^ cn : Nat) : Int) := by
    have := shl_n (a := 1) (k := cn) (by omega) (by omega)
    rwa [Nat.one_mul] at this
  refine mz_cl_vc 60 (fun i => i == 17) [some (mz_r 3 0 q), none, none, none] rfl ?_
  simp only [vcS0, vcS1, vcS2, vcS3, vcS4, vcS5, vcS6, vc_n0, vc_lk, vc_pop, vc_rc, vc_tsw, vc_fr, vc_ar, vc_tb, mz_nx, List.set_cons_zero, List.set_cons_succ, Nat.reduceAdd, Nat.reduceBEq, Nat.reduceEqDiff, Nat.reduceLeDiff, Nat.reduceLT, Nat.reduceMul, Int.reduceToNat, Bool.false_eq_true, Bool.or_self, Bool.or_true, Bool.true_or, Bool.or_false, reduceIte, Option.toList_some, Option.toList_none, List.nil_append, List.cons_append, List.length_cons, List.length_nil, true_and, and_true, Int.cast_ofNat_Int, Int.reduceEq, Int.reduceLT, Int.reduceLE, Nat.zero_le, and_self, or_true, true_or, cdS_189]
  rw [h.1, e, show ((2 ^ cn : Nat) : Int) - 1 = ((2 ^ cn - 1 : Nat) : Int) by omega]
  refine ⟨(by unfold mz_w; omega), ?_⟩
  rw [if_neg (by omega)]
  refine ⟨_, _, sp_bitCount _ (show 2 ^ cn - 1 < 65536 by omega), ?_⟩
  simp only [vcS0, vcS1, vcS2, vcS3, vcS4, vcS5, vcS6, vc_n0, vc_lk, vc_pop, vc_rc, vc_tsw, vc_fr, vc_ar, vc_tb, mz_nx, List.set_cons_zero, List.set_cons_succ, Nat.reduceAdd, Nat.reduceBEq, Nat.reduceEqDiff, Nat.reduceLeDiff, Nat.reduceLT, Nat.reduceMul, Int.reduceToNat, Bool.false_eq_true, Bool.or_self, Bool.or_true, Bool.true_or, Bool.or_false, reduceIte, Option.toList_some, Option.toList_none, List.nil_append, List.cons_append, List.length_cons, List.length_nil, true_and, and_true, Int.cast_ofNat_Int, Int.reduceEq, Int.reduceLT, Int.reduceLE, Nat.zero_le, and_self, or_true, true_or, cdS_189]
  rw [if_pos (by omega)]
  exact hk
