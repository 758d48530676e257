/-! The reader: its five changing fields over a base. -/
def rs (m : mz_M) (r : Nat) (p n w e a : Int) : mz_M := fun b j => if b = r then (if j = 3 then p else if j = 4 then n else if j = 5 then w else if j = 6 then e else if j = 7 then a else m b j) else m b j
theorem rs_o {m : mz_M} {r b j : Nat} {p n w e a : Int} (h : b ≠ r) : rs m r p n w e a b j = m b j := by unfold rs; rw [if_neg h]
theorem rs_2 {m : mz_M} {r : Nat} {p n w e a : Int} : rs m r p n w e a r 2 = m r 2 := by simp [rs]
theorem rs_3 {m : mz_M} {r : Nat} {p n w e a : Int} : rs m r p n w e a r 3 = p := by simp [rs]
theorem rs_4 {m : mz_M} {r : Nat} {p n w e a : Int} : rs m r p n w e a r 4 = n := by simp [rs]
theorem rs_5 {m : mz_M} {r : Nat} {p n w e a : Int} : rs m r p n w e a r 5 = w := by simp [rs]
theorem rs_6 {m : mz_M} {r : Nat} {p n w e a : Int} : rs m r p n w e a r 6 = e := by simp [rs]
theorem rs_7 {m : mz_M} {r : Nat} {p n w e a : Int} : rs m r p n w e a r 7 = a := by simp [rs]
theorem rs_u3 {m : mz_M} {r : Nat} {p n w e a x : Int} : mz_up (rs m r p n w e a) r 3 x = rs m r x n w e a := by funext b j; unfold mz_up rs; grind
theorem rs_u4 {m : mz_M} {r : Nat} {p n w e a x : Int} : mz_up (rs m r p n w e a) r 4 x = rs m r p x w e a := by funext b j; unfold mz_up rs; grind
theorem rs_u5 {m : mz_M} {r : Nat} {p n w e a x : Int} : mz_up (rs m r p n w e a) r 5 x = rs m r p n x e a := by funext b j; unfold mz_up rs; grind
theorem rs_u6 {m : mz_M} {r : Nat} {p n w e a x : Int} : mz_up (rs m r p n w e a) r 6 x = rs m r p n w x a := by funext b j; unfold mz_up rs; grind
theorem rs_u7 {m : mz_M} {r : Nat} {p n w e a x : Int} : mz_up (rs m r p n w e a) r 7 x = rs m r p n w e x := by funext b j; unfold mz_up rs; grind
theorem rs_uo {m : mz_M} {r b j : Nat} {p n w e a x : Int} (h : b ≠ r) : mz_up (rs m r p n w e a) b j x = rs (mz_up m b j x) r p n w e a := by funext c i; unfold mz_up rs; grind
theorem rs_self (m : mz_M) (r : Nat) : rs m r (m r 3) (m r 4) (m r 5) (m r 6) (m r 7) = m := by funext c i; unfold rs; grind
/-- what stands at a place of the input -/
def nb (B : Nat → Int) (L p : Nat) : Int := if p < L then B p else -1
/-- on while something holds -/
def rn (P : Nat → Prop) [DecidablePred P] : Nat → Nat → Nat
  | 0, p => p
  | r + 1, p => if P p then rn P r (p + 1) else p
theorem rn_le {P : Nat → Prop} [DecidablePred P] : ∀ r p, p ≤ rn P r p ∧ rn P r p ≤ p + r := by
  intro r
  induction r with
  | zero => intro p; exact ⟨Nat.le_refl _, Nat.le_refl _⟩
  | succ r ih => intro p; unfold rn; have := ih (p + 1); split <;> omega
def sk (B : Nat → Int) (L p : Nat) : Nat := rn (fun i => B i = 32) (L - p) p
def wd (B : Nat → Int) (L p : Nat) : Nat := rn (fun i => 97 ≤ B i ∧ B i ≤ 122) (L - p) p
def nv (B : Nat → Int) : Nat → Nat → Int → Nat × Int
  | 0, p, v => (p, v)
  | r + 1, p, v => if 48 ≤ B p ∧ B p ≤ 57 then nv B r (p + 1) (min 1000000 (v * 10 + B p - 48)) else (p, v)
theorem nv_ok (B : Nat → Int) : ∀ (r p : Nat) (v : Int), 0 ≤ v → v ≤ 1000000 → p ≤ (nv B r p v).1 ∧ (nv B r p v).1 ≤ p + r ∧ 0 ≤ (nv B r p v).2 ∧ (nv B r p v).2 ≤ 1000000 := by
  intro r
  induction r with
  | zero => intro p v h h2; exact ⟨Nat.le_refl _, Nat.le_refl _, h, h2⟩
  | succ r ih =>
    intro p v h h2
    unfold nv
    split
    · have := ih (p + 1) (min 1000000 (v * 10 + B p - 48)) (by omega) (by omega); omega
    · exact ⟨by simp, by simp, h, h2⟩
theorem sk_le {B : Nat → Int} {L p : Nat} (h : p ≤ L) : p ≤ sk B L p ∧ sk B L p ≤ L := by have := rn_le (P := fun i => B i = 32) (L - p) p; unfold sk; omega
theorem wd_le {B : Nat → Int} {L p : Nat} (h : p ≤ L) : p ≤ wd B L p ∧ wd B L p ≤ L := by have := rn_le (P := fun i => 97 ≤ B i ∧ B i ≤ 122) (L - p) p; unfold wd; omega
def rdO (m : mz_M) (r L : Nat) : Prop := m r 2 = L ∧ L ≤ 600
theorem sp_fail (m : mz_M) {r : Nat} (p n w e a k x : Int) : sp 17 [mz_r 5 0 r, mz_i k, mz_i x] (rs m r p n w e a) none (rs m r p n w (if e = 0 then k else e) (if e = 0 then x else a)) := by
  refine mz_cl_vc 20 (fun _ => false) [some (mz_r 5 0 r), some (mz_i k), some (mz_i x)] rfl ?_
  simp only [vcS0, vcS1, vcS2, vcS3, vcS4, vcS5, vcS6, vc_n0, vc_lk, vc_pop, vc_rc, vc_tsw, vc_fr, vc_ar, vc_tb, mz_nx, List.set_cons_zero, List.set_cons_succ, Nat.reduceAdd, Nat.reduceBEq, Nat.reduceEqDiff, Nat.reduceLeDiff, Nat.reduceLT, Nat.reduceMul, Int.reduceToNat, Bool.false_eq_true, Bool.or_self, Bool.or_true, Bool.true_or, Bool.or_false, reduceIte, Option.toList_some, Option.toList_none, List.nil_append, List.cons_append, List.length_cons, List.length_nil, true_and, and_true, Int.cast_ofNat_Int, Int.reduceEq, Int.reduceLT, Int.reduceLE, Nat.zero_le, and_self, or_true, true_or, cdS_17]
  rw [rs_6, rs_u6, rs_u7]
  grind
theorem sp_isDigit (m : mz_M) (v : Int) : sp 19 [mz_i v] m (some (mz_i (if 48 ≤ v ∧ v ≤ 57 then 1 else 0))) m := by
  refine mz_cl_vc 20 (fun _ => false) [some (mz_i v)] rfl ?_
  simp only [vcS0, vcS1, vcS2, vcS3, vcS4, vcS5, vcS6, vc_n0, vc_lk, vc_pop, vc_rc, vc_tsw, vc_fr, vc_ar, vc_tb, mz_nx, List.set_cons_zero, List.set_cons_succ, Nat.reduceAdd, Nat.reduceBEq, Nat.reduceEqDiff, Nat.reduceLeDiff, Nat.reduceLT, Nat.reduceMul, Int.reduceToNat, Bool.false_eq_true, Bool.or_self, Bool.or_true, Bool.true_or, Bool.or_false, reduceIte, Option.toList_some, Option.toList_none, List.nil_append, List.cons_append, List.length_cons, List.length_nil, true_and, and_true, Int.cast_ofNat_Int, Int.reduceEq, Int.reduceLT, Int.reduceLE, Nat.zero_le, and_self, or_true, true_or, cdS_19]
  grind
theorem sp_nextByte (m : mz_M) {r L p : Nat} (n w e a : Int) (h : rdO m r L) : sp 20 [mz_r 5 0 r] (rs m r p n w e a) (some (mz_i (nb (m (r + 16)) L p))) (rs m r p n w e a) := by
  have h1 := h.1
  have h2 := h.2
  unfold nb
  refine mz_cl_vc 40 (fun _ => false) [some (mz_r 5 0 r)] rfl ?_
  simp only [vcS0, vcS1, vcS2, vcS3, vcS4, vcS5, vcS6, vc_n0, vc_lk, vc_pop, vc_rc, vc_tsw, vc_fr, vc_ar, vc_tb, mz_nx, List.set_cons_zero, List.set_cons_succ, Nat.reduceAdd, Nat.reduceBEq, Nat.reduceEqDiff, Nat.reduceLeDiff, Nat.reduceLT, Nat.reduceMul, Int.reduceToNat, Bool.false_eq_true, Bool.or_self, Bool.or_true, Bool.true_or, Bool.or_false, reduceIte, Option.toList_some, Option.toList_none, List.nil_append, List.cons_append, List.length_cons, List.length_nil, true_and, and_true, Int.cast_ofNat_Int, Int.reduceEq, Int.reduceLT, Int.reduceLE, Nat.zero_le, and_self, or_true, true_or, cdS_20]
  simp only [rs_3, rs_2, h1]
  rw [rs_o (by omega), Int.toNat_natCast]
  by_cases hp : p < L
  · rw [if_neg (by omega), if_pos (by omega), if_pos (by omega), if_pos hp]
    exact ⟨by omega, rfl⟩
  · rw [if_neg hp, if_neg (by omega), if_neg (by omega)]
theorem sk_loop (m : mz_M) {r L : Nat} (n w e a : Int) (h : rdO m r L) : ∀ (k p : Nat), k = L - p → sx 75 0 [some (mz_r 5 0 r)] [] (rs m r p n w e a) none (rs m r (sk (m (r + 16)) L p) n w e a) := by
  have h1 := h.1
  have h2 := h.2
  intro k
  induction k with
  | zero =>
    intro p hk
    rw [show sk (m (r + 16)) L p = p by unfold sk; rw [← hk]; rfl]
    refine mz_vc_ok 40 (ct := fun i => i == 0) ?_
    simp only [vcS0, vcS1, vcS2, vcS3, vcS4, vcS5, vcS6, vc_n0, vc_lk, vc_pop, vc_rc, vc_tsw, vc_fr, vc_ar, vc_tb, mz_nx, List.set_cons_zero, List.set_cons_succ, Nat.reduceAdd, Nat.reduceBEq, Nat.reduceEqDiff, Nat.reduceLeDiff, Nat.reduceLT, Nat.reduceMul, Int.reduceToNat, Bool.false_eq_true, Bool.or_self, Bool.or_true, Bool.true_or, Bool.or_false, reduceIte, Option.toList_some, Option.toList_none, List.nil_append, List.cons_append, List.length_cons, List.length_nil, true_and, and_true, Int.cast_ofNat_Int, Int.reduceEq, Int.reduceLT, Int.reduceLE, Nat.zero_le, and_self, or_true, true_or, cdS_75]
    rw [rs_3, rs_2, if_neg (by omega)]
    trivial
  | succ k ih =>
    intro p hk
    have hi := ih (p + 1) (by omega)
    refine mz_vc_ok 40 (ct := fun i => i == 0) ?_
    simp only [vcS0, vcS1, vcS2, vcS3, vcS4, vcS5, vcS6, vc_n0, vc_lk, vc_pop, vc_rc, vc_tsw, vc_fr, vc_ar, vc_tb, mz_nx, List.set_cons_zero, List.set_cons_succ, Nat.reduceAdd, Nat.reduceBEq, Nat.reduceEqDiff, Nat.reduceLeDiff, Nat.reduceLT, Nat.reduceMul, Int.reduceToNat, Bool.false_eq_true, Bool.or_self, Bool.or_true, Bool.true_or, Bool.or_false, reduceIte, Option.toList_some, Option.toList_none, List.nil_append, List.cons_append, List.length_cons, List.length_nil, true_and, and_true, Int.cast_ofNat_Int, Int.reduceEq, Int.reduceLT, Int.reduceLE, Nat.zero_le, and_self, or_true, true_or, cdS_75]
    rw [rs_3, rs_2, if_pos (by omega)]
    refine ⟨_, _, sp_nextByte m n w e a h, ?_⟩
    simp only [vcS0, vcS1, vcS2, vcS3, vcS4, vcS5, vcS6, vc_n0, vc_lk, vc_pop, vc_rc, vc_tsw, vc_fr, vc_ar, vc_tb, mz_nx, List.set_cons_zero, List.set_cons_succ, Nat.reduceAdd, Nat.reduceBEq, Nat.reduceEqDiff, Nat.reduceLeDiff, Nat.reduceLT, Nat.reduceMul, Int.reduceToNat, Bool.false_eq_true, Bool.or_self, Bool.or_true, Bool.true_or, Bool.or_false, reduceIte, Option.toList_some, Option.toList_none, List.nil_append, List.cons_append, List.length_cons, List.length_nil, true_and, and_true, Int.cast_ofNat_Int, Int.reduceEq, Int.reduceLT, Int.reduceLE, Nat.zero_le, and_self, or_true, true_or, cdS_75]
    rw [show nb (m (r + 16)) L p = m (r + 16) p by unfold nb; rw [if_pos (by omega)]]
    unfold sk at hi ⊢
    rw [← hk, rn]
    by_cases h3 : m (r + 16) p = 32
    · rw [if_pos h3, if_pos h3, rs_3, rs_u3]
      refine ⟨(by unfold mz_w; omega), ?_⟩
      rw [show L - (p + 1) = k by omega] at hi
      exact hi
    · rw [if_neg h3, if_neg h3]
theorem sp_skipSpaces (m : mz_M) {r L p : Nat} (n w e a : Int) (h : rdO m r L) : sp 75 [mz_r 5 0 r] (rs m r p n w e a) none (rs m r (sk (m (r + 16)) L p) n w e a) := sk_loop m n w e a h (L - p) p rfl
def dgp (v : Int) : Prop := 48 ≤ v ∧ v ≤ 57
theorem nv_loop (m : mz_M) {r L : Nat} (n w e a lo hi : Int) (h : rdO m r L) (hB : ∀ i, i < L → 0 ≤ m (r + 16) i ∧ m (r + 16) i ≤ 255) (res : Option mz_V) (m' : mz_M) : ∀ (k p : Nat) (v : Int), k = L - p → 0 ≤ v → v ≤ 1000000 → (∀ (q : Nat) (y : Int), (q, y) = nv (m (r + 16)) k p v → sx 137 49 [some (mz_r 5 0 r), some (mz_i lo), some (mz_i hi), some (mz_i y)] [] (rs m r q n w e a) res m') → sx 137 22 [some (mz_r 5 0 r), some (mz_i lo), some (mz_i hi), some (mz_i v)] [] (rs m r p n w e a) res m' := by
  have h1 := h.1
  have h2 := h.2
  intro k
  induction k with
  | zero =>
    intro p v hk hv hv2 hc
    have hc' := hc p v rfl
    refine mz_vc_ok 40 (ct := fun i => i == 22 || i == 49) ?_
    simp only [vcS0, vcS1, vcS2, vcS3, vcS4, vcS5, vcS6, vc_n0, vc_lk, vc_pop, vc_rc, vc_tsw, vc_fr, vc_ar, vc_tb, mz_nx, List.set_cons_zero, List.set_cons_succ, Nat.reduceAdd, Nat.reduceBEq, Nat.reduceEqDiff, Nat.reduceLeDiff, Nat.reduceLT, Nat.reduceMul, Int.reduceToNat, Bool.false_eq_true, Bool.or_self, Bool.or_true, Bool.true_or, Bool.or_false, reduceIte, Option.toList_some, Option.toList_none, List.nil_append, List.cons_append, List.length_cons, List.length_nil, true_and, and_true, Int.cast_ofNat_Int, Int.reduceEq, Int.reduceLT, Int.reduceLE, Nat.zero_le, and_self, or_true, true_or, cdS_137]
    rw [rs_3, rs_2, if_neg (by omega)]
    exact hc'
  | succ k ih =>
    intro p v hk hv hv2 hc
    unfold nv at hc
    have hb := hB p (by omega)
    refine mz_vc_ok 40 (ct := fun i => i == 22 || i == 49) ?_
    simp only [vcS0, vcS1, vcS2, vcS3, vcS4, vcS5, vcS6, vc_n0, vc_lk, vc_pop, vc_rc, vc_tsw, vc_fr, vc_ar, vc_tb, mz_nx, List.set_cons_zero, List.set_cons_succ, Nat.reduceAdd, Nat.reduceBEq, Nat.reduceEqDiff, Nat.reduceLeDiff, Nat.reduceLT, Nat.reduceMul, Int.reduceToNat, Bool.false_eq_true, Bool.or_self, Bool.or_true, Bool.true_or, Bool.or_false, reduceIte, Option.toList_some, Option.toList_none, List.nil_append, List.cons_append, List.length_cons, List.length_nil, true_and, and_true, Int.cast_ofNat_Int, Int.reduceEq, Int.reduceLT, Int.reduceLE, Nat.zero_le, and_self, or_true, true_or, cdS_137]
    rw [rs_3, rs_2, if_pos (by omega)]
    refine ⟨_, _, sp_nextByte m n w e a h, ?_⟩
    simp only [vcS0, vcS1, vcS2, vcS3, vcS4, vcS5, vcS6, vc_n0, vc_lk, vc_pop, vc_rc, vc_tsw, vc_fr, vc_ar, vc_tb, mz_nx, List.set_cons_zero, List.set_cons_succ, Nat.reduceAdd, Nat.reduceBEq, Nat.reduceEqDiff, Nat.reduceLeDiff, Nat.reduceLT, Nat.reduceMul, Int.reduceToNat, Bool.false_eq_true, Bool.or_self, Bool.or_true, Bool.true_or, Bool.or_false, reduceIte, Option.toList_some, Option.toList_none, List.nil_append, List.cons_append, List.length_cons, List.length_nil, true_and, and_true, Int.cast_ofNat_Int, Int.reduceEq, Int.reduceLT, Int.reduceLE, Nat.zero_le, and_self, or_true, true_or, cdS_137]
    rw [show nb (m (r + 16)) L p = m (r + 16) p by unfold nb; rw [if_pos (by omega)]]
    refine ⟨_, _, sp_isDigit _ _, ?_⟩
    by_cases hd : 48 ≤ m (r + 16) p ∧ m (r + 16) p ≤ 57
    · rw [if_pos hd]
      rw [if_pos hd] at hc
      simp only [vcS0, vcS1, vcS2, vcS3, vcS4, vcS5, vcS6, vc_n0, vc_lk, vc_pop, vc_rc, vc_tsw, vc_fr, vc_ar, vc_tb, mz_nx, List.set_cons_zero, List.set_cons_succ, Nat.reduceAdd, Nat.reduceBEq, Nat.reduceEqDiff, Nat.reduceLeDiff, Nat.reduceLT, Nat.reduceMul, Int.reduceToNat, Bool.false_eq_true, Bool.or_self, Bool.or_true, Bool.true_or, Bool.or_false, reduceIte, Option.toList_some, Option.toList_none, List.nil_append, List.cons_append, List.length_cons, List.length_nil, true_and, and_true, Int.cast_ofNat_Int, Int.reduceEq, Int.reduceLT, Int.reduceLE, Nat.zero_le, and_self, or_true, true_or, cdS_137]
      refine ⟨(by unfold mz_w; omega), ?_⟩
      refine ⟨_, _, sp_nextByte m n w e a h, ?_⟩
      simp only [vcS0, vcS1, vcS2, vcS3, vcS4, vcS5, vcS6, vc_n0, vc_lk, vc_pop, vc_rc, vc_tsw, vc_fr, vc_ar, vc_tb, mz_nx, List.set_cons_zero, List.set_cons_succ, Nat.reduceAdd, Nat.reduceBEq, Nat.reduceEqDiff, Nat.reduceLeDiff, Nat.reduceLT, Nat.reduceMul, Int.reduceToNat, Bool.false_eq_true, Bool.or_self, Bool.or_true, Bool.true_or, Bool.or_false, reduceIte, Option.toList_some, Option.toList_none, List.nil_append, List.cons_append, List.length_cons, List.length_nil, true_and, and_true, Int.cast_ofNat_Int, Int.reduceEq, Int.reduceLT, Int.reduceLE, Nat.zero_le, and_self, or_true, true_or, cdS_137]
      rw [show nb (m (r + 16)) L p = m (r + 16) p by unfold nb; rw [if_pos (by omega)], rs_3, rs_u3]
      refine ⟨(by unfold mz_w; omega), (by unfold mz_w; omega), (by unfold mz_w; omega), ?_⟩
      exact ih (p + 1) _ (by omega) (by omega) (by omega) hc
    · rw [if_neg hd]
      rw [if_neg hd] at hc
      simp only [vcS0, vcS1, vcS2, vcS3, vcS4, vcS5, vcS6, vc_n0, vc_lk, vc_pop, vc_rc, vc_tsw, vc_fr, vc_ar, vc_tb, mz_nx, List.set_cons_zero, List.set_cons_succ, Nat.reduceAdd, Nat.reduceBEq, Nat.reduceEqDiff, Nat.reduceLeDiff, Nat.reduceLT, Nat.reduceMul, Int.reduceToNat, Bool.false_eq_true, Bool.or_self, Bool.or_true, Bool.true_or, Bool.or_false, reduceIte, Option.toList_some, Option.toList_none, List.nil_append, List.cons_append, List.length_cons, List.length_nil, true_and, and_true, Int.cast_ofNat_Int, Int.reduceEq, Int.reduceLT, Int.reduceLE, Nat.zero_le, and_self, or_true, true_or, cdS_137]
      exact hc p v rfl
def rnm (B : Nat → Int) (L : Nat) (lo hi : Int) (p : Nat) (n e a : Int) : Int × Nat × Int × Int × Int :=
  if e ≠ 0 ∨ ¬ (48 ≤ nb B L (sk B L p) ∧ nb B L (sk B L p) ≤ 57) then (-1, sk B L p, n, if e = 0 then 1 else e, if e = 0 then (sk B L p : Int) else a)
  else if lo ≤ (nv B (L - sk B L p) (sk B L p) 0).2 ∧ (nv B (L - sk B L p) (sk B L p) 0).2 ≤ hi then ((nv B (L - sk B L p) (sk B L p) 0).2, (nv B (L - sk B L p) (sk B L p) 0).1, (sk B L p : Int), 0, a)
  else (-1, (nv B (L - sk B L p) (sk B L p) 0).1, (sk B L p : Int), 2, (sk B L p : Int))
theorem sp_readNumber (m : mz_M) {r L p : Nat} (n w e a lo hi : Int) (h : rdO m r L) (hB : ∀ i, i < L → 0 ≤ m (r + 16) i ∧ m (r + 16) i ≤ 255) : sp 137 [mz_r 5 0 r, mz_i lo, mz_i hi] (rs m r p n w e a) (some (mz_i (rnm (m (r + 16)) L lo hi p n e a).1)) (rs m r (rnm (m (r + 16)) L lo hi p n e a).2.1 (rnm (m (r + 16)) L lo hi p n e a).2.2.1 w (rnm (m (r + 16)) L lo hi p n e a).2.2.2.1 (rnm (m (r + 16)) L lo hi p n e a).2.2.2.2) := by
  have h1 := h.1
  have h2 := h.2
  unfold rnm
  refine mz_cl_vc 60 (fun i => i == 22) [some (mz_r 5 0 r), some (mz_i lo), some (mz_i hi), none] rfl ?_
  simp only [vcS0, vcS1, vcS2, vcS3, vcS4, vcS5, vcS6, vc_n0, vc_lk, vc_pop, vc_rc, vc_tsw, vc_fr, vc_ar, vc_tb, mz_nx, List.set_cons_zero, List.set_cons_succ, Nat.reduceAdd, Nat.reduceBEq, Nat.reduceEqDiff, Nat.reduceLeDiff, Nat.reduceLT, Nat.reduceMul, Int.reduceToNat, Bool.false_eq_true, Bool.or_self, Bool.or_true, Bool.true_or, Bool.or_false, reduceIte, Option.toList_some, Option.toList_none, List.nil_append, List.cons_append, List.length_cons, List.length_nil, true_and, and_true, Int.cast_ofNat_Int, Int.reduceEq, Int.reduceLT, Int.reduceLE, Nat.zero_le, and_self, or_true, true_or, cdS_137]
  refine ⟨_, _, sp_skipSpaces m n w e a h, ?_⟩
  simp only [vcS0, vcS1, vcS2, vcS3, vcS4, vcS5, vcS6, vc_n0, vc_lk, vc_pop, vc_rc, vc_tsw, vc_fr, vc_ar, vc_tb, mz_nx, List.set_cons_zero, List.set_cons_succ, Nat.reduceAdd, Nat.reduceBEq, Nat.reduceEqDiff, Nat.reduceLeDiff, Nat.reduceLT, Nat.reduceMul, Int.reduceToNat, Bool.false_eq_true, Bool.or_self, Bool.or_true, Bool.true_or, Bool.or_false, reduceIte, Option.toList_some, Option.toList_none, List.nil_append, List.cons_append, List.length_cons, List.length_nil, true_and, and_true, Int.cast_ofNat_Int, Int.reduceEq, Int.reduceLT, Int.reduceLE, Nat.zero_le, and_self, or_true, true_or, cdS_137]
  refine ⟨_, _, sp_nextByte m n w e a h, ?_⟩
  simp only [vcS0, vcS1, vcS2, vcS3, vcS4, vcS5, vcS6, vc_n0, vc_lk, vc_pop, vc_rc, vc_tsw, vc_fr, vc_ar, vc_tb, mz_nx, List.set_cons_zero, List.set_cons_succ, Nat.reduceAdd, Nat.reduceBEq, Nat.reduceEqDiff, Nat.reduceLeDiff, Nat.reduceLT, Nat.reduceMul, Int.reduceToNat, Bool.false_eq_true, Bool.or_self, Bool.or_true, Bool.true_or, Bool.or_false, reduceIte, Option.toList_some, Option.toList_none, List.nil_append, List.cons_append, List.length_cons, List.length_nil, true_and, and_true, Int.cast_ofNat_Int, Int.reduceEq, Int.reduceLT, Int.reduceLE, Nat.zero_le, and_self, or_true, true_or, cdS_137]
  generalize sk (m (r + 16)) L p = q
  refine ⟨_, _, sp_isDigit _ _, ?_⟩
  by_cases hd : 48 ≤ nb (m (r + 16)) L q ∧ nb (m (r + 16)) L q ≤ 57
  · rw [if_pos hd]
    simp only [vcS0, vcS1, vcS2, vcS3, vcS4, vcS5, vcS6, vc_n0, vc_lk, vc_pop, vc_rc, vc_tsw, vc_fr, vc_ar, vc_tb, mz_nx, List.set_cons_zero, List.set_cons_succ, Nat.reduceAdd, Nat.reduceBEq, Nat.reduceEqDiff, Nat.reduceLeDiff, Nat.reduceLT, Nat.reduceMul, Int.reduceToNat, Bool.false_eq_true, Bool.or_self, Bool.or_true, Bool.true_or, Bool.or_false, reduceIte, Option.toList_some, Option.toList_none, List.nil_append, List.cons_append, List.length_cons, List.length_nil, true_and, and_true, Int.cast_ofNat_Int, Int.reduceEq, Int.reduceLT, Int.reduceLE, Nat.zero_le, and_self, or_true, true_or, cdS_137]
    rw [rs_6]
    by_cases he : e = 0
    · subst he
      rw [if_pos rfl, if_neg (by simp [hd]), rs_3, rs_u4]
      refine nv_loop m _ w 0 a lo hi h hB _ _ (L - q) q 0 rfl (by omega) (by omega) ?_
      intro q2 y hy
      rw [← hy]
      refine mz_vc_ok 60 (ct := fun i => i == 22) ?_
      simp only [vcS0, vcS1, vcS2, vcS3, vcS4, vcS5, vcS6, vc_n0, vc_lk, vc_pop, vc_rc, vc_tsw, vc_fr, vc_ar, vc_tb, mz_nx, List.set_cons_zero, List.set_cons_succ, Nat.reduceAdd, Nat.reduceBEq, Nat.reduceEqDiff, Nat.reduceLeDiff, Nat.reduceLT, Nat.reduceMul, Int.reduceToNat, Bool.false_eq_true, Bool.or_self, Bool.or_true, Bool.true_or, Bool.or_false, reduceIte, Option.toList_some, Option.toList_none, List.nil_append, List.cons_append, List.length_cons, List.length_nil, true_and, and_true, Int.cast_ofNat_Int, Int.reduceEq, Int.reduceLT, Int.reduceLE, Nat.zero_le, and_self, or_true, true_or, cdS_137]
      refine ⟨_, _, sp_within _ y lo hi, ?_⟩
      by_cases hr : lo ≤ y ∧ y ≤ hi
      · rw [if_pos hr, if_pos hr]
        simp only [vcS0, vcS1, vcS2, vcS3, vcS4, vcS5, vcS6, vc_n0, vc_lk, vc_pop, vc_rc, vc_tsw, vc_fr, vc_ar, vc_tb, mz_nx, List.set_cons_zero, List.set_cons_succ, Nat.reduceAdd, Nat.reduceBEq, Nat.reduceEqDiff, Nat.reduceLeDiff, Nat.reduceLT, Nat.reduceMul, Int.reduceToNat, Bool.false_eq_true, Bool.or_self, Bool.or_true, Bool.true_or, Bool.or_false, reduceIte, Option.toList_some, Option.toList_none, List.nil_append, List.cons_append, List.length_cons, List.length_nil, true_and, and_true, Int.cast_ofNat_Int, Int.reduceEq, Int.reduceLT, Int.reduceLE, Nat.zero_le, and_self, or_true, true_or, cdS_137]
      · rw [if_neg hr, if_neg hr]
        simp only [vcS0, vcS1, vcS2, vcS3, vcS4, vcS5, vcS6, vc_n0, vc_lk, vc_pop, vc_rc, vc_tsw, vc_fr, vc_ar, vc_tb, mz_nx, List.set_cons_zero, List.set_cons_succ, Nat.reduceAdd, Nat.reduceBEq, Nat.reduceEqDiff, Nat.reduceLeDiff, Nat.reduceLT, Nat.reduceMul, Int.reduceToNat, Bool.false_eq_true, Bool.or_self, Bool.or_true, Bool.true_or, Bool.or_false, reduceIte, Option.toList_some, Option.toList_none, List.nil_append, List.cons_append, List.length_cons, List.length_nil, true_and, and_true, Int.cast_ofNat_Int, Int.reduceEq, Int.reduceLT, Int.reduceLE, Nat.zero_le, and_self, or_true, true_or, cdS_137]
        rw [rs_4]
        refine ⟨_, _, sp_fail m _ _ _ _ _ _ _, ?_⟩
        simp only [vcS0, vcS1, vcS2, vcS3, vcS4, vcS5, vcS6, vc_n0, vc_lk, vc_pop, vc_rc, vc_tsw, vc_fr, vc_ar, vc_tb, mz_nx, List.set_cons_zero, List.set_cons_succ, Nat.reduceAdd, Nat.reduceBEq, Nat.reduceEqDiff, Nat.reduceLeDiff, Nat.reduceLT, Nat.reduceMul, Int.reduceToNat, Bool.false_eq_true, Bool.or_self, Bool.or_true, Bool.true_or, Bool.or_false, reduceIte, Option.toList_some, Option.toList_none, List.nil_append, List.cons_append, List.length_cons, List.length_nil, true_and, and_true, Int.cast_ofNat_Int, Int.reduceEq, Int.reduceLT, Int.reduceLE, Nat.zero_le, and_self, or_true, true_or, cdS_137]
    · rw [if_neg he, if_pos (Or.inl he), if_neg he, if_neg he]
      exact ⟨rfl, rfl⟩
  · rw [if_neg hd, if_pos (Or.inr hd)]
    simp only [vcS0, vcS1, vcS2, vcS3, vcS4, vcS5, vcS6, vc_n0, vc_lk, vc_pop, vc_rc, vc_tsw, vc_fr, vc_ar, vc_tb, mz_nx, List.set_cons_zero, List.set_cons_succ, Nat.reduceAdd, Nat.reduceBEq, Nat.reduceEqDiff, Nat.reduceLeDiff, Nat.reduceLT, Nat.reduceMul, Int.reduceToNat, Bool.false_eq_true, Bool.or_self, Bool.or_true, Bool.true_or, Bool.or_false, reduceIte, Option.toList_some, Option.toList_none, List.nil_append, List.cons_append, List.length_cons, List.length_nil, true_and, and_true, Int.cast_ofNat_Int, Int.reduceEq, Int.reduceLT, Int.reduceLE, Nat.zero_le, and_self, or_true, true_or, cdS_137]
    rw [rs_3]
    refine ⟨_, _, sp_fail m _ _ _ _ _ _ _, ?_⟩
    simp only [vcS0, vcS1, vcS2, vcS3, vcS4, vcS5, vcS6, vc_n0, vc_lk, vc_pop, vc_rc, vc_tsw, vc_fr, vc_ar, vc_tb, mz_nx, List.set_cons_zero, List.set_cons_succ, Nat.reduceAdd, Nat.reduceBEq, Nat.reduceEqDiff, Nat.reduceLeDiff, Nat.reduceLT, Nat.reduceMul, Int.reduceToNat, Bool.false_eq_true, Bool.or_self, Bool.or_true, Bool.true_or, Bool.or_false, reduceIte, Option.toList_some, Option.toList_none, List.nil_append, List.cons_append, List.length_cons, List.length_nil, true_and, and_true, Int.cast_ofNat_Int, Int.reduceEq, Int.reduceLT, Int.reduceLE, Nat.zero_le, and_self, or_true, true_or, cdS_137]
    rw [if_neg (by rw [rs_6]; split <;> omega)]
    trivial
