def mxl (f : Nat → Int) (b : Int) : Nat → Int
  | 0 => b
  | n + 1 => max (mxl f b n) (f n)
def bwO (g : Nat → Nat → Int) (pn : Nat) : Nat → Int
  | 0 => 0
  | i + 1 => mxl (g i) (bwO g pn i) pn
theorem mxl_ok {f : Nat → Int} {b c : Int} {n : Nat} (h : ∀ i, i < n → f i ≤ c) (hb : b ≤ c) : b ≤ mxl f b n ∧ mxl f b n ≤ c := by
  induction n with
  | zero => exact ⟨Int.le_refl _, hb⟩
  | succ n ih =>
    have h1 := ih (fun i hi => h i (by omega))
    have h2 := h n (by omega)
    unfold mxl
    omega
theorem bwO_ok {g : Nat → Nat → Int} {pn : Nat} {c : Int} (hc : 0 ≤ c) : ∀ n, (∀ i, i < n → ∀ t, t < pn → g i t ≤ c) → 0 ≤ bwO g pn n ∧ bwO g pn n ≤ c := by
  intro n
  induction n with
  | zero => intro _; exact ⟨Int.le_refl _, hc⟩
  | succ n ih =>
    intro h
    have h1 := ih (fun i hi => h i (by omega))
    have h2 := mxl_ok (f := g n) (b := bwO g pn n) (n := pn) (h n (by omega)) h1.2
    unfold bwO
    omega
def tpO (m : mz_M) (q cn pn : Nat) : Prop := m q 9 = cn ∧ m q 10 = pn ∧ cn ≤ 6 ∧ pn ≤ 2 ∧ lnO (m (q + 5)) ∧ woB (m (q + 6))
abbrev woM (m : mz_M) (q a b f i t : Nat) : Int := woF (m (q + 4)) (m (q + 5)) (m (q + 6)) a b f i t
theorem bw_10 (m : mz_M) {q a b f cn pn i : Nat} (h : tpO m q cn pn) (ha : a < 64) (hb : b ≤ pop a 16) (hf : f < 2) (hi : i < cn) (B : Int) (res : Option mz_V) (m' : mz_M) (hB : 0 ≤ B ∧ B ≤ 600000) (hc : ∀ x, sx 130 4 [some (mz_r 3 0 q), some (mz_i a), some (mz_i b), some (mz_i f), some (mz_i (mxl (woM m q a b f i) B pn)), some (mz_i (i + 1)), x] [] m res m') : ∀ (r t : Nat), t + r = pn → sx 130 10 [some (mz_r 3 0 q), some (mz_i a), some (mz_i b), some (mz_i f), some (mz_i (mxl (woM m q a b f i) B t)), some (mz_i i), some (mz_i t)] [] m res m' := by
  obtain ⟨h9, h10, hcn, hpn, hL, hW⟩ := h
  intro r
  induction r with
  | zero =>
    intro t ht
    obtain rfl : t = pn := by omega
    refine mz_vc_ok 60 (ct := fun i => i == 4 || i == 10) ?_
    simp only [vcS0, vcS1, vcS2, vcS3, vcS4, vcS5, vcS6, vc_n0, vc_lk, vc_pop, vc_rc, vc_tsw, vc_fr, vc_ar, vc_tb, mz_nx, List.set_cons_zero, List.set_cons_succ, Nat.reduceAdd, Nat.reduceBEq, Nat.reduceEqDiff, Nat.reduceLeDiff, Nat.reduceLT, Nat.reduceMul, Int.reduceToNat, Bool.false_eq_true, Bool.or_self, Bool.or_true, Bool.true_or, Bool.or_false, reduceIte, Option.toList_some, Option.toList_none, List.nil_append, List.cons_append, List.length_cons, List.length_nil, true_and, and_true, Int.cast_ofNat_Int, Int.reduceEq, Int.reduceLT, Int.reduceLE, Nat.zero_le, and_self, or_true, true_or, cdS_130]
    rw [if_neg (by omega)]
    exact ⟨(by unfold mz_w; omega), hc _⟩
  | succ r ih =>
    intro t ht
    have hk := ih (t + 1) (by omega)
    rw [mxl] at hk
    have hx := woF_ok (Rm := m (q + 4)) ha hb hf (show i < 6 by omega) (show t < 2 by omega) hL hW
    refine mz_vc_ok 60 (ct := fun i => i == 4 || i == 10) ?_
    simp only [vcS0, vcS1, vcS2, vcS3, vcS4, vcS5, vcS6, vc_n0, vc_lk, vc_pop, vc_rc, vc_tsw, vc_fr, vc_ar, vc_tb, mz_nx, List.set_cons_zero, List.set_cons_succ, Nat.reduceAdd, Nat.reduceBEq, Nat.reduceEqDiff, Nat.reduceLeDiff, Nat.reduceLT, Nat.reduceMul, Int.reduceToNat, Bool.false_eq_true, Bool.or_self, Bool.or_true, Bool.true_or, Bool.or_false, reduceIte, Option.toList_some, Option.toList_none, List.nil_append, List.cons_append, List.length_cons, List.length_nil, true_and, and_true, Int.cast_ofNat_Int, Int.reduceEq, Int.reduceLT, Int.reduceLE, Nat.zero_le, and_self, or_true, true_or, cdS_130]
    rw [if_pos (by omega)]
    refine ⟨_, _, sp_worthOver m ha hb hf (show i < 6 by omega) (show t < 2 by omega) hL hW, ?_⟩
    simp only [vcS0, vcS1, vcS2, vcS3, vcS4, vcS5, vcS6, vc_n0, vc_lk, vc_pop, vc_rc, vc_tsw, vc_fr, vc_ar, vc_tb, mz_nx, List.set_cons_zero, List.set_cons_succ, Nat.reduceAdd, Nat.reduceBEq, Nat.reduceEqDiff, Nat.reduceLeDiff, Nat.reduceLT, Nat.reduceMul, Int.reduceToNat, Bool.false_eq_true, Bool.or_self, Bool.or_true, Bool.true_or, Bool.or_false, reduceIte, Option.toList_some, Option.toList_none, List.nil_append, List.cons_append, List.length_cons, List.length_nil, true_and, and_true, Int.cast_ofNat_Int, Int.reduceEq, Int.reduceLT, Int.reduceLE, Nat.zero_le, and_self, or_true, true_or, cdS_130]
    exact ⟨(by unfold mz_w; omega), hk⟩
theorem bw_4 (m : mz_M) {q a b f cn pn : Nat} (h : tpO m q cn pn) (ha : a < 64) (hb : b ≤ pop a 16) (hf : f < 2) : ∀ (r i : Nat) (x : Option mz_V), i + r = cn → sx 130 4 [some (mz_r 3 0 q), some (mz_i a), some (mz_i b), some (mz_i f), some (mz_i (bwO (woM m q a b f) pn i)), some (mz_i i), x] [] m (some (mz_i (bwO (woM m q a b f) pn cn))) m := by
  have h' := h
  obtain ⟨h9, h10, hcn, hpn, hL, hW⟩ := h
  have h2 := pw2 a ha
  intro r
  induction r with
  | zero =>
    intro i x hi
    obtain rfl : i = cn := by omega
    refine mz_vc_ok 60 (ct := fun i => i == 4 || i == 10) ?_
    simp only [vcS0, vcS1, vcS2, vcS3, vcS4, vcS5, vcS6, vc_n0, vc_lk, vc_pop, vc_rc, vc_tsw, vc_fr, vc_ar, vc_tb, mz_nx, List.set_cons_zero, List.set_cons_succ, Nat.reduceAdd, Nat.reduceBEq, Nat.reduceEqDiff, Nat.reduceLeDiff, Nat.reduceLT, Nat.reduceMul, Int.reduceToNat, Bool.false_eq_true, Bool.or_self, Bool.or_true, Bool.true_or, Bool.or_false, reduceIte, Option.toList_some, Option.toList_none, List.nil_append, List.cons_append, List.length_cons, List.length_nil, true_and, and_true, Int.cast_ofNat_Int, Int.reduceEq, Int.reduceLT, Int.reduceLE, Nat.zero_le, and_self, or_true, true_or, cdS_130]
    rw [if_neg (by omega)]
    trivial
  | succ r ih =>
    intro i x hi
    have hk := fun x => ih (i + 1) x (by omega)
    have hB := bwO_ok (g := woM m q a b f) (pn := pn) (c := 600000) (by omega) i (fun i' hi' t ht => by
      have := woF_ok (Rm := m (q + 4)) ha hb hf (show i' < 6 by omega) (show t < 2 by omega) hL hW
      show woF _ _ _ a b f i' t ≤ _
      omega)
    refine mz_vc_ok 60 (ct := fun i => i == 4 || i == 10) ?_
    simp only [vcS0, vcS1, vcS2, vcS3, vcS4, vcS5, vcS6, vc_n0, vc_lk, vc_pop, vc_rc, vc_tsw, vc_fr, vc_ar, vc_tb, mz_nx, List.set_cons_zero, List.set_cons_succ, Nat.reduceAdd, Nat.reduceBEq, Nat.reduceEqDiff, Nat.reduceLeDiff, Nat.reduceLT, Nat.reduceMul, Int.reduceToNat, Bool.false_eq_true, Bool.or_self, Bool.or_true, Bool.true_or, Bool.or_false, reduceIte, Option.toList_some, Option.toList_none, List.nil_append, List.cons_append, List.length_cons, List.length_nil, true_and, and_true, Int.cast_ofNat_Int, Int.reduceEq, Int.reduceLT, Int.reduceLE, Nat.zero_le, and_self, or_true, true_or, cdS_130]
    rw [if_pos (by omega)]
    exact bw_10 m h' ha hb hf (by omega) (bwO (woM m q a b f) pn i) _ _ hB hk pn 0 (by omega)
theorem sp_bestWorth (m : mz_M) {q a b f cn pn : Nat} (h : tpO m q cn pn) (ha : a < 64) (hb : b ≤ pop a 16) (hf : f < 2) : sp 130 [mz_r 3 0 q, mz_i a, mz_i b, mz_i f] m (some (mz_i (bwO (woM m q a b f) pn cn))) m := by
  refine mz_cl_vc 60 (fun i => i == 4) [some (mz_r 3 0 q), some (mz_i a), some (mz_i b), some (mz_i f), none, none, none] rfl ?_
  simp only [vcS0, vcS1, vcS2, vcS3, vcS4, vcS5, vcS6, vc_n0, vc_lk, vc_pop, vc_rc, vc_tsw, vc_fr, vc_ar, vc_tb, mz_nx, List.set_cons_zero, List.set_cons_succ, Nat.reduceAdd, Nat.reduceBEq, Nat.reduceEqDiff, Nat.reduceLeDiff, Nat.reduceLT, Nat.reduceMul, Int.reduceToNat, Bool.false_eq_true, Bool.or_self, Bool.or_true, Bool.true_or, Bool.or_false, reduceIte, Option.toList_some, Option.toList_none, List.nil_append, List.cons_append, List.length_cons, List.length_nil, true_and, and_true, Int.cast_ofNat_Int, Int.reduceEq, Int.reduceLT, Int.reduceLE, Nat.zero_le, and_self, or_true, true_or, cdS_130]
  exact bw_4 m h ha hb hf cn 0 none (by omega)
/-- the smallest best trip -/
def sbI (g : Nat → Nat → Int) (B : Int) (pn cn : Nat) : Nat → Nat → Int
  | 0, _ => -1
  | r + 1, i => match fst1 (fun t => g i t = B) pn 0 with
    | some t => (i : Int) * 2 + t
    | none => sbI g B pn cn r (i + 1)
theorem sb_16 (m : mz_M) {q a b f cn pn i : Nat} (h : tpO m q cn pn) (ha : a < 64) (hb : b ≤ pop a 16) (hf : f < 2) (hi : i < cn) (B R : Int) (m' : mz_M) (hm : m' = m) (hc : ∀ x, sx 188 8 [some (mz_r 3 0 q), some (mz_i a), some (mz_i b), some (mz_i f), some (mz_i B), some (mz_i (i + 1)), x] [] m (some (mz_i R)) m') : ∀ (r t : Nat), t + r = pn → sx 188 16 [some (mz_r 3 0 q), some (mz_i a), some (mz_i b), some (mz_i f), some (mz_i B), some (mz_i i), some (mz_i t)] [] m (some (mz_i (match fst1 (fun t => woM m q a b f i t = B) r t with
    | some t => (i : Int) * 2 + t
    | none => R))) m' := by
  obtain ⟨h9, h10, hcn, hpn, hL, hW⟩ := h
  intro r
  induction r with
  | zero =>
    intro t ht
    obtain rfl : t = pn := by omega
    refine mz_vc_ok 60 (ct := fun i => i == 8 || i == 16) ?_
    simp only [vcS0, vcS1, vcS2, vcS3, vcS4, vcS5, vcS6, vc_n0, vc_lk, vc_pop, vc_rc, vc_tsw, vc_fr, vc_ar, vc_tb, mz_nx, List.set_cons_zero, List.set_cons_succ, Nat.reduceAdd, Nat.reduceBEq, Nat.reduceEqDiff, Nat.reduceLeDiff, Nat.reduceLT, Nat.reduceMul, Int.reduceToNat, Bool.false_eq_true, Bool.or_self, Bool.or_true, Bool.true_or, Bool.or_false, reduceIte, Option.toList_some, Option.toList_none, List.nil_append, List.cons_append, List.length_cons, List.length_nil, true_and, and_true, Int.cast_ofNat_Int, Int.reduceEq, Int.reduceLT, Int.reduceLE, Nat.zero_le, and_self, or_true, true_or, cdS_188]
    rw [if_neg (by omega)]
    exact ⟨(by unfold mz_w; omega), hc _⟩
  | succ r ih =>
    intro t ht
    have hk := ih (t + 1) (by omega)
    unfold fst1
    refine mz_vc_ok 60 (ct := fun i => i == 8 || i == 16) ?_
    simp only [vcS0, vcS1, vcS2, vcS3, vcS4, vcS5, vcS6, vc_n0, vc_lk, vc_pop, vc_rc, vc_tsw, vc_fr, vc_ar, vc_tb, mz_nx, List.set_cons_zero, List.set_cons_succ, Nat.reduceAdd, Nat.reduceBEq, Nat.reduceEqDiff, Nat.reduceLeDiff, Nat.reduceLT, Nat.reduceMul, Int.reduceToNat, Bool.false_eq_true, Bool.or_self, Bool.or_true, Bool.true_or, Bool.or_false, reduceIte, Option.toList_some, Option.toList_none, List.nil_append, List.cons_append, List.length_cons, List.length_nil, true_and, and_true, Int.cast_ofNat_Int, Int.reduceEq, Int.reduceLT, Int.reduceLE, Nat.zero_le, and_self, or_true, true_or, cdS_188]
    rw [if_pos (by omega)]
    refine ⟨_, _, sp_worthOver m ha hb hf (show i < 6 by omega) (show t < 2 by omega) hL hW, ?_⟩
    simp only [vcS0, vcS1, vcS2, vcS3, vcS4, vcS5, vcS6, vc_n0, vc_lk, vc_pop, vc_rc, vc_tsw, vc_fr, vc_ar, vc_tb, mz_nx, List.set_cons_zero, List.set_cons_succ, Nat.reduceAdd, Nat.reduceBEq, Nat.reduceEqDiff, Nat.reduceLeDiff, Nat.reduceLT, Nat.reduceMul, Int.reduceToNat, Bool.false_eq_true, Bool.or_self, Bool.or_true, Bool.true_or, Bool.or_false, reduceIte, Option.toList_some, Option.toList_none, List.nil_append, List.cons_append, List.length_cons, List.length_nil, true_and, and_true, Int.cast_ofNat_Int, Int.reduceEq, Int.reduceLT, Int.reduceLE, Nat.zero_le, and_self, or_true, true_or, cdS_188]
    by_cases he : woM m q a b f i t = B
    · simp only [he, if_true]
      exact ⟨(by unfold mz_w; omega), (by unfold mz_w; omega), trivial, by rw [hm]⟩
    · simp only [he, if_false]
      exact ⟨(by unfold mz_w; omega), hk⟩
theorem sb_8 (m : mz_M) {q a b f cn pn : Nat} (h : tpO m q cn pn) (ha : a < 64) (hb : b ≤ pop a 16) (hf : f < 2) (B : Int) (hB : 0 < B) : ∀ (r i : Nat) (x : Option mz_V), i + r = cn → sx 188 8 [some (mz_r 3 0 q), some (mz_i a), some (mz_i b), some (mz_i f), some (mz_i B), some (mz_i i), x] [] m (some (mz_i (sbI (woM m q a b f) B pn cn r i))) m := by
  have h' := h
  obtain ⟨h9, h10, hcn, hpn, hL, hW⟩ := h
  intro r
  induction r with
  | zero =>
    intro i x hi
    obtain rfl : i = cn := by omega
    refine mz_vc_ok 60 (ct := fun i => i == 8 || i == 16) ?_
    simp only [vcS0, vcS1, vcS2, vcS3, vcS4, vcS5, vcS6, vc_n0, vc_lk, vc_pop, vc_rc, vc_tsw, vc_fr, vc_ar, vc_tb, mz_nx, List.set_cons_zero, List.set_cons_succ, Nat.reduceAdd, Nat.reduceBEq, Nat.reduceEqDiff, Nat.reduceLeDiff, Nat.reduceLT, Nat.reduceMul, Int.reduceToNat, Bool.false_eq_true, Bool.or_self, Bool.or_true, Bool.true_or, Bool.or_false, reduceIte, Option.toList_some, Option.toList_none, List.nil_append, List.cons_append, List.length_cons, List.length_nil, true_and, and_true, Int.cast_ofNat_Int, Int.reduceEq, Int.reduceLT, Int.reduceLE, Nat.zero_le, and_self, or_true, true_or, cdS_188]
    rw [if_neg (by omega)]
    rfl
  | succ r ih =>
    intro i x hi
    have hk := fun x => ih (i + 1) x (by omega)
    have h16 := sb_16 m h' ha hb hf (show i < cn by omega) B _ m rfl hk pn 0 (by omega)
    unfold sbI
    refine mz_vc_ok 60 (ct := fun i => i == 8 || i == 16) ?_
    simp only [vcS0, vcS1, vcS2, vcS3, vcS4, vcS5, vcS6, vc_n0, vc_lk, vc_pop, vc_rc, vc_tsw, vc_fr, vc_ar, vc_tb, mz_nx, List.set_cons_zero, List.set_cons_succ, Nat.reduceAdd, Nat.reduceBEq, Nat.reduceEqDiff, Nat.reduceLeDiff, Nat.reduceLT, Nat.reduceMul, Int.reduceToNat, Bool.false_eq_true, Bool.or_self, Bool.or_true, Bool.true_or, Bool.or_false, reduceIte, Option.toList_some, Option.toList_none, List.nil_append, List.cons_append, List.length_cons, List.length_nil, true_and, and_true, Int.cast_ofNat_Int, Int.reduceEq, Int.reduceLT, Int.reduceLE, Nat.zero_le, and_self, or_true, true_or, cdS_188]
    rw [if_pos (by omega), if_neg (by omega)]
    exact h16
def sbF (g : Nat → Nat → Int) (pn cn : Nat) : Int := if 0 < bwO g pn cn then sbI g (bwO g pn cn) pn cn cn 0 else -1
theorem sp_smallestBestTrip (m : mz_M) {q a b f cn pn : Nat} (h : tpO m q cn pn) (ha : a < 64) (hb : b ≤ pop a 16) (hf : f < 2) : sp 188 [mz_r 3 0 q, mz_i a, mz_i b, mz_i f] m (some (mz_i (sbF (woM m q a b f) pn cn))) m := by
  unfold sbF
  refine mz_cl_vc 60 (fun i => i == 8) [some (mz_r 3 0 q), some (mz_i a), some (mz_i b), some (mz_i f), none, none, none] rfl ?_
  simp only [vcS0, vcS1, vcS2, vcS3, vcS4, vcS5, vcS6, vc_n0, vc_lk, vc_pop, vc_rc, vc_tsw, vc_fr, vc_ar, vc_tb, mz_nx, List.set_cons_zero, List.set_cons_succ, Nat.reduceAdd, Nat.reduceBEq, Nat.reduceEqDiff, Nat.reduceLeDiff, Nat.reduceLT, Nat.reduceMul, Int.reduceToNat, Bool.false_eq_true, Bool.or_self, Bool.or_true, Bool.true_or, Bool.or_false, reduceIte, Option.toList_some, Option.toList_none, List.nil_append, List.cons_append, List.length_cons, List.length_nil, true_and, and_true, Int.cast_ofNat_Int, Int.reduceEq, Int.reduceLT, Int.reduceLE, Nat.zero_le, and_self, or_true, true_or, cdS_188]
  refine ⟨_, _, sp_bestWorth m h ha hb hf, ?_⟩
  simp only [vcS0, vcS1, vcS2, vcS3, vcS4, vcS5, vcS6, vc_n0, vc_lk, vc_pop, vc_rc, vc_tsw, vc_fr, vc_ar, vc_tb, mz_nx, List.set_cons_zero, List.set_cons_succ, Nat.reduceAdd, Nat.reduceBEq, Nat.reduceEqDiff, Nat.reduceLeDiff, Nat.reduceLT, Nat.reduceMul, Int.reduceToNat, Bool.false_eq_true, Bool.or_self, Bool.or_true, Bool.true_or, Bool.or_false, reduceIte, Option.toList_some, Option.toList_none, List.nil_append, List.cons_append, List.length_cons, List.length_nil, true_and, and_true, Int.cast_ofNat_Int, Int.reduceEq, Int.reduceLT, Int.reduceLE, Nat.zero_le, and_self, or_true, true_or, cdS_188]
  by_cases hp : 0 < bwO (woM m q a b f) pn cn
  · rw [if_pos hp]
    exact sb_8 m h ha hb hf _ hp cn 0 none (by omega)
  · rw [if_neg hp]
    refine mz_vc_ok 60 (ct := fun i => i == 8 || i == 16) ?_
    simp only [vcS0, vcS1, vcS2, vcS3, vcS4, vcS5, vcS6, vc_n0, vc_lk, vc_pop, vc_rc, vc_tsw, vc_fr, vc_ar, vc_tb, mz_nx, List.set_cons_zero, List.set_cons_succ, Nat.reduceAdd, Nat.reduceBEq, Nat.reduceEqDiff, Nat.reduceLeDiff, Nat.reduceLT, Nat.reduceMul, Int.reduceToNat, Bool.false_eq_true, Bool.or_self, Bool.or_true, Bool.true_or, Bool.or_false, reduceIte, Option.toList_some, Option.toList_none, List.nil_append, List.cons_append, List.length_cons, List.length_nil, true_and, and_true, Int.cast_ofNat_Int, Int.reduceEq, Int.reduceLT, Int.reduceLE, Nat.zero_le, and_self, or_true, true_or, cdS_188]
    rw [h.1]
    split
    · rw [if_pos (show bwO (woM m q a b f) pn cn ≤ 0 by omega)]
      trivial
    · trivial
