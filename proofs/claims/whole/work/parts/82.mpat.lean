/-! The model's patrols. -/
def pM (m : mz_M) (S : Nat → Int) (b v l : Int) : mz_M := fun a j => if a = 165 then S j else if a = 153 ∧ j = 24 then b else if a = 153 ∧ j = 25 then v else if a = 153 ∧ j = 26 then l else m a j
theorem pM_S (m : mz_M) (S : Nat → Int) (b v l : Int) (j : Nat) (x : Int) : mz_up (pM m S b v l) 165 j x = pM m (vU S j x) b v l := by funext a i; unfold mz_up pM vU; grind
theorem pM_24 (m : mz_M) (S : Nat → Int) (b v l x : Int) : mz_up (pM m S b v l) 153 24 x = pM m S x v l := by funext a i; unfold mz_up pM; grind
theorem pM_25 (m : mz_M) (S : Nat → Int) (b v l x : Int) : mz_up (pM m S b v l) 153 25 x = pM m S b x l := by funext a i; unfold mz_up pM; grind
theorem pM_26 (m : mz_M) (S : Nat → Int) (b v l x : Int) : mz_up (pM m S b v l) 153 26 x = pM m S b v x := by funext a i; unfold mz_up pM; grind
theorem pM_165 (m : mz_M) (S : Nat → Int) (b v l : Int) : pM m S b v l 165 = S := by funext j; exact if_pos rfl
theorem pM_154 (m : mz_M) (S : Nat → Int) (b v l : Int) : pM m S b v l 154 = m 154 := by funext j; unfold pM; grind
theorem pM_166 (m : mz_M) (S : Nat → Int) (b v l : Int) : pM m S b v l 166 = m 166 := by funext j; unfold pM; grind
theorem pM_b (m : mz_M) (S : Nat → Int) (b v l : Int) : pM m S b v l 153 24 = b ∧ pM m S b v l 153 25 = v ∧ pM m S b v l 153 26 = l := by unfold pM; grind
def mW (V : Nat → Int) : Nat → Int := fun j => V (103 + j)
def leM (S W : Nat → Int) (st n s l : Nat) : Int := min (mnl (fun p => leR s l / 2 ^ p % 2 = 1) (fun p => S (10 * leR s l + p) + W (10 * p + l) + 5) (if leR s l = 0 then W (10 * st + l) + 5 else 1000000) n) 1000000
def shM (S : Nat → Int) : Prop := ∀ i, i < 10240 → 0 ≤ S i ∧ S i ≤ 1000000
theorem en_loop (m : mz_M) {s l n : Nat} (y : Int) (hn : n ≤ 10) (h0 : m 154 0 = n) (hl : l < 10) (hs : s < 1024) (hW : fwO (mW (m 154))) (hS : shM (m 165)) (b : Int) (hb : 0 ≤ b ∧ b ≤ 1000005) : ∀ (r j : Nat), j + r = n → sx 102 21 [some (mz_r 9 0 153), some (mz_i y), some (mz_i s), some (mz_i l), some (mz_i (leR s l)), some (mz_i (mnl (fun p => leR s l / 2 ^ p % 2 = 1) (fun p => m 165 (10 * leR s l + p) + mW (m 154) (10 * p + l) + 5) b j)), some (mz_i j)] [] m (some (mz_i (min (mnl (fun p => leR s l / 2 ^ p % 2 = 1) (fun p => m 165 (10 * leR s l + p) + mW (m 154) (10 * p + l) + 5) b n) 1000000))) m := by
  have hle := adn_le s (2 ^ l)
  have hfp : ∀ i, i < n → leR s l / 2 ^ i % 2 = 1 → 0 ≤ m 165 (10 * leR s l + i) + mW (m 154) (10 * i + l) + 5 := fun i hi _ => by
    have := hS (10 * leR s l + i) (by unfold leR; omega)
    have := hW (10 * i + l) (by omega)
    omega
  intro r
  induction r with
  | zero =>
    intro j hj
    obtain rfl : j = n := by omega
    refine mz_vc_ok 60 (ct := fun i => i == 21) ?_
    simp only [vcS0, vcS1, vcS2, vcS3, vcS4, vcS5, vcS6, vc_n0, vc_lk, vc_pop, vc_rc, vc_tsw, vc_fr, vc_ar, vc_tb, mz_nx, List.set_cons_zero, List.set_cons_succ, Nat.reduceAdd, Nat.reduceBEq, Nat.reduceEqDiff, Nat.reduceLeDiff, Nat.reduceLT, Nat.reduceMul, Int.reduceToNat, Bool.false_eq_true, Bool.or_self, Bool.or_true, Bool.true_or, Bool.or_false, reduceIte, Option.toList_some, Option.toList_none, List.nil_append, List.cons_append, List.length_cons, List.length_nil, true_and, and_true, Int.cast_ofNat_Int, Int.reduceEq, Int.reduceLT, Int.reduceLE, Nat.zero_le, and_self, or_true, true_or, cdS_102]
    rw [h0, if_neg (by omega)]
    all_goals ((repeat' refine And.intro ?_ ?_) <;> first | trivial | rfl | (unfold mz_w; omega) | omega)
  | succ r ih =>
    intro j hj
    have hk := ih (j + 1) (by omega)
    have h1 := hS (10 * leR s l + j) (by unfold leR; omega)
    have h2 := hW (10 * j + l) (by omega)
    rw [mnl] at hk
    have h3 := mnl_ok (n := j) hb.1 (fun i hi => hfp i (by omega))
    generalize mnl (fun p => leR s l / 2 ^ p % 2 = 1) (fun p => m 165 (10 * leR s l + p) + mW (m 154) (10 * p + l) + 5) b j = a at hk h3 ⊢
    generalize hR : leR s l = R at hk h1 ⊢
    have hR2 : R < 1024 := by rw [← hR]; unfold leR; omega
    refine mz_vc_ok 60 (ct := fun i => i == 21) ?_
    simp only [vcS0, vcS1, vcS2, vcS3, vcS4, vcS5, vcS6, vc_n0, vc_lk, vc_pop, vc_rc, vc_tsw, vc_fr, vc_ar, vc_tb, mz_nx, List.set_cons_zero, List.set_cons_succ, Nat.reduceAdd, Nat.reduceBEq, Nat.reduceEqDiff, Nat.reduceLeDiff, Nat.reduceLT, Nat.reduceMul, Int.reduceToNat, Bool.false_eq_true, Bool.or_self, Bool.or_true, Bool.true_or, Bool.or_false, reduceIte, Option.toList_some, Option.toList_none, List.nil_append, List.cons_append, List.length_cons, List.length_nil, true_and, and_true, Int.cast_ofNat_Int, Int.reduceEq, Int.reduceLT, Int.reduceLE, Nat.zero_le, and_self, or_true, true_or, cdS_102]
    rw [h0, if_pos (by omega), shr_n (by omega) (by omega), show (1 : Int) = ((1 : Nat) : Int) from rfl, and_n (by have : R / 2 ^ j ≤ R := Nat.div_le_self _ _; omega) (by omega), Nat.and_one_is_mod]
    by_cases hc : R / 2 ^ j % 2 = 1
    · rw [if_pos (by omega)]
      rw [if_pos hc] at hk
      rw [show (10 * (R : Int) + (j : Int)).toNat = 10 * R + j by omega]
      refine ⟨(by unfold mz_w; omega), (by unfold mz_w; omega), by omega, _, _, sp_mway m (by omega) hl, ?_⟩
      simp only [vcS0, vcS1, vcS2, vcS3, vcS4, vcS5, vcS6, vc_n0, vc_lk, vc_pop, vc_rc, vc_tsw, vc_fr, vc_ar, vc_tb, mz_nx, List.set_cons_zero, List.set_cons_succ, Nat.reduceAdd, Nat.reduceBEq, Nat.reduceEqDiff, Nat.reduceLeDiff, Nat.reduceLT, Nat.reduceMul, Int.reduceToNat, Bool.false_eq_true, Bool.or_self, Bool.or_true, Bool.true_or, Bool.or_false, reduceIte, Option.toList_some, Option.toList_none, List.nil_append, List.cons_append, List.length_cons, List.length_nil, true_and, and_true, Int.cast_ofNat_Int, Int.reduceEq, Int.reduceLT, Int.reduceLE, Nat.zero_le, and_self, or_true, true_or, cdS_102]
      rw [show m 154 (103 + 10 * j + l) = mW (m 154) (10 * j + l) by unfold mW; rw [show 103 + 10 * j + l = 103 + (10 * j + l) by omega]]
      exact ⟨(by unfold mz_w; omega), (by unfold mz_w; omega), (by unfold mz_w; omega), hk⟩
    · rw [if_neg (by omega)]
      rw [if_neg hc] at hk
      exact ⟨(by unfold mz_w; omega), hk⟩
theorem sp_ends (m : mz_M) {s l n st : Nat} (hn : n ≤ 10) (h0 : m 154 0 = n) (hl : l < 10) (hs : s < 1024) (hst : st < 10) (hW : fwO (mW (m 154))) (hS : shM (m 165)) : sp 102 [mz_r 9 0 153, mz_i st, mz_i s, mz_i l] m (some (mz_i (leM (m 165) (mW (m 154)) st n s l))) m := by
  have hp : 2 ^ l < 1024 := Nat.pow_lt_pow_right (by omega) hl
  have e : mz_shl 1 l = ((2 ^ l : Nat) : Int) := by
    have := shl_n (a := 1) (k := l) (by omega) (by omega)
    rwa [Nat.one_mul] at this
  unfold leM
  refine mz_cl_vc 60 (fun i => i == 21) [some (mz_r 9 0 153), some (mz_i st), some (mz_i s), some (mz_i l), none, none, none] rfl ?_
  simp only [vcS0, vcS1, vcS2, vcS3, vcS4, vcS5, vcS6, vc_n0, vc_lk, vc_pop, vc_rc, vc_tsw, vc_fr, vc_ar, vc_tb, mz_nx, List.set_cons_zero, List.set_cons_succ, Nat.reduceAdd, Nat.reduceBEq, Nat.reduceEqDiff, Nat.reduceLeDiff, Nat.reduceLT, Nat.reduceMul, Int.reduceToNat, Bool.false_eq_true, Bool.or_self, Bool.or_true, Bool.true_or, Bool.or_false, reduceIte, Option.toList_some, Option.toList_none, List.nil_append, List.cons_append, List.length_cons, List.length_nil, true_and, and_true, Int.cast_ofNat_Int, Int.reduceEq, Int.reduceLT, Int.reduceLE, Nat.zero_le, and_self, or_true, true_or, cdS_102]
  rw [e, andn_n (by omega) (by omega), show adn s (2 ^ l) = leR s l from rfl]
  by_cases hz : leR s l = 0
  · rw [if_pos (by omega), if_pos hz]
    refine ⟨_, _, sp_mway m hst hl, ?_⟩
    simp only [vcS0, vcS1, vcS2, vcS3, vcS4, vcS5, vcS6, vc_n0, vc_lk, vc_pop, vc_rc, vc_tsw, vc_fr, vc_ar, vc_tb, mz_nx, List.set_cons_zero, List.set_cons_succ, Nat.reduceAdd, Nat.reduceBEq, Nat.reduceEqDiff, Nat.reduceLeDiff, Nat.reduceLT, Nat.reduceMul, Int.reduceToNat, Bool.false_eq_true, Bool.or_self, Bool.or_true, Bool.true_or, Bool.or_false, reduceIte, Option.toList_some, Option.toList_none, List.nil_append, List.cons_append, List.length_cons, List.length_nil, true_and, and_true, Int.cast_ofNat_Int, Int.reduceEq, Int.reduceLT, Int.reduceLE, Nat.zero_le, and_self, or_true, true_or, cdS_102]
    rw [show m 154 (103 + 10 * st + l) = mW (m 154) (10 * st + l) by unfold mW; rw [show 103 + 10 * st + l = 103 + (10 * st + l) by omega]]
    have hb := hW (10 * st + l) (by omega)
    exact ⟨(by unfold mz_w; omega), en_loop m st hn h0 hl hs hW hS (mW (m 154) (10 * st + l) + 5) (by omega) n 0 (by omega)⟩
  · rw [if_neg (by omega), if_neg hz]
    exact en_loop m st hn h0 hl hs hW hS 1000000 (by omega) n 0 (by omega)
theorem leM_ok {S W : Nat → Int} {st n s l : Nat} (hn : n ≤ 10) (hl : l < 10) (hs : s < 1024) (hst : st < 10) (hW : fwO W) (hS : shM S) : 0 ≤ leM S W st n s l ∧ leM S W st n s l ≤ 1000000 := by
  have hle := adn_le s (2 ^ l)
  have h := mnl_ok (P := fun p => leR s l / 2 ^ p % 2 = 1) (f := fun p => S (10 * leR s l + p) + W (10 * p + l) + 5) (b := if leR s l = 0 then W (10 * st + l) + 5 else 1000000) (n := n) (by have := hW (10 * st + l) (by omega); split <;> omega) (fun i hi _ => by
    have := hS (10 * leR s l + i) (by unfold leR; omega)
    have := hW (10 * i + l) (by omega)
    omega)
  unfold leM
  omega
def mcsF (V W : Nat → Int) (st n s : Nat) (S : Nat → Int) : Nat → (Nat → Int) × Int × Int
  | 0 => (S, 1000000, 0)
  | j + 1 => if s / 2 ^ j % 2 = 1 then (vU (mcsF V W st n s S j).1 (10 * s + j) (leM (mcsF V W st n s S j).1 W st n s j), min (mcsF V W st n s S j).2.1 (leM (mcsF V W st n s S j).1 W st n s j), (mcsF V W st n s S j).2.2 + V j) else mcsF V W st n s S j
theorem mcsF_ok {V W : Nat → Int} {st n s : Nat} {S : Nat → Int} (hn : n ≤ 10) (hs : s < 1024) (hst : st < 10) (hW : fwO W) (hS : shM S) (hV : ∀ j, j < n → 0 ≤ V j ∧ V j ≤ 1000000) : ∀ j, j ≤ n → shM (mcsF V W st n s S j).1 ∧ (0 ≤ (mcsF V W st n s S j).2.1 ∧ (mcsF V W st n s S j).2.1 ≤ 1000000) ∧ 0 ≤ (mcsF V W st n s S j).2.2 ∧ (mcsF V W st n s S j).2.2 ≤ 1000000 * j := by
  intro j
  induction j with
  | zero => intro _; exact ⟨hS, ⟨by simp [mcsF], by simp [mcsF]⟩, by simp [mcsF], by simp [mcsF]⟩
  | succ j ih =>
    intro hj
    have h := ih (by omega)
    have hv := hV j (by omega)
    have hl := leM_ok (l := j) hn (by omega) hs hst hW h.1
    unfold mcsF
    split
    · refine ⟨fun i hi => ?_, ?_, ?_⟩
      · simp only [vU]
        split
        · omega
        · exact h.1 i hi
      · simp only; omega
      · simp only; omega
    · exact ⟨h.1, h.2.1, by omega⟩
abbrev pS : Type := (Nat → Int) × Int × Int × Int
def mcsN (V W : Nat → Int) (st n : Nat) (t : Int) (s : Nat) (P : pS) : pS :=
  if (mcsF V W st n s P.1 n).2.1 ≤ t ∧ (P.2.2.1 < (mcsF V W st n s P.1 n).2.2 ∨ (mcsF V W st n s P.1 n).2.2 = P.2.2.1 ∧ (mcsF V W st n s P.1 n).2.1 < P.2.2.2) then ((mcsF V W st n s P.1 n).1, (s : Int), (mcsF V W st n s P.1 n).2.2, (mcsF V W st n s P.1 n).2.1) else ((mcsF V W st n s P.1 n).1, P.2.1, P.2.2.1, P.2.2.2)
abbrev pMP (m : mz_M) (P : pS) : mz_M := pM m P.1 P.2.1 P.2.2.1 P.2.2.2
set_option maxRecDepth 8000 in
theorem mp_in (m : mz_M) {s n st : Nat} {t : Int} (P : pS) (r0 : Option mz_V) (m' : mz_M) (hn : n ≤ 10) (h0 : m 154 0 = n) (hs : s < 1024) (hst : st < 10) (hW : fwO (mW (m 154))) (hS : shM P.1) (hV : ∀ j, j < n → 0 ≤ m 166 j ∧ m 166 j ≤ 1000000) (hc : ∀ x y z, sx 256 42 [some (mz_r 9 0 153), some (mz_i st), some (mz_i t), some (mz_i ((s + 1 : Nat) : Int)), x, y, z] [] (pMP m (mcsN (m 166) (mW (m 154)) st n t s P)) r0 m') : ∀ (r j : Nat), j + r = n → sx 256 56 [some (mz_r 9 0 153), some (mz_i st), some (mz_i t), some (mz_i s), some (mz_i (mcsF (m 166) (mW (m 154)) st n s P.1 j).2.1), some (mz_i (mcsF (m 166) (mW (m 154)) st n s P.1 j).2.2), some (mz_i j)] [] (pM m (mcsF (m 166) (mW (m 154)) st n s P.1 j).1 P.2.1 P.2.2.1 P.2.2.2) r0 m' := by
  intro r
  induction r with
  | zero =>
    intro j hj
    obtain rfl : j = n := by omega
    unfold mcsN at hc
    have ho := mcsF_ok hn hs hst hW hS hV j (Nat.le_refl _)
    generalize mcsF (m 166) (mW (m 154)) st j s P.1 j = C at hc ho ⊢
    refine mz_vc_ok 20 (ct := fun i => i == 42 || i == 56 || i == 69 || i == 102) ?_
    simp only [vcS0, vcS1, vcS2, vcS3, vcS4, vcS5, vcS6, vc_n0, vc_lk, vc_pop, vc_rc, vc_tsw, vc_fr, vc_ar, vc_tb, mz_nx, List.set_cons_zero, List.set_cons_succ, Nat.reduceAdd, Nat.reduceBEq, Nat.reduceEqDiff, Nat.reduceLeDiff, Nat.reduceLT, Nat.reduceMul, Int.reduceToNat, Bool.false_eq_true, Bool.or_self, Bool.or_true, Bool.true_or, Bool.or_false, reduceIte, Option.toList_some, Option.toList_none, List.nil_append, List.cons_append, List.length_cons, List.length_nil, true_and, and_true, Int.cast_ofNat_Int, Int.reduceEq, Int.reduceLT, Int.reduceLE, Nat.zero_le, and_self, or_true, true_or, cdS_256]
    rw [pM_154, h0, if_neg (by omega)]
    refine mz_vc_ok 30 (ct := fun i => i == 42 || i == 56) ?_
    simp only [vcS0, vcS1, vcS2, vcS3, vcS4, vcS5, vcS6, vc_n0, vc_lk, vc_pop, vc_rc, vc_tsw, vc_fr, vc_ar, vc_tb, mz_nx, List.set_cons_zero, List.set_cons_succ, Nat.reduceAdd, Nat.reduceBEq, Nat.reduceEqDiff, Nat.reduceLeDiff, Nat.reduceLT, Nat.reduceMul, Int.reduceToNat, Bool.false_eq_true, Bool.or_self, Bool.or_true, Bool.true_or, Bool.or_false, reduceIte, Option.toList_some, Option.toList_none, List.nil_append, List.cons_append, List.length_cons, List.length_nil, true_and, and_true, Int.cast_ofNat_Int, Int.reduceEq, Int.reduceLT, Int.reduceLE, Nat.zero_le, and_self, or_true, true_or, cdS_256]
    rw [(pM_b _ _ _ _ _).2.1, (pM_b _ _ _ _ _).2.2]
    simp only [pM_24, pM_25, pM_26]
    have hs1 : ((s : Int) + 1) = ((s + 1 : Nat) : Int) := by omega
    have hw1 : mz_w ((s : Int) + 1) := by unfold mz_w; omega
    by_cases h1 : C.2.1 ≤ t
    · rw [if_pos h1]
      by_cases h2 : P.2.2.1 < C.2.2
      · rw [if_pos (show C.2.1 ≤ t ∧ (P.2.2.1 < C.2.2 ∨ C.2.2 = P.2.2.1 ∧ C.2.1 < P.2.2.2) from ⟨h1, Or.inl h2⟩)] at hc
        rw [if_neg (by omega)]
        exact ⟨hw1, hc _ _ _⟩
      · rw [if_pos (by omega)]
        by_cases h3 : C.2.2 = P.2.2.1
        · rw [if_pos h3]
          by_cases h4 : C.2.1 < P.2.2.2
          · rw [if_pos (show C.2.1 ≤ t ∧ (P.2.2.1 < C.2.2 ∨ C.2.2 = P.2.2.1 ∧ C.2.1 < P.2.2.2) from ⟨h1, Or.inr ⟨h3, h4⟩⟩)] at hc
            rw [if_pos h4]
            exact ⟨hw1, hc _ _ _⟩
          · rw [if_neg (show ¬ (C.2.1 ≤ t ∧ (P.2.2.1 < C.2.2 ∨ C.2.2 = P.2.2.1 ∧ C.2.1 < P.2.2.2)) from fun q => q.2.elim h2 (fun q => h4 q.2))] at hc
            rw [if_neg h4]
            exact ⟨hw1, hc _ _ _⟩
        · rw [if_neg (show ¬ (C.2.1 ≤ t ∧ (P.2.2.1 < C.2.2 ∨ C.2.2 = P.2.2.1 ∧ C.2.1 < P.2.2.2)) from fun q => q.2.elim h2 (fun q => h3 q.1))] at hc
          rw [if_neg h3]
          exact ⟨hw1, hc _ _ _⟩
    · rw [if_neg (show ¬ (C.2.1 ≤ t ∧ (P.2.2.1 < C.2.2 ∨ C.2.2 = P.2.2.1 ∧ C.2.1 < P.2.2.2)) from fun q => h1 q.1)] at hc
      rw [if_neg h1]
      exact ⟨hw1, hc _ _ _⟩
  | succ r ih =>
    intro j hj
    have hk := ih (j + 1) (by omega)
    have ho := mcsF_ok hn hs hst hW hS hV j (by omega)
    have hv := hV j (by omega)
    unfold mcsF at hk
    clear hc ih
    generalize mcsF (m 166) (mW (m 154)) st n s P.1 j = C at hk ho ⊢
    have hl := leM_ok (l := j) hn (by omega) hs hst hW ho.1
    refine mz_vc_ok 20 (ct := fun i => i == 42 || i == 56 || i == 69 || i == 100 || i == 102) ?_
    simp only [vcS0, vcS1, vcS2, vcS3, vcS4, vcS5, vcS6, vc_n0, vc_lk, vc_pop, vc_rc, vc_tsw, vc_fr, vc_ar, vc_tb, mz_nx, List.set_cons_zero, List.set_cons_succ, Nat.reduceAdd, Nat.reduceBEq, Nat.reduceEqDiff, Nat.reduceLeDiff, Nat.reduceLT, Nat.reduceMul, Int.reduceToNat, Bool.false_eq_true, Bool.or_self, Bool.or_true, Bool.true_or, Bool.or_false, reduceIte, Option.toList_some, Option.toList_none, List.nil_append, List.cons_append, List.length_cons, List.length_nil, true_and, and_true, Int.cast_ofNat_Int, Int.reduceEq, Int.reduceLT, Int.reduceLE, Nat.zero_le, and_self, or_true, true_or, cdS_256]
    rw [pM_154, h0, if_pos (by omega), shr_n (by omega) (by omega), show (1 : Int) = ((1 : Nat) : Int) from rfl, and_n (by have : s / 2 ^ j ≤ s := Nat.div_le_self _ _; omega) (by omega), Nat.and_one_is_mod]
    by_cases hb : s / 2 ^ j % 2 = 1
    · rw [if_pos hb] at hk
      rw [if_neg (by omega)]
      have he := sp_ends (pM m C.1 P.2.1 P.2.2.1 P.2.2.2) (s := s) (l := j) (n := n) (st := st) hn (by rw [pM_154]; exact h0) (by omega) hs hst (by rw [pM_154]; exact hW) (by rw [pM_165]; exact ho.1)
      rw [pM_154, pM_165] at he
      refine mz_vc_ok 50 (ct := fun i => i == 42 || i == 56) ?_
      simp only [vcS0, vcS1, vcS2, vcS3, vcS4, vcS5, vcS6, vc_n0, vc_lk, vc_pop, vc_rc, vc_tsw, vc_fr, vc_ar, vc_tb, mz_nx, List.set_cons_zero, List.set_cons_succ, Nat.reduceAdd, Nat.reduceBEq, Nat.reduceEqDiff, Nat.reduceLeDiff, Nat.reduceLT, Nat.reduceMul, Int.reduceToNat, Bool.false_eq_true, Bool.or_self, Bool.or_true, Bool.true_or, Bool.or_false, reduceIte, Option.toList_some, Option.toList_none, List.nil_append, List.cons_append, List.length_cons, List.length_nil, true_and, and_true, Int.cast_ofNat_Int, Int.reduceEq, Int.reduceLT, Int.reduceLE, Nat.zero_le, and_self, or_true, true_or, cdS_256]
      refine ⟨(by unfold mz_w; omega), (by unfold mz_w; omega), _, _, he, ?_⟩
      simp only [vcS0, vcS1, vcS2, vcS3, vcS4, vcS5, vcS6, vc_n0, vc_lk, vc_pop, vc_rc, vc_tsw, vc_fr, vc_ar, vc_tb, mz_nx, List.set_cons_zero, List.set_cons_succ, Nat.reduceAdd, Nat.reduceBEq, Nat.reduceEqDiff, Nat.reduceLeDiff, Nat.reduceLT, Nat.reduceMul, Int.reduceToNat, Bool.false_eq_true, Bool.or_self, Bool.or_true, Bool.true_or, Bool.or_false, reduceIte, Option.toList_some, Option.toList_none, List.nil_append, List.cons_append, List.length_cons, List.length_nil, true_and, and_true, Int.cast_ofNat_Int, Int.reduceEq, Int.reduceLT, Int.reduceLE, Nat.zero_le, and_self, or_true, true_or, cdS_256]
      rw [show (10 * (s : Int) + (j : Int)).toNat = 10 * s + j by omega, pM_S]
      simp only [pM_165, pM_166, vU_s, Int.toNat_natCast]
      refine ⟨by omega, (by unfold mz_w; omega), (by unfold mz_w; omega), by omega, by omega, (by unfold mz_w; omega), (by unfold mz_w; omega), hk⟩
    · rw [if_neg hb] at hk
      rw [if_pos (by omega)]
      refine mz_vc_ok 10 (ct := fun i => i == 42 || i == 56) ?_
      simp only [vcS0, vcS1, vcS2, vcS3, vcS4, vcS5, vcS6, vc_n0, vc_lk, vc_pop, vc_rc, vc_tsw, vc_fr, vc_ar, vc_tb, mz_nx, List.set_cons_zero, List.set_cons_succ, Nat.reduceAdd, Nat.reduceBEq, Nat.reduceEqDiff, Nat.reduceLeDiff, Nat.reduceLT, Nat.reduceMul, Int.reduceToNat, Bool.false_eq_true, Bool.or_self, Bool.or_true, Bool.true_or, Bool.or_false, reduceIte, Option.toList_some, Option.toList_none, List.nil_append, List.cons_append, List.length_cons, List.length_nil, true_and, and_true, Int.cast_ofNat_Int, Int.reduceEq, Int.reduceLT, Int.reduceLE, Nat.zero_le, and_self, or_true, true_or, cdS_256]
      exact ⟨(by unfold mz_w; omega), hk⟩
def mplI (V W : Nat → Int) (st n : Nat) (t : Int) : Nat → Nat → pS → pS
  | 0, _, P => P
  | r + 1, s, P => mplI V W st n t r (s + 1) (mcsN V W st n t s P)
theorem mcsN_ok {V W : Nat → Int} {st n s : Nat} {t : Int} {P : pS} (hn : n ≤ 10) (hs : s < 1024) (hst : st < 10) (hW : fwO W) (hS : shM P.1) (hV : ∀ j, j < n → 0 ≤ V j ∧ V j ≤ 1000000) : shM (mcsN V W st n t s P).1 := by
  have := (mcsF_ok hn hs hst hW hS hV n (Nat.le_refl _)).1
  unfold mcsN
  split <;> exact this
set_option maxRecDepth 8000 in
theorem mp_out (m : mz_M) {n st : Nat} {t : Int} (hn : n ≤ 10) (h0 : m 154 0 = n) (hst : st < 10) (hW : fwO (mW (m 154))) (hV : ∀ j, j < n → 0 ≤ m 166 j ∧ m 166 j ≤ 1000000) : ∀ (r s : Nat) (P : pS) (x y z : Option mz_V), s + r = 2 ^ n → shM P.1 → sx 256 42 [some (mz_r 9 0 153), some (mz_i st), some (mz_i t), some (mz_i s), x, y, z] [] (pMP m P) (some (mz_i 1)) (pMP m (mplI (m 166) (mW (m 154)) st n t r s P)) := by
  have hp : 2 ^ n ≤ 1024 := Nat.pow_le_pow_right (by omega) (show n ≤ 10 from hn)
  have e : mz_shl 1 n = ((2 ^ n : Nat) : Int) := by
    have := shl_n (a := 1) (k := n) (by omega) (by omega)
    rwa [Nat.one_mul] at this
  intro r
  induction r with
  | zero =>
    intro s P x y z hs hS
    unfold mplI
    refine mz_vc_ok 60 (ct := fun i => i == 42 || i == 56) ?_
    simp only [vcS0, vcS1, vcS2, vcS3, vcS4, vcS5, vcS6, vc_n0, vc_lk, vc_pop, vc_rc, vc_tsw, vc_fr, vc_ar, vc_tb, mz_nx, List.set_cons_zero, List.set_cons_succ, Nat.reduceAdd, Nat.reduceBEq, Nat.reduceEqDiff, Nat.reduceLeDiff, Nat.reduceLT, Nat.reduceMul, Int.reduceToNat, Bool.false_eq_true, Bool.or_self, Bool.or_true, Bool.true_or, Bool.or_false, reduceIte, Option.toList_some, Option.toList_none, List.nil_append, List.cons_append, List.length_cons, List.length_nil, true_and, and_true, Int.cast_ofNat_Int, Int.reduceEq, Int.reduceLT, Int.reduceLE, Nat.zero_le, and_self, or_true, true_or, cdS_256]
    rw [show pMP m P 154 = m 154 from pM_154 _ _ _ _ _, h0, e, if_neg (by omega)]
    all_goals ((repeat' refine And.intro ?_ ?_) <;> first | trivial | rfl | (unfold mz_w; omega) | omega)
  | succ r ih =>
    intro s P x y z hs hS
    unfold mplI
    refine mz_vc_ok 60 (ct := fun i => i == 42 || i == 56) ?_
    simp only [vcS0, vcS1, vcS2, vcS3, vcS4, vcS5, vcS6, vc_n0, vc_lk, vc_pop, vc_rc, vc_tsw, vc_fr, vc_ar, vc_tb, mz_nx, List.set_cons_zero, List.set_cons_succ, Nat.reduceAdd, Nat.reduceBEq, Nat.reduceEqDiff, Nat.reduceLeDiff, Nat.reduceLT, Nat.reduceMul, Int.reduceToNat, Bool.false_eq_true, Bool.or_self, Bool.or_true, Bool.true_or, Bool.or_false, reduceIte, Option.toList_some, Option.toList_none, List.nil_append, List.cons_append, List.length_cons, List.length_nil, true_and, and_true, Int.cast_ofNat_Int, Int.reduceEq, Int.reduceLT, Int.reduceLE, Nat.zero_le, and_self, or_true, true_or, cdS_256]
    rw [show pMP m P 154 = m 154 from pM_154 _ _ _ _ _, h0, e, if_pos (by omega)]
    exact mp_in m P _ _ hn h0 (by omega) hst hW hS hV (fun x y z => ih (s + 1) _ x y z (by omega) (mcsN_ok hn (by omega) hst hW hS hV)) n 0 (by omega)
set_option maxRecDepth 8000 in
theorem mv_loop (m : mz_M) {n N : Nat} {y t : Int} (r0 : Option mz_V) (m' : mz_M) (hv : mVO (m 154) N) (hn : n ≤ 10) (h0 : m 154 0 = n) (hc : sx 256 31 [some (mz_r 9 0 153), some (mz_i y), some (mz_i t), some (mz_i n), none, none, none] [] (rO m 166 (fun i => if i < n then sm (mVs (m 154) N i) 16 else m 166 i)) r0 m') : ∀ (r j : Nat), j + r = n → sx 256 16 [some (mz_r 9 0 153), some (mz_i y), some (mz_i t), some (mz_i j), none, none, none] [] (rO m 166 (fun i => if i < j then sm (mVs (m 154) N i) 16 else m 166 i)) r0 m' := by
  intro r
  have e4 : ∀ V, rO m 166 V 154 = m 154 := fun V => by funext i; unfold rO; rw [if_neg (by omega)]
  induction r with
  | zero =>
    intro j hj
    obtain rfl : j = n := by omega
    refine mz_vc_ok 60 (ct := fun i => i == 16 || i == 31) ?_
    simp only [vcS0, vcS1, vcS2, vcS3, vcS4, vcS5, vcS6, vc_n0, vc_lk, vc_pop, vc_rc, vc_tsw, vc_fr, vc_ar, vc_tb, mz_nx, List.set_cons_zero, List.set_cons_succ, Nat.reduceAdd, Nat.reduceBEq, Nat.reduceEqDiff, Nat.reduceLeDiff, Nat.reduceLT, Nat.reduceMul, Int.reduceToNat, Bool.false_eq_true, Bool.or_self, Bool.or_true, Bool.true_or, Bool.or_false, reduceIte, Option.toList_some, Option.toList_none, List.nil_append, List.cons_append, List.length_cons, List.length_nil, true_and, and_true, Int.cast_ofNat_Int, Int.reduceEq, Int.reduceLT, Int.reduceLE, Nat.zero_le, and_self, or_true, true_or, cdS_256]
    rw [e4, h0, if_neg (by omega)]
    exact hc
  | succ r ih =>
    intro j hj
    have hk := ih (j + 1) (by omega)
    refine mz_vc_ok 60 (ct := fun i => i == 16 || i == 31) ?_
    simp only [vcS0, vcS1, vcS2, vcS3, vcS4, vcS5, vcS6, vc_n0, vc_lk, vc_pop, vc_rc, vc_tsw, vc_fr, vc_ar, vc_tb, mz_nx, List.set_cons_zero, List.set_cons_succ, Nat.reduceAdd, Nat.reduceBEq, Nat.reduceEqDiff, Nat.reduceLeDiff, Nat.reduceLT, Nat.reduceMul, Int.reduceToNat, Bool.false_eq_true, Bool.or_self, Bool.or_true, Bool.true_or, Bool.or_false, reduceIte, Option.toList_some, Option.toList_none, List.nil_append, List.cons_append, List.length_cons, List.length_nil, true_and, and_true, Int.cast_ofNat_Int, Int.reduceEq, Int.reduceLT, Int.reduceLE, Nat.zero_le, and_self, or_true, true_or, cdS_256]
    rw [e4, h0, if_pos (by omega)]
    have hvo := sp_valueOf (rO m 166 (fun i => if i < j then sm (mVs (m 154) N i) 16 else m 166 i)) (j : Int) (n := N) (by rw [e4]; exact hv)
    rw [e4] at hvo
    refine ⟨_, _, hvo, ?_⟩
    simp only [vcS0, vcS1, vcS2, vcS3, vcS4, vcS5, vcS6, vc_n0, vc_lk, vc_pop, vc_rc, vc_tsw, vc_fr, vc_ar, vc_tb, mz_nx, List.set_cons_zero, List.set_cons_succ, Nat.reduceAdd, Nat.reduceBEq, Nat.reduceEqDiff, Nat.reduceLeDiff, Nat.reduceLT, Nat.reduceMul, Int.reduceToNat, Bool.false_eq_true, Bool.or_self, Bool.or_true, Bool.true_or, Bool.or_false, reduceIte, Option.toList_some, Option.toList_none, List.nil_append, List.cons_append, List.length_cons, List.length_nil, true_and, and_true, Int.cast_ofNat_Int, Int.reduceEq, Int.reduceLT, Int.reduceLE, Nat.zero_le, and_self, or_true, true_or, cdS_256]
    rw [Int.toNat_natCast, rO_up]
    have e5 : vU (fun i => if i < j then sm (mVs (m 154) N i) 16 else m 166 i) j (sm (mVs (m 154) N j) 16) = fun i => if i < j + 1 then sm (mVs (m 154) N i) 16 else m 166 i := by
      funext i
      unfold vU
      by_cases q : i = j
      · subst q; rw [if_pos rfl, if_pos (by omega)]
      · rw [if_neg q]
        by_cases q2 : i < j
        · simp only [if_pos q2]; rw [if_pos (by omega)]
        · simp only [if_neg q2]; rw [if_neg (by omega)]
    rw [e5]
    exact ⟨by omega, (by unfold mz_w; omega), hk⟩
def mpV (V : Nat → Int) (N n : Nat) (X : Nat → Int) : Nat → Int := fun i => if i < n then sm (mVs V N i) 16 else X i
def mpF (m : mz_M) (N n st : Nat) (t : Int) : pS := mplI (mpV (m 154) N n (m 166)) (mW (m 154)) st n t (2 ^ n - 1) 1 (m 165, 0, 0, 0)
def mpM (m : mz_M) (N n st : Nat) (t : Int) : mz_M := pMP (rO (mz_up m 153 4 0) 166 (mpV (m 154) N n (m 166))) (mpF m N n st t)
set_option maxRecDepth 8000 in
theorem sp_patrols (m : mz_M) (x k : Int) {n N : Nat} (hv : mVO (m 154) N) (hn : n ≤ 10) (h0 : m 154 0 = n) (hW : fwO (mW (m 154))) (hS : shM (m 165)) : sp 256 [mz_r 9 0 153, mz_i x, mz_i k] m (some (mz_i (if (0 ≤ x ∧ x < m 154 0) ∧ 0 ≤ k ∧ k ≤ 600 then 1 else 0))) (if (0 ≤ x ∧ x < m 154 0) ∧ 0 ≤ k ∧ k ≤ 600 then mpM m N n x.toNat k else mz_up m 153 4 0) := by
  refine mz_cl_vc 60 (fun i => i == 16) [some (mz_r 9 0 153), some (mz_i x), some (mz_i k), none, none, none, none] rfl ?_
  simp only [vcS0, vcS1, vcS2, vcS3, vcS4, vcS5, vcS6, vc_n0, vc_lk, vc_pop, vc_rc, vc_tsw, vc_fr, vc_ar, vc_tb, mz_nx, List.set_cons_zero, List.set_cons_succ, Nat.reduceAdd, Nat.reduceBEq, Nat.reduceEqDiff, Nat.reduceLeDiff, Nat.reduceLT, Nat.reduceMul, Int.reduceToNat, Bool.false_eq_true, Bool.or_self, Bool.or_true, Bool.true_or, Bool.or_false, reduceIte, Option.toList_some, Option.toList_none, List.nil_append, List.cons_append, List.length_cons, List.length_nil, true_and, and_true, Int.cast_ofNat_Int, Int.reduceEq, Int.reduceLT, Int.reduceLE, Nat.zero_le, and_self, or_true, true_or, cdS_256]
  refine ⟨_, _, sp_isPlT m x (by unfold plN'; omega), ?_⟩
  by_cases h1 : 0 ≤ x ∧ x < m 154 0
  · rw [if_pos h1]
    simp only [vcS0, vcS1, vcS2, vcS3, vcS4, vcS5, vcS6, vc_n0, vc_lk, vc_pop, vc_rc, vc_tsw, vc_fr, vc_ar, vc_tb, mz_nx, List.set_cons_zero, List.set_cons_succ, Nat.reduceAdd, Nat.reduceBEq, Nat.reduceEqDiff, Nat.reduceLeDiff, Nat.reduceLT, Nat.reduceMul, Int.reduceToNat, Bool.false_eq_true, Bool.or_self, Bool.or_true, Bool.true_or, Bool.or_false, reduceIte, Option.toList_some, Option.toList_none, List.nil_append, List.cons_append, List.length_cons, List.length_nil, true_and, and_true, Int.cast_ofNat_Int, Int.reduceEq, Int.reduceLT, Int.reduceLE, Nat.zero_le, and_self, or_true, true_or, cdS_256]
    refine ⟨_, _, sp_in _ k 0 600, ?_⟩
    by_cases h2 : 0 ≤ k ∧ k ≤ 600
    · rw [if_pos h2, if_pos ⟨h1, h2⟩, if_pos ⟨h1, h2⟩]
      simp only [vcS0, vcS1, vcS2, vcS3, vcS4, vcS5, vcS6, vc_n0, vc_lk, vc_pop, vc_rc, vc_tsw, vc_fr, vc_ar, vc_tb, mz_nx, List.set_cons_zero, List.set_cons_succ, Nat.reduceAdd, Nat.reduceBEq, Nat.reduceEqDiff, Nat.reduceLeDiff, Nat.reduceLT, Nat.reduceMul, Int.reduceToNat, Bool.false_eq_true, Bool.or_self, Bool.or_true, Bool.true_or, Bool.or_false, reduceIte, Option.toList_some, Option.toList_none, List.nil_append, List.cons_append, List.length_cons, List.length_nil, true_and, and_true, Int.cast_ofNat_Int, Int.reduceEq, Int.reduceLT, Int.reduceLE, Nat.zero_le, and_self, or_true, true_or, cdS_256]
      obtain ⟨st, rfl⟩ := nat_i h1.1
      rw [Int.toNat_natCast]
      have hl := mv_loop (mz_up m 153 4 0) (n := n) (N := N) (y := st) (t := k) (some (mz_i 1)) (mpM m N n st k) (by rw [thr_154]; exact hv) hn (by rw [thr_154]; exact h0) ?_ n 0 (by omega)
      · rw [show rO (mz_up m 153 4 0) 166 (fun i => if i < 0 then sm (mVs (mz_up m 153 4 0 154) N i) 16 else mz_up m 153 4 0 166 i) = mz_up m 153 4 0 by
          have := rO_self (mz_up m 153 4 0) 166
          rw [← this]
          congr 1] at hl
        exact hl
      · rw [thr_154]
        have e6 : mz_up m 153 4 0 166 = m 166 := by funext i; exact up_o (by omega)
        have e7 : mz_up m 153 4 0 165 = m 165 := by funext i; exact up_o (by omega)
        rw [e6, show (fun i => if i < n then sm (mVs (m 154) N i) 16 else m 166 i) = mpV (m 154) N n (m 166) from rfl]
        refine mz_vc_ok 60 (ct := fun i => i == 42) ?_
        simp only [vcS0, vcS1, vcS2, vcS3, vcS4, vcS5, vcS6, vc_n0, vc_lk, vc_pop, vc_rc, vc_tsw, vc_fr, vc_ar, vc_tb, mz_nx, List.set_cons_zero, List.set_cons_succ, Nat.reduceAdd, Nat.reduceBEq, Nat.reduceEqDiff, Nat.reduceLeDiff, Nat.reduceLT, Nat.reduceMul, Int.reduceToNat, Bool.false_eq_true, Bool.or_self, Bool.or_true, Bool.true_or, Bool.or_false, reduceIte, Option.toList_some, Option.toList_none, List.nil_append, List.cons_append, List.length_cons, List.length_nil, true_and, and_true, Int.cast_ofNat_Int, Int.reduceEq, Int.reduceLT, Int.reduceLE, Nat.zero_le, and_self, or_true, true_or, cdS_256]
        have e8 : mz_up (mz_up (mz_up (rO (mz_up m 153 4 0) 166 (mpV (m 154) N n (m 166))) 153 24 0) 153 25 0) 153 26 0 = pMP (rO (mz_up m 153 4 0) 166 (mpV (m 154) N n (m 166))) (m 165, 0, 0, 0) := by
          funext a i
          unfold mz_up pMP pM rO
          grind
        rw [e8]
        have e9 : rO (mz_up m 153 4 0) 166 (mpV (m 154) N n (m 166)) 154 = m 154 := by funext i; unfold rO; rw [if_neg (by omega), up_o (by omega)]
        have hp1 : 1 ≤ 2 ^ n := Nat.one_le_two_pow
        have ho := mp_out (rO (mz_up m 153 4 0) 166 (mpV (m 154) N n (m 166))) (n := n) (st := st) (t := k) hn (by rw [e9]; exact h0) (by omega) (by rw [e9]; exact hW) (fun j hj => by
          rw [rO_at]
          have := mVs_ok (V := m 154) (n := N) (j : Int) 16
          unfold mpV
          rw [if_pos hj]
          omega) (2 ^ n - 1) 1 (m 165, 0, 0, 0) none none none (by omega) hS
        rw [e9, rO_at] at ho
        exact ho
    · rw [if_neg h2, if_neg (fun q => h2 q.2), if_neg (fun q => h2 q.2)]
      simp only [vcS0, vcS1, vcS2, vcS3, vcS4, vcS5, vcS6, vc_n0, vc_lk, vc_pop, vc_rc, vc_tsw, vc_fr, vc_ar, vc_tb, mz_nx, List.set_cons_zero, List.set_cons_succ, Nat.reduceAdd, Nat.reduceBEq, Nat.reduceEqDiff, Nat.reduceLeDiff, Nat.reduceLT, Nat.reduceMul, Int.reduceToNat, Bool.false_eq_true, Bool.or_self, Bool.or_true, Bool.true_or, Bool.or_false, reduceIte, Option.toList_some, Option.toList_none, List.nil_append, List.cons_append, List.length_cons, List.length_nil, true_and, and_true, Int.cast_ofNat_Int, Int.reduceEq, Int.reduceLT, Int.reduceLE, Nat.zero_le, and_self, or_true, true_or, cdS_256]
  · rw [if_neg h1, if_neg (fun q => h1 q.1), if_neg (fun q => h1 q.1)]
    simp only [vcS0, vcS1, vcS2, vcS3, vcS4, vcS5, vcS6, vc_n0, vc_lk, vc_pop, vc_rc, vc_tsw, vc_fr, vc_ar, vc_tb, mz_nx, List.set_cons_zero, List.set_cons_succ, Nat.reduceAdd, Nat.reduceBEq, Nat.reduceEqDiff, Nat.reduceLeDiff, Nat.reduceLT, Nat.reduceMul, Int.reduceToNat, Bool.false_eq_true, Bool.or_self, Bool.or_true, Bool.true_or, Bool.or_false, reduceIte, Option.toList_some, Option.toList_none, List.nil_append, List.cons_append, List.length_cons, List.length_nil, true_and, and_true, Int.cast_ofNat_Int, Int.reduceEq, Int.reduceLT, Int.reduceLE, Nat.zero_le, and_self, or_true, true_or, cdS_256]
