/-! The patrol planner. -/
theorem bv_m1 : Int32.ofInt (-1) = (-1 : Int32) := rfl
theorem xor_m1 {v : Nat} (hv : v < 2147483648) : (Int32.ofInt (mz_xor v (-1))).toBitVec = ~~~ (BitVec.ofNat 32 v) := by
  unfold mz_xor
  rw [Int32.ofInt_toInt, Int32.toBitVec_xor, bv_ti hv]
  have : (Int32.ofInt (-1)).toBitVec = BitVec.allOnes 32 := by decide
  rw [this, BitVec.xor_allOnes]
def adn (s v : Nat) : Nat := s &&& (4294967295 - v)
theorem adn_le (s v : Nat) : adn s v ≤ s := Nat.and_le_left
theorem andn_n {s v : Nat} (hs : s < 2147483648) (hv : v < 2147483648) : mz_and s (mz_xor v (-1)) = (adn s v : Nat) := by
  show (Int32.ofInt (s : Int) &&& Int32.ofInt (mz_xor v (-1))).toBitVec.toInt = _
  rw [Int32.toBitVec_and, xor_m1 hv, bv_ti hs]
  have e : (BitVec.ofNat 32 s &&& ~~~ (BitVec.ofNat 32 v)) = BitVec.ofNat 32 (adn s v) := by
    apply BitVec.eq_of_toNat_eq
    rw [BitVec.toNat_and, BitVec.toNat_not, BitVec.toNat_ofNat, BitVec.toNat_ofNat, BitVec.toNat_ofNat]
    rw [Nat.mod_eq_of_lt (show s < 2 ^ 32 by omega), Nat.mod_eq_of_lt (show v < 2 ^ 32 by omega)]
    have := adn_le s v
    rw [Nat.mod_eq_of_lt (show adn s v < 2 ^ 32 by omega)]
    rfl
  rw [e, bv_to (Nat.lt_of_le_of_lt (adn_le s v) hs)]
theorem adn_bit {s v i : Nat} (hi : i < 32) (hv : v < 2147483648) : adn s v / 2 ^ i % 2 = if s / 2 ^ i % 2 = 1 ∧ ¬ v / 2 ^ i % 2 = 1 then 1 else 0 := by
  have h : (adn s v).testBit i = (s.testBit i && !v.testBit i) := by
    unfold adn
    rw [Nat.testBit_and, show 4294967295 - v = 2 ^ 32 - (v + 1) by omega, Nat.testBit_two_pow_sub_succ (by omega)]
    simp [hi]
  rw [Nat.testBit_eq_decide_div_mod_eq, Nat.testBit_eq_decide_div_mod_eq, Nat.testBit_eq_decide_div_mod_eq] at h
  have h2 : adn s v / 2 ^ i % 2 = 0 ∨ adn s v / 2 ^ i % 2 = 1 := by omega
  split
  · rename_i hc
    rw [decide_eq_true hc.1, decide_eq_false hc.2] at h
    simpa using h
  · rename_i hc
    rcases h2 with h2 | h2
    · exact h2
    · exfalso
      rw [decide_eq_true h2] at h
      have h3 := h.symm
      rw [Bool.and_eq_true, Bool.not_eq_true', decide_eq_true_eq, decide_eq_false_iff_not] at h3
      exact hc h3
def mnl (P : Nat → Prop) [DecidablePred P] (f : Nat → Int) (b : Int) : Nat → Int
  | 0 => b
  | n + 1 => if P n then min (mnl P f b n) (f n) else mnl P f b n
theorem mnl_ok {P : Nat → Prop} [DecidablePred P] {f : Nat → Int} {b : Int} {n : Nat} (h0 : 0 ≤ b) (hf : ∀ i, i < n → P i → 0 ≤ f i) : 0 ≤ mnl P f b n ∧ mnl P f b n ≤ b := by
  induction n with
  | zero => exact ⟨h0, Int.le_refl _⟩
  | succ n ih =>
    have := ih (fun i hi => hf i (by omega))
    unfold mnl
    split
    · have := hf n (by omega) (by assumption); omega
    · omega
theorem mnl_congr {P : Nat → Prop} [DecidablePred P] {f g : Nat → Int} {b : Int} {n : Nat} (h : ∀ i, i < n → P i → f i = g i) : mnl P f b n = mnl P g b n := by
  induction n with
  | zero => rfl
  | succ n ih =>
    unfold mnl
    rw [ih (fun i hi => h i (by omega))]
    split
    · rw [h n (by omega) (by assumption)]
    · rfl
/-- one step of the planner's table -/
def leR (s l : Nat) : Nat := adn s (2 ^ l)
def leC (S W : Nat → Int) (st n s l : Nat) : Int := mnl (fun p => leR s l / 2 ^ p % 2 = 1) (fun p => S (10 * leR s l + p) + W (10 * p + l)) (if leR s l = 0 then W (10 * st + l) else 1000000) n + 5
theorem leC_congr {S S' W : Nat → Int} {st n s l : Nat} (hn : n ≤ 10) (hs : s < 1024) (h : ∀ i, i < 10240 → S i = S' i) : leC S W st n s l = leC S' W st n s l := by
  have hle := adn_le s (2 ^ l)
  unfold leC
  rw [mnl_congr (fun i hi _ => by rw [h (10 * leR s l + i) (by unfold leR; omega)])]
def shO (S : Nat → Int) : Prop := ∀ i, i < 10240 → 0 ≤ S i ∧ S i ≤ 1000005
theorem le_loop (m : mz_M) {q w s l n st : Nat} (hn : n ≤ 10) (h0 : m w 0 = n) (hl : l < 10) (hs : s < 1024) (hW : fwO (m (w + 5))) (hS : shO (m (q + 2))) (b : Int) (hb : 0 ≤ b ∧ b ≤ 1000000) : ∀ (r j : Nat), j + r = n → sx 129 20 [some (mz_r 2 0 q), some (mz_i s), some (mz_i l), some (mz_r 4 0 w), some (mz_i (leR s l)), some (mz_i (mnl (fun p => leR s l / 2 ^ p % 2 = 1) (fun p => m (q + 2) (10 * leR s l + p) + m (w + 5) (10 * p + l)) b j)), some (mz_i j)] [] m (some (mz_i (mnl (fun p => leR s l / 2 ^ p % 2 = 1) (fun p => m (q + 2) (10 * leR s l + p) + m (w + 5) (10 * p + l)) b n + 5))) m := by
  have hle := adn_le s (2 ^ l)
  have hfp : ∀ i, i < n → leR s l / 2 ^ i % 2 = 1 → 0 ≤ m (q + 2) (10 * leR s l + i) + m (w + 5) (10 * i + l) := fun i hi _ => by
    have := hS (10 * leR s l + i) (by unfold leR; omega)
    have := hW (10 * i + l) (by omega)
    omega
  intro r
  induction r with
  | zero =>
    intro j hj
    obtain rfl : j = n := by omega
    have := mnl_ok hb.1 hfp
    refine mz_vc_ok 60 (ct := fun i => i == 20) ?_
    simp only [vcS0, vcS1, vcS2, vcS3, vcS4, vcS5, vcS6, vc_n0, vc_lk, vc_pop, vc_rc, vc_tsw, vc_fr, vc_ar, vc_tb, mz_nx, List.set_cons_zero, List.set_cons_succ, Nat.reduceAdd, Nat.reduceBEq, Nat.reduceEqDiff, Nat.reduceLeDiff, Nat.reduceLT, Nat.reduceMul, Int.reduceToNat, Bool.false_eq_true, Bool.or_self, Bool.or_true, Bool.true_or, Bool.or_false, reduceIte, Option.toList_some, Option.toList_none, List.nil_append, List.cons_append, List.length_cons, List.length_nil, true_and, and_true, Int.cast_ofNat_Int, Int.reduceEq, Int.reduceLT, Int.reduceLE, Nat.zero_le, and_self, or_true, true_or, cdS_129]
    rw [if_neg (by omega)]
    exact (by unfold mz_w; omega)
  | succ r ih =>
    intro j hj
    have hk := ih (j + 1) (by omega)
    have h1 := hS (10 * leR s l + j) (by unfold leR; omega)
    have h2 := hW (10 * j + l) (by omega)
    rw [mnl] at hk
    have h3 := mnl_ok (n := j) hb.1 (fun i hi => hfp i (by omega))
    generalize mnl (fun p => leR s l / 2 ^ p % 2 = 1) (fun p => m (q + 2) (10 * leR s l + p) + m (w + 5) (10 * p + l)) b j = a at hk h3 ⊢
    generalize hR : leR s l = R at hk h1 ⊢
    have hR2 : R < 1024 := by rw [← hR]; unfold leR; omega
    refine mz_vc_ok 60 (ct := fun i => i == 20) ?_
    simp only [vcS0, vcS1, vcS2, vcS3, vcS4, vcS5, vcS6, vc_n0, vc_lk, vc_pop, vc_rc, vc_tsw, vc_fr, vc_ar, vc_tb, mz_nx, List.set_cons_zero, List.set_cons_succ, Nat.reduceAdd, Nat.reduceBEq, Nat.reduceEqDiff, Nat.reduceLeDiff, Nat.reduceLT, Nat.reduceMul, Int.reduceToNat, Bool.false_eq_true, Bool.or_self, Bool.or_true, Bool.true_or, Bool.or_false, reduceIte, Option.toList_some, Option.toList_none, List.nil_append, List.cons_append, List.length_cons, List.length_nil, true_and, and_true, Int.cast_ofNat_Int, Int.reduceEq, Int.reduceLT, Int.reduceLE, Nat.zero_le, and_self, or_true, true_or, cdS_129]
    rw [if_pos (by omega)]
    refine ⟨_, _, sp_contains m (by omega) (by omega), ?_⟩
    by_cases hc : R / 2 ^ j % 2 = 1
    · rw [if_pos hc]
      rw [if_pos hc] at hk
      simp only [vcS0, vcS1, vcS2, vcS3, vcS4, vcS5, vcS6, vc_n0, vc_lk, vc_pop, vc_rc, vc_tsw, vc_fr, vc_ar, vc_tb, mz_nx, List.set_cons_zero, List.set_cons_succ, Nat.reduceAdd, Nat.reduceBEq, Nat.reduceEqDiff, Nat.reduceLeDiff, Nat.reduceLT, Nat.reduceMul, Int.reduceToNat, Bool.false_eq_true, Bool.or_self, Bool.or_true, Bool.true_or, Bool.or_false, reduceIte, Option.toList_some, Option.toList_none, List.nil_append, List.cons_append, List.length_cons, List.length_nil, true_and, and_true, Int.cast_ofNat_Int, Int.reduceEq, Int.reduceLT, Int.reduceLE, Nat.zero_le, and_self, or_true, true_or, cdS_129]
      rw [show (R : Int) * 10 + j = ((10 * R + j : Nat) : Int) by omega]
      refine ⟨(by unfold mz_w; omega), (by unfold mz_w; omega), ?_⟩
      refine ⟨_, _, sp_atN m (by omega), ?_⟩
      simp only [vcS0, vcS1, vcS2, vcS3, vcS4, vcS5, vcS6, vc_n0, vc_lk, vc_pop, vc_rc, vc_tsw, vc_fr, vc_ar, vc_tb, mz_nx, List.set_cons_zero, List.set_cons_succ, Nat.reduceAdd, Nat.reduceBEq, Nat.reduceEqDiff, Nat.reduceLeDiff, Nat.reduceLT, Nat.reduceMul, Int.reduceToNat, Bool.false_eq_true, Bool.or_self, Bool.or_true, Bool.true_or, Bool.or_false, reduceIte, Option.toList_some, Option.toList_none, List.nil_append, List.cons_append, List.length_cons, List.length_nil, true_and, and_true, Int.cast_ofNat_Int, Int.reduceEq, Int.reduceLT, Int.reduceLE, Nat.zero_le, and_self, or_true, true_or, cdS_129]
      refine ⟨_, _, sp_way m (by omega) hl, ?_⟩
      simp only [vcS0, vcS1, vcS2, vcS3, vcS4, vcS5, vcS6, vc_n0, vc_lk, vc_pop, vc_rc, vc_tsw, vc_fr, vc_ar, vc_tb, mz_nx, List.set_cons_zero, List.set_cons_succ, Nat.reduceAdd, Nat.reduceBEq, Nat.reduceEqDiff, Nat.reduceLeDiff, Nat.reduceLT, Nat.reduceMul, Int.reduceToNat, Bool.false_eq_true, Bool.or_self, Bool.or_true, Bool.true_or, Bool.or_false, reduceIte, Option.toList_some, Option.toList_none, List.nil_append, List.cons_append, List.length_cons, List.length_nil, true_and, and_true, Int.cast_ofNat_Int, Int.reduceEq, Int.reduceLT, Int.reduceLE, Nat.zero_le, and_self, or_true, true_or, cdS_129]
      exact ⟨(by unfold mz_w; omega), (by unfold mz_w; omega), hk⟩
    · rw [if_neg hc]
      rw [if_neg hc] at hk
      simp only [vcS0, vcS1, vcS2, vcS3, vcS4, vcS5, vcS6, vc_n0, vc_lk, vc_pop, vc_rc, vc_tsw, vc_fr, vc_ar, vc_tb, mz_nx, List.set_cons_zero, List.set_cons_succ, Nat.reduceAdd, Nat.reduceBEq, Nat.reduceEqDiff, Nat.reduceLeDiff, Nat.reduceLT, Nat.reduceMul, Int.reduceToNat, Bool.false_eq_true, Bool.or_self, Bool.or_true, Bool.true_or, Bool.or_false, reduceIte, Option.toList_some, Option.toList_none, List.nil_append, List.cons_append, List.length_cons, List.length_nil, true_and, and_true, Int.cast_ofNat_Int, Int.reduceEq, Int.reduceLT, Int.reduceLE, Nat.zero_le, and_self, or_true, true_or, cdS_129]
      exact ⟨(by unfold mz_w; omega), hk⟩
theorem sp_lengthEndingAt (m : mz_M) {q w s l n st : Nat} (hn : n ≤ 10) (h0 : m w 0 = n) (hl : l < 10) (hs : s < 1024) (hst : st < 10) (h2 : m q 2 = st) (hW : fwO (m (w + 5))) (hS : shO (m (q + 2))) : sp 129 [mz_r 2 0 q, mz_i s, mz_i l, mz_r 4 0 w] m (some (mz_i (leC (m (q + 2)) (m (w + 5)) st n s l))) m := by
  have hp : 2 ^ l < 1024 := Nat.pow_lt_pow_right (by omega) hl
  have e : mz_shl 1 l = ((2 ^ l : Nat) : Int) := by
    have := shl_n (a := 1) (k := l) (by omega) (by omega)
    rwa [Nat.one_mul] at this
  unfold leC
  refine mz_cl_vc 60 (fun i => i == 20) [some (mz_r 2 0 q), some (mz_i s), some (mz_i l), some (mz_r 4 0 w), none, none, none] rfl ?_
  simp only [vcS0, vcS1, vcS2, vcS3, vcS4, vcS5, vcS6, vc_n0, vc_lk, vc_pop, vc_rc, vc_tsw, vc_fr, vc_ar, vc_tb, mz_nx, List.set_cons_zero, List.set_cons_succ, Nat.reduceAdd, Nat.reduceBEq, Nat.reduceEqDiff, Nat.reduceLeDiff, Nat.reduceLT, Nat.reduceMul, Int.reduceToNat, Bool.false_eq_true, Bool.or_self, Bool.or_true, Bool.true_or, Bool.or_false, reduceIte, Option.toList_some, Option.toList_none, List.nil_append, List.cons_append, List.length_cons, List.length_nil, true_and, and_true, Int.cast_ofNat_Int, Int.reduceEq, Int.reduceLT, Int.reduceLE, Nat.zero_le, and_self, or_true, true_or, cdS_129]
  rw [e, andn_n (by omega) (by omega), show adn s (2 ^ l) = leR s l from rfl]
  by_cases hz : leR s l = 0
  · rw [if_pos (by omega), h2]
    refine ⟨_, _, sp_way m hst hl, ?_⟩
    simp only [vcS0, vcS1, vcS2, vcS3, vcS4, vcS5, vcS6, vc_n0, vc_lk, vc_pop, vc_rc, vc_tsw, vc_fr, vc_ar, vc_tb, mz_nx, List.set_cons_zero, List.set_cons_succ, Nat.reduceAdd, Nat.reduceBEq, Nat.reduceEqDiff, Nat.reduceLeDiff, Nat.reduceLT, Nat.reduceMul, Int.reduceToNat, Bool.false_eq_true, Bool.or_self, Bool.or_true, Bool.true_or, Bool.or_false, reduceIte, Option.toList_some, Option.toList_none, List.nil_append, List.cons_append, List.length_cons, List.length_nil, true_and, and_true, Int.cast_ofNat_Int, Int.reduceEq, Int.reduceLT, Int.reduceLE, Nat.zero_le, and_self, or_true, true_or, cdS_129]
    have hb := hW (10 * st + l) (by omega)
    have := le_loop m (q := q) (st := st) hn h0 hl hs hW hS (m (w + 5) (10 * st + l)) hb n 0 (by omega)
    rw [if_pos hz]
    exact this
  · rw [if_neg (by omega), if_neg hz]
    exact le_loop m (q := q) (st := st) hn h0 hl hs hW hS 1000000 (by omega) n 0 (by omega)
def csF (V W : Nat → Int) (st n s : Nat) (S : Nat → Int) : Nat → (Nat → Int) × Int × Int
  | 0 => (S, 1000000, 0)
  | j + 1 => if s / 2 ^ j % 2 = 1 then ((fun i => if i = 10 * s + j then leC (csF V W st n s S j).1 W st n s j else (csF V W st n s S j).1 i), min (csF V W st n s S j).2.1 (leC (csF V W st n s S j).1 W st n s j), (csF V W st n s S j).2.2 + V j) else csF V W st n s S j
theorem leC_ok {S W : Nat → Int} {st n s l : Nat} (hn : n ≤ 10) (hl : l < 10) (hs : s < 1024) (hst : st < 10) (hW : fwO W) (hS : shO S) : 5 ≤ leC S W st n s l ∧ leC S W st n s l ≤ 1000005 := by
  have hle := adn_le s (2 ^ l)
  have h := mnl_ok (P := fun p => leR s l / 2 ^ p % 2 = 1) (f := fun p => S (10 * leR s l + p) + W (10 * p + l)) (b := if leR s l = 0 then W (10 * st + l) else 1000000) (n := n) (by have := hW (10 * st + l) (by omega); split <;> omega) (fun i hi _ => by
    have := hS (10 * leR s l + i) (by unfold leR; omega)
    have := hW (10 * i + l) (by omega)
    omega)
  have hb : (if leR s l = 0 then W (10 * st + l) else 1000000) ≤ 1000000 := by
    have := hW (10 * st + l) (by omega)
    split <;> omega
  unfold leC
  omega
theorem csF_ok {V W : Nat → Int} {st n s : Nat} {S : Nat → Int} (hn : n ≤ 10) (hs : s < 1024) (hst : st < 10) (hW : fwO W) (hS : shO S) (hV : ∀ j, j < n → 0 ≤ V j ∧ V j ≤ 1000000) : ∀ j, j ≤ n → shO (csF V W st n s S j).1 ∧ (0 ≤ (csF V W st n s S j).2.1 ∧ (csF V W st n s S j).2.1 ≤ 1000000) ∧ 0 ≤ (csF V W st n s S j).2.2 ∧ (csF V W st n s S j).2.2 ≤ 1000000 * j := by
  intro j
  induction j with
  | zero => intro _; exact ⟨hS, ⟨by simp [csF], by simp [csF]⟩, by simp [csF], by simp [csF]⟩
  | succ j ih =>
    intro hj
    have h := ih (by omega)
    have hv := hV j (by omega)
    have hl := leC_ok (l := j) hn (by omega) hs hst hW h.1
    unfold csF
    split
    · refine ⟨fun i hi => ?_, ?_, ?_⟩
      · simp only
        split
        · omega
        · exact h.1 i hi
      · simp only; omega
      · simp only; omega
    · exact ⟨h.1, h.2.1, by omega⟩
def csM (m : mz_M) (q w st n : Nat) (t : Int) (s : Nat) : mz_M :=
  if (csF (m (q + 1)) (m (w + 5)) st n s (m (q + 2)) n).2.1 ≤ t ∧ (m q 3 < (csF (m (q + 1)) (m (w + 5)) st n s (m (q + 2)) n).2.2 ∨ (csF (m (q + 1)) (m (w + 5)) st n s (m (q + 2)) n).2.2 = m q 3 ∧ (csF (m (q + 1)) (m (w + 5)) st n s (m (q + 2)) n).2.1 < m q 4) then
    mz_up (mz_up (mz_up (rowS m (q + 2) 10240 (csF (m (q + 1)) (m (w + 5)) st n s (m (q + 2)) n).1) q 3 (csF (m (q + 1)) (m (w + 5)) st n s (m (q + 2)) n).2.2) q 4 (csF (m (q + 1)) (m (w + 5)) st n s (m (q + 2)) n).2.1) q 5 s
  else rowS m (q + 2) 10240 (csF (m (q + 1)) (m (w + 5)) st n s (m (q + 2)) n).1
theorem cs_loop (m : mz_M) {q w s n st : Nat} {t : Int} (hn : n ≤ 10) (h0 : m w 0 = n) (hs : s < 1024) (hst : st < 10) (h2 : m q 2 = st) (hW : fwO (m (w + 5))) (hS : shO (m (q + 2))) (hV : ∀ j, j < n → 0 ≤ m (q + 1) j ∧ m (q + 1) j ≤ 1000000) (hq : w + 5 < q) : ∀ (r j : Nat) (x : Option mz_V), j + r = n → sx 187 6 [some (mz_r 2 0 q), some (mz_i s), some (mz_r 4 0 w), some (mz_i t), some (mz_i (csF (m (q + 1)) (m (w + 5)) st n s (m (q + 2)) j).2.2), some (mz_i (csF (m (q + 1)) (m (w + 5)) st n s (m (q + 2)) j).2.1), some (mz_i j), x] [] (rowS m (q + 2) 10240 (csF (m (q + 1)) (m (w + 5)) st n s (m (q + 2)) j).1) none (csM m q w st n t s) := by
  intro r
  induction r with
  | zero =>
    intro j x hj
    obtain rfl : j = n := by omega
    unfold csM
    generalize csF (m (q + 1)) (m (w + 5)) st j s (m (q + 2)) j = C
    refine mz_vc_ok 60 (ct := fun i => i == 6) ?_
    simp only [vcS0, vcS1, vcS2, vcS3, vcS4, vcS5, vcS6, vc_n0, vc_lk, vc_pop, vc_rc, vc_tsw, vc_fr, vc_ar, vc_tb, mz_nx, List.set_cons_zero, List.set_cons_succ, Nat.reduceAdd, Nat.reduceBEq, Nat.reduceEqDiff, Nat.reduceLeDiff, Nat.reduceLT, Nat.reduceMul, Int.reduceToNat, Bool.false_eq_true, Bool.or_self, Bool.or_true, Bool.true_or, Bool.or_false, reduceIte, Option.toList_some, Option.toList_none, List.nil_append, List.cons_append, List.length_cons, List.length_nil, true_and, and_true, Int.cast_ofNat_Int, Int.reduceEq, Int.reduceLT, Int.reduceLE, Nat.zero_le, and_self, or_true, true_or, cdS_187]
    simp (disch := omega) only [rowS_o]
    rw [if_neg (by omega)]
    by_cases h1 : m q 3 < C.2.2
    · rw [if_neg (by omega)]
      by_cases h3 : C.2.1 ≤ t
      · rw [if_pos h3, if_pos ⟨h3, Or.inl h1⟩]
      · rw [if_neg h3, if_neg (fun h => h3 h.1)]
    · rw [if_pos (by omega)]
      by_cases h4 : C.2.2 = m q 3
      · rw [if_pos h4]
        by_cases h5 : C.2.1 < m q 4
        · rw [if_pos h5]
          by_cases h3 : C.2.1 ≤ t
          · rw [if_pos h3, if_pos ⟨h3, Or.inr ⟨h4, h5⟩⟩]
          · rw [if_neg h3, if_neg (fun h => h3 h.1)]
        · simp only [h1, h5, and_false, or_false, if_false, ite_self]
      · simp only [h1, h4, false_and, and_false, or_false, if_false, ite_self]
  | succ r ih =>
    intro j x hj
    have hk := fun x => ih (j + 1) x (by omega)
    have ho := csF_ok hn hs hst hW hS hV j (by omega)
    have hv := hV j (by omega)
    unfold csF at hk
    generalize csF (m (q + 1)) (m (w + 5)) st n s (m (q + 2)) j = C at hk ho ⊢
    have hl := leC_ok (l := j) hn (by omega) hs hst hW ho.1
    refine mz_vc_ok 60 (ct := fun i => i == 6) ?_
    simp only [vcS0, vcS1, vcS2, vcS3, vcS4, vcS5, vcS6, vc_n0, vc_lk, vc_pop, vc_rc, vc_tsw, vc_fr, vc_ar, vc_tb, mz_nx, List.set_cons_zero, List.set_cons_succ, Nat.reduceAdd, Nat.reduceBEq, Nat.reduceEqDiff, Nat.reduceLeDiff, Nat.reduceLT, Nat.reduceMul, Int.reduceToNat, Bool.false_eq_true, Bool.or_self, Bool.or_true, Bool.true_or, Bool.or_false, reduceIte, Option.toList_some, Option.toList_none, List.nil_append, List.cons_append, List.length_cons, List.length_nil, true_and, and_true, Int.cast_ofNat_Int, Int.reduceEq, Int.reduceLT, Int.reduceLE, Nat.zero_le, and_self, or_true, true_or, cdS_187]
    rw [rowS_o (by omega), if_pos (by omega)]
    refine ⟨_, _, sp_contains _ (by omega) (by omega), ?_⟩
    by_cases hc : s / 2 ^ j % 2 = 1
    · rw [if_pos hc]
      simp only [hc, if_true] at hk
      simp only [vcS0, vcS1, vcS2, vcS3, vcS4, vcS5, vcS6, vc_n0, vc_lk, vc_pop, vc_rc, vc_tsw, vc_fr, vc_ar, vc_tb, mz_nx, List.set_cons_zero, List.set_cons_succ, Nat.reduceAdd, Nat.reduceBEq, Nat.reduceEqDiff, Nat.reduceLeDiff, Nat.reduceLT, Nat.reduceMul, Int.reduceToNat, Bool.false_eq_true, Bool.or_self, Bool.or_true, Bool.true_or, Bool.or_false, reduceIte, Option.toList_some, Option.toList_none, List.nil_append, List.cons_append, List.length_cons, List.length_nil, true_and, and_true, Int.cast_ofNat_Int, Int.reduceEq, Int.reduceLT, Int.reduceLE, Nat.zero_le, and_self, or_true, true_or, cdS_187]
      have e1 : rowS m (q + 2) 10240 C.1 (w + 5) = m (w + 5) := by funext i; exact rowS_o (by omega)
      have hle := sp_lengthEndingAt (rowS m (q + 2) 10240 C.1) (q := q) (w := w) (s := s) (l := j) (n := n) (st := st) hn (by rw [rowS_o (by omega)]; exact h0) (by omega) hs hst (by rw [rowS_o (by omega)]; exact h2) (by rw [e1]; exact hW) (fun i hi => by rw [rowS_at hi]; exact ho.1 i hi)
      have e2 : leC (rowS m (q + 2) 10240 C.1 (q + 2)) (m (w + 5)) st n s j = leC C.1 (m (w + 5)) st n s j := by
        refine leC_congr (by omega) hs (fun i hi => rowS_at hi)
      rw [e1, e2] at hle
      refine ⟨_, _, hle, ?_⟩
      simp only [vcS0, vcS1, vcS2, vcS3, vcS4, vcS5, vcS6, vc_n0, vc_lk, vc_pop, vc_rc, vc_tsw, vc_fr, vc_ar, vc_tb, mz_nx, List.set_cons_zero, List.set_cons_succ, Nat.reduceAdd, Nat.reduceBEq, Nat.reduceEqDiff, Nat.reduceLeDiff, Nat.reduceLT, Nat.reduceMul, Int.reduceToNat, Bool.false_eq_true, Bool.or_self, Bool.or_true, Bool.true_or, Bool.or_false, reduceIte, Option.toList_some, Option.toList_none, List.nil_append, List.cons_append, List.length_cons, List.length_nil, true_and, and_true, Int.cast_ofNat_Int, Int.reduceEq, Int.reduceLT, Int.reduceLE, Nat.zero_le, and_self, or_true, true_or, cdS_187]
      rw [show (s : Int) * 10 + j = ((10 * s + j : Nat) : Int) by omega]
      refine ⟨(by unfold mz_w; omega), (by unfold mz_w; omega), ?_⟩
      refine ⟨_, _, sp_putN _ _ (by omega), ?_⟩
      simp only [vcS0, vcS1, vcS2, vcS3, vcS4, vcS5, vcS6, vc_n0, vc_lk, vc_pop, vc_rc, vc_tsw, vc_fr, vc_ar, vc_tb, mz_nx, List.set_cons_zero, List.set_cons_succ, Nat.reduceAdd, Nat.reduceBEq, Nat.reduceEqDiff, Nat.reduceLeDiff, Nat.reduceLT, Nat.reduceMul, Int.reduceToNat, Bool.false_eq_true, Bool.or_self, Bool.or_true, Bool.true_or, Bool.or_false, reduceIte, Option.toList_some, Option.toList_none, List.nil_append, List.cons_append, List.length_cons, List.length_nil, true_and, and_true, Int.cast_ofNat_Int, Int.reduceEq, Int.reduceLT, Int.reduceLE, Nat.zero_le, and_self, or_true, true_or, cdS_187]
      refine ⟨_, _, sp_atN _ (show j < 10 by omega), ?_⟩
      simp only [vcS0, vcS1, vcS2, vcS3, vcS4, vcS5, vcS6, vc_n0, vc_lk, vc_pop, vc_rc, vc_tsw, vc_fr, vc_ar, vc_tb, mz_nx, List.set_cons_zero, List.set_cons_succ, Nat.reduceAdd, Nat.reduceBEq, Nat.reduceEqDiff, Nat.reduceLeDiff, Nat.reduceLT, Nat.reduceMul, Int.reduceToNat, Bool.false_eq_true, Bool.or_self, Bool.or_true, Bool.true_or, Bool.or_false, reduceIte, Option.toList_some, Option.toList_none, List.nil_append, List.cons_append, List.length_cons, List.length_nil, true_and, and_true, Int.cast_ofNat_Int, Int.reduceEq, Int.reduceLT, Int.reduceLE, Nat.zero_le, and_self, or_true, true_or, cdS_187]
      rw [rowS_up (by omega), rowS_o (by omega)]
      exact ⟨(by unfold mz_w; omega), (by unfold mz_w; omega), hk _⟩
    · rw [if_neg hc]
      simp only [hc, if_false] at hk
      simp only [vcS0, vcS1, vcS2, vcS3, vcS4, vcS5, vcS6, vc_n0, vc_lk, vc_pop, vc_rc, vc_tsw, vc_fr, vc_ar, vc_tb, mz_nx, List.set_cons_zero, List.set_cons_succ, Nat.reduceAdd, Nat.reduceBEq, Nat.reduceEqDiff, Nat.reduceLeDiff, Nat.reduceLT, Nat.reduceMul, Int.reduceToNat, Bool.false_eq_true, Bool.or_self, Bool.or_true, Bool.true_or, Bool.or_false, reduceIte, Option.toList_some, Option.toList_none, List.nil_append, List.cons_append, List.length_cons, List.length_nil, true_and, and_true, Int.cast_ofNat_Int, Int.reduceEq, Int.reduceLT, Int.reduceLE, Nat.zero_le, and_self, or_true, true_or, cdS_187]
      exact ⟨(by unfold mz_w; omega), hk _⟩
theorem sp_considerSet (m : mz_M) {q w s n st : Nat} {t : Int} (hn : n ≤ 10) (h0 : m w 0 = n) (hs : s < 1024) (hst : st < 10) (h2 : m q 2 = st) (hW : fwO (m (w + 5))) (hS : shO (m (q + 2))) (hV : ∀ j, j < n → 0 ≤ m (q + 1) j ∧ m (q + 1) j ≤ 1000000) (hq : w + 5 < q) : sp 187 [mz_r 2 0 q, mz_i s, mz_r 4 0 w, mz_i t] m none (csM m q w st n t s) := by
  refine mz_cl_vc 60 (fun i => i == 6) [some (mz_r 2 0 q), some (mz_i s), some (mz_r 4 0 w), some (mz_i t), none, none, none, none] rfl ?_
  simp only [vcS0, vcS1, vcS2, vcS3, vcS4, vcS5, vcS6, vc_n0, vc_lk, vc_pop, vc_rc, vc_tsw, vc_fr, vc_ar, vc_tb, mz_nx, List.set_cons_zero, List.set_cons_succ, Nat.reduceAdd, Nat.reduceBEq, Nat.reduceEqDiff, Nat.reduceLeDiff, Nat.reduceLT, Nat.reduceMul, Int.reduceToNat, Bool.false_eq_true, Bool.or_self, Bool.or_true, Bool.true_or, Bool.or_false, reduceIte, Option.toList_some, Option.toList_none, List.nil_append, List.cons_append, List.length_cons, List.length_nil, true_and, and_true, Int.cast_ofNat_Int, Int.reduceEq, Int.reduceLT, Int.reduceLE, Nat.zero_le, and_self, or_true, true_or, cdS_187]
  have := cs_loop m (t := t) hn h0 hs hst h2 hW hS hV hq n 0 none (by omega)
  rw [show (csF (m (q + 1)) (m (w + 5)) st n s (m (q + 2)) 0).1 = m (q + 2) from rfl, rowS_self] at this
  exact this
