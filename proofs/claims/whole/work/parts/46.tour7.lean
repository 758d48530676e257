theorem sbI_ok {g : Nat → Nat → Int} {B : Int} {pn cn : Nat} : ∀ r i, i + r = cn → sbI g B pn cn r i = -1 ∨ ∃ j t, j < cn ∧ t < pn ∧ sbI g B pn cn r i = (j : Int) * 2 + t ∧ g j t = B := by
  intro r
  induction r with
  | zero => intro i _; exact Or.inl rfl
  | succ r ih =>
    intro i hi
    unfold sbI
    cases hf : fst1 (fun t => g i t = B) pn 0 with
    | some t =>
      have := fst1_some hf
      exact Or.inr ⟨i, t, by omega, by omega, rfl, this.1⟩
    | none => exact ih (i + 1) (by omega)
theorem sbF_ok {g : Nat → Nat → Int} {pn cn : Nat} : sbF g pn cn = -1 ∨ ∃ j t, j < cn ∧ t < pn ∧ sbF g pn cn = (j : Int) * 2 + t ∧ 0 < g j t := by
  unfold sbF
  split
  · rename_i h
    rcases sbI_ok (g := g) (B := bwO g pn cn) (pn := pn) (cn := cn) cn 0 (by omega) with h1 | ⟨j, t, h1, h2, h3, h4⟩
    · exact Or.inl h1
    · exact Or.inr ⟨j, t, h1, h2, h3, by omega⟩
  · exact Or.inl rfl
def tbS (q cn pn : Nat) : Nat → Nat → Nat → Nat → mz_M → mz_M
  | 0, _, _, _, m => m
  | r + 1, a, b, f, m => if sbF (woM m q a b f) pn cn = -1 then m else
      tbS q cn pn r (a + 2 ^ ((sbF (woM m q a b f) pn cn).toNat / 2)) (if (sbF (woM m q a b f) pn cn).toNat % 2 = 0 then b + 1 else b) ((sbF (woM m q a b f) pn cn).toNat % 2) (adT m q f ((sbF (woM m q a b f) pn cn).toNat / 2) ((sbF (woM m q a b f) pn cn).toNat % 2))
theorem adT_o {m : mz_M} {q f i t b j : Nat} (h7 : b ≠ q + 7) (h8 : b ≠ q + 8) (h9 : b ≠ q + 9) (h : b ≠ q ∨ j ≠ 11) : adT m q f i t b j = m b j := by
  unfold adT
  rw [up_n (by omega), up_o h9, up_o h8, up_o h7]
theorem tpO_adT {m : mz_M} {q cn pn f i t : Nat} (h : tpO m q cn pn) : tpO (adT m q f i t) q cn pn := by
  obtain ⟨h9, h10, hcn, hpn, hL, hW⟩ := h
  refine ⟨by rw [adT_o (by omega) (by omega) (by omega) (by omega)]; exact h9, by rw [adT_o (by omega) (by omega) (by omega) (by omega)]; exact h10, hcn, hpn, fun k hk => by rw [adT_o (by omega) (by omega) (by omega) (by omega)]; exact hL k hk, fun k hk => by rw [adT_o (by omega) (by omega) (by omega) (by omega)]; exact hW k hk⟩
set_option maxRecDepth 8000 in
theorem tb_loop {q cn pn : Nat} : ∀ (r n a b f : Nat) (m : mz_M) (x y z : Option mz_V), n + r = cn → tpO m q cn pn → a < 64 → b ≤ pop a 16 → f < 2 → m q 11 = n → sx 233 29 [some (mz_r 3 0 q), z, some (mz_i a), some (mz_i b), some (mz_i f), some (mz_i (sbF (woM m q a b f) pn cn)), some (mz_i n), x, y] [] m none (tbS q cn pn r a b f m) := by
  intro r
  induction r with
  | zero =>
    intro n a b f m x y z hn h ha hb hf h11
    obtain rfl : n = cn := by omega
    unfold tbS
    refine mz_vc_ok 80 (ct := fun i => i == 29) ?_
    simp only [vcS0, vcS1, vcS2, vcS3, vcS4, vcS5, vcS6, vc_n0, vc_lk, vc_pop, vc_rc, vc_tsw, vc_fr, vc_ar, vc_tb, mz_nx, List.set_cons_zero, List.set_cons_succ, Nat.reduceAdd, Nat.reduceBEq, Nat.reduceEqDiff, Nat.reduceLeDiff, Nat.reduceLT, Nat.reduceMul, Int.reduceToNat, Bool.false_eq_true, Bool.or_self, Bool.or_true, Bool.true_or, Bool.or_false, reduceIte, Option.toList_some, Option.toList_none, List.nil_append, List.cons_append, List.length_cons, List.length_nil, true_and, and_true, Int.cast_ofNat_Int, Int.reduceEq, Int.reduceLT, Int.reduceLE, Nat.zero_le, and_self, or_true, true_or, cdS_233]
    rw [h.1, if_neg (by omega)]
    trivial
  | succ r ih =>
    intro n a b f m x y z hn h ha hb hf h11
    have hcn := h.2.2.1
    have hpn := h.2.2.2.1
    rcases sbF_ok (g := woM m q a b f) (pn := pn) (cn := cn) with hv | ⟨i, t, hi, ht, hv, hg⟩
    · unfold tbS
      rw [hv, if_pos rfl]
      refine mz_vc_ok 80 (ct := fun i => i == 29) ?_
      simp only [vcS0, vcS1, vcS2, vcS3, vcS4, vcS5, vcS6, vc_n0, vc_lk, vc_pop, vc_rc, vc_tsw, vc_fr, vc_ar, vc_tb, mz_nx, List.set_cons_zero, List.set_cons_succ, Nat.reduceAdd, Nat.reduceBEq, Nat.reduceEqDiff, Nat.reduceLeDiff, Nat.reduceLT, Nat.reduceMul, Int.reduceToNat, Bool.false_eq_true, Bool.or_self, Bool.or_true, Bool.true_or, Bool.or_false, reduceIte, Option.toList_some, Option.toList_none, List.nil_append, List.cons_append, List.length_cons, List.length_nil, true_and, and_true, Int.cast_ofNat_Int, Int.reduceEq, Int.reduceLT, Int.reduceLE, Nat.zero_le, and_self, or_true, true_or, cdS_233]
      split <;> trivial
    · have hv2 : (sbF (woM m q a b f) pn cn).toNat = i * 2 + t := by omega
      have e1 : (i * 2 + t) / 2 = i := by omega
      have e2 : (i * 2 + t) % 2 = t := by omega
      unfold tbS
      rw [if_neg (by omega), hv2, e1, e2, hv]
      have hbit : ¬ a / 2 ^ i % 2 = 1 := fun hh => by
        unfold woM woF at hg
        rw [if_pos (Or.inl hh)] at hg
        omega
      have hp := pw1 a ha i (by omega) hbit
      have hpw : 2 ^ i < 64 := Nat.pow_lt_pow_right (by omega) (show i < 6 by omega)
      have es : mz_shl 1 i = ((2 ^ i : Nat) : Int) := by
        have := shl_n (a := 1) (k := i) (by omega) (by omega)
        rwa [Nat.one_mul] at this
      have eo : mz_or a (mz_shl 1 i) = ((a + 2 ^ i : Nat) : Int) := by
        rw [es, or_n (by omega) (by omega), hp.1]
      have hb' : (if t = 0 then b + 1 else b) ≤ pop (a + 2 ^ i) 16 := by split <;> omega
      have h2 := tpO_adT (f := f) (i := i) (t := t) h
      have h112 : adT m q f i t q 11 = (n + 1 : Nat) := by unfold adT; rw [up_s, h11]; rfl
      have hk := fun x y z => ih (n + 1) (a + 2 ^ i) (if t = 0 then b + 1 else b) t (adT m q f i t) x y z (by omega) h2 hp.2.1 hb' (by omega) h112
      have hs := sp_smallestBestTrip (adT m q f i t) (a := a + 2 ^ i) (b := if t = 0 then b + 1 else b) (f := t) h2 hp.2.1 hb' (by omega)
      refine mz_vc_ok 80 (ct := fun i => i == 29) ?_
      simp only [vcS0, vcS1, vcS2, vcS3, vcS4, vcS5, vcS6, vc_n0, vc_lk, vc_pop, vc_rc, vc_tsw, vc_fr, vc_ar, vc_tb, mz_nx, List.set_cons_zero, List.set_cons_succ, Nat.reduceAdd, Nat.reduceBEq, Nat.reduceEqDiff, Nat.reduceLeDiff, Nat.reduceLT, Nat.reduceMul, Int.reduceToNat, Bool.false_eq_true, Bool.or_self, Bool.or_true, Bool.true_or, Bool.or_false, reduceIte, Option.toList_some, Option.toList_none, List.nil_append, List.cons_append, List.length_cons, List.length_nil, true_and, and_true, Int.cast_ofNat_Int, Int.reduceEq, Int.reduceLT, Int.reduceLE, Nat.zero_le, and_self, or_true, true_or, cdS_233]
      rw [h.1, if_pos (by omega), if_neg (by omega), show ((i : Int) * 2 + t) / 2 = i by omega, show ((i : Int) * 2 + t) % 2 = t by omega, eo]
      refine ⟨by omega, by omega, _, _, sp_addTrip m hf (show i < 6 by omega) (show t < 2 by omega) (by omega), ?_⟩
      by_cases ht0 : t = 0
      · rw [if_pos ht0] at hk hs ⊢
        rw [if_pos (by omega)]
        refine ⟨(by unfold mz_w; omega), by simp, _, _, hs, ?_⟩
        simp only [vcS0, vcS1, vcS2, vcS3, vcS4, vcS5, vcS6, vc_n0, vc_lk, vc_pop, vc_rc, vc_tsw, vc_fr, vc_ar, vc_tb, mz_nx, List.set_cons_zero, List.set_cons_succ, Nat.reduceAdd, Nat.reduceBEq, Nat.reduceEqDiff, Nat.reduceLeDiff, Nat.reduceLT, Nat.reduceMul, Int.reduceToNat, Bool.false_eq_true, Bool.or_self, Bool.or_true, Bool.true_or, Bool.or_false, reduceIte, Option.toList_some, Option.toList_none, List.nil_append, List.cons_append, List.length_cons, List.length_nil, true_and, and_true, Int.cast_ofNat_Int, Int.reduceEq, Int.reduceLT, Int.reduceLE, Nat.zero_le, and_self, or_true, true_or, cdS_233]
        exact ⟨(by unfold mz_w; omega), hk _ _ _⟩
      · rw [if_neg ht0] at hk hs
        rw [if_neg (by omega), if_neg ht0, Int.add_zero]
        refine ⟨(by unfold mz_w; omega), by simp, _, _, hs, ?_⟩
        simp only [vcS0, vcS1, vcS2, vcS3, vcS4, vcS5, vcS6, vc_n0, vc_lk, vc_pop, vc_rc, vc_tsw, vc_fr, vc_ar, vc_tb, mz_nx, List.set_cons_zero, List.set_cons_succ, Nat.reduceAdd, Nat.reduceBEq, Nat.reduceEqDiff, Nat.reduceLeDiff, Nat.reduceLT, Nat.reduceMul, Int.reduceToNat, Bool.false_eq_true, Bool.or_self, Bool.or_true, Bool.true_or, Bool.or_false, reduceIte, Option.toList_some, Option.toList_none, List.nil_append, List.cons_append, List.length_cons, List.length_nil, true_and, and_true, Int.cast_ofNat_Int, Int.reduceEq, Int.reduceLT, Int.reduceLE, Nat.zero_le, and_self, or_true, true_or, cdS_233]
        exact ⟨(by unfold mz_w; omega), hk _ _ _⟩
def tbF (m : mz_M) (pn q : Nat) (tr : Int) : Nat := if pn = 2 ∧ m (q + 3) 1 = tr then 1 else 0
set_option maxRecDepth 8000 in
theorem sp_takeBestTrips (m : mz_M) {q cn pn : Nat} {tr : Int} (h : tpO m q cn pn) : sp 233 [mz_r 3 0 q, mz_i tr] m none (tbS q cn pn cn 0 0 (tbF m pn q tr) (mz_up m q 11 0)) := by
  have h2 : tpO (mz_up m q 11 0) q cn pn := by
    obtain ⟨h9, h10, hcn, hpn, hL, hW⟩ := h
    refine ⟨by rw [up_k (by omega)]; exact h9, by rw [up_k (by omega)]; exact h10, hcn, hpn, fun k hk => by rw [up_o (by omega)]; exact hL k hk, fun k hk => by rw [up_o (by omega)]; exact hW k hk⟩
  have tail : ∀ f : Nat, f < 2 → sx 233 20 [some (mz_r 3 0 q), some (mz_i tr), some (mz_i 0), some (mz_i 0), none, none, none, none, none] [mz_i f] (mz_up m q 11 0) none (tbS q cn pn cn 0 0 f (mz_up m q 11 0)) := by
    intro f hf
    refine mz_vc_ok 80 (ct := fun i => i == 29) ?_
    simp only [vcS0, vcS1, vcS2, vcS3, vcS4, vcS5, vcS6, vc_n0, vc_lk, vc_pop, vc_rc, vc_tsw, vc_fr, vc_ar, vc_tb, mz_nx, List.set_cons_zero, List.set_cons_succ, Nat.reduceAdd, Nat.reduceBEq, Nat.reduceEqDiff, Nat.reduceLeDiff, Nat.reduceLT, Nat.reduceMul, Int.reduceToNat, Bool.false_eq_true, Bool.or_self, Bool.or_true, Bool.true_or, Bool.or_false, reduceIte, Option.toList_some, Option.toList_none, List.nil_append, List.cons_append, List.length_cons, List.length_nil, true_and, and_true, Int.cast_ofNat_Int, Int.reduceEq, Int.reduceLT, Int.reduceLE, Nat.zero_le, and_self, or_true, true_or, cdS_233]
    refine ⟨_, _, sp_smallestBestTrip (a := 0) (b := 0) (f := f) _ h2 (by omega) (Nat.zero_le _) hf, ?_⟩
    simp only [vcS0, vcS1, vcS2, vcS3, vcS4, vcS5, vcS6, vc_n0, vc_lk, vc_pop, vc_rc, vc_tsw, vc_fr, vc_ar, vc_tb, mz_nx, List.set_cons_zero, List.set_cons_succ, Nat.reduceAdd, Nat.reduceBEq, Nat.reduceEqDiff, Nat.reduceLeDiff, Nat.reduceLT, Nat.reduceMul, Int.reduceToNat, Bool.false_eq_true, Bool.or_self, Bool.or_true, Bool.true_or, Bool.or_false, reduceIte, Option.toList_some, Option.toList_none, List.nil_append, List.cons_append, List.length_cons, List.length_nil, true_and, and_true, Int.cast_ofNat_Int, Int.reduceEq, Int.reduceLT, Int.reduceLE, Nat.zero_le, and_self, or_true, true_or, cdS_233]
    exact tb_loop cn 0 0 0 f (mz_up m q 11 0) none none _ (by omega) h2 (by omega) (Nat.zero_le _) hf up_s
  unfold tbF
  refine mz_cl_vc 80 (fun i => i == 20 || i == 29) [some (mz_r 3 0 q), some (mz_i tr), none, none, none, none, none, none, none] rfl ?_
  simp only [vcS0, vcS1, vcS2, vcS3, vcS4, vcS5, vcS6, vc_n0, vc_lk, vc_pop, vc_rc, vc_tsw, vc_fr, vc_ar, vc_tb, mz_nx, List.set_cons_zero, List.set_cons_succ, Nat.reduceAdd, Nat.reduceBEq, Nat.reduceEqDiff, Nat.reduceLeDiff, Nat.reduceLT, Nat.reduceMul, Int.reduceToNat, Bool.false_eq_true, Bool.or_self, Bool.or_true, Bool.true_or, Bool.or_false, reduceIte, Option.toList_some, Option.toList_none, List.nil_append, List.cons_append, List.length_cons, List.length_nil, true_and, and_true, Int.cast_ofNat_Int, Int.reduceEq, Int.reduceLT, Int.reduceLE, Nat.zero_le, and_self, or_true, true_or, cdS_233]
  rw [up_k (by omega), h.2.1]
  by_cases h3 : pn = 2
  · rw [if_pos (by omega)]
    refine ⟨_, _, sp_atN (n := 2) (o := q + 3) (j := 1) _ (by omega), ?_⟩
    simp only [vcS0, vcS1, vcS2, vcS3, vcS4, vcS5, vcS6, vc_n0, vc_lk, vc_pop, vc_rc, vc_tsw, vc_fr, vc_ar, vc_tb, mz_nx, List.set_cons_zero, List.set_cons_succ, Nat.reduceAdd, Nat.reduceBEq, Nat.reduceEqDiff, Nat.reduceLeDiff, Nat.reduceLT, Nat.reduceMul, Int.reduceToNat, Bool.false_eq_true, Bool.or_self, Bool.or_true, Bool.true_or, Bool.or_false, reduceIte, Option.toList_some, Option.toList_none, List.nil_append, List.cons_append, List.length_cons, List.length_nil, true_and, and_true, Int.cast_ofNat_Int, Int.reduceEq, Int.reduceLT, Int.reduceLE, Nat.zero_le, and_self, or_true, true_or, cdS_233]
    rw [up_o (by omega)]
    by_cases h4 : m (q + 3) 1 = tr
    · rw [if_pos h4, if_pos ⟨h3, h4⟩]
      exact tail 1 (by omega)
    · rw [if_neg h4, if_neg (fun h => h4 h.2)]
      exact tail 0 (by omega)
  · rw [if_neg (by omega), if_neg (fun h => h3 h.1)]
    exact tail 0 (by omega)
