/-! Statements of a description. -/
abbrev rS : Type := Nat × Int × Int × Int × Int
def nS (s : rS) : Int := s.2.1
def wS' (s : rS) : Int := s.2.2.1
def eS (s : rS) : Int := s.2.2.2.1
def aS (s : rS) : Int := s.2.2.2.2
def rsT (m : mz_M) (r : Nat) (s : rS) : mz_M := rs m r s.1 (nS s) (wS' s) (eS s) (aS s)
theorem rsT_o {m : mz_M} {r b j : Nat} {s : rS} (h : b ≠ r) : rsT m r s b j = m b j := rs_o h
theorem rsT_2 {m : mz_M} {r : Nat} {s : rS} : rsT m r s r 2 = m r 2 := rs_2
theorem rsT_3 {m : mz_M} {r : Nat} {s : rS} : rsT m r s r 3 = s.1 := rs_3
theorem rsT_4 {m : mz_M} {r : Nat} {s : rS} : rsT m r s r 4 = nS s := rs_4
theorem rsT_5 {m : mz_M} {r : Nat} {s : rS} : rsT m r s r 5 = wS' s := rs_5
theorem rsT_6 {m : mz_M} {r : Nat} {s : rS} : rsT m r s r 6 = eS s := rs_6
theorem rsT_7 {m : mz_M} {r : Nat} {s : rS} : rsT m r s r 7 = aS s := rs_7
def flS (k x : Int) (s : rS) : rS := (s.1, nS s, wS' s, if eS s = 0 then k else eS s, if eS s = 0 then x else aS s)
theorem sp_failT (m : mz_M) {r : Nat} (s : rS) (k x : Int) : sp 17 [mz_r 5 0 r, mz_i k, mz_i x] (rsT m r s) none (rsT m r (flS k x s)) := sp_fail m _ _ _ _ _ k x
def nmS (B : Nat → Int) (L : Nat) (lo hi : Int) (s : rS) : Int × rS :=
  ((rnm B L lo hi s.1 (nS s) (eS s) (aS s)).1, (rnm B L lo hi s.1 (nS s) (eS s) (aS s)).2.1, (rnm B L lo hi s.1 (nS s) (eS s) (aS s)).2.2.1, wS' s, (rnm B L lo hi s.1 (nS s) (eS s) (aS s)).2.2.2.1, (rnm B L lo hi s.1 (nS s) (eS s) (aS s)).2.2.2.2)
def byO (m : mz_M) (r L : Nat) : Prop := rdO m r L ∧ ∀ i, i < L → 0 ≤ m (r + 16) i ∧ m (r + 16) i ≤ 255
theorem sp_numT (m : mz_M) {r L : Nat} (s : rS) (lo hi : Int) (h : byO m r L) : sp 137 [mz_r 5 0 r, mz_i lo, mz_i hi] (rsT m r s) (some (mz_i (nmS (m (r + 16)) L lo hi s).1)) (rsT m r (nmS (m (r + 16)) L lo hi s).2) := sp_readNumber m _ _ _ _ lo hi h.1 h.2
theorem rnm_ok {B : Nat → Int} {L p : Nat} {lo hi n e a : Int} (hp : p ≤ L) (T : Int × Nat × Int × Int × Int) (hT : rnm B L lo hi p n e a = T) : T.2.1 ≤ L ∧ (T.2.2.2.1 = 0 → e = 0 ∧ lo ≤ T.1 ∧ T.1 ≤ hi) ∧ (-1 ≤ T.1 ∧ T.1 ≤ 1000000) ∧ (e ≠ 0 → T.2.2.2.1 = e ∧ T.2.2.2.2 = a ∧ T.1 = -1) := by
  have h1 := sk_le (B := B) hp
  have h2 := nv_ok B (L - sk B L p) (sk B L p) 0 (by omega) (by omega)
  unfold rnm at hT
  by_cases hc : e ≠ 0 ∨ ¬ (48 ≤ nb B L (sk B L p) ∧ nb B L (sk B L p) ≤ 57)
  · rw [if_pos hc] at hT
    subst hT
    refine ⟨h1.2, fun h => ?_, by simp, fun h => ?_⟩
    · exfalso; simp only at h; split at h <;> omega
    · exact ⟨if_neg h, if_neg h, rfl⟩
  · rw [if_neg hc] at hT
    have he : e = 0 := Classical.byContradiction fun h => hc (Or.inl h)
    split at hT
    · subst hT
      exact ⟨by simp only; omega, fun _ => ⟨he, by assumption⟩, by simp only; omega, fun h => absurd he h⟩
    · subst hT
      exact ⟨by simp only; omega, fun h => absurd h (by simp), by simp, fun h => absurd he h⟩
theorem nmS_ok {B : Nat → Int} {L : Nat} {lo hi : Int} {s : rS} (hp : s.1 ≤ L) : (nmS B L lo hi s).2.1 ≤ L ∧ (eS (nmS B L lo hi s).2 = 0 → eS s = 0 ∧ lo ≤ (nmS B L lo hi s).1 ∧ (nmS B L lo hi s).1 ≤ hi) ∧ (-1 ≤ (nmS B L lo hi s).1 ∧ (nmS B L lo hi s).1 ≤ 1000000) ∧ (eS s ≠ 0 → eS (nmS B L lo hi s).2 = eS s ∧ aS (nmS B L lo hi s).2 = aS s ∧ (nmS B L lo hi s).1 = -1) := rnm_ok hp _ rfl
theorem sp_placeT (m : mz_M) {r L : Nat} (s : rS) (h : byO m r L) (hz : 1 ≤ m (r + 1) 0 ∧ m (r + 1) 0 ≤ 10) : sp 192 [mz_r 5 0 r] (rsT m r s) (some (mz_i (nmS (m (r + 16)) L 0 (m (r + 1) 0 - 1) s).1)) (rsT m r (nmS (m (r + 16)) L 0 (m (r + 1) 0 - 1) s).2) := by
  refine mz_cl_vc 20 (fun _ => false) [some (mz_r 5 0 r)] rfl ?_
  simp only [vcS0, vcS1, vcS2, vcS3, vcS4, vcS5, vcS6, vc_n0, vc_lk, vc_pop, vc_rc, vc_tsw, vc_fr, vc_ar, vc_tb, mz_nx, List.set_cons_zero, List.set_cons_succ, Nat.reduceAdd, Nat.reduceBEq, Nat.reduceEqDiff, Nat.reduceLeDiff, Nat.reduceLT, Nat.reduceMul, Int.reduceToNat, Bool.false_eq_true, Bool.or_self, Bool.or_true, Bool.true_or, Bool.or_false, reduceIte, Option.toList_some, Option.toList_none, List.nil_append, List.cons_append, List.length_cons, List.length_nil, true_and, and_true, Int.cast_ofNat_Int, Int.reduceEq, Int.reduceLT, Int.reduceLE, Nat.zero_le, and_self, or_true, true_or, cdS_192]
  rw [rsT_o (by omega)]
  refine ⟨(by unfold mz_w; omega), ?_⟩
  refine ⟨_, _, sp_numT m s _ _ h, ?_⟩
  simp only [vcS0, vcS1, vcS2, vcS3, vcS4, vcS5, vcS6, vc_n0, vc_lk, vc_pop, vc_rc, vc_tsw, vc_fr, vc_ar, vc_tb, mz_nx, List.set_cons_zero, List.set_cons_succ, Nat.reduceAdd, Nat.reduceBEq, Nat.reduceEqDiff, Nat.reduceLeDiff, Nat.reduceLT, Nat.reduceMul, Int.reduceToNat, Bool.false_eq_true, Bool.or_self, Bool.or_true, Bool.true_or, Bool.or_false, reduceIte, Option.toList_some, Option.toList_none, List.nil_append, List.cons_append, List.length_cons, List.length_nil, true_and, and_true, Int.cast_ofNat_Int, Int.reduceEq, Int.reduceLT, Int.reduceLE, Nat.zero_le, and_self, or_true, true_or, cdS_192]
theorem rsT_up {m : mz_M} {r b j : Nat} {s : rS} {x : Int} (h : b ≠ r) : mz_up (rsT m r s) b j x = rsT (mz_up m b j x) r s := rs_uo h
/-- two places that a road is between; they stand in the state as the reading leaves it -/
def rdA (B : Nat → Int) (L : Nat) (sz : Int) (s : rS) : Int × rS := nmS B L 0 (sz - 1) s
def rdD (C : Int × rS) (x : Int) : rS := if x = C.1 then flS 3 (nS C.2) C.2 else C.2
def rdF (B : Nat → Int) (L : Nat) (sz : Int) (s : rS) : Int × rS := nmS B L 1 99 (rdD (rdA B L sz (rdA B L sz s).2) (rdA B L sz s).1)
theorem flS_1 {k x : Int} {s : rS} : (flS k x s).1 = s.1 := rfl
theorem flS_e {k x : Int} {s : rS} (hk : k ≠ 0) : eS (flS k x s) ≠ 0 := by
  show (if eS s = 0 then k else eS s) ≠ 0
  split <;> assumption
theorem roadUp_T {m : mz_M} {r w f t : Nat} {v : Int} {s : rS} (h : w + 4 ≠ r) : roadUp (rsT m r s) w f t v = rsT (roadUp m w f t v) r s := by
  unfold roadUp
  rw [rsT_o (by omega), rsT_up (by omega), rsT_up (by omega)]
theorem sp_roadT (m : mz_M) {r L : Nat} (s : rS) (h : byO m r L) (hz : 1 ≤ m (r + 1) 0 ∧ m (r + 1) 0 ≤ 10) (hp : s.1 ≤ L) : sp 237 [mz_r 5 0 r] (rsT m r s) none
    (rsT (if eS (rdF (m (r + 16)) L (m (r + 1) 0) s).2 = 0 then roadUp m (r + 1) (rdA (m (r + 16)) L (m (r + 1) 0) s).1.toNat (rdA (m (r + 16)) L (m (r + 1) 0) (rdA (m (r + 16)) L (m (r + 1) 0) s).2).1.toNat (rdF (m (r + 16)) L (m (r + 1) 0) s).1 else m) r (rdF (m (r + 16)) L (m (r + 1) 0) s).2) := by
  unfold rdF
  have hA := nmS_ok (B := m (r + 16)) (lo := 0) (hi := m (r + 1) 0 - 1) hp
  have hpA := sp_placeT m s h hz
  change sp _ _ _ (some (mz_i (rdA (m (r + 16)) L (m (r + 1) 0) s).1)) (rsT m r (rdA (m (r + 16)) L (m (r + 1) 0) s).2) at hpA
  rw [show nmS (m (r + 16)) L 0 (m (r + 1) 0 - 1) s = rdA (m (r + 16)) L (m (r + 1) 0) s from rfl] at hA
  generalize rdA (m (r + 16)) L (m (r + 1) 0) s = A at hA hpA ⊢
  have hC := nmS_ok (B := m (r + 16)) (lo := 0) (hi := m (r + 1) 0 - 1) hA.1
  have hpC := sp_placeT m A.2 h hz
  change sp _ _ _ (some (mz_i (rdA (m (r + 16)) L (m (r + 1) 0) A.2).1)) (rsT m r (rdA (m (r + 16)) L (m (r + 1) 0) A.2).2) at hpC
  rw [show nmS (m (r + 16)) L 0 (m (r + 1) 0 - 1) A.2 = rdA (m (r + 16)) L (m (r + 1) 0) A.2 from rfl] at hC
  generalize rdA (m (r + 16)) L (m (r + 1) 0) A.2 = C at hC hpC ⊢
  have hD : (rdD C A.1).1 ≤ L ∧ (eS (rdD C A.1) = 0 → eS C.2 = 0) := by
    unfold rdD
    split
    · exact ⟨hC.1, fun h => absurd h (flS_e (by omega))⟩
    · exact ⟨hC.1, fun h => h⟩
  have tail : ∀ D : rS, D = rdD C A.1 → sx 237 14 [some (mz_r 5 0 r), some (mz_i A.1), some (mz_i C.1), none] [] (rsT m r D) none (rsT (if eS (nmS (m (r + 16)) L 1 99 (rdD C A.1)).2 = 0 then roadUp m (r + 1) A.1.toNat C.1.toNat (nmS (m (r + 16)) L 1 99 (rdD C A.1)).1 else m) r (nmS (m (r + 16)) L 1 99 (rdD C A.1)).2) := by
    intro D hDD
    rw [← hDD] at hD ⊢
    have hF := nmS_ok (B := m (r + 16)) (lo := 1) (hi := 99) hD.1
    refine mz_vc_ok 60 (ct := fun _ => false) ?_
    simp only [vcS0, vcS1, vcS2, vcS3, vcS4, vcS5, vcS6, vc_n0, vc_lk, vc_pop, vc_rc, vc_tsw, vc_fr, vc_ar, vc_tb, mz_nx, List.set_cons_zero, List.set_cons_succ, Nat.reduceAdd, Nat.reduceBEq, Nat.reduceEqDiff, Nat.reduceLeDiff, Nat.reduceLT, Nat.reduceMul, Int.reduceToNat, Bool.false_eq_true, Bool.or_self, Bool.or_true, Bool.true_or, Bool.or_false, reduceIte, Option.toList_some, Option.toList_none, List.nil_append, List.cons_append, List.length_cons, List.length_nil, true_and, and_true, Int.cast_ofNat_Int, Int.reduceEq, Int.reduceLT, Int.reduceLE, Nat.zero_le, and_self, or_true, true_or, cdS_237]
    refine ⟨_, _, sp_numT m D 1 99 h, ?_⟩
    simp only [vcS0, vcS1, vcS2, vcS3, vcS4, vcS5, vcS6, vc_n0, vc_lk, vc_pop, vc_rc, vc_tsw, vc_fr, vc_ar, vc_tb, mz_nx, List.set_cons_zero, List.set_cons_succ, Nat.reduceAdd, Nat.reduceBEq, Nat.reduceEqDiff, Nat.reduceLeDiff, Nat.reduceLT, Nat.reduceMul, Int.reduceToNat, Bool.false_eq_true, Bool.or_self, Bool.or_true, Bool.true_or, Bool.or_false, reduceIte, Option.toList_some, Option.toList_none, List.nil_append, List.cons_append, List.length_cons, List.length_nil, true_and, and_true, Int.cast_ofNat_Int, Int.reduceEq, Int.reduceLT, Int.reduceLE, Nat.zero_le, and_self, or_true, true_or, cdS_237]
    generalize nmS (m (r + 16)) L 1 99 D = F at hF ⊢
    rw [rsT_6]
    by_cases he : eS F.2 = 0
    · have g1 := hF.2.1 he
      have g2 := hC.2.1 (hD.2 g1.1)
      have g3 := hA.2.1 g2.1
      rw [if_pos he, if_pos he]
      obtain ⟨f, hf⟩ := nat_i g3.2.1
      obtain ⟨t, ht⟩ := nat_i g2.2.1
      rw [hf, ht, Int.toNat_natCast, Int.toNat_natCast]
      refine ⟨_, _, sp_addRoad _ (by omega) (by omega), ?_⟩
      simp only [vcS0, vcS1, vcS2, vcS3, vcS4, vcS5, vcS6, vc_n0, vc_lk, vc_pop, vc_rc, vc_tsw, vc_fr, vc_ar, vc_tb, mz_nx, List.set_cons_zero, List.set_cons_succ, Nat.reduceAdd, Nat.reduceBEq, Nat.reduceEqDiff, Nat.reduceLeDiff, Nat.reduceLT, Nat.reduceMul, Int.reduceToNat, Bool.false_eq_true, Bool.or_self, Bool.or_true, Bool.true_or, Bool.or_false, reduceIte, Option.toList_some, Option.toList_none, List.nil_append, List.cons_append, List.length_cons, List.length_nil, true_and, and_true, Int.cast_ofNat_Int, Int.reduceEq, Int.reduceLT, Int.reduceLE, Nat.zero_le, and_self, or_true, true_or, cdS_237]
      rw [roadUp_T (by omega)]
    · rw [if_neg he, if_neg he]
  refine mz_cl_vc 60 (fun i => i == 14) [some (mz_r 5 0 r), none, none, none] rfl ?_
  simp only [vcS0, vcS1, vcS2, vcS3, vcS4, vcS5, vcS6, vc_n0, vc_lk, vc_pop, vc_rc, vc_tsw, vc_fr, vc_ar, vc_tb, mz_nx, List.set_cons_zero, List.set_cons_succ, Nat.reduceAdd, Nat.reduceBEq, Nat.reduceEqDiff, Nat.reduceLeDiff, Nat.reduceLT, Nat.reduceMul, Int.reduceToNat, Bool.false_eq_true, Bool.or_self, Bool.or_true, Bool.true_or, Bool.or_false, reduceIte, Option.toList_some, Option.toList_none, List.nil_append, List.cons_append, List.length_cons, List.length_nil, true_and, and_true, Int.cast_ofNat_Int, Int.reduceEq, Int.reduceLT, Int.reduceLE, Nat.zero_le, and_self, or_true, true_or, cdS_237]
  refine ⟨_, _, hpA, ?_⟩
  simp only [vcS0, vcS1, vcS2, vcS3, vcS4, vcS5, vcS6, vc_n0, vc_lk, vc_pop, vc_rc, vc_tsw, vc_fr, vc_ar, vc_tb, mz_nx, List.set_cons_zero, List.set_cons_succ, Nat.reduceAdd, Nat.reduceBEq, Nat.reduceEqDiff, Nat.reduceLeDiff, Nat.reduceLT, Nat.reduceMul, Int.reduceToNat, Bool.false_eq_true, Bool.or_self, Bool.or_true, Bool.true_or, Bool.or_false, reduceIte, Option.toList_some, Option.toList_none, List.nil_append, List.cons_append, List.length_cons, List.length_nil, true_and, and_true, Int.cast_ofNat_Int, Int.reduceEq, Int.reduceLT, Int.reduceLE, Nat.zero_le, and_self, or_true, true_or, cdS_237]
  refine ⟨_, _, hpC, ?_⟩
  simp only [vcS0, vcS1, vcS2, vcS3, vcS4, vcS5, vcS6, vc_n0, vc_lk, vc_pop, vc_rc, vc_tsw, vc_fr, vc_ar, vc_tb, mz_nx, List.set_cons_zero, List.set_cons_succ, Nat.reduceAdd, Nat.reduceBEq, Nat.reduceEqDiff, Nat.reduceLeDiff, Nat.reduceLT, Nat.reduceMul, Int.reduceToNat, Bool.false_eq_true, Bool.or_self, Bool.or_true, Bool.true_or, Bool.or_false, reduceIte, Option.toList_some, Option.toList_none, List.nil_append, List.cons_append, List.length_cons, List.length_nil, true_and, and_true, Int.cast_ofNat_Int, Int.reduceEq, Int.reduceLT, Int.reduceLE, Nat.zero_le, and_self, or_true, true_or, cdS_237]
  by_cases hq : A.1 = C.1
  · rw [if_pos hq, rsT_4]
    refine ⟨_, _, sp_failT m _ _ _, ?_⟩
    simp only [vcS0, vcS1, vcS2, vcS3, vcS4, vcS5, vcS6, vc_n0, vc_lk, vc_pop, vc_rc, vc_tsw, vc_fr, vc_ar, vc_tb, mz_nx, List.set_cons_zero, List.set_cons_succ, Nat.reduceAdd, Nat.reduceBEq, Nat.reduceEqDiff, Nat.reduceLeDiff, Nat.reduceLT, Nat.reduceMul, Int.reduceToNat, Bool.false_eq_true, Bool.or_self, Bool.or_true, Bool.true_or, Bool.or_false, reduceIte, Option.toList_some, Option.toList_none, List.nil_append, List.cons_append, List.length_cons, List.length_nil, true_and, and_true, Int.cast_ofNat_Int, Int.reduceEq, Int.reduceLT, Int.reduceLE, Nat.zero_le, and_self, or_true, true_or, cdS_237]
    exact tail _ (by unfold rdD; rw [if_pos hq])
  · rw [if_neg hq]
    exact tail _ (by unfold rdD; rw [if_neg hq])
theorem rsT_if {c : Prop} [Decidable c] {m m2 : mz_M} {r : Nat} {s : rS} : (if c then rsT m2 r s else rsT m r s) = rsT (if c then m2 else m) r s := by split <;> rfl
def zoX (B : Nat → Int) (L : Nat) (hi : Int) (A : Int × rS) (lo : Int) : Int × rS := nmS B L lo hi A.2
theorem sp_zoneT (m : mz_M) {r L : Nat} (s : rS) (h : byO m r L) (hz : 1 ≤ m (r + 1) 0 ∧ m (r + 1) 0 ≤ 10) (hp : s.1 ≤ L) : sp 239 [mz_r 5 0 r] (rsT m r s) none
    (rsT (if eS (zoX (m (r + 16)) L 3 (rdA (m (r + 16)) L (m (r + 1) 0) s) 0).2 = 0 then mz_up m (r + 2) (rdA (m (r + 16)) L (m (r + 1) 0) s).1.toNat (zoX (m (r + 16)) L 3 (rdA (m (r + 16)) L (m (r + 1) 0) s) 0).1 else m) r (zoX (m (r + 16)) L 3 (rdA (m (r + 16)) L (m (r + 1) 0) s) 0).2) := by
  unfold zoX
  have hA := nmS_ok (B := m (r + 16)) (lo := 0) (hi := m (r + 1) 0 - 1) hp
  have hpA := sp_placeT m s h hz
  change sp _ _ _ (some (mz_i (rdA (m (r + 16)) L (m (r + 1) 0) s).1)) (rsT m r (rdA (m (r + 16)) L (m (r + 1) 0) s).2) at hpA
  rw [show nmS (m (r + 16)) L 0 (m (r + 1) 0 - 1) s = rdA (m (r + 16)) L (m (r + 1) 0) s from rfl] at hA
  generalize rdA (m (r + 16)) L (m (r + 1) 0) s = A at hA hpA ⊢
  have hC := nmS_ok (B := m (r + 16)) (lo := 0) (hi := 3) hA.1
  have hpC := sp_numT m A.2 0 3 h
  generalize nmS (m (r + 16)) L 0 3 A.2 = C at hC hpC ⊢
  refine mz_cl_vc 60 (fun _ => false) [some (mz_r 5 0 r), none, none] rfl ?_
  simp only [vcS0, vcS1, vcS2, vcS3, vcS4, vcS5, vcS6, vc_n0, vc_lk, vc_pop, vc_rc, vc_tsw, vc_fr, vc_ar, vc_tb, mz_nx, List.set_cons_zero, List.set_cons_succ, Nat.reduceAdd, Nat.reduceBEq, Nat.reduceEqDiff, Nat.reduceLeDiff, Nat.reduceLT, Nat.reduceMul, Int.reduceToNat, Bool.false_eq_true, Bool.or_self, Bool.or_true, Bool.true_or, Bool.or_false, reduceIte, Option.toList_some, Option.toList_none, List.nil_append, List.cons_append, List.length_cons, List.length_nil, true_and, and_true, Int.cast_ofNat_Int, Int.reduceEq, Int.reduceLT, Int.reduceLE, Nat.zero_le, and_self, or_true, true_or, cdS_239]
  refine ⟨_, _, hpA, ?_⟩
  simp only [vcS0, vcS1, vcS2, vcS3, vcS4, vcS5, vcS6, vc_n0, vc_lk, vc_pop, vc_rc, vc_tsw, vc_fr, vc_ar, vc_tb, mz_nx, List.set_cons_zero, List.set_cons_succ, Nat.reduceAdd, Nat.reduceBEq, Nat.reduceEqDiff, Nat.reduceLeDiff, Nat.reduceLT, Nat.reduceMul, Int.reduceToNat, Bool.false_eq_true, Bool.or_self, Bool.or_true, Bool.true_or, Bool.or_false, reduceIte, Option.toList_some, Option.toList_none, List.nil_append, List.cons_append, List.length_cons, List.length_nil, true_and, and_true, Int.cast_ofNat_Int, Int.reduceEq, Int.reduceLT, Int.reduceLE, Nat.zero_le, and_self, or_true, true_or, cdS_239]
  refine ⟨_, _, hpC, ?_⟩
  simp only [vcS0, vcS1, vcS2, vcS3, vcS4, vcS5, vcS6, vc_n0, vc_lk, vc_pop, vc_rc, vc_tsw, vc_fr, vc_ar, vc_tb, mz_nx, List.set_cons_zero, List.set_cons_succ, Nat.reduceAdd, Nat.reduceBEq, Nat.reduceEqDiff, Nat.reduceLeDiff, Nat.reduceLT, Nat.reduceMul, Int.reduceToNat, Bool.false_eq_true, Bool.or_self, Bool.or_true, Bool.true_or, Bool.or_false, reduceIte, Option.toList_some, Option.toList_none, List.nil_append, List.cons_append, List.length_cons, List.length_nil, true_and, and_true, Int.cast_ofNat_Int, Int.reduceEq, Int.reduceLT, Int.reduceLE, Nat.zero_le, and_self, or_true, true_or, cdS_239]
  rw [rsT_6]
  by_cases he : eS C.2 = 0
  · have g1 := hC.2.1 he
    have g2 := hA.2.1 g1.1
    obtain ⟨p, hq⟩ := nat_i g2.2.1
    rw [if_pos he, if_pos he, hq, Int.toNat_natCast]
    refine ⟨_, _, sp_putN (o := r + 2) _ _ (by omega), ?_⟩
    simp only [vcS0, vcS1, vcS2, vcS3, vcS4, vcS5, vcS6, vc_n0, vc_lk, vc_pop, vc_rc, vc_tsw, vc_fr, vc_ar, vc_tb, mz_nx, List.set_cons_zero, List.set_cons_succ, Nat.reduceAdd, Nat.reduceBEq, Nat.reduceEqDiff, Nat.reduceLeDiff, Nat.reduceLT, Nat.reduceMul, Int.reduceToNat, Bool.false_eq_true, Bool.or_self, Bool.or_true, Bool.true_or, Bool.or_false, reduceIte, Option.toList_some, Option.toList_none, List.nil_append, List.cons_append, List.length_cons, List.length_nil, true_and, and_true, Int.cast_ofNat_Int, Int.reduceEq, Int.reduceLT, Int.reduceLE, Nat.zero_le, and_self, or_true, true_or, cdS_239]
    rw [rsT_up (by omega)]
  · rw [if_neg he, if_neg he]
theorem sp_spacesT (m : mz_M) {r L : Nat} (s : rS) (h : byO m r L) (hz : 1 ≤ m (r + 1) 0 ∧ m (r + 1) 0 ≤ 10) (hp : s.1 ≤ L) : sp 238 [mz_r 5 0 r] (rsT m r s) none
    (rsT (if eS (zoX (m (r + 16)) L 8 (rdA (m (r + 16)) L (m (r + 1) 0) s) 0).2 = 0 then mz_up m (r + 3) (rdA (m (r + 16)) L (m (r + 1) 0) s).1.toNat (zoX (m (r + 16)) L 8 (rdA (m (r + 16)) L (m (r + 1) 0) s) 0).1 else m) r (zoX (m (r + 16)) L 8 (rdA (m (r + 16)) L (m (r + 1) 0) s) 0).2) := by
  unfold zoX
  have hA := nmS_ok (B := m (r + 16)) (lo := 0) (hi := m (r + 1) 0 - 1) hp
  have hpA := sp_placeT m s h hz
  change sp _ _ _ (some (mz_i (rdA (m (r + 16)) L (m (r + 1) 0) s).1)) (rsT m r (rdA (m (r + 16)) L (m (r + 1) 0) s).2) at hpA
  rw [show nmS (m (r + 16)) L 0 (m (r + 1) 0 - 1) s = rdA (m (r + 16)) L (m (r + 1) 0) s from rfl] at hA
  generalize rdA (m (r + 16)) L (m (r + 1) 0) s = A at hA hpA ⊢
  have hC := nmS_ok (B := m (r + 16)) (lo := 0) (hi := 8) hA.1
  have hpC := sp_numT m A.2 0 8 h
  generalize nmS (m (r + 16)) L 0 8 A.2 = C at hC hpC ⊢
  refine mz_cl_vc 60 (fun _ => false) [some (mz_r 5 0 r), none, none] rfl ?_
  simp only [vcS0, vcS1, vcS2, vcS3, vcS4, vcS5, vcS6, vc_n0, vc_lk, vc_pop, vc_rc, vc_tsw, vc_fr, vc_ar, vc_tb, mz_nx, List.set_cons_zero, List.set_cons_succ, Nat.reduceAdd, Nat.reduceBEq, Nat.reduceEqDiff, Nat.reduceLeDiff, Nat.reduceLT, Nat.reduceMul, Int.reduceToNat, Bool.false_eq_true, Bool.or_self, Bool.or_true, Bool.true_or, Bool.or_false, reduceIte, Option.toList_some, Option.toList_none, List.nil_append, List.cons_append, List.length_cons, List.length_nil, true_and, and_true, Int.cast_ofNat_Int, Int.reduceEq, Int.reduceLT, Int.reduceLE, Nat.zero_le, and_self, or_true, true_or, cdS_238]
  refine ⟨_, _, hpA, ?_⟩
  simp only [vcS0, vcS1, vcS2, vcS3, vcS4, vcS5, vcS6, vc_n0, vc_lk, vc_pop, vc_rc, vc_tsw, vc_fr, vc_ar, vc_tb, mz_nx, List.set_cons_zero, List.set_cons_succ, Nat.reduceAdd, Nat.reduceBEq, Nat.reduceEqDiff, Nat.reduceLeDiff, Nat.reduceLT, Nat.reduceMul, Int.reduceToNat, Bool.false_eq_true, Bool.or_self, Bool.or_true, Bool.true_or, Bool.or_false, reduceIte, Option.toList_some, Option.toList_none, List.nil_append, List.cons_append, List.length_cons, List.length_nil, true_and, and_true, Int.cast_ofNat_Int, Int.reduceEq, Int.reduceLT, Int.reduceLE, Nat.zero_le, and_self, or_true, true_or, cdS_238]
  refine ⟨_, _, hpC, ?_⟩
  simp only [vcS0, vcS1, vcS2, vcS3, vcS4, vcS5, vcS6, vc_n0, vc_lk, vc_pop, vc_rc, vc_tsw, vc_fr, vc_ar, vc_tb, mz_nx, List.set_cons_zero, List.set_cons_succ, Nat.reduceAdd, Nat.reduceBEq, Nat.reduceEqDiff, Nat.reduceLeDiff, Nat.reduceLT, Nat.reduceMul, Int.reduceToNat, Bool.false_eq_true, Bool.or_self, Bool.or_true, Bool.true_or, Bool.or_false, reduceIte, Option.toList_some, Option.toList_none, List.nil_append, List.cons_append, List.length_cons, List.length_nil, true_and, and_true, Int.cast_ofNat_Int, Int.reduceEq, Int.reduceLT, Int.reduceLE, Nat.zero_le, and_self, or_true, true_or, cdS_238]
  rw [rsT_6]
  by_cases he : eS C.2 = 0
  · have g1 := hC.2.1 he
    have g2 := hA.2.1 g1.1
    obtain ⟨p, hq⟩ := nat_i g2.2.1
    rw [if_pos he, if_pos he, hq, Int.toNat_natCast]
    refine ⟨_, _, sp_putN (o := r + 3) _ _ (by omega), ?_⟩
    simp only [vcS0, vcS1, vcS2, vcS3, vcS4, vcS5, vcS6, vc_n0, vc_lk, vc_pop, vc_rc, vc_tsw, vc_fr, vc_ar, vc_tb, mz_nx, List.set_cons_zero, List.set_cons_succ, Nat.reduceAdd, Nat.reduceBEq, Nat.reduceEqDiff, Nat.reduceLeDiff, Nat.reduceLT, Nat.reduceMul, Int.reduceToNat, Bool.false_eq_true, Bool.or_self, Bool.or_true, Bool.true_or, Bool.or_false, reduceIte, Option.toList_some, Option.toList_none, List.nil_append, List.cons_append, List.length_cons, List.length_nil, true_and, and_true, Int.cast_ofNat_Int, Int.reduceEq, Int.reduceLT, Int.reduceLE, Nat.zero_le, and_self, or_true, true_or, cdS_238]
    rw [rsT_up (by omega)]
  · rw [if_neg he, if_neg he]
def styA (B : Nat → Int) (L : Nat) (s : rS) : Int × rS := nmS B L 0 3 s
theorem zoR_ok {w : Nat} {x : Int} (h : 0 ≤ x ∧ x ≤ 3) : zoR w x = mz_r 7 0 (w + 7 + 2 * x.toNat) := by unfold zoR; rw [if_pos (by omega)]
theorem zoR_no {w : Nat} {x : Int} (h : x = -1) : zoR w x = .inr none := by unfold zoR; rw [if_neg (by omega)]
theorem zoR_cs (w : Nat) (x : Int) : zoR w x = .inr none ∨ ∃ z, zoR w x = mz_r 7 0 z := by
  unfold zoR
  split
  · exact Or.inr ⟨_, rfl⟩
  · exact Or.inl rfl
theorem sp_stayT (m : mz_M) {r L : Nat} (s : rS) (h : byO m r L) (hp : s.1 ≤ L) : sp 194 [mz_r 5 0 r] (rsT m r s) none
    (rsT (if eS (zoX (m (r + 16)) L 600 (styA (m (r + 16)) L s) 10).2 = 0 then mz_up m (r + 8 + 2 * (styA (m (r + 16)) L s).1.toNat) 1 (zoX (m (r + 16)) L 600 (styA (m (r + 16)) L s) 10).1 else m) r (zoX (m (r + 16)) L 600 (styA (m (r + 16)) L s) 10).2) := by
  unfold zoX styA
  have hA := nmS_ok (B := m (r + 16)) (lo := 0) (hi := 3) hp
  have hpA := sp_numT m s 0 3 h
  generalize nmS (m (r + 16)) L 0 3 s = A at hA hpA ⊢
  have hC := nmS_ok (B := m (r + 16)) (lo := 10) (hi := 600) hA.1
  have hpC := sp_numT m A.2 10 600 h
  generalize nmS (m (r + 16)) L 10 600 A.2 = C at hC hpC ⊢
  refine mz_cl_vc 60 (fun _ => false) [some (mz_r 5 0 r), none, none] rfl ?_
  simp only [vcS0, vcS1, vcS2, vcS3, vcS4, vcS5, vcS6, vc_n0, vc_lk, vc_pop, vc_rc, vc_tsw, vc_fr, vc_ar, vc_tb, mz_nx, List.set_cons_zero, List.set_cons_succ, Nat.reduceAdd, Nat.reduceBEq, Nat.reduceEqDiff, Nat.reduceLeDiff, Nat.reduceLT, Nat.reduceMul, Int.reduceToNat, Bool.false_eq_true, Bool.or_self, Bool.or_true, Bool.true_or, Bool.or_false, reduceIte, Option.toList_some, Option.toList_none, List.nil_append, List.cons_append, List.length_cons, List.length_nil, true_and, and_true, Int.cast_ofNat_Int, Int.reduceEq, Int.reduceLT, Int.reduceLE, Nat.zero_le, and_self, or_true, true_or, cdS_194]
  refine ⟨_, _, hpA, ?_⟩
  simp only [vcS0, vcS1, vcS2, vcS3, vcS4, vcS5, vcS6, vc_n0, vc_lk, vc_pop, vc_rc, vc_tsw, vc_fr, vc_ar, vc_tb, mz_nx, List.set_cons_zero, List.set_cons_succ, Nat.reduceAdd, Nat.reduceBEq, Nat.reduceEqDiff, Nat.reduceLeDiff, Nat.reduceLT, Nat.reduceMul, Int.reduceToNat, Bool.false_eq_true, Bool.or_self, Bool.or_true, Bool.true_or, Bool.or_false, reduceIte, Option.toList_some, Option.toList_none, List.nil_append, List.cons_append, List.length_cons, List.length_nil, true_and, and_true, Int.cast_ofNat_Int, Int.reduceEq, Int.reduceLT, Int.reduceLE, Nat.zero_le, and_self, or_true, true_or, cdS_194]
  refine ⟨_, _, sp_zoneOrNull _ (r + 1) _, ?_⟩
  by_cases hz : 0 ≤ A.1 ∧ A.1 ≤ 3
  · rw [zoR_ok hz]
    simp only [vcS0, vcS1, vcS2, vcS3, vcS4, vcS5, vcS6, vc_n0, vc_lk, vc_pop, vc_rc, vc_tsw, vc_fr, vc_ar, vc_tb, mz_nx, List.set_cons_zero, List.set_cons_succ, Nat.reduceAdd, Nat.reduceBEq, Nat.reduceEqDiff, Nat.reduceLeDiff, Nat.reduceLT, Nat.reduceMul, Int.reduceToNat, Bool.false_eq_true, Bool.or_self, Bool.or_true, Bool.true_or, Bool.or_false, reduceIte, Option.toList_some, Option.toList_none, List.nil_append, List.cons_append, List.length_cons, List.length_nil, true_and, and_true, Int.cast_ofNat_Int, Int.reduceEq, Int.reduceLT, Int.reduceLE, Nat.zero_le, and_self, or_true, true_or, cdS_194]
    refine ⟨_, _, hpC, ?_⟩
    simp only [vcS0, vcS1, vcS2, vcS3, vcS4, vcS5, vcS6, vc_n0, vc_lk, vc_pop, vc_rc, vc_tsw, vc_fr, vc_ar, vc_tb, mz_nx, List.set_cons_zero, List.set_cons_succ, Nat.reduceAdd, Nat.reduceBEq, Nat.reduceEqDiff, Nat.reduceLeDiff, Nat.reduceLT, Nat.reduceMul, Int.reduceToNat, Bool.false_eq_true, Bool.or_self, Bool.or_true, Bool.true_or, Bool.or_false, reduceIte, Option.toList_some, Option.toList_none, List.nil_append, List.cons_append, List.length_cons, List.length_nil, true_and, and_true, Int.cast_ofNat_Int, Int.reduceEq, Int.reduceLT, Int.reduceLE, Nat.zero_le, and_self, or_true, true_or, cdS_194]
    rw [rsT_6]
    by_cases he : eS C.2 = 0
    · rw [if_pos he, if_pos he, rsT_up (by omega), show r + 1 + 7 + 2 * A.1.toNat = r + 8 + 2 * A.1.toNat by omega]
    · rw [if_neg he, if_neg he]
  · have hn : zoR (r + 1) A.1 = .inr none := by unfold zoR; rw [if_neg (by omega)]
    rw [hn]
    simp only [vcS0, vcS1, vcS2, vcS3, vcS4, vcS5, vcS6, vc_n0, vc_lk, vc_pop, vc_rc, vc_tsw, vc_fr, vc_ar, vc_tb, mz_nx, List.set_cons_zero, List.set_cons_succ, Nat.reduceAdd, Nat.reduceBEq, Nat.reduceEqDiff, Nat.reduceLeDiff, Nat.reduceLT, Nat.reduceMul, Int.reduceToNat, Bool.false_eq_true, Bool.or_self, Bool.or_true, Bool.true_or, Bool.or_false, reduceIte, Option.toList_some, Option.toList_none, List.nil_append, List.cons_append, List.length_cons, List.length_nil, true_and, and_true, Int.cast_ofNat_Int, Int.reduceEq, Int.reduceLT, Int.reduceLE, Nat.zero_le, and_self, or_true, true_or, cdS_194]
    refine ⟨_, _, hpC, ?_⟩
    simp only [vcS0, vcS1, vcS2, vcS3, vcS4, vcS5, vcS6, vc_n0, vc_lk, vc_pop, vc_rc, vc_tsw, vc_fr, vc_ar, vc_tb, mz_nx, List.set_cons_zero, List.set_cons_succ, Nat.reduceAdd, Nat.reduceBEq, Nat.reduceEqDiff, Nat.reduceLeDiff, Nat.reduceLT, Nat.reduceMul, Int.reduceToNat, Bool.false_eq_true, Bool.or_self, Bool.or_true, Bool.true_or, Bool.or_false, reduceIte, Option.toList_some, Option.toList_none, List.nil_append, List.cons_append, List.length_cons, List.length_nil, true_and, and_true, Int.cast_ofNat_Int, Int.reduceEq, Int.reduceLT, Int.reduceLE, Nat.zero_le, and_self, or_true, true_or, cdS_194]
    rw [rsT_6]
    have he : ¬ eS C.2 = 0 := fun he => hz (hA.2.1 (hC.2.1 he).1).2
    rw [if_neg he, if_neg he]
