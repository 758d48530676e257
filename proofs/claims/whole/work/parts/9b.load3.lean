def aB (L : Nat) (s : rS) : Prop := eS s ≠ 0 → 0 ≤ aS s ∧ aS s ≤ L
theorem nmS_aB {B : Nat → Int} {L : Nat} {lo hi : Int} {s : rS} (hp : s.1 ≤ L) (h : aB L s) : aB L (nmS B L lo hi s).2 ∧ (eS (nmS B L lo hi s).2 = 0 → 0 ≤ nS (nmS B L lo hi s).2 ∧ nS (nmS B L lo hi s).2 ≤ L) := by
  have hs := sk_le (B := B) hp
  unfold aB at h ⊢
  show ((rnm B L lo hi s.1 (nS s) (eS s) (aS s)).2.2.2.1 ≠ 0 → 0 ≤ (rnm B L lo hi s.1 (nS s) (eS s) (aS s)).2.2.2.2 ∧ (rnm B L lo hi s.1 (nS s) (eS s) (aS s)).2.2.2.2 ≤ L) ∧ ((rnm B L lo hi s.1 (nS s) (eS s) (aS s)).2.2.2.1 = 0 → 0 ≤ (rnm B L lo hi s.1 (nS s) (eS s) (aS s)).2.2.1 ∧ (rnm B L lo hi s.1 (nS s) (eS s) (aS s)).2.2.1 ≤ L)
  unfold rnm
  split
  · rename_i hc
    by_cases he : eS s = 0
    · simp only [if_pos he]
      exact ⟨fun _ => by omega, fun q => absurd q (by omega)⟩
    · simp only [if_neg he]
      exact ⟨fun _ => h he, fun q => absurd q he⟩
  · split
    · exact ⟨fun q => absurd rfl q, fun _ => by simp only; omega⟩
    · exact ⟨fun _ => by simp only; omega, fun q => absurd q (by simp only; omega)⟩
theorem flS_aB {L : Nat} {s : rS} {k x : Int} (h : aB L s) (hx : eS s = 0 → 0 ≤ x ∧ x ≤ L) : aB L (flS k x s) := by
  unfold aB at h ⊢
  show (if eS s = 0 then k else eS s) ≠ 0 → 0 ≤ (if eS s = 0 then x else aS s) ∧ (if eS s = 0 then x else aS s) ≤ L
  by_cases he : eS s = 0
  · rw [if_pos he, if_pos he]; exact fun _ => hx he
  · rw [if_neg he, if_neg he]; exact h
theorem stR_aB {c : mz_M} {r L : Nat} {s : rS} (hp : s.1 ≤ L) (h : aB L s) : aB L (stR c r L s).2 := by
  have hsk := sk_le (B := c (r + 16)) hp
  have hwd := wd_le (B := c (r + 16)) hsk.2
  have hpW : (wdS (c (r + 16)) L s).1 ≤ L := hwd.2
  have hW : aB L (wdS (c (r + 16)) L s) := h
  have N : ∀ (lo hi : Int) (s' : rS), s'.1 ≤ L → aB L s' → (nmS (c (r + 16)) L lo hi s').2.1 ≤ L ∧ aB L (nmS (c (r + 16)) L lo hi s').2 ∧ (eS (nmS (c (r + 16)) L lo hi s').2 = 0 → 0 ≤ nS (nmS (c (r + 16)) L lo hi s').2 ∧ nS (nmS (c (r + 16)) L lo hi s').2 ≤ L) := fun lo hi s' h1 h2 => ⟨(nmS_ok h1).1, nmS_aB h1 h2⟩
  unfold stR
  split
  · have a1 := N 0 (c (r + 1) 0 - 1) _ hpW hW
    have a3 := N 0 3 _ hpW hW
    split
    · unfold roadR
      have a2 := N 0 (c (r + 1) 0 - 1) _ a1.1 a1.2.1
      have aD : (rdD (rdA (c (r + 16)) L (c (r + 1) 0) (rdA (c (r + 16)) L (c (r + 1) 0) (wdS (c (r + 16)) L s)).2) (rdA (c (r + 16)) L (c (r + 1) 0) (wdS (c (r + 16)) L s)).1).1 ≤ L ∧ aB L (rdD (rdA (c (r + 16)) L (c (r + 1) 0) (rdA (c (r + 16)) L (c (r + 1) 0) (wdS (c (r + 16)) L s)).2) (rdA (c (r + 16)) L (c (r + 1) 0) (wdS (c (r + 16)) L s)).1) := by
        unfold rdD
        split
        · exact ⟨by rw [flS_1]; exact a2.1, flS_aB a2.2.1 a2.2.2⟩
        · exact ⟨a2.1, a2.2.1⟩
      exact (N 1 99 _ aD.1 aD.2).2.1
    · split
      · exact (N 0 3 _ a1.1 a1.2.1).2.1
      · split
        · have b2 := N 0 23 _ a3.1 a3.2.1
          have b3 := N ((rtF (c (r + 16)) L (wdS (c (r + 16)) L s)).1 + 1) 24 _ b2.1 b2.2.1
          exact (N 0 999 _ b3.1 b3.2.1).2.1
        · split
          · exact (N 10 600 _ a3.1 a3.2.1).2.1
          · split
            · exact (N 0 8 _ a1.1 a1.2.1).2.1
            · split
              · unfold poundR
                have aD : (pdD c r (rdA (c (r + 16)) L (c (r + 1) 0) (wdS (c (r + 16)) L s))).1 ≤ L ∧ aB L (pdD c r (rdA (c (r + 16)) L (c (r + 1) 0) (wdS (c (r + 16)) L s))) := by
                  unfold pdD
                  split
                  · exact ⟨by rw [flS_1]; exact a1.1, flS_aB a1.2.1 a1.2.2⟩
                  · exact ⟨a1.1, a1.2.1⟩
                exact (N 1 6 _ aD.1 aD.2).2.1
              · refine flS_aB hW fun _ => ?_
                show 0 ≤ (sk (c (r + 16)) L s.1 : Int) ∧ (sk (c (r + 16)) L s.1 : Int) ≤ L
                omega
  · exact h
theorem rbL_aB {r L : Nat} : ∀ (k : Nat) (c : mz_M) (s : rS), rdOk c r L → s.1 ≤ L → aB L s → aB L (rbL r L k c s).2 := by
  intro k
  induction k with
  | zero => intro c s _ _ h; exact h
  | succ k ih =>
    intro c s hr hp h
    unfold rbL
    split
    · rename_i hc
      have hle := smS_le (B := c (r + 16)) (L := L) hc.2
      have hsm : aB L (smS (c (r + 16)) L s) := by
        unfold smS
        split
        · exact h
        · exact flS_aB h fun _ => by omega
      have hok := stR_ok hr hle
      have := stR_aB (c := c) (r := r) hle hsm
      have hsk := sk_le (B := c (r + 16)) hok.2.1
      refine ih _ _ hok.1.1 hsk.2 this
    · exact h
theorem rbA_aB {c : mz_M} {r L : Nat} (h : byO c r L) : aB L (rbA c r L).2 ∧ aB L (rbB c r L).2 := by
  have ho := rbA_ok h
  have hA : aB L (rbA c r L).2 := by
    unfold rbA plR plN
    simp only
    have h0 : aB L (s00 (c r 4) (c r 5)) := fun q => absurd rfl q
    have hsk := sk_le (B := tC (r + 1) c (r + 16)) (Nat.zero_le L)
    refine (nmS_aB (plS_le (Nat.zero_le L)) ?_).1
    unfold plS
    split
    · exact h0
    · refine flS_aB h0 fun _ => ?_
      show 0 ≤ (sk (tC (r + 1) c (r + 16)) L 0 : Int) ∧ (sk (tC (r + 1) c (r + 16)) L 0 : Int) ≤ L
      omega
  refine ⟨hA, ?_⟩
  unfold rbB
  have hsk := sk_le (B := c (r + 16)) ho.2
  exact rbL_aB 600 _ _ ho.1.1 hsk.2 hA
theorem tC_tQ {c : mz_M} {w : Nat} {R : Nat → Int} {v : Int} (hv : 1 ≤ v ∧ v ≤ 10) : tQ (mz_up (tC w c) w 0 v) w (fun j => if j < 2430 then bgV v j else R j) := by
  have u0 : ∀ j, j ≠ 0 → mz_up (tC w c) w 0 v w j = tC w c w j := fun j hj => up_k hj
  have uo : ∀ a j, a ≠ w → mz_up (tC w c) w 0 v a j = tC w c a j := fun a j ha => up_o ha
  have c1 : tC w c w 1 = 0 := by unfold tC; simp
  have c2 : tC w c w 2 = -1 := by unfold tC; simp
  have z1 : ∀ p, p < 10 → tC w c (w + 1) p = 0 := fun p hp => by unfold tC; grind
  have z2 : ∀ p, p < 10 → tC w c (w + 2) p = 2 := fun p hp => by unfold tC; grind
  have z3 : ∀ p, p < 10 → tC w c (w + 3) p = 0 := fun p hp => by unfold tC; grind
  have z4 : ∀ j, j < 100 → tC w c (w + 4) j = 1000000 := fun p hp => by unfold tC; grind
  have z7 : ∀ z, z < 4 → tC w c (w + 7 + 2 * z) 1 = 120 := fun z hz => by
    rcases (by omega : z = 0 ∨ z = 1 ∨ z = 2 ∨ z = 3) with rfl | rfl | rfl | rfl <;> (unfold tC; grind)
  have z8 : ∀ z h, z < 4 → h < 24 → tC w c (w + 8 + 2 * z) h = 0 := fun z h hz hh => by
    rcases (by omega : z = 0 ∨ z = 1 ∨ z = 2 ∨ z = 3) with rfl | rfl | rfl | rfl <;> (unfold tC; grind)
  refine ⟨⟨?_, Or.inl ⟨?_, ?_⟩, ⟨?_, ?_⟩, ?_, ?_, ?_, ?_⟩, ⟨?_, ?_, ?_, ?_⟩, ?_, ?_⟩
  · rw [up_s]; exact hv
  · rw [u0 _ (by omega)]; exact c2
  · intro p hp; rw [uo _ _ (by omega)]; exact z3 p hp
  · rw [u0 _ (by omega), c1]
    have := sm_congr (n := 10) (f := fun p => if 0 < mz_up (tC w c) w 0 v (w + 3) p then 1 else 0) (g := fun _ => 0) (fun i hi => by rw [uo _ _ (by omega), z3 i hi, if_neg (by omega)])
    rw [this, sm_const]
    rfl
  · rw [u0 _ (by omega), c1]; omega
  · intro p hp; rw [uo _ _ (by omega), z3 p hp]; omega
  · intro p hp; rw [uo _ _ (by omega), uo _ _ (by omega), z1 p hp, z2 p hp]; omega
  · intro j hj; rw [uo _ _ (by omega), z4 j hj]; exact Or.inl rfl
  · intro z hz
    rw [uo _ _ (by omega), z7 z hz]
    refine ⟨by omega, fun h hh => ?_⟩
    rw [uo _ _ (by omega), z8 z h hz hh]; omega
  · rw [up_s]; rfl
  · intro p hp
    rw [uo _ _ (by omega), uo _ _ (by omega), uo _ _ (by omega), z1 p hp, z2 p hp, z3 p hp]
    unfold bgV
    grind
  · intro j hj
    rw [uo _ _ (by omega), z4 j hj]
    unfold bgV
    grind
  · intro z hz
    rw [uo _ _ (by omega), z7 z hz]
    refine ⟨by unfold bgV; grind, fun h hh => ?_⟩
    rw [uo _ _ (by omega), z8 z h hz hh]
    unfold bgV
    grind
  · intro j hj
    unfold bgV
    grind
  · rw [u0 _ (by omega), c2]
    unfold bgV
    simp
theorem qM_rO (m : mz_M) (p b : Nat) (e a : Int) (R V : Nat → Int) : rO (qM m p b e a R) 155 V = qM m p b e a V := by funext x i; unfold rO qM; grind
theorem sp_X9_load {m c : mz_M} {L b0 : Nat} (hB : qB m (c 17) L) (hby : byO c 1 L) (hb0 : m 153 8 = b0) : ∃ (M' : mz_M) (v : Int), sp 285 [mz_r 9 0 153] m (some (mz_i v)) M' ∧ (∀ a, a ≠ 153 → a ≠ 154 → a ≠ 155 → M' a = m a) ∧ (M' 153 6 = 0 ∧ 0 ≤ M' 153 8 ∧ M' 153 11 = eS (rbB c 1 L).2) ∧ (eS (rbB c 1 L).2 ≠ 0 → v = -100 - aS (rbB c 1 L).2 ∧ M' 154 = m 154) ∧ (eS (rbB c 1 L).2 = 0 → ∃ R', tQ (rbB c 1 L).1 2 R' ∧ v = R' 0 ∧ ∀ j, j < 2430 → M' 154 j = fnV R' j) := by
  have hL := hB.2.1
  have ho := rbA_ok hby
  have haB := rbA_aB hby
  have hsk := sk_le (B := c 17) (Nat.zero_le L)
  have hwd := wd_le (B := c 17) hsk.2
  have hC16 : tC 2 c 17 = c 17 := by funext j; exact tC_o (by omega)
  have hB0 : qB (mz_up m 153 4 0) (c 17) L := ⟨by rw [up_k (by omega)]; exact hB.1, hB.2.1, fun j hj => by rw [up_o (by omega)]; exact hB.2.2 j hj⟩
  -- the end
  have fin : ∀ (p' b' : Nat) (e' a' : Int) (R' : Nat → Int), stP (rbB c 1 L).2 p' e' a' → (e' = 0 → tQ (rbB c 1 L).1 2 R') → ∃ (M' : mz_M) (v : Int), sx 285 33 [some (mz_r 9 0 153)] [] (qM (mz_up m 153 4 0) p' b' e' a' R') (some (mz_i v)) M' ∧ (∀ a, a ≠ 153 → a ≠ 154 → a ≠ 155 → M' a = m a) ∧ (M' 153 6 = 0 ∧ 0 ≤ M' 153 8 ∧ M' 153 11 = eS (rbB c 1 L).2) ∧ (eS (rbB c 1 L).2 ≠ 0 → v = -100 - aS (rbB c 1 L).2 ∧ M' 154 = m 154) ∧ (eS (rbB c 1 L).2 = 0 → ∃ R', tQ (rbB c 1 L).1 2 R' ∧ v = R' 0 ∧ ∀ j, j < 2430 → M' 154 j = fnV R' j) := by
    intro p' b' e' a' R' h1 h2
    have he := h1.1
    by_cases h0 : e' = 0
    · have hq := h2 h0
      have hR : fwO (fun q => R' (3 + q)) := fun q hqq => by
        have := hq.2.1.2.2.1 q hqq
        have := hq.1.2.2.2.2.2.1 q hqq
        show 0 ≤ R' (3 + q) ∧ R' (3 + q) ≤ 1000000
        omega
      refine ⟨cpR (rO (mz_up (mz_up (qM (mz_up m 153 4 0) p' b' e' a' R') 153 6 0) 153 11 e') 155 (fnV R')) 155 0 154 0, R' 0, ?_, ?_, ⟨?_, ?_, ?_⟩, fun q => absurd (he.symm.trans h0) q, fun _ => ⟨R', hq, rfl, ?_⟩⟩
      · skip
        refine mz_vc_ok 60 (ct := fun i => i == 27) ?_
        simp only [vcS0, vcS1, vcS2, vcS3, vcS4, vcS5, vcS6, vc_n0, vc_lk, vc_pop, vc_rc, vc_tsw, vc_fr, vc_ar, vc_tb, mz_nx, List.set_cons_zero, List.set_cons_succ, Nat.reduceAdd, Nat.reduceBEq, Nat.reduceEqDiff, Nat.reduceLeDiff, Nat.reduceLT, Nat.reduceMul, Int.reduceToNat, Bool.false_eq_true, Bool.or_self, Bool.or_true, Bool.true_or, Bool.or_false, reduceIte, Option.toList_some, Option.toList_none, List.nil_append, List.cons_append, List.length_cons, List.length_nil, true_and, and_true, Int.cast_ofNat_Int, Int.reduceEq, Int.reduceLT, Int.reduceLE, Nat.zero_le, and_self, or_true, true_or, cdS_285]
        have e9 : mz_up (qM (mz_up m 153 4 0) p' b' e' a' R') 153 6 0 153 9 = e' := by rw [up_k (by omega), qM_9]
        have e9b : ∀ v, mz_up (mz_up (qM (mz_up m 153 4 0) p' b' e' a' R') 153 6 0) 153 11 v 153 9 = e' := fun v => by rw [up_k (by omega), e9]
        rw [e9, if_pos (by rw [e9b]; exact h0)]
        have er : mz_up (mz_up (qM (mz_up m 153 4 0) p' b' e' a' R') 153 6 0) 153 11 e' 155 = R' := by funext j; rw [up_o (by omega), up_o (by omega), qM_R]
        have hfn := sp_finds (mz_up (mz_up (qM (mz_up m 153 4 0) p' b' e' a' R') 153 6 0) 153 11 e') (o := 155) (T := 167) (S := 0) (I := fun _ _ => true) (by rw [er]; exact hR)
        rw [er] at hfn
        refine ⟨_, _, hfn, ?_⟩
        simp only [vcS0, vcS1, vcS2, vcS3, vcS4, vcS5, vcS6, vc_n0, vc_lk, vc_pop, vc_rc, vc_tsw, vc_fr, vc_ar, vc_tb, mz_nx, List.set_cons_zero, List.set_cons_succ, Nat.reduceAdd, Nat.reduceBEq, Nat.reduceEqDiff, Nat.reduceLeDiff, Nat.reduceLT, Nat.reduceMul, Int.reduceToNat, Bool.false_eq_true, Bool.or_self, Bool.or_true, Bool.true_or, Bool.or_false, reduceIte, Option.toList_some, Option.toList_none, List.nil_append, List.cons_append, List.length_cons, List.length_nil, true_and, and_true, Int.cast_ofNat_Int, Int.reduceEq, Int.reduceLT, Int.reduceLE, Nat.zero_le, and_self, or_true, true_or, cdS_285]
        refine ⟨_, _, sp_copies _ (n1 := 2430) (n2 := 2430) (o := 155) (h := 0) (d := 154) (t := 0) (by omega) (by omega) (by omega) (by omega) (by omega), ?_⟩
        simp only [vcS0, vcS1, vcS2, vcS3, vcS4, vcS5, vcS6, vc_n0, vc_lk, vc_pop, vc_rc, vc_tsw, vc_fr, vc_ar, vc_tb, mz_nx, List.set_cons_zero, List.set_cons_succ, Nat.reduceAdd, Nat.reduceBEq, Nat.reduceEqDiff, Nat.reduceLeDiff, Nat.reduceLT, Nat.reduceMul, Int.reduceToNat, Bool.false_eq_true, Bool.or_self, Bool.or_true, Bool.true_or, Bool.or_false, reduceIte, Option.toList_some, Option.toList_none, List.nil_append, List.cons_append, List.length_cons, List.length_nil, true_and, and_true, Int.cast_ofNat_Int, Int.reduceEq, Int.reduceLT, Int.reduceLE, Nat.zero_le, and_self, or_true, true_or, cdS_285]
        have : cpR (rO (mz_up (mz_up (qM (mz_up m 153 4 0) p' b' e' a' R') 153 6 0) 153 11 e') 155 (fnV R')) 155 0 154 0 154 0 = R' 0 := by
          unfold cpR
          rw [if_pos (by omega), rO_at]
          exact sgV_o (by omega)
        rw [this]
      · intro a h3 h4 h5
        funext j
        unfold cpR rO
        rw [if_neg (by omega), if_neg h5, up_o h3, up_o h3]
        unfold qM
        rw [if_neg h5, if_neg (by omega), if_neg (by omega), if_neg (by omega), if_neg (by omega), up_o h3]
      · unfold cpR rO
        rw [if_neg (by omega), if_neg (by omega), up_k (by omega), up_s]
      · unfold cpR rO
        rw [if_neg (by omega), if_neg (by omega), up_k (by omega), up_k (by omega), qM_8]
        omega
      · unfold cpR rO
        rw [if_neg (by omega), if_neg (by omega), up_s]
        exact he
      · intro j hj
        unfold cpR
        rw [if_pos (by omega), rO_at]
        simp
    · have ha := h1.2.2 h0
      have hab := haB.2 (by omega)
      refine ⟨mz_up (mz_up (qM (mz_up m 153 4 0) p' b' e' a' R') 153 6 0) 153 11 e', -100 - a', ?_, ?_, ⟨?_, ?_, ?_⟩, fun _ => ⟨by omega, ?_⟩, fun q => absurd (he.trans q) h0⟩
      · skip
        refine mz_vc_ok 60 (ct := fun i => i == 27) ?_
        simp only [vcS0, vcS1, vcS2, vcS3, vcS4, vcS5, vcS6, vc_n0, vc_lk, vc_pop, vc_rc, vc_tsw, vc_fr, vc_ar, vc_tb, mz_nx, List.set_cons_zero, List.set_cons_succ, Nat.reduceAdd, Nat.reduceBEq, Nat.reduceEqDiff, Nat.reduceLeDiff, Nat.reduceLT, Nat.reduceMul, Int.reduceToNat, Bool.false_eq_true, Bool.or_self, Bool.or_true, Bool.true_or, Bool.or_false, reduceIte, Option.toList_some, Option.toList_none, List.nil_append, List.cons_append, List.length_cons, List.length_nil, true_and, and_true, Int.cast_ofNat_Int, Int.reduceEq, Int.reduceLT, Int.reduceLE, Nat.zero_le, and_self, or_true, true_or, cdS_285]
        have e9 : mz_up (qM (mz_up m 153 4 0) p' b' e' a' R') 153 6 0 153 9 = e' := by rw [up_k (by omega), qM_9]
        have e9b : ∀ v, mz_up (mz_up (qM (mz_up m 153 4 0) p' b' e' a' R') 153 6 0) 153 11 v 153 9 = e' := fun v => by rw [up_k (by omega), e9]
        have e10 : mz_up (mz_up (qM (mz_up m 153 4 0) p' b' e' a' R') 153 6 0) 153 11 e' 153 10 = a' := by rw [up_k (by omega), up_k (by omega), qM_10]
        rw [e9, if_neg (by rw [e9b]; exact h0), e10]
        exact ⟨by unfold mz_w; omega, rfl, rfl⟩
      · intro a h3 h4 h5
        funext j
        rw [up_o h3, up_o h3]
        unfold qM
        rw [if_neg h5, if_neg (by omega), if_neg (by omega), if_neg (by omega), if_neg (by omega), up_o h3]
      · rw [up_k (by omega), up_s]
      · rw [up_k (by omega), up_k (by omega), qM_8]; omega
      · rw [up_s]; exact he
      · funext j
        rw [up_o (by omega), up_o (by omega)]
        unfold qM
        rw [if_neg (by omega), if_neg (by omega), if_neg (by omega), if_neg (by omega), if_neg (by omega), up_o (by omega)]
  -- the beginning
  have h11 := sp_isWord (m := mz_up m 153 4 0) (B := c 17) (L := L) (s := 11) (wd (c 17) L (sk (c 17) L 0)) (sk (c 17) L 0) 0 (m 153 10) (m 155) hB0 (by omega) hwd.1 hwd.2
  have hrd := sp_reads (m := mz_up m 153 4 0) (B := c 17) (L := L) 0 b0 0 (m 153 10) (m 155) hB0
  rw [show isw (c 17) 11 (sk (c 17) L 0) (wd (c 17) L (sk (c 17) L 0)) = isw (c 17) 0 (sk (c 17) L 0) (wd (c 17) L (sk (c 17) L 0)) from rfl] at h11
  have e0 : mz_up (mz_up (mz_up m 153 4 0) 153 7 0) 153 9 0 = qM (mz_up m 153 4 0) 0 b0 0 (m 153 10) (m 155) := by
    funext x j
    unfold mz_up qM
    grind
  have hsW : stP (wdS (c 17) L (s00 (c 1 4) (c 1 5))) (wd (c 17) L (sk (c 17) L 0)) 0 (m 153 10) := ⟨rfl, fun _ => rfl, fun q => absurd rfl q⟩
  have hbeg : ∃ (p1 b1 : Nat) (e1 a1 : Int), stP (plS (c 17) L (s00 (c 1 4) (c 1 5))) p1 e1 a1 ∧ ∀ (res : Option mz_V) (m' : mz_M), sx 285 20 [some (mz_r 9 0 153)] [] (qM (mz_up m 153 4 0) p1 b1 e1 a1 (m 155)) res m' → sx 285 0 [some (mz_r 9 0 153)] [] m res m' := by
    by_cases hw : isw (c 17) 0 (sk (c 17) L 0) (wd (c 17) L (sk (c 17) L 0)) = true
    · have v := wr_i (i := 0) (by omega) hw
      rw [if_pos hw] at h11
      refine ⟨wd (c 17) L (sk (c 17) L 0), sk (c 17) L 0, 0, m 153 10, ?_, fun res m' hk => ?_⟩
      · unfold plS
        rw [if_pos (show rwd (c 17) L (s00 (c 1 4) (c 1 5)).1 = 1 from v)]
        exact hsW
      · skip
        refine mz_vc_ok 30 (ct := fun i => i == 20) ?_
        simp only [vcS0, vcS1, vcS2, vcS3, vcS4, vcS5, vcS6, vc_n0, vc_lk, vc_pop, vc_rc, vc_tsw, vc_fr, vc_ar, vc_tb, mz_nx, List.set_cons_zero, List.set_cons_succ, Nat.reduceAdd, Nat.reduceBEq, Nat.reduceEqDiff, Nat.reduceLeDiff, Nat.reduceLT, Nat.reduceMul, Int.reduceToNat, Bool.false_eq_true, Bool.or_self, Bool.or_true, Bool.true_or, Bool.or_false, reduceIte, Option.toList_some, Option.toList_none, List.nil_append, List.cons_append, List.length_cons, List.length_nil, true_and, and_true, Int.cast_ofNat_Int, Int.reduceEq, Int.reduceLT, Int.reduceLE, Nat.zero_le, and_self, or_true, true_or, cdS_285]
        rw [e0]
        refine ⟨_, _, hrd, ?_⟩
        simp only [vcS0, vcS1, vcS2, vcS3, vcS4, vcS5, vcS6, vc_n0, vc_lk, vc_pop, vc_rc, vc_tsw, vc_fr, vc_ar, vc_tb, mz_nx, List.set_cons_zero, List.set_cons_succ, Nat.reduceAdd, Nat.reduceBEq, Nat.reduceEqDiff, Nat.reduceLeDiff, Nat.reduceLT, Nat.reduceMul, Int.reduceToNat, Bool.false_eq_true, Bool.or_self, Bool.or_true, Bool.true_or, Bool.or_false, reduceIte, Option.toList_some, Option.toList_none, List.nil_append, List.cons_append, List.length_cons, List.length_nil, true_and, and_true, Int.cast_ofNat_Int, Int.reduceEq, Int.reduceLT, Int.reduceLE, Nat.zero_le, and_self, or_true, true_or, cdS_285]
        refine ⟨_, _, h11, ?_⟩
        simp only [vcS0, vcS1, vcS2, vcS3, vcS4, vcS5, vcS6, vc_n0, vc_lk, vc_pop, vc_rc, vc_tsw, vc_fr, vc_ar, vc_tb, mz_nx, List.set_cons_zero, List.set_cons_succ, Nat.reduceAdd, Nat.reduceBEq, Nat.reduceEqDiff, Nat.reduceLeDiff, Nat.reduceLT, Nat.reduceMul, Int.reduceToNat, Bool.false_eq_true, Bool.or_self, Bool.or_true, Bool.true_or, Bool.or_false, reduceIte, Option.toList_some, Option.toList_none, List.nil_append, List.cons_append, List.length_cons, List.length_nil, true_and, and_true, Int.cast_ofNat_Int, Int.reduceEq, Int.reduceLT, Int.reduceLE, Nat.zero_le, and_self, or_true, true_or, cdS_285]
        exact hk
    · rw [if_neg hw] at h11
      have hff := sp_qfails (m := mz_up m 153 4 0) (wd (c 17) L (sk (c 17) L 0)) (sk (c 17) L 0) 0 (m 153 10) (m 155) 1 (sk (c 17) L 0)
      rw [if_pos rfl, if_pos rfl] at hff
      refine ⟨wd (c 17) L (sk (c 17) L 0), sk (c 17) L 0, 1, sk (c 17) L 0, ?_, fun res m' hk => ?_⟩
      rotate_left
      · skip
        refine mz_vc_ok 30 (ct := fun i => i == 20) ?_
        simp only [vcS0, vcS1, vcS2, vcS3, vcS4, vcS5, vcS6, vc_n0, vc_lk, vc_pop, vc_rc, vc_tsw, vc_fr, vc_ar, vc_tb, mz_nx, List.set_cons_zero, List.set_cons_succ, Nat.reduceAdd, Nat.reduceBEq, Nat.reduceEqDiff, Nat.reduceLeDiff, Nat.reduceLT, Nat.reduceMul, Int.reduceToNat, Bool.false_eq_true, Bool.or_self, Bool.or_true, Bool.true_or, Bool.or_false, reduceIte, Option.toList_some, Option.toList_none, List.nil_append, List.cons_append, List.length_cons, List.length_nil, true_and, and_true, Int.cast_ofNat_Int, Int.reduceEq, Int.reduceLT, Int.reduceLE, Nat.zero_le, and_self, or_true, true_or, cdS_285]
        rw [e0]
        refine ⟨_, _, hrd, ?_⟩
        simp only [vcS0, vcS1, vcS2, vcS3, vcS4, vcS5, vcS6, vc_n0, vc_lk, vc_pop, vc_rc, vc_tsw, vc_fr, vc_ar, vc_tb, mz_nx, List.set_cons_zero, List.set_cons_succ, Nat.reduceAdd, Nat.reduceBEq, Nat.reduceEqDiff, Nat.reduceLeDiff, Nat.reduceLT, Nat.reduceMul, Int.reduceToNat, Bool.false_eq_true, Bool.or_self, Bool.or_true, Bool.true_or, Bool.or_false, reduceIte, Option.toList_some, Option.toList_none, List.nil_append, List.cons_append, List.length_cons, List.length_nil, true_and, and_true, Int.cast_ofNat_Int, Int.reduceEq, Int.reduceLT, Int.reduceLE, Nat.zero_le, and_self, or_true, true_or, cdS_285]
        refine ⟨_, _, h11, ?_⟩
        simp only [vcS0, vcS1, vcS2, vcS3, vcS4, vcS5, vcS6, vc_n0, vc_lk, vc_pop, vc_rc, vc_tsw, vc_fr, vc_ar, vc_tb, mz_nx, List.set_cons_zero, List.set_cons_succ, Nat.reduceAdd, Nat.reduceBEq, Nat.reduceEqDiff, Nat.reduceLeDiff, Nat.reduceLT, Nat.reduceMul, Int.reduceToNat, Bool.false_eq_true, Bool.or_self, Bool.or_true, Bool.true_or, Bool.or_false, reduceIte, Option.toList_some, Option.toList_none, List.nil_append, List.cons_append, List.length_cons, List.length_nil, true_and, and_true, Int.cast_ofNat_Int, Int.reduceEq, Int.reduceLT, Int.reduceLE, Nat.zero_le, and_self, or_true, true_or, cdS_285]
        rw [qM_8]
        refine ⟨_, _, hff, ?_⟩
        simp only [vcS0, vcS1, vcS2, vcS3, vcS4, vcS5, vcS6, vc_n0, vc_lk, vc_pop, vc_rc, vc_tsw, vc_fr, vc_ar, vc_tb, mz_nx, List.set_cons_zero, List.set_cons_succ, Nat.reduceAdd, Nat.reduceBEq, Nat.reduceEqDiff, Nat.reduceLeDiff, Nat.reduceLT, Nat.reduceMul, Int.reduceToNat, Bool.false_eq_true, Bool.or_self, Bool.or_true, Bool.true_or, Bool.or_false, reduceIte, Option.toList_some, Option.toList_none, List.nil_append, List.cons_append, List.length_cons, List.length_nil, true_and, and_true, Int.cast_ofNat_Int, Int.reduceEq, Int.reduceLT, Int.reduceLE, Nat.zero_le, and_self, or_true, true_or, cdS_285]
        exact hk
      · unfold plS
        rw [if_neg (show ¬ rwd (c 17) L (s00 (c 1 4) (c 1 5)).1 = 1 from fun q => hw (wr_inv (i := 0) q))]
        exact ⟨rfl, fun q => absurd q (by omega), fun _ => rfl⟩
  obtain ⟨p1, b1, e1, a1, g1, g2⟩ := hbeg
  have hpl : (plS (c 17) L (s00 (c 1 4) (c 1 5))).1 ≤ L := plS_le (Nat.zero_le L)
  obtain ⟨p2, b2, e2, a2, f1, f2⟩ := sp_number (b := b1) (m 155) 1 10 hB0 g1 hpl
  have oN := nmS_ok (B := c 17) (L := L) (lo := 1) (hi := 10) hpl
  have hrbA : rbA c 1 L = (if eS (nmS (c 17) L 1 10 (plS (c 17) L (s00 (c 1 4) (c 1 5)))).2 = 0 then mz_up (tC 2 c) 2 0 (nmS (c 17) L 1 10 (plS (c 17) L (s00 (c 1 4) (c 1 5)))).1 else tC 2 c, (nmS (c 17) L 1 10 (plS (c 17) L (s00 (c 1 4) (c 1 5)))).2) := by
    unfold rbA plR plN
    rw [show tC (1 + 1) c (1 + 16) = c 17 from hC16]
  have hA1 : (rbA c 1 L).1 17 = c 17 := by
    funext j
    exact ho.1.2 17 j (by omega)
  generalize hN : nmS (c 17) L 1 10 (plS (c 17) L (s00 (c 1 4) (c 1 5))) = N at *
  obtain ⟨p', b', e', a', R', l1, l2, l3⟩ := lo_loop (m := mz_up m 153 4 0) (L := L) (r := 1) hB0 600 (rbA c 1 L).1 (rbA c 1 L).2 p2 b2 e2 a2 (fun j => if j < 2430 then bgV (if eS N.2 = 0 then N.1 else 1) j else m 155 j) hA1 ho.1.1 (by rw [hrbA]; exact stO_P f2) ho.2 (by omega) (fun z => by
    have z2 : eS N.2 = 0 := by have := f2.1; omega
    rw [hrbA]
    simp only [if_pos z2]
    exact tC_tQ (oN.2.1 z2).2)
  rw [show rbL 1 L 600 (rbA c 1 L).1 (spS (c 17) L (rbA c 1 L).2) = rbB c 1 L from rfl] at l1 l2
  obtain ⟨M', v, k1, k2⟩ := fin p' b' e' a' R' l1 l2
  refine ⟨M', v, ?_, k2⟩
  refine mz_cl_vc 0 (fun _ => false) [some (mz_r 9 0 153)] rfl ?_
  refine g2 _ _ ?_
  refine mz_vc_ok 20 (ct := fun i => i == 27) ?_
  simp only [vcS0, vcS1, vcS2, vcS3, vcS4, vcS5, vcS6, vc_n0, vc_lk, vc_pop, vc_rc, vc_tsw, vc_fr, vc_ar, vc_tb, mz_nx, List.set_cons_zero, List.set_cons_succ, Nat.reduceAdd, Nat.reduceBEq, Nat.reduceEqDiff, Nat.reduceLeDiff, Nat.reduceLT, Nat.reduceMul, Int.reduceToNat, Bool.false_eq_true, Bool.or_self, Bool.or_true, Bool.true_or, Bool.or_false, reduceIte, Option.toList_some, Option.toList_none, List.nil_append, List.cons_append, List.length_cons, List.length_nil, true_and, and_true, Int.cast_ofNat_Int, Int.reduceEq, Int.reduceLT, Int.reduceLE, Nat.zero_le, and_self, or_true, true_or, cdS_285]
  refine ⟨_, _, f1, ?_⟩
  simp only [vcS0, vcS1, vcS2, vcS3, vcS4, vcS5, vcS6, vc_n0, vc_lk, vc_pop, vc_rc, vc_tsw, vc_fr, vc_ar, vc_tb, mz_nx, List.set_cons_zero, List.set_cons_succ, Nat.reduceAdd, Nat.reduceBEq, Nat.reduceEqDiff, Nat.reduceLeDiff, Nat.reduceLT, Nat.reduceMul, Int.reduceToNat, Bool.false_eq_true, Bool.or_self, Bool.or_true, Bool.true_or, Bool.or_false, reduceIte, Option.toList_some, Option.toList_none, List.nil_append, List.cons_append, List.length_cons, List.length_nil, true_and, and_true, Int.cast_ofNat_Int, Int.reduceEq, Int.reduceLT, Int.reduceLE, Nat.zero_le, and_self, or_true, true_or, cdS_285]
  have hbg := sp_begins (qM (mz_up m 153 4 0) p2 b2 e2 a2 (m 155)) (o := 155) (T := 167) (S := 0) (I := fun _ _ => true) (if eS N.2 = 0 then N.1 else 1)
  rw [qM_rO, qM_R] at hbg
  refine ⟨_, _, hbg, ?_⟩
  simp only [vcS0, vcS1, vcS2, vcS3, vcS4, vcS5, vcS6, vc_n0, vc_lk, vc_pop, vc_rc, vc_tsw, vc_fr, vc_ar, vc_tb, mz_nx, List.set_cons_zero, List.set_cons_succ, Nat.reduceAdd, Nat.reduceBEq, Nat.reduceEqDiff, Nat.reduceLeDiff, Nat.reduceLT, Nat.reduceMul, Int.reduceToNat, Bool.false_eq_true, Bool.or_self, Bool.or_true, Bool.true_or, Bool.or_false, reduceIte, Option.toList_some, Option.toList_none, List.nil_append, List.cons_append, List.length_cons, List.length_nil, true_and, and_true, Int.cast_ofNat_Int, Int.reduceEq, Int.reduceLT, Int.reduceLE, Nat.zero_le, and_self, or_true, true_or, cdS_285]
  exact l3 _ _ k1
