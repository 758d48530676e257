def frO (m m' : mz_M) (r : Nat) : Prop := ∀ a j, a < r + 1 ∨ r + 15 < a → m' a j = m a j
theorem rdOk_of {m m' : mz_M} {r L : Nat} (h : rdOk m r L) (hf : frO m m' r) (h0 : m' (r + 1) 0 = m (r + 1) 0) (h1 : 0 ≤ m' (r + 1) 1 ∧ m' (r + 1) 1 ≤ 2) (h5 : fwO (m' (r + 5))) : rdOk m' r L := by
  refine ⟨⟨⟨?_, h.1.1.2⟩, fun i hi => ?_⟩, ?_, h1, h5⟩
  · rw [hf r 2 (by omega)]; exact h.1.1.1
  · rw [hf (r + 16) i (by omega)]; exact h.1.2 i hi
  · rw [h0]; exact h.2.1
theorem rdOk_up {m : mz_M} {r L b j : Nat} {x : Int} (h : rdOk m r L) (hb : r + 1 < b ∧ b ≠ r + 5 ∧ b ≤ r + 15) : rdOk (mz_up m b j x) r L ∧ frO m (mz_up m b j x) r := by
  have hf : frO m (mz_up m b j x) r := fun a i ha => up_o (by omega)
  refine ⟨rdOk_of h hf (up_o (by omega)) (by rw [up_o (by omega)]; exact h.2.2.1) ?_, hf⟩
  intro i hi
  rw [up_o (by omega)]
  exact h.2.2.2 i hi
theorem rdOk_set {m : mz_M} {r L b f t : Nat} {c : Int} (h : rdOk m r L) (hb : r + 1 < b ∧ b ≠ r + 5 ∧ b ≤ r + 15) : rdOk (setR m b f t c) r L ∧ frO m (setR m b f t c) r := by
  have ho : ∀ a j, a ≠ b → setR m b f t c a j = m a j := fun a j h => by unfold setR; rw [if_neg (by omega)]
  have hf : frO m (setR m b f t c) r := fun a i ha => ho _ _ (by omega)
  refine ⟨rdOk_of h hf (ho _ _ (by omega)) (by rw [ho _ _ (by omega)]; exact h.2.2.1) ?_, hf⟩
  intro i hi
  rw [ho _ _ (by omega)]
  exact h.2.2.2 i hi
theorem rdOk_road {m : mz_M} {r L f t : Nat} {v : Int} (h : rdOk m r L) (hv : 1 ≤ v ∧ v ≤ 99) (hff : f < 10) (htt : t < 10) : rdOk (roadUp m (r + 1) f t v) r L ∧ frO m (roadUp m (r + 1) f t v) r := by
  have hf : frO m (roadUp m (r + 1) f t v) r := fun a i ha => by unfold roadUp; rw [up_o (by omega), up_o (by omega)]
  have h4 := h.2.2.2 (10 * f + t) (by omega)
  refine ⟨rdOk_of h hf (by unfold roadUp; rw [up_o (by omega), up_o (by omega)]) (by unfold roadUp; rw [up_o (by omega), up_o (by omega)]; exact h.2.2.1) ?_, hf⟩
  intro i hi
  have hi2 := h.2.2.2 i hi
  unfold roadUp
  rw [show r + 1 + 4 = r + 5 from rfl]
  simp only [up_at, true_and]
  split
  · omega
  · split <;> omega
theorem rdOk_pound {m : mz_M} {r L p : Nat} {c : Int} (h : rdOk m r L) (hc : 0 < m (r + 4) p ∨ m (r + 1) 1 < 2) : rdOk (poundUp m (r + 1) p c) r L ∧ frO m (poundUp m (r + 1) p c) r := by
  have ho : ∀ a j, a ≠ r + 1 → a ≠ r + 4 → poundUp m (r + 1) p c a j = m a j := fun a j h1 h2 => by
    unfold poundUp
    rw [up_o (by omega)]
    split
    · rfl
    · split
      · rw [up_o (by omega), up_o (by omega)]
      · rw [up_o (by omega)]
  have h0 : poundUp m (r + 1) p c (r + 1) 0 = m (r + 1) 0 := by
    unfold poundUp
    rw [up_o (by omega)]
    split
    · rfl
    · split
      · rw [up_k (by omega), up_k (by omega)]
      · rw [up_k (by omega)]
  have h1 : poundUp m (r + 1) p c (r + 1) 1 = if 0 < m (r + 4) p then m (r + 1) 1 else m (r + 1) 1 + 1 := by
    unfold poundUp
    rw [up_o (by omega), show r + 1 + 3 = r + 4 from rfl]
    split
    · rfl
    · split
      · rw [up_k (by omega), up_s]
      · rw [up_s]
  have hf : frO m (poundUp m (r + 1) p c) r := fun a i ha => ho _ _ (by omega) (by omega)
  have h3 := h.2.2.1
  refine ⟨rdOk_of h hf h0 ?_ ?_, hf⟩
  · rw [h1]; split <;> omega
  · intro i hi
    rw [ho _ _ (by omega) (by omega)]
    exact h.2.2.2 i hi
theorem frO_rfl (m : mz_M) (r : Nat) : frO m m r := fun _ _ _ => rfl
theorem frO_tr {m m1 m2 : mz_M} {r : Nat} (h : frO m m1 r) (h2 : frO m1 m2 r) : frO m m2 r := fun a j ha => (h2 a j ha).trans (h a j ha)
theorem stR_ok {m : mz_M} {r L : Nat} {s : rS} (h : rdOk m r L) (hp : s.1 ≤ L) : (rdOk (stR m r L s).1 r L ∧ frO m (stR m r L s).1 r) ∧ (stR m r L s).2.1 ≤ L ∧ (eS s ≠ 0 → stR m r L s = (m, s)) := by
  by_cases he : ¬ eS s = 0
  · have e : stR m r L s = (m, s) := by unfold stR; rw [if_neg he]
    rw [e]
    exact ⟨⟨h, frO_rfl m r⟩, hp, fun _ => rfl⟩
  · have he := Classical.not_not.mp he
    refine and_assoc.mp ⟨?_, fun h => absurd he h⟩
    have hw := wd_le (B := m (r + 16)) (sk_le (B := m (r + 16)) hp).2
    have hp2 : (wdS (m (r + 16)) L s).1 ≤ L := hw.2
    unfold stR
    rw [if_pos he]
    generalize wdS (m (r + 16)) L s = s1 at hp2 ⊢
    by_cases h2 : rwd (m (r + 16)) L s.1 = 2
    · rw [if_pos h2]
      have hA := nmS_ok (B := m (r + 16)) (lo := 0) (hi := m (r + 1) 0 - 1) hp2
      have hC := nmS_ok (B := m (r + 16)) (lo := 0) (hi := m (r + 1) 0 - 1) hA.1
      have hD : (rdD (rdA (m (r + 16)) L (m (r + 1) 0) (rdA (m (r + 16)) L (m (r + 1) 0) s1).2) (rdA (m (r + 16)) L (m (r + 1) 0) s1).1).1 ≤ L ∧ (eS (rdD (rdA (m (r + 16)) L (m (r + 1) 0) (rdA (m (r + 16)) L (m (r + 1) 0) s1).2) (rdA (m (r + 16)) L (m (r + 1) 0) s1).1) = 0 → eS (rdA (m (r + 16)) L (m (r + 1) 0) (rdA (m (r + 16)) L (m (r + 1) 0) s1).2).2 = 0) := by
        unfold rdD
        split
        · exact ⟨hC.1, fun h => absurd h (flS_e (by omega))⟩
        · exact ⟨hC.1, fun h => h⟩
      have hF := nmS_ok (B := m (r + 16)) (lo := 1) (hi := 99) hD.1
      unfold roadR
      refine ⟨?_, hF.1⟩
      simp only
      split
      · rename_i he2
        have g1 := hF.2.1 he2
        have g2 := hC.2.1 (hD.2 g1.1)
        have g3 := hA.2.1 g2.1
        have hs := h.2.1
        exact rdOk_road h g1.2 (by unfold rdA; omega) (by unfold rdA; omega)
      · exact ⟨h, frO_rfl m r⟩
    · rw [if_neg h2]
      by_cases h3 : rwd (m (r + 16)) L s.1 = 3
      · rw [if_pos h3]
        have hA := nmS_ok (B := m (r + 16)) (lo := 0) (hi := m (r + 1) 0 - 1) hp2
        have hC := nmS_ok (B := m (r + 16)) (lo := 0) (hi := 3) hA.1
        unfold zoneR
        refine ⟨?_, hC.1⟩
        simp only
        split
        · exact rdOk_up h (by omega)
        · exact ⟨h, frO_rfl m r⟩
      · rw [if_neg h3]
        by_cases h4 : rwd (m (r + 16)) L s.1 = 4
        · rw [if_pos h4]
          have hA := nmS_ok (B := m (r + 16)) (lo := 0) (hi := 3) hp2
          have hF := nmS_ok (B := m (r + 16)) (lo := 0) (hi := 23) hA.1
          have hT := nmS_ok (B := m (r + 16)) (lo := (rtF (m (r + 16)) L s1).1 + 1) (hi := 24) hF.1
          have hC := nmS_ok (B := m (r + 16)) (lo := 0) (hi := 999) hT.1
          unfold rateR
          refine ⟨?_, hC.1⟩
          simp only
          split
          · rename_i he2
            have g1 := hA.2.1 (hF.2.1 (hT.2.1 (hC.2.1 he2).1).1).1
            exact rdOk_set h (by unfold styA; omega)
          · exact ⟨h, frO_rfl m r⟩
        · rw [if_neg h4]
          by_cases h5 : rwd (m (r + 16)) L s.1 = 5
          · rw [if_pos h5]
            have hA := nmS_ok (B := m (r + 16)) (lo := 0) (hi := 3) hp2
            have hC := nmS_ok (B := m (r + 16)) (lo := 10) (hi := 600) hA.1
            unfold stayR
            refine ⟨?_, hC.1⟩
            simp only
            split
            · rename_i he2
              have g1 := hA.2.1 (hC.2.1 he2).1
              exact rdOk_up h (by unfold styA; omega)
            · exact ⟨h, frO_rfl m r⟩
          · rw [if_neg h5]
            by_cases h6 : rwd (m (r + 16)) L s.1 = 6
            · rw [if_pos h6]
              have hA := nmS_ok (B := m (r + 16)) (lo := 0) (hi := m (r + 1) 0 - 1) hp2
              have hC := nmS_ok (B := m (r + 16)) (lo := 0) (hi := 8) hA.1
              unfold spacesR
              refine ⟨?_, hC.1⟩
              simp only
              split
              · exact rdOk_up h (by omega)
              · exact ⟨h, frO_rfl m r⟩
            · rw [if_neg h6]
              by_cases h7 : rwd (m (r + 16)) L s.1 = 7
              · rw [if_pos h7]
                have hA := nmS_ok (B := m (r + 16)) (lo := 0) (hi := m (r + 1) 0 - 1) hp2
                rw [show nmS (m (r + 16)) L 0 (m (r + 1) 0 - 1) s1 = rdA (m (r + 16)) L (m (r + 1) 0) s1 from rfl] at hA
                unfold poundR pdC
                generalize rdA (m (r + 16)) L (m (r + 1) 0) s1 = A at hA ⊢
                have hs := h.2.1
                have hD : (pdD m r A).1 ≤ L ∧ (eS (pdD m r A) = 0 → eS A.2 = 0 ∧ ((0 ≤ A.1 ∧ A.1 < 10 ∧ 0 < m (r + 4) A.1.toNat) ∨ m (r + 1) 1 < 2)) := by
                  unfold pdD
                  split
                  · exact ⟨hA.1, fun h => absurd h (flS_e (by omega))⟩
                  · rename_i hq
                    exact ⟨hA.1, fun h => ⟨h, by omega⟩⟩
                have hC := nmS_ok (B := m (r + 16)) (lo := 1) (hi := 6) hD.1
                refine ⟨?_, hC.1⟩
                simp only
                split
                · rename_i he2
                  have g1 := hD.2 (hC.2.1 he2).1
                  exact rdOk_pound h (g1.2.imp (fun h => h.2.2) id)
                · exact ⟨h, frO_rfl m r⟩
              · rw [if_neg h7]
                exact ⟨⟨h, frO_rfl m r⟩, hp2⟩
def spS (B : Nat → Int) (L : Nat) (s : rS) : rS := (sk B L s.1, nS s, wS' s, eS s, aS s)
def rbL (r L : Nat) : Nat → mz_M → rS → mz_M × rS
  | 0, m, s => (m, s)
  | k + 1, m, s => if eS s = 0 ∧ s.1 < L then rbL r L k (stR m r L (smS (m (r + 16)) L s)).1 (spS (m (r + 16)) L (stR m r L (smS (m (r + 16)) L s)).2) else (m, s)
theorem smS_le {B : Nat → Int} {L : Nat} {s : rS} (h : s.1 < L) : (smS B L s).1 ≤ L := by
  unfold smS
  split
  · exact h
  · exact Nat.le_of_lt h
theorem frO_16 {m m' : mz_M} {r : Nat} (h : frO m m' r) : m' (r + 16) = m (r + 16) := by funext j; exact h _ _ (by omega)
set_option maxRecDepth 8000 in
theorem rb_loop {r L : Nat} (res : Option mz_V) (m' : mz_M) : ∀ (k i : Nat) (m : mz_M) (s : rS), i + k = 600 → rdOk m r L → s.1 ≤ L → ((rdOk (rbL r L k m s).1 r L ∧ frO m (rbL r L k m s).1 r) → ∀ v : Option mz_V, sx 287 37 [some (mz_r 5 0 r), v] [] (rsT (rbL r L k m s).1 r (rbL r L k m s).2) res m') → sx 287 18 [some (mz_r 5 0 r), some (mz_i i)] [] (rsT m r s) res m' := by
  intro k
  induction k with
  | zero =>
    intro i m s hi hm hp hc
    obtain rfl : i = 600 := by omega
    refine mz_vc_ok 60 (ct := fun i => i == 18 || i == 37) ?_
    simp only [vcS0, vcS1, vcS2, vcS3, vcS4, vcS5, vcS6, vc_n0, vc_lk, vc_pop, vc_rc, vc_tsw, vc_fr, vc_ar, vc_tb, mz_nx, List.set_cons_zero, List.set_cons_succ, Nat.reduceAdd, Nat.reduceBEq, Nat.reduceEqDiff, Nat.reduceLeDiff, Nat.reduceLT, Nat.reduceMul, Int.reduceToNat, Bool.false_eq_true, Bool.or_self, Bool.or_true, Bool.true_or, Bool.or_false, reduceIte, Option.toList_some, Option.toList_none, List.nil_append, List.cons_append, List.length_cons, List.length_nil, true_and, and_true, Int.cast_ofNat_Int, Int.reduceEq, Int.reduceLT, Int.reduceLE, Nat.zero_le, and_self, or_true, true_or, cdS_287]
    exact hc ⟨hm, frO_rfl m r⟩ _
  | succ k ih =>
    intro i m s hi hm hp hc
    have hL := hm.1.1
    unfold rbL at hc
    refine mz_vc_ok 60 (ct := fun i => i == 18 || i == 37) ?_
    simp only [vcS0, vcS1, vcS2, vcS3, vcS4, vcS5, vcS6, vc_n0, vc_lk, vc_pop, vc_rc, vc_tsw, vc_fr, vc_ar, vc_tb, mz_nx, List.set_cons_zero, List.set_cons_succ, Nat.reduceAdd, Nat.reduceBEq, Nat.reduceEqDiff, Nat.reduceLeDiff, Nat.reduceLT, Nat.reduceMul, Int.reduceToNat, Bool.false_eq_true, Bool.or_self, Bool.or_true, Bool.true_or, Bool.or_false, reduceIte, Option.toList_some, Option.toList_none, List.nil_append, List.cons_append, List.length_cons, List.length_nil, true_and, and_true, Int.cast_ofNat_Int, Int.reduceEq, Int.reduceLT, Int.reduceLE, Nat.zero_le, and_self, or_true, true_or, cdS_287]
    rw [if_pos (by omega), rsT_6]
    by_cases he : eS s = 0
    · rw [if_pos he, rsT_3, rsT_2, hL.1]
      by_cases hl : s.1 < L
      · rw [if_pos (by omega)]
        rw [if_pos ⟨he, hl⟩] at hc
        refine ⟨_, _, sp_semiT m s hL (by have := hL.2; omega), ?_⟩
        simp only [vcS0, vcS1, vcS2, vcS3, vcS4, vcS5, vcS6, vc_n0, vc_lk, vc_pop, vc_rc, vc_tsw, vc_fr, vc_ar, vc_tb, mz_nx, List.set_cons_zero, List.set_cons_succ, Nat.reduceAdd, Nat.reduceBEq, Nat.reduceEqDiff, Nat.reduceLeDiff, Nat.reduceLT, Nat.reduceMul, Int.reduceToNat, Bool.false_eq_true, Bool.or_self, Bool.or_true, Bool.true_or, Bool.or_false, reduceIte, Option.toList_some, Option.toList_none, List.nil_append, List.cons_append, List.length_cons, List.length_nil, true_and, and_true, Int.cast_ofNat_Int, Int.reduceEq, Int.reduceLT, Int.reduceLE, Nat.zero_le, and_self, or_true, true_or, cdS_287]
        have h1 := smS_le (B := m (r + 16)) hl
        refine ⟨_, _, sp_stmtT m _ hm h1, ?_⟩
        simp only [vcS0, vcS1, vcS2, vcS3, vcS4, vcS5, vcS6, vc_n0, vc_lk, vc_pop, vc_rc, vc_tsw, vc_fr, vc_ar, vc_tb, mz_nx, List.set_cons_zero, List.set_cons_succ, Nat.reduceAdd, Nat.reduceBEq, Nat.reduceEqDiff, Nat.reduceLeDiff, Nat.reduceLT, Nat.reduceMul, Int.reduceToNat, Bool.false_eq_true, Bool.or_self, Bool.or_true, Bool.true_or, Bool.or_false, reduceIte, Option.toList_some, Option.toList_none, List.nil_append, List.cons_append, List.length_cons, List.length_nil, true_and, and_true, Int.cast_ofNat_Int, Int.reduceEq, Int.reduceLT, Int.reduceLE, Nat.zero_le, and_self, or_true, true_or, cdS_287]
        have h2 := stR_ok hm h1
        have h3 := frO_16 h2.1.2
        generalize stR m r L (smS (m (r + 16)) L s) = q at h2 h3 hc ⊢
        have h4 := sp_skipT q.1 q.2 h2.1.1.1.1
        rw [h3] at h4
        refine ⟨_, _, h4, ?_⟩
        simp only [vcS0, vcS1, vcS2, vcS3, vcS4, vcS5, vcS6, vc_n0, vc_lk, vc_pop, vc_rc, vc_tsw, vc_fr, vc_ar, vc_tb, mz_nx, List.set_cons_zero, List.set_cons_succ, Nat.reduceAdd, Nat.reduceBEq, Nat.reduceEqDiff, Nat.reduceLeDiff, Nat.reduceLT, Nat.reduceMul, Int.reduceToNat, Bool.false_eq_true, Bool.or_self, Bool.or_true, Bool.true_or, Bool.or_false, reduceIte, Option.toList_some, Option.toList_none, List.nil_append, List.cons_append, List.length_cons, List.length_nil, true_and, and_true, Int.cast_ofNat_Int, Int.reduceEq, Int.reduceLT, Int.reduceLE, Nat.zero_le, and_self, or_true, true_or, cdS_287]
        refine ⟨(by unfold mz_w; omega), ?_⟩
        exact ih (i + 1) q.1 (spS (m (r + 16)) L q.2) (by omega) h2.1.1 (sk_le h2.2.1).2 (fun hh => hc ⟨hh.1, frO_tr h2.1.2 hh.2⟩)
      · rw [if_neg (by omega)]
        rw [if_neg (fun h => hl h.2)] at hc
        exact hc ⟨hm, frO_rfl m r⟩ _
    · rw [if_neg he]
      rw [if_neg (fun h => he h.1)] at hc
      exact hc ⟨hm, frO_rfl m r⟩ _
def plS (B : Nat → Int) (L : Nat) (s : rS) : rS := if rwd B L s.1 = 1 then wdS B L s else flS 1 (wS' (wdS B L s)) (wdS B L s)
def plN (B : Nat → Int) (L : Nat) (s : rS) : Int × rS := nmS B L 1 10 (plS B L s)
def plR (m : mz_M) (r L : Nat) (s : rS) : mz_M × rS := (if eS (plN (m (r + 16)) L s).2 = 0 then mz_up m (r + 1) 0 (plN (m (r + 16)) L s).1 else m, (plN (m (r + 16)) L s).2)
theorem plS_le {B : Nat → Int} {L : Nat} {s : rS} (hp : s.1 ≤ L) : (plS B L s).1 ≤ L := by
  have hw := wd_le (B := B) (sk_le (B := B) hp).2
  unfold plS
  split <;> exact hw.2
theorem sp_placesT (m : mz_M) {r L : Nat} (s : rS) (h : byO m r L) (hp : s.1 ≤ L) : sp 278 [mz_r 5 0 r] (rsT m r s) none (rsT (plR m r L s).1 r (plR m r L s).2) := by
  unfold plR plN
  have tail : ∀ D : rS, D = plS (m (r + 16)) L s → sx 278 9 [some (mz_r 5 0 r), none] [] (rsT m r D) none (rsT (if eS (nmS (m (r + 16)) L 1 10 (plS (m (r + 16)) L s)).2 = 0 then mz_up m (r + 1) 0 (nmS (m (r + 16)) L 1 10 (plS (m (r + 16)) L s)).1 else m) r (nmS (m (r + 16)) L 1 10 (plS (m (r + 16)) L s)).2) := by
    intro D hD
    rw [← hD]
    refine mz_vc_ok 60 (ct := fun _ => false) ?_
    simp only [vcS0, vcS1, vcS2, vcS3, vcS4, vcS5, vcS6, vc_n0, vc_lk, vc_pop, vc_rc, vc_tsw, vc_fr, vc_ar, vc_tb, mz_nx, List.set_cons_zero, List.set_cons_succ, Nat.reduceAdd, Nat.reduceBEq, Nat.reduceEqDiff, Nat.reduceLeDiff, Nat.reduceLT, Nat.reduceMul, Int.reduceToNat, Bool.false_eq_true, Bool.or_self, Bool.or_true, Bool.true_or, Bool.or_false, reduceIte, Option.toList_some, Option.toList_none, List.nil_append, List.cons_append, List.length_cons, List.length_nil, true_and, and_true, Int.cast_ofNat_Int, Int.reduceEq, Int.reduceLT, Int.reduceLE, Nat.zero_le, and_self, or_true, true_or, cdS_278]
    refine ⟨_, _, sp_numT m D 1 10 h, ?_⟩
    simp only [vcS0, vcS1, vcS2, vcS3, vcS4, vcS5, vcS6, vc_n0, vc_lk, vc_pop, vc_rc, vc_tsw, vc_fr, vc_ar, vc_tb, mz_nx, List.set_cons_zero, List.set_cons_succ, Nat.reduceAdd, Nat.reduceBEq, Nat.reduceEqDiff, Nat.reduceLeDiff, Nat.reduceLT, Nat.reduceMul, Int.reduceToNat, Bool.false_eq_true, Bool.or_self, Bool.or_true, Bool.true_or, Bool.or_false, reduceIte, Option.toList_some, Option.toList_none, List.nil_append, List.cons_append, List.length_cons, List.length_nil, true_and, and_true, Int.cast_ofNat_Int, Int.reduceEq, Int.reduceLT, Int.reduceLE, Nat.zero_le, and_self, or_true, true_or, cdS_278]
    generalize nmS (m (r + 16)) L 1 10 D = F
    rw [rsT_6]
    by_cases he : eS F.2 = 0
    · rw [if_pos he, if_pos he, rsT_up (by omega)]
    · rw [if_neg he, if_neg he]
  refine mz_cl_vc 60 (fun i => i == 9) [some (mz_r 5 0 r), none] rfl ?_
  simp only [vcS0, vcS1, vcS2, vcS3, vcS4, vcS5, vcS6, vc_n0, vc_lk, vc_pop, vc_rc, vc_tsw, vc_fr, vc_ar, vc_tb, mz_nx, List.set_cons_zero, List.set_cons_succ, Nat.reduceAdd, Nat.reduceBEq, Nat.reduceEqDiff, Nat.reduceLeDiff, Nat.reduceLT, Nat.reduceMul, Int.reduceToNat, Bool.false_eq_true, Bool.or_self, Bool.or_true, Bool.true_or, Bool.or_false, reduceIte, Option.toList_some, Option.toList_none, List.nil_append, List.cons_append, List.length_cons, List.length_nil, true_and, and_true, Int.cast_ofNat_Int, Int.reduceEq, Int.reduceLT, Int.reduceLE, Nat.zero_le, and_self, or_true, true_or, cdS_278]
  refine ⟨_, _, sp_wordT m s h.1 hp, ?_⟩
  simp only [vcS0, vcS1, vcS2, vcS3, vcS4, vcS5, vcS6, vc_n0, vc_lk, vc_pop, vc_rc, vc_tsw, vc_fr, vc_ar, vc_tb, mz_nx, List.set_cons_zero, List.set_cons_succ, Nat.reduceAdd, Nat.reduceBEq, Nat.reduceEqDiff, Nat.reduceLeDiff, Nat.reduceLT, Nat.reduceMul, Int.reduceToNat, Bool.false_eq_true, Bool.or_self, Bool.or_true, Bool.true_or, Bool.or_false, reduceIte, Option.toList_some, Option.toList_none, List.nil_append, List.cons_append, List.length_cons, List.length_nil, true_and, and_true, Int.cast_ofNat_Int, Int.reduceEq, Int.reduceLT, Int.reduceLE, Nat.zero_le, and_self, or_true, true_or, cdS_278]
  by_cases hv : rwd (m (r + 16)) L s.1 = 1
  · rw [if_pos hv]
    exact tail _ (by unfold plS; rw [if_pos hv]; rfl)
  · rw [if_neg hv, show rsT m r (wd (m (r + 16)) L (sk (m (r + 16)) L s.1), nS s, ((sk (m (r + 16)) L s.1 : Nat) : Int), eS s, aS s) = rsT m r (wdS (m (r + 16)) L s) from rfl, rsT_5]
    refine ⟨_, _, sp_failT m _ _ _, ?_⟩
    simp only [vcS0, vcS1, vcS2, vcS3, vcS4, vcS5, vcS6, vc_n0, vc_lk, vc_pop, vc_rc, vc_tsw, vc_fr, vc_ar, vc_tb, mz_nx, List.set_cons_zero, List.set_cons_succ, Nat.reduceAdd, Nat.reduceBEq, Nat.reduceEqDiff, Nat.reduceLeDiff, Nat.reduceLT, Nat.reduceMul, Int.reduceToNat, Bool.false_eq_true, Bool.or_self, Bool.or_true, Bool.true_or, Bool.or_false, reduceIte, Option.toList_some, Option.toList_none, List.nil_append, List.cons_append, List.length_cons, List.length_nil, true_and, and_true, Int.cast_ofNat_Int, Int.reduceEq, Int.reduceLT, Int.reduceLE, Nat.zero_le, and_self, or_true, true_or, cdS_278]
    exact tail _ (by unfold plS; rw [if_neg hv])
def s00 (n w : Int) : rS := (0, n, w, 0, 0)
def rbA (m : mz_M) (r L : Nat) : mz_M × rS := plR (tC (r + 1) m) r L (s00 (m r 4) (m r 5))
def rbB (m : mz_M) (r L : Nat) : mz_M × rS := rbL r L 600 (rbA m r L).1 (spS (m (r + 16)) L (rbA m r L).2)
def rbF (m : mz_M) (r L : Nat) : mz_M := mz_up (rsT (rowS (rbB m r L).1 (r + 6) 100 (fwT ((rbB m r L).1 (r + 5)))) r (rbB m r L).2) r 2 0
theorem tC_o {w a j : Nat} {m : mz_M} (h : a < w ∨ w + 14 < a) : tC w m a j = m a j := by
  unfold tC
  rw [if_neg (by omega), if_neg (by omega), if_neg (by omega), if_neg (by omega), if_neg (by omega), if_neg (by omega), if_neg (by omega), if_neg (by omega)]
theorem rowS_T {m : mz_M} {r o n : Nat} {T : Nat → Int} {s : rS} (h : o ≠ r) : rowS (rsT m r s) o n T = rsT (rowS m o n T) r s := by
  funext a j
  unfold rsT rowS rs
  grind
theorem rbA_ok {m : mz_M} {r L : Nat} (h : byO m r L) : (rdOk (rbA m r L).1 r L ∧ frO m (rbA m r L).1 r) ∧ (rbA m r L).2.1 ≤ L := by
  have hb : byO (tC (r + 1) m) r L := by
    refine ⟨⟨?_, h.1.2⟩, fun i hi => ?_⟩
    · rw [tC_o (by omega)]; exact h.1.1
    · rw [tC_o (by omega)]; exact h.2 i hi
  have h0 : rdOk (tC (r + 1) m) r L := by
    refine ⟨hb, ?_, ?_, fun i hi => ?_⟩
    · simp [tC]
    · simp [tC]
    · simp [tC, hi]
  have hf : frO m (tC (r + 1) m) r := fun a j ha => tC_o (by omega)
  have hn := nmS_ok (B := tC (r + 1) m (r + 16)) (lo := 1) (hi := 10) (plS_le (B := tC (r + 1) m (r + 16)) (s := s00 (m r 4) (m r 5)) (L := L) (Nat.zero_le _))
  unfold rbA plR
  refine ⟨?_, hn.1⟩
  simp only
  split
  · rename_i he
    have g := hn.2.1 he
    refine ⟨⟨⟨⟨?_, h.1.2⟩, fun i hi => ?_⟩, ?_, ?_, fun i hi => ?_⟩, fun a j ha => ?_⟩
    · rw [up_o (by omega)]; exact hb.1.1
    · rw [up_o (by omega)]; exact hb.2 i hi
    · rw [up_s]; exact g.2
    · rw [up_k (by omega)]; exact h0.2.2.1
    · rw [up_o (by omega)]; exact h0.2.2.2 i hi
    · rw [up_o (by omega)]; exact hf a j ha
  · exact ⟨h0, hf⟩
