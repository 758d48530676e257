/-! Both objects: rates, bytes, a statement that is read. -/
theorem RW_env {m m' : mz_M} {u N : Nat} {V V' : Nat → Int} (h : RW m u V N) (ht : twnR m' u V') (hi : timR m' u V') (e : ∀ a, a = u + 1 ∨ a = u + 4 ∨ (u + 17 ≤ a ∧ a < u + 22) ∨ (u + 24 ≤ a ∧ a < u + 40) → m' a = m a) (eV : ∀ j, 333 ≤ j → j < 2430 → V' j = V j) : RW m' u V' N := by
  obtain ⟨h1, h2, h3, h4, ⟨h5, h6, h7⟩, h8⟩ := h
  have em : ∀ i w, i < 372 → w < 5 → me V' i w = me V i w := fun i w hi hw => eV _ (by omega) (by omega)
  have ec : ∀ c w, c < 16 → w < 6 → mc V' c w = mc V c w := fun c w hc hw => eV _ (by omega) (by omega)
  have eT : ∀ n c, n ≤ 372 → mTc V' n c = mTc V n c := fun n c hn => sm_congr fun i hi => by rw [em i 1 (by omega) (by omega), em i 2 (by omega) (by omega)]
  have eU : ∀ c, sm (mUA V' c) N = sm (mUA V c) N := fun c => sm_congr fun i hi => by unfold mUA; rw [em i 1 (by omega) (by omega), em i 2 (by omega) (by omega), em i 3 (by omega) (by omega), em i 4 (by omega) (by omega)]
  have etk : ∀ (c : Int) (r j : Nat) (q : Int), j + r ≤ 372 → tke (fun i => me V' i 1 = 4 ∧ me V' i 2 = c) r j q = tke (fun i => me V i 1 = 4 ∧ me V i 2 = c) r j q := by
    intro c r
    induction r with
    | zero => intros; rfl
    | succ r ih =>
      intro j q hj
      unfold tke
      rw [em j 1 (by omega) (by omega), em j 2 (by omega) (by omega), ih (j + 1) (q - 1) (by omega), ih (j + 1) q (by omega)]
  refine ⟨ht, hi, fun p hp => ?_, fun c hc => ?_, ⟨?_, ?_, h7⟩, fun i hi => ?_⟩
  · have : sm (pnd m' u p) 16 = sm (pnd m u p) 16 := sm_congr fun i hi => by unfold pnd; rw [e _ (by omega)]
    rw [this, e (u + 4) (by omega)]
    exact h3 p hp
  · have hcc := carR_congr (m' := m') (by rw [e (u + 1) (by omega)]) (e _ (by omega)) (h4 c hc)
    unfold carR at hcc ⊢
    rw [ec c 0 hc (by omega), ec c 1 hc (by omega), ec c 2 hc (by omega), ec c 3 hc (by omega), ec c 4 hc (by omega), ec c 5 hc (by omega), eT N c h7, eU, etk c N 0 _ (by omega)]
    refine ⟨hcc.1, hcc.2.1, ⟨hcc.2.2.1.1, hcc.2.2.1.2.1, hcc.2.2.1.2.2.1, fun i hi => ?_⟩, fun q => ?_⟩
    · have := tke_lt _ _ _ _ hi
      rw [em i 0 (by omega) (by omega)]
      exact hcc.2.2.1.2.2.2 i hi
    · obtain ⟨j, j1, j2, j3⟩ := hcc.2.2.2 q
      exact ⟨j, j1, by rw [em j 1 (by omega) (by omega)]; exact j2, by rw [em j 2 (by omega) (by omega)]; exact j3⟩
  · rw [e (u + 17) (by omega)]; exact h5
  · rw [eV _ (by omega) (by omega)]; exact h6
  · have hee := entR_congr (m' := m') (by rw [e (u + 1) (by omega)]) (fun a q1 q2 => by rw [e a (by omega)]) (fun c hc => by rw [e _ (by omega)]) (h8 i hi)
    unfold entR at hee ⊢
    rw [em i 0 (by omega) (by omega), em i 1 (by omega) (by omega), em i 2 (by omega) (by omega), em i 3 (by omega) (by omega), em i 4 (by omega) (by omega), eT i _ (by omega)]
    refine ⟨hee.1, hee.2.1, fun q => ?_, hee.2.2.2⟩
    obtain ⟨j, j1, j2, j3⟩ := hee.2.2.1 q
    exact ⟨j, j1, by rw [em j 1 (by omega) (by omega)]; exact j2, by rw [em j 2 (by omega) (by omega)]; exact j3⟩
theorem RW_rate {m : mz_M} {u N z x : Nat} {V : Nat → Int} {v : Int} (h : RW m u V N) (hz : z < 4) (hx : x < 24) (hv : 0 ≤ v ∧ v ≤ 999) : RW (mz_up m (u + 9 + 2 * z) x v) u (vU V (233 + 24 * z + x) v) N := by
  have t := h.1
  have ti := h.2.1
  refine RW_env h ?_ ?_ (fun a ha => by funext j; exact up_o (by omega)) (fun j h1 h2 => vU_n (by omega))
  · obtain ⟨⟨a1, a2, a3, a4, a5, a6, a7⟩, ⟨b1, b2, b3, b4⟩, c⟩ := t
    have e : ∀ a, a ≠ u + 9 + 2 * z → mz_up m (u + 9 + 2 * z) x v a = m a := fun a ha => by funext j; exact up_o ha
    unfold twnR tW tE
    rw [e (u + 1) (by omega), e (u + 1 + 3) (by omega), e (u + 1 + 1) (by omega), e (u + 1 + 2) (by omega), e (u + 1 + 4) (by omega), e (u + 6) (by omega)]
    refine ⟨⟨a1, a2, a3, a4, a5, a6, fun y hy => ?_⟩, ⟨?_, fun p hp => ?_, fun j hj => ?_, fun y hy => ⟨?_, fun k hk => ?_⟩⟩, fun j hj => ?_⟩
    · rw [e (u + 1 + 7 + 2 * y) (by omega)]
      refine ⟨(a7 y hy).1, fun k hk => ?_⟩
      rw [up_at]
      split
      · exact hv
      · exact (a7 y hy).2 k hk
    · rw [vU_n (by omega)]; exact b1
    · rw [vU_n (by omega), vU_n (by omega), vU_n (by omega)]; exact b2 p hp
    · rw [vU_n (by omega)]; exact b3 j hj
    · rw [vU_n (by omega), e _ (by omega)]; exact (b4 y hy).1
    · rw [up_at]
      by_cases q : y = z ∧ k = x
      · rw [if_pos (by omega), vU_e (by omega)]
      · rw [if_neg (by omega), vU_n (by omega)]; exact (b4 y hy).2 k hk
    · rw [vU_n (by omega)]; exact c j hj
  · unfold timR at ti ⊢
    simp (disch := omega) only [up_o, vU_n]
    exact ti
theorem b_setRate {m : mz_M} (h : Rel m) (z x c : Int) : both 93 180 [mz_i z, mz_i x, mz_i c] m := by
  obtain ⟨N, hw⟩ := h.1
  have h1 := sp_X8_setRate m z x c
  by_cases hx : (0 ≤ z ∧ z ≤ 3) ∧ (0 ≤ x ∧ x ≤ 23) ∧ 0 ≤ c ∧ c ≤ 999
  · rw [if_pos hx, if_pos hx] at h1
    obtain ⟨y, rfl⟩ := nat_i hx.1.1
    obtain ⟨k, rfl⟩ := nat_i hx.2.1.1
    simp only [Int.toNat_natCast] at h1
    have h2 := sp_X9_setRate (mz_up m (19 + 7 + 2 * y + 1) k c) y k c
    rw [if_pos hx, if_pos hx] at h2
    simp only [Int.toNat_natCast] at h2
    have e1 : mz_up m (19 + 7 + 2 * y + 1) k c 154 = m 154 := by funext j; exact up_o (by omega)
    rw [e1] at h2
    have g := (hw.1.2.1.2.2.2 y (by omega)).2 k (by omega)
    have e2 : mR (m 154) y k = m (19 + 7 + 2 * y + 1) k := by
      show m 154 (233 + 24 * y + k) = _
      rw [g, show 18 + 1 + 8 + 2 * y = 19 + 7 + 2 * y + 1 by omega]
    rw [e2] at h2
    have hr := RW_rate hw (show y < 4 by omega) (show k < 24 by omega) hx.2.2
    rw [show 18 + 9 + 2 * y = 19 + 7 + 2 * y + 1 by omega] at hr
    have hs : spR (mz_up m (19 + 7 + 2 * y + 1) k c) 18 := by
      refine spR_le h.2.2.2.2.1 (by funext j; exact up_o (by omega)) (fun i p hi hp q => ?_)
      unfold cos at q ⊢
      rw [up_o (by omega), up_o (by omega)] at q
      exact q
    have mv := Rel_move h (m1 := mz_up m (19 + 7 + 2 * y + 1) k c) (fun a ha => by funext j; exact up_o (by omega)) hr hs
    refine ⟨_, _, _, h1, h2, ?_⟩
    have e3 : mz_up (mz_up (mz_up m (19 + 7 + 2 * y + 1) k c) 153 4 0) 154 (233 + 24 * y + k) c = rM (mz_up (mz_up m (19 + 7 + 2 * y + 1) k c) 153 4 0) (vU (m 154) (233 + 24 * y + k) c) := by
      funext a j
      unfold rM vU mz_up
      grind
    rw [e3]
    exact mv
  · rw [if_neg hx, if_neg hx] at h1
    have h2 := sp_X9_setRate m z x c
    rw [if_neg hx, if_neg hx] at h2
    exact b_read h h1 h2 rfl
theorem sp_X9_appendByte (m : mz_M) {L : Nat} (v : Int) (h : m 153 6 = L) (hL : L ≤ 600) : sp 98 [mz_r 9 0 153, mz_i v] m (some (mz_i (if (0 ≤ v ∧ v ≤ 255) ∧ L < 600 then (L : Int) + 1 else -1))) (if (0 ≤ v ∧ v ≤ 255) ∧ L < 600 then mz_up (mz_up (mz_up m 153 4 0) 158 L (mz_i2b v)) 153 6 (L + 1) else mz_up m 153 4 0) := by
  refine mz_cl_vc 60 (fun _ => false) [some (mz_r 9 0 153), some (mz_i v)] rfl ?_
  simp only [vcS0, vcS1, vcS2, vcS3, vcS4, vcS5, vcS6, vc_n0, vc_lk, vc_pop, vc_rc, vc_tsw, vc_fr, vc_ar, vc_tb, mz_nx, List.set_cons_zero, List.set_cons_succ, Nat.reduceAdd, Nat.reduceBEq, Nat.reduceEqDiff, Nat.reduceLeDiff, Nat.reduceLT, Nat.reduceMul, Int.reduceToNat, Bool.false_eq_true, Bool.or_self, Bool.or_true, Bool.true_or, Bool.or_false, reduceIte, Option.toList_some, Option.toList_none, List.nil_append, List.cons_append, List.length_cons, List.length_nil, true_and, and_true, Int.cast_ofNat_Int, Int.reduceEq, Int.reduceLT, Int.reduceLE, Nat.zero_le, and_self, or_true, true_or, cdS_98]
  refine ⟨_, _, sp_in _ v 0 255, ?_⟩
  by_cases h1 : 0 ≤ v ∧ v ≤ 255
  · rw [if_pos h1]
    simp only [vcS0, vcS1, vcS2, vcS3, vcS4, vcS5, vcS6, vc_n0, vc_lk, vc_pop, vc_rc, vc_tsw, vc_fr, vc_ar, vc_tb, mz_nx, List.set_cons_zero, List.set_cons_succ, Nat.reduceAdd, Nat.reduceBEq, Nat.reduceEqDiff, Nat.reduceLeDiff, Nat.reduceLT, Nat.reduceMul, Int.reduceToNat, Bool.false_eq_true, Bool.or_self, Bool.or_true, Bool.true_or, Bool.or_false, reduceIte, Option.toList_some, Option.toList_none, List.nil_append, List.cons_append, List.length_cons, List.length_nil, true_and, and_true, Int.cast_ofNat_Int, Int.reduceEq, Int.reduceLT, Int.reduceLE, Nat.zero_le, and_self, or_true, true_or, cdS_98]
    have e1 : mz_up m 153 4 0 153 6 = L := by rw [up_k (by omega)]; exact h
    have e2 : ∀ j w, mz_up (mz_up m 153 4 0) 158 j w 153 6 = L := fun j w => by rw [up_o (by omega)]; exact e1
    simp only [e1, e2, up_s, Int.toNat_natCast]
    have hb : -128 ≤ mz_i2b v ∧ mz_i2b v ≤ 127 := by
      unfold mz_i2b
      rw [Int8.toInt_toInt32]
      exact ⟨Int8.le_toInt _, Int8.toInt_le _⟩
    by_cases q : L < 600
    · rw [if_neg (by omega), if_pos ⟨h1, q⟩, if_pos ⟨h1, q⟩]
      exact ⟨by omega, hb, by unfold mz_w; omega, rfl, rfl⟩
    · rw [if_pos (by omega), if_neg (fun y => q y.2), if_neg (fun y => q y.2)]
      exact ⟨rfl, rfl⟩
  · rw [if_neg h1, if_neg (fun q => h1 q.1), if_neg (fun q => h1 q.1)]
    simp only [vcS0, vcS1, vcS2, vcS3, vcS4, vcS5, vcS6, vc_n0, vc_lk, vc_pop, vc_rc, vc_tsw, vc_fr, vc_ar, vc_tb, mz_nx, List.set_cons_zero, List.set_cons_succ, Nat.reduceAdd, Nat.reduceBEq, Nat.reduceEqDiff, Nat.reduceLeDiff, Nat.reduceLT, Nat.reduceMul, Int.reduceToNat, Bool.false_eq_true, Bool.or_self, Bool.or_true, Bool.true_or, Bool.or_false, reduceIte, Option.toList_some, Option.toList_none, List.nil_append, List.cons_append, List.length_cons, List.length_nil, true_and, and_true, Int.cast_ofNat_Int, Int.reduceEq, Int.reduceLT, Int.reduceLE, Nat.zero_le, and_self, or_true, true_or, cdS_98]
theorem b_append {m : mz_M} (h : Rel m) (v : Int) : both 145 98 [mz_i v] m := by
  obtain ⟨L, r1, r2, r3, r4, r5, r6⟩ := h.2.2.1
  have h1 := sp_X8_appendByte m v r1 r2
  by_cases hx : (0 ≤ v ∧ v ≤ 255) ∧ L < 600
  · rw [if_pos hx, if_pos hx] at h1
    have h2 := sp_X9_appendByte (mz_up (mz_up m 17 L v) 1 2 (L + 1)) v (L := L) (by rw [up_o (by omega), up_o (by omega)]; exact r3) r2
    rw [if_pos hx, if_pos hx] at h2
    refine ⟨_, _, _, h1, h2, ?_⟩
    have F : ∀ a, a ≠ 1 → a ≠ 17 → a ≠ 153 → a ≠ 158 → mz_up (mz_up (mz_up (mz_up (mz_up m 17 L v) 1 2 (L + 1)) 153 4 0) 158 L (mz_i2b v)) 153 6 (L + 1) a = m a := fun a q1 q2 q3 q4 => by
      funext j
      simp (disch := omega) only [up_o]
    have e12 : mz_up (mz_up (mz_up (mz_up (mz_up m 17 L v) 1 2 (L + 1)) 153 4 0) 158 L (mz_i2b v)) 153 6 (L + 1) 1 2 = ((L + 1 : Nat) : Int) := by
      simp (disch := omega) only [up_o, up_s]
      omega
    have e16 : mz_up (mz_up (mz_up (mz_up (mz_up m 17 L v) 1 2 (L + 1)) 153 4 0) 158 L (mz_i2b v)) 153 6 (L + 1) 1 6 = m 1 6 := by
      simp (disch := omega) only [up_o, up_k]
    have e6 : mz_up (mz_up (mz_up (mz_up (mz_up m 17 L v) 1 2 (L + 1)) 153 4 0) 158 L (mz_i2b v)) 153 6 (L + 1) 153 6 = ((L + 1 : Nat) : Int) := by
      simp (disch := omega) only [up_s]
      omega
    have e8 : ∀ j, j ≠ 4 → j ≠ 6 → mz_up (mz_up (mz_up (mz_up (mz_up m 17 L v) 1 2 (L + 1)) 153 4 0) 158 L (mz_i2b v)) 153 6 (L + 1) 153 j = m 153 j := fun j q1 q2 => by
      simp (disch := omega) only [up_o, up_k]
    have e17 : ∀ j, mz_up (mz_up (mz_up (mz_up (mz_up m 17 L v) 1 2 (L + 1)) 153 4 0) 158 L (mz_i2b v)) 153 6 (L + 1) 17 j = if j = L then v else m 17 j := fun j => by
      simp (disch := omega) only [up_o]
      rw [up_at]
      simp
    have e158 : ∀ j, mz_up (mz_up (mz_up (mz_up (mz_up m 17 L v) 1 2 (L + 1)) 153 4 0) 158 L (mz_i2b v)) 153 6 (L + 1) 158 j = if j = L then mz_i2b v else m 158 j := fun j => by
      rw [up_o (by omega), up_at]
      simp (disch := omega) only [up_o]
      simp
    generalize mz_up (mz_up (mz_up (mz_up (mz_up m 17 L v) 1 2 (L + 1)) 153 4 0) 158 L (mz_i2b v)) 153 6 (L + 1) = M at F e12 e16 e6 e8 e17 e158 ⊢
    obtain ⟨⟨N, hw⟩, ⟨s0, s1⟩, hr, sc⟩ := h
    have f : ∀ a, (59 ≤ a ∧ a < 140) ∨ a = 156 ∨ a = 157 → M a = m a := fun a ha => F a (by omega) (by omega) (by omega) (by omega)
    refine ⟨⟨N, ?_⟩, ⟨slR_frame (by omega) s0 f, slR_frame (by omega) s1 f⟩, ⟨L + 1, e12, by omega, e6, fun j hj => ?_, ?_, ?_⟩, scR_frame sc fun a ha => F a (by omega) (by omega) (by omega) (by omega)⟩
    · rw [F 154 (by omega) (by omega) (by omega) (by omega)]
      exact RW_congr (fun a q1 q2 q3 q4 => F a (by omega) (by omega) (by omega) (by omega)) (fun _ _ => rfl) hw
    · rw [e17, e158]
      by_cases q : j = L
      · rw [if_pos q, if_pos q]; exact ⟨hx.1, rfl⟩
      · rw [if_neg q, if_neg q]; exact r4 j (by omega)
    · rw [e16, e8 11 (by omega) (by omega)]; exact r5
    · rw [e8 8 (by omega) (by omega)]; exact r6
  · rw [if_neg hx, if_neg hx] at h1
    have h2 := sp_X9_appendByte m v r3 r2
    rw [if_neg hx, if_neg hx] at h2
    exact b_read h h1 h2 rfl
theorem rbL_ok {r L : Nat} : ∀ (k : Nat) (m : mz_M) (s : rS), rdOk m r L → s.1 ≤ L → rdOk (rbL r L k m s).1 r L ∧ frO m (rbL r L k m s).1 r := by
  intro k
  induction k with
  | zero => intro m s h _; exact ⟨h, frO_rfl m r⟩
  | succ k ih =>
    intro m s h hp
    unfold rbL
    split
    · rename_i q
      have h2 := stR_ok h (smS_le (B := m (r + 16)) q.2)
      have i1 := ih _ (spS (m (r + 16)) L (stR m r L (smS (m (r + 16)) L s)).2) h2.1.1 (sk_le h2.2.1).2
      exact ⟨i1.1, frO_tr h2.1.2 i1.2⟩
    · exact ⟨h, frO_rfl m r⟩
theorem rbB_ok {m : mz_M} {r L : Nat} (h : byO m r L) : rdOk (rbB m r L).1 r L ∧ frO m (rbB m r L).1 r := by
  have a := rbA_ok h
  have b := rbL_ok (r := r) (L := L) 600 (rbA m r L).1 (spS (m (r + 16)) L (rbA m r L).2) a.1.1 (sk_le a.2).2
  exact ⟨b.1, frO_tr a.1.2 b.2⟩
theorem rbF_1 {m : mz_M} {L : Nat} : rbF m 1 L 1 6 = eS (rbB m 1 L).2 ∧ rbF m 1 L 1 7 = aS (rbB m 1 L).2 ∧ rbF m 1 L 1 2 = 0 := by
  unfold rbF
  refine ⟨?_, ?_, ?_⟩
  · rw [up_k (by omega), rsT_6]
  · rw [up_k (by omega), rsT_7]
  · rw [up_s]
theorem rbF_o {m : mz_M} {L a : Nat} (h : byO m 1 L) (ha : a < 1 ∨ 16 < a) : rbF m 1 L a = m a := by
  funext j
  unfold rbF
  rw [up_o (by omega), rsT_o (by omega), rowS_o (by omega)]
  exact (rbB_ok h).2 a j (by omega)
theorem rbF_t {m : mz_M} {L a j : Nat} (h : 2 ≤ a ∧ a ≤ 16) (h7 : a ≠ 7) : rbF m 1 L a j = (rbB m 1 L).1 a j := by
  unfold rbF
  rw [up_o (by omega), rsT_o (by omega), rowS_o (by omega)]
theorem rbF_7 {m : mz_M} {L j : Nat} (h : j < 100) : rbF m 1 L 7 j = fwT ((rbB m 1 L).1 6) j := by
  unfold rbF
  rw [up_o (by omega), rsT_o (by omega)]
  exact rowS_at h
theorem sp_X8_load2 (m : mz_M) {L : Nat} (h : byO m 1 L) (hE : rbF m 1 L 1 6 ≠ 0 → 0 ≤ rbF m 1 L 1 7 ∧ rbF m 1 L 1 7 ≤ 1000) : sp 292 [mz_r 8 0 0] m (some (mz_i (if rbF m 1 L 1 6 = 0 then bgS 18 2 (rbF m 1 L) 19 0 else -100 - rbF m 1 L 1 7))) (if rbF m 1 L 1 6 = 0 then bgS 18 2 (rbF m 1 L) else rbF m 1 L) := by
  refine mz_cl_vc 40 (fun _ => false) [some (mz_r 8 0 0)] rfl ?_
  simp only [vcS0, vcS1, vcS2, vcS3, vcS4, vcS5, vcS6, vc_n0, vc_lk, vc_pop, vc_rc, vc_tsw, vc_fr, vc_ar, vc_tb, mz_nx, List.set_cons_zero, List.set_cons_succ, Nat.reduceAdd, Nat.reduceBEq, Nat.reduceEqDiff, Nat.reduceLeDiff, Nat.reduceLT, Nat.reduceMul, Int.reduceToNat, Bool.false_eq_true, Bool.or_self, Bool.or_true, Bool.true_or, Bool.or_false, reduceIte, Option.toList_some, Option.toList_none, List.nil_append, List.cons_append, List.length_cons, List.length_nil, true_and, and_true, Int.cast_ofNat_Int, Int.reduceEq, Int.reduceLT, Int.reduceLE, Nat.zero_le, and_self, or_true, true_or, cdS_292]
  refine ⟨_, _, sp_readBuffer m h, ?_⟩
  simp only [vcS0, vcS1, vcS2, vcS3, vcS4, vcS5, vcS6, vc_n0, vc_lk, vc_pop, vc_rc, vc_tsw, vc_fr, vc_ar, vc_tb, mz_nx, List.set_cons_zero, List.set_cons_succ, Nat.reduceAdd, Nat.reduceBEq, Nat.reduceEqDiff, Nat.reduceLeDiff, Nat.reduceLT, Nat.reduceMul, Int.reduceToNat, Bool.false_eq_true, Bool.or_self, Bool.or_true, Bool.true_or, Bool.or_false, reduceIte, Option.toList_some, Option.toList_none, List.nil_append, List.cons_append, List.length_cons, List.length_nil, true_and, and_true, Int.cast_ofNat_Int, Int.reduceEq, Int.reduceLT, Int.reduceLE, Nat.zero_le, and_self, or_true, true_or, cdS_292]
  by_cases h1 : rbF m 1 L 1 6 = 0
  · rw [if_pos h1, if_pos h1, if_pos h1]
    refine ⟨_, _, sp_begin _ (u := 18) (v := 2) (by omega), ?_⟩
    simp only [vcS0, vcS1, vcS2, vcS3, vcS4, vcS5, vcS6, vc_n0, vc_lk, vc_pop, vc_rc, vc_tsw, vc_fr, vc_ar, vc_tb, mz_nx, List.set_cons_zero, List.set_cons_succ, Nat.reduceAdd, Nat.reduceBEq, Nat.reduceEqDiff, Nat.reduceLeDiff, Nat.reduceLT, Nat.reduceMul, Int.reduceToNat, Bool.false_eq_true, Bool.or_self, Bool.or_true, Bool.true_or, Bool.or_false, reduceIte, Option.toList_some, Option.toList_none, List.nil_append, List.cons_append, List.length_cons, List.length_nil, true_and, and_true, Int.cast_ofNat_Int, Int.reduceEq, Int.reduceLT, Int.reduceLE, Nat.zero_le, and_self, or_true, true_or, cdS_292]
  · have hE := hE h1
    rw [if_neg h1, if_neg h1, if_neg h1]
    exact ⟨(by unfold mz_w; omega), rfl, rfl⟩
/-- a world that begins -/
theorem bgS_t {m : mz_M} {u v b j : Nat} (hb : tIn b j) : bgS u v m (u + 1 + b) j = m (v + b) j := by
  have h15 : b < 15 := by unfold tIn at hb; omega
  unfold bgS
  rw [up_o (by omega), up_o (by omega), up_o (by omega)]
  unfold clS
  rw [if_neg (by omega)]
  unfold tCp
  rw [if_pos ⟨by omega, by rw [show u + 1 + b - (u + 1) = b by omega]; exact hb⟩, show u + 1 + b - (u + 1) = b by omega]
theorem bgS_c {m : mz_M} {u v c w : Nat} (hc : c < 16) (hw : w < 11) : bgS u v m (u + 24 + c) w = if w = 0 then m (u + 24 + c) 0 else 0 := by
  unfold bgS
  rw [up_o (by omega), up_o (by omega), up_o (by omega)]
  unfold clS
  by_cases q : w = 0
  · subst q
    rw [if_neg (by omega), if_pos rfl, tCp_o (by omega)]
  · rw [if_pos (by omega), if_neg q]
theorem bgS_o {m : mz_M} {u v a : Nat} (h : a < u ∨ u + 40 ≤ a) : bgS u v m a = m a := by
  funext j
  unfold bgS
  rw [up_o (by omega), up_o (by omega), up_o (by omega)]
  unfold clS
  rw [if_neg (by omega), tCp_o (by omega)]
theorem bgS_3 {m : mz_M} {u v : Nat} : bgS u v m u 3 = 0 ∧ bgS u v m u 4 = m v 2 ∧ bgS u v m (u + 17) 0 = 0 := by
  unfold bgS
  refine ⟨?_, ?_, ?_⟩
  · rw [up_k (by omega), up_s]
  · rw [up_s]
    unfold clS
    rw [if_neg (by omega)]
    unfold tCp
    rw [if_pos ⟨by omega, by rw [show u + 1 - (u + 1) = 0 by omega]; unfold tIn; omega⟩, show v + (u + 1 - (u + 1)) = v by omega]
  · rw [up_o (by omega), up_o (by omega), up_s]
theorem RW_begin {m : mz_M} {u v : Nat} {R : Nat → Int} (hu : cnO m u) (hq : tQ m v R) (h5 : ∀ j, j < 100 → m (v + 5) j = fwT (m (v + 4)) j) : RW (bgS u v m) u (fnV R) 0 := by
  obtain ⟨⟨a1, a2, a3, a4, a5, a6, a7⟩, ⟨b1, b2, b3, b4⟩, hz, h1⟩ := hq
  obtain ⟨e3, e4, e17⟩ := bgS_3 (m := m) (u := u) (v := v)
  have t0 : ∀ j, j < 3 → bgS u v m (u + 1) j = m v j := fun j hj => bgS_t (b := 0) (by unfold tIn; omega)
  have t1 : ∀ j, j < 10 → bgS u v m (u + 1 + 1) j = m (v + 1) j := fun j hj => bgS_t (by unfold tIn; omega)
  have t2 : ∀ j, j < 10 → bgS u v m (u + 1 + 2) j = m (v + 2) j := fun j hj => bgS_t (by unfold tIn; omega)
  have t3 : ∀ j, j < 10 → bgS u v m (u + 1 + 3) j = m (v + 3) j := fun j hj => bgS_t (by unfold tIn; omega)
  have t4 : ∀ j, j < 100 → bgS u v m (u + 1 + 4) j = m (v + 4) j := fun j hj => bgS_t (by unfold tIn; omega)
  have t5 : ∀ j, j < 100 → bgS u v m (u + 1 + 5) j = m (v + 5) j := fun j hj => bgS_t (by unfold tIn; omega)
  have tz : ∀ z, z < 4 → bgS u v m (u + 1 + 7 + 2 * z) 1 = m (v + 7 + 2 * z) 1 := fun z hz => by
    have := bgS_t (m := m) (u := u) (v := v) (b := 7 + 2 * z) (j := 1) (by unfold tIn; omega)
    rw [show u + 1 + 7 + 2 * z = u + 1 + (7 + 2 * z) by omega, show v + 7 + 2 * z = v + (7 + 2 * z) by omega]
    exact this
  have tr : ∀ z h, z < 4 → h < 24 → bgS u v m (u + 1 + 8 + 2 * z) h = m (v + 8 + 2 * z) h := fun z h hz hh => by
    have := bgS_t (m := m) (u := u) (v := v) (b := 8 + 2 * z) (j := h) (by unfold tIn; omega)
    rw [show u + 1 + 8 + 2 * z = u + 1 + (8 + 2 * z) by omega, show v + 8 + 2 * z = v + (8 + 2 * z) by omega]
    exact this
  have cz : ∀ c w, c < 16 → 1 ≤ w → w < 11 → bgS u v m (u + 24 + c) w = 0 := fun c w h1 h2 h3 => by rw [bgS_c h1 h3, if_neg (by omega)]
  have sm3 : sm (fun p => if 0 < bgS u v m (u + 1 + 3) p then 1 else 0) 10 = sm (fun p => if 0 < m (v + 3) p then 1 else 0) 10 := sm_congr fun p hp => by rw [t3 p hp]
  have Vo : ∀ j, (j < 103 ∨ 203 ≤ j) → fnV R j = R j := fun j hj => sgV_o hj
  have Vz : ∀ j, 333 ≤ j → j < 2430 → fnV R j = 0 := fun j h1 h2 => by rw [Vo j (by omega)]; exact hz j (by omega)
  refine ⟨⟨⟨?_, ?_, ?_, fun p hp => ?_, fun p hp => ?_, fun j hj => ?_, fun z hz => ⟨?_, fun h hh => ?_⟩⟩, ⟨?_, fun p hp => ?_, fun j hj => ?_, fun z hz => ⟨?_, fun h hh => ?_⟩⟩, fun j hj => ⟨?_, ?_⟩⟩, ⟨⟨?_, ?_⟩, ?_, ?_⟩, fun p hp => ?_, fun c hc => ?_, ⟨⟨?_, ?_, by omega⟩, fun i hi => absurd hi (by omega)⟩⟩
  · rw [t0 0 (by omega)]; exact a1
  · rw [t0 2 (by omega), t0 0 (by omega)]
    rcases a2 with q | q
    · exact Or.inl ⟨q.1, fun p hp => by rw [t3 p hp]; exact q.2 p hp⟩
    · exact Or.inr ⟨q.1, by rw [t3 _ (by omega)]; exact q.2⟩
  · rw [t0 1 (by omega), sm3]; exact a3
  · rw [t3 p hp, t0 0 (by omega)]; exact a4 p hp
  · rw [t1 p hp, t2 p hp]; exact a5 p hp
  · rw [t4 j hj]; exact a6 j hj
  · rw [tz z hz]; exact (a7 z hz).1
  · rw [tr z h hz hh]; exact (a7 z hz).2 h hh
  · rw [t0 0 (by omega), Vo 0 (by omega)]; exact b1
  · rw [t1 p hp, t2 p hp, t3 p hp, Vo _ (by omega), Vo _ (by omega), Vo _ (by omega)]; exact b2 p hp
  · rw [t4 j hj, Vo _ (by omega)]; exact b3 j hj
  · rw [tz z hz, Vo _ (by omega)]; exact (b4 z hz).1
  · rw [tr z h hz hh, Vo _ (by omega)]; exact (b4 z hz).2 h hh
  · show bgS u v m (u + 1 + 5) j = _
    rw [t5 j hj, h5 j hj]
    exact fwT_congr (fun i hi => (t4 i hi).symm) j hj
  · show fnV R (103 + j) = bgS u v m (u + 1 + 5) j
    rw [t5 j hj, h5 j hj]
    unfold fnV
    rw [sgV_at hj]
    exact fwT_congr (fun i hi => b3 i hi) j hj
  · rw [e3, Vo 2 (by omega)]; exact hz 2 (by omega)
  · rw [e3]; omega
  · rw [e4, Vo 1 (by omega)]; exact h1
  · rw [e4, t0 0 (by omega)]
    rcases a2 with q | q
    · exact Or.inl ⟨q.1, fun p hp => by show bgS u v m (u + 1 + 3) p = 0; rw [t3 p hp]; exact q.2 p hp⟩
    · exact Or.inr ⟨q.1, by show 0 < bgS u v m (u + 1 + 3) _; rw [t3 _ (by omega)]; exact q.2⟩
  · show _ ≤ bgS u v m (u + 1 + 3) p
    rw [t3 p hp]
    have : sm (pnd (bgS u v m) u p) 16 = sm (fun _ => 0) 16 := sm_congr fun c hc => by unfold pnd; rw [cz c 1 hc (by omega) (by omega), if_neg (by omega)]
    rw [this, sm_const]
    have := (a4 p hp).1
    omega
  · unfold carR
    rw [cz c 1 hc (by omega) (by omega), cz c 2 hc (by omega) (by omega), cz c 3 hc (by omega) (by omega), cz c 4 hc (by omega) (by omega), cz c 5 hc (by omega) (by omega), cz c 6 hc (by omega) (by omega), cz c 7 hc (by omega) (by omega), cz c 8 hc (by omega) (by omega), cz c 9 hc (by omega) (by omega), cz c 10 hc (by omega) (by omega), t0 0 (by omega)]
    refine ⟨⟨?_, ?_, ?_, ?_, ?_, ?_, ?_⟩, by omega, ⟨⟨rfl, by omega, by omega, by omega⟩, fun _ => by omega, rfl, fun i hi => by cases hi⟩, fun q => absurd rfl q⟩
    · rw [bgS_c hc (by omega), if_pos rfl]; exact hu c hc
    · exact Vz _ (by omega) (by omega)
    · exact Vz _ (by omega) (by omega)
    · exact Vz _ (by omega) (by omega)
    · exact Vz _ (by omega) (by omega)
    · exact Vz _ (by omega) (by omega)
    · exact Vz _ (by omega) (by omega)
  · rw [e17]; rfl
  · rw [Vz _ (by omega) (by omega)]; rfl
theorem spR_begin {m : mz_M} {u v : Nat} (h : ∀ p, p < 10 → 0 ≤ m (v + 2) p) : spR (bgS u v m) u := by
  intro p hp
  have e := bgS_t (m := m) (u := u) (v := v) (b := 2) (j := p) (by unfold tIn; omega)
  show _ ≤ bgS u v m (u + 1 + 2) p
  rw [e]
  have : sm (fun c => if cos (bgS u v m) u p c then (1 : Int) else 0) 16 = sm (fun _ => 0) 16 := sm_congr fun c hc => by
    unfold cos
    rw [bgS_c hc (by omega), bgS_c hc (by omega), if_neg (show ¬ (1 = 0) by omega)]
    rw [if_neg]
    simp only [decide_eq_true_eq]
    omega
  rw [this, sm_const]
  have := h p hp
  omega
theorem b_load {m : mz_M} (h : Rel m) : both 292 285 [] m := by
  obtain ⟨⟨N, hw⟩, ⟨s0, s1⟩, ⟨L, r1, r2, r3, r4, r5, r6⟩, sc⟩ := h
  have hby : byO m 1 L := ⟨⟨r1, r2⟩, fun i hi => (r4 i hi).1⟩
  have haB := (rbA_aB hby).2
  obtain ⟨f6, f7, f2⟩ := rbF_1 (m := m) (L := L)
  have h1 := sp_X8_load2 m hby (fun q => by
    rw [f6] at q
    have := haB q
    rw [f7]
    omega)
  rw [f6, f7] at h1
  have ht := (rbB_ok hby).1
  obtain ⟨b0, hb0⟩ := nat_i r6
  by_cases q : eS (rbB m 1 L).2 = 0
  · rw [if_pos q, if_pos q] at h1
    have g : ∀ a, (a < 1 ∨ (16 < a ∧ a < 18) ∨ 58 ≤ a) → bgS 18 2 (rbF m 1 L) a = m a := fun a ha => by rw [bgS_o (by omega), rbF_o hby (by omega)]
    have g1 : bgS 18 2 (rbF m 1 L) 1 = rbF m 1 L 1 := bgS_o (by omega)
    obtain ⟨M', v, k1, k2, ⟨k3, k4, k5⟩, _, k7⟩ := sp_X9_load (m := bgS 18 2 (rbF m 1 L)) (c := m) (L := L) (b0 := b0) ⟨by rw [g 153 (by omega)]; exact r3, r2, fun j hj => by rw [g 158 (by omega)]; exact ⟨(r4 j hj).2, (r4 j hj).1⟩⟩ hby (by rw [g 153 (by omega)]; exact hb0)
    obtain ⟨R', z1, z2, z3⟩ := k7 q
    have tq : tQ (rbF m 1 L) 2 R' := by
      obtain ⟨⟨a1, a2, a3, a4, a5, a6, a7⟩, ⟨b1, b2, b3, b4⟩, hz, h1⟩ := z1
      have e : ∀ a, 2 ≤ a → a ≤ 16 → a ≠ 7 → rbF m 1 L a = (rbB m 1 L).1 a := fun a q1 q2 q3 => funext fun j => rbF_t ⟨q1, q2⟩ q3
      unfold tQ tW tE
      rw [e 2 (by omega) (by omega) (by omega), e (2 + 3) (by omega) (by omega) (by omega), e (2 + 1) (by omega) (by omega) (by omega), e (2 + 2) (by omega) (by omega) (by omega), e (2 + 4) (by omega) (by omega) (by omega)]
      refine ⟨⟨a1, a2, a3, a4, a5, a6, fun z hz => ?_⟩, ⟨b1, b2, b3, fun z hz => ?_⟩, hz, h1⟩
      · rw [e (2 + 7 + 2 * z) (by omega) (by omega) (by omega), e (2 + 8 + 2 * z) (by omega) (by omega) (by omega)]; exact a7 z hz
      · rw [e (2 + 7 + 2 * z) (by omega) (by omega) (by omega), e (2 + 8 + 2 * z) (by omega) (by omega) (by omega)]; exact b4 z hz
    have hcn : cnO (rbF m 1 L) 18 := fun c hc => by rw [rbF_o hby (by omega)]; exact RW_cnO hw c hc
    have hb := RW_begin (m := rbF m 1 L) (u := 18) (v := 2) hcn tq (fun j hj => by
      show rbF m 1 L 7 j = _
      rw [rbF_7 hj]
      exact fwT_congr (fun i hi => (rbF_t (by omega) (by omega)).symm) j hj)
    have hsp := spR_begin (m := rbF m 1 L) (u := 18) (v := 2) (fun p hp => (tq.1.2.2.2.2.1 p hp).2.1)
    refine ⟨_, _, M', h1, ?_, ?_⟩
    · have e0 : bgS 18 2 (rbF m 1 L) 19 0 = v := by
        have := bgS_t (m := rbF m 1 L) (u := 18) (v := 2) (b := 0) (j := 0) (by unfold tIn; omega)
        rw [show (19 : Nat) = 18 + 1 + 0 from rfl, this, z2]
        exact tq.2.1.1.symm
      rw [e0]
      exact k1
    · have F : ∀ a, (a < 1 ∨ (16 < a ∧ a < 18) ∨ 58 ≤ a) → a ≠ 153 → a ≠ 154 → a ≠ 155 → M' a = m a := fun a q1 q2 q3 q4 => by rw [k2 a q2 q3 q4, g a q1]
      have f : ∀ a, (59 ≤ a ∧ a < 140) ∨ a = 156 ∨ a = 157 → M' a = m a := fun a ha => F a (by omega) (by omega) (by omega) (by omega)
      obtain ⟨⟨c1, c2, c3, c4⟩, c5, c6⟩ := sc
      refine ⟨⟨0, ?_⟩, ⟨slR_frame (by omega) s0 f, slR_frame (by omega) s1 f⟩, ⟨0, ?_, by omega, k3, fun j hj => absurd hj (by omega), ?_, k4⟩, ⟨⟨?_, ?_, ?_, ?_⟩, ?_, fun x hx hu => ?_⟩⟩
      · exact RW_congr (fun a q1 q2 q3 q4 => k2 a (by omega) (by omega) (by omega)) z3 hb
      · rw [k2 1 (by omega) (by omega) (by omega), g1]; exact f2
      · rw [k2 1 (by omega) (by omega) (by omega), g1, f6, k5]
      · rw [F 145 (by omega) (by omega) (by omega) (by omega)]; exact c1
      · rw [F 146 (by omega) (by omega) (by omega) (by omega)]; exact c2
      · rw [F 152 (by omega) (by omega) (by omega) (by omega)]; exact c3
      · rw [F 165 (by omega) (by omega) (by omega) (by omega)]; exact c4
      · exact spR_congr (fun a q1 q2 q3 q4 => k2 a (by omega) (by omega) (by omega)) hsp
      · rw [f 139 (by omega)] at hu
        exact spR_congr (fun a q1 q2 q3 q4 => f a (by omega)) (c6 x hx hu)
  · rw [if_neg q, if_neg q] at h1
    have g : ∀ a, (a < 1 ∨ 16 < a) → rbF m 1 L a = m a := fun a ha => rbF_o hby ha
    obtain ⟨M', v, k1, k2, ⟨k3, k4, k5⟩, k6, _⟩ := sp_X9_load (m := rbF m 1 L) (c := m) (L := L) (b0 := b0) ⟨by rw [g 153 (by omega)]; exact r3, r2, fun j hj => by rw [g 158 (by omega)]; exact ⟨(r4 j hj).2, (r4 j hj).1⟩⟩ hby (by rw [g 153 (by omega)]; exact hb0)
    obtain ⟨z1, z2⟩ := k6 q
    refine ⟨_, _, M', h1, by rw [← z1]; exact k1, ?_⟩
    have F : ∀ a, (a < 1 ∨ 16 < a) → a ≠ 153 → a ≠ 155 → M' a = m a := fun a q1 q2 q4 => by
      by_cases q3 : a = 154
      · rw [q3, z2, g 154 (by omega)]
      · rw [k2 a q2 q3 q4, g a q1]
    have f : ∀ a, (59 ≤ a ∧ a < 140) ∨ a = 156 ∨ a = 157 → M' a = m a := fun a ha => F a (by omega) (by omega) (by omega)
    refine ⟨⟨N, ?_⟩, ⟨slR_frame (by omega) s0 f, slR_frame (by omega) s1 f⟩, ⟨0, ?_, by omega, k3, fun j hj => absurd hj (by omega), ?_, k4⟩, scR_frame sc fun a ha => F a (by omega) (by omega) (by omega)⟩
    · rw [F 154 (by omega) (by omega) (by omega)]
      exact RW_congr (fun a q1 q2 q3 q4 => F a (by omega) (by omega) (by omega)) (fun _ _ => rfl) hw
    · rw [k2 1 (by omega) (by omega) (by omega)]; exact f2
    · rw [k2 1 (by omega) (by omega) (by omega), f6, k5]
