theorem b_ticketsAfter {m : mz_M} (h : Rel m) (x k : Int) : both 271 259 [mz_i x, mz_i k] m := by
  obtain ⟨N, hw⟩ := h.1
  have hs := RW_sz hw
  obtain ⟨t, ht, ht2⟩ := RW_t hw
  have h1 := sp_X8_ticketsAfter m x k hs.2.2 ht (by omega) fun c hc => (RW_caO hw c hc).1
  have h2 := sp_X9_ticketsAfter m x k (n := N) (RW_pl hw) (RW_mVO hw) (by have := hw.2.1.1; omega)
  rw [hs.1] at h2
  by_cases hx : (0 ≤ x ∧ x < m (18 + 1) 0) ∧ 0 ≤ k ∧ k ≤ 600
  · rw [if_pos hx] at h1
    rw [if_pos hx, if_pos hx] at h2
    obtain ⟨p, rfl⟩ := nat_i hx.1.1
    obtain ⟨d, rfl⟩ := nat_i hx.2.1
    rw [Int.toNat_natCast, Int.toNat_natCast] at h1
    have e1 := q_vsum hw ht d p
    have e2 : sm (mVn (lat (m 154) d) N p) 16 = sm (tkN m 18 p (t + d)) 16 := sm_congr fun c hc => q_vn hw ht hc d p
    rw [e1, e2] at h2
    have hle : sm (tkN m 18 p (t + d)) 16 ≤ sm (tkS m 18 p (t + d)) 16 := sm_le fun c hc => by
      unfold tkN tkS
      by_cases q : m (18 + 24 + c) 1 = 1 ∧ m (18 + 24 + c) 2 = p
      · rw [if_pos q]
        split <;> have := (tkF_ok (m := m) (k := 18 + 24 + c) 18 (t + d) (RW_caO hw c hc).1 (RW_caO hw c hc).2) <;> omega
      · rw [if_neg q, if_neg (fun y => q y.1)]; exact Int.le_refl _
    have h0 : 0 ≤ sm (tkN m 18 p (t + d)) 16 := sm_0 fun c hc => by unfold tkN; split <;> omega
    have e3 : (if 0 < sm (tkS m 18 p (t + d)) 16 then sm (tkN m 18 p (t + d)) 16 else 0) = sm (tkN m 18 p (t + d)) 16 := by split <;> omega
    rw [e3] at h2
    exact ⟨_, _, _, h1, h2, Rel_153 (Rel_thr h) (by omega)⟩
  · rw [if_neg hx] at h1
    rw [if_neg hx, if_neg hx] at h2
    exact ⟨_, _, _, h1, h2, Rel_thr h⟩
theorem b_bestInspection {m : mz_M} (h : Rel m) (x k : Int) : both 280 254 [mz_i x, mz_i k] m := by
  obtain ⟨N, hw⟩ := h.1
  have hs := RW_sz hw
  obtain ⟨t, ht, ht2⟩ := RW_t hw
  have h1 := sp_X8_bestInspection m x k hs.2.2 ht (by omega) fun c hc => RW_caO hw c hc
  have h2 := sp_X9_bestInspection m x k (n := N) (RW_pl hw) (RW_mVO hw) (by have := hw.2.1.1; omega)
  rw [hs.1] at h2
  by_cases hx : (0 ≤ x ∧ x < m (18 + 1) 0) ∧ 0 ≤ k ∧ k ≤ 120
  · rw [if_pos hx] at h1
    rw [if_pos hx, if_pos hx] at h2
    obtain ⟨p, rfl⟩ := nat_i hx.1.1
    rw [Int.toNat_natCast] at h1
    rw [show (fun w : Nat => sm (mVs (lat (m 154) w) N p) 16) = fun w => sm (tkS m 18 p (t + w)) 16 by funext w; exact q_vsum hw ht w p] at h2
    exact ⟨_, _, _, h1, h2, Rel_153 (Rel_thr h) (by omega)⟩
  · rw [if_neg hx] at h1
    rw [if_neg hx, if_neg hx] at h2
    exact ⟨_, _, _, h1, h2, Rel_thr h⟩
theorem b_daySum {m : mz_M} (h : Rel m) (d k : Int) : both 208 101 [mz_i d, mz_i k] m := by
  obtain ⟨N, hw⟩ := h.1
  have ha := RW_mAm hw
  refine b_read h (sp_X8_daySum m d k (RW_lgO hw)) (sp_X9_daySum m d k (n := N) ha.1 ha.2) ?_
  have e : sm (mDs (m 154) d k) N = sm (fun i => if m 37 i = k ∧ m 36 i / 1440 = d then m 39 i else 0) N := sm_congr fun i hi => by
    have b := (hw.2.2.2.2.2 i hi).1
    unfold mDs
    rw [b.1, b.2.1, b.2.2.2]
  rw [e]
theorem q_park {m : mz_M} {u N : Nat} {V : Nat → Int} (h : RW m u V N) (c : Nat) : ∀ j, j ≤ N → (∃ i, i < j ∧ me V i 1 = 1 ∧ me V i 2 = c) → pkF m (u + 17) j c = pkV V c j ∧ 0 ≤ pkV V c j ∧ pkV V c j < m (u + 1) 0 := by
  intro j
  induction j with
  | zero => intro _ ⟨i, hi, _⟩; omega
  | succ j ih =>
    intro hj hx
    have en := h.2.2.2.2.2 j (by omega)
    have b := en.1
    unfold pkF pkV
    rw [show m (u + 17 + 2) j = m (u + 19) j from rfl, show m (u + 17 + 3) j = m (u + 20) j from rfl, show m (u + 17 + 4) j = m (u + 21) j from rfl, ← b.2.1, ← b.2.2.1, ← b.2.2.2]
    by_cases q : me V j 1 = 1 ∧ me V j 2 = c
    · rw [if_pos q, if_pos q]
      have d := en.2.1
      have := d.2.2.2.2.2 q.1
      exact ⟨rfl, by omega, this⟩
    · rw [if_neg q, if_neg q]
      obtain ⟨i, h1, h2, h3⟩ := hx
      refine ih (by omega) ⟨i, ?_, h2, h3⟩
      rcases Nat.lt_or_ge i j with w | w
      · exact w
      · obtain rfl : i = j := by omega
        exact absurd ⟨h2, h3⟩ q
theorem RW_mPO {m : mz_M} {u N : Nat} {V : Nat → Int} (h : RW m u V N) : mPO V N := by
  intro i hi hk
  have en := h.2.2.2.2.2 i hi
  obtain ⟨j, j1, j2, j3⟩ := en.2.2.1 hk
  have hc := en.2.1.2.2.1
  obtain ⟨c, hcc⟩ := nat_i hc.1
  have hs := RW_sz h
  have := q_park h c (i + 1) (by omega) ⟨j, by omega, j2, by rw [j3, hcc]⟩
  rw [hcc]
  exact ⟨⟨j, j1, j2, by rw [j3, hcc]⟩, this.2.1, by omega⟩
theorem scR_rowS {m : mz_M} {o n : Nat} {T : Nat → Int} (h : scR m) (ho : o = 40 ∨ o = 41) : scR (rowS m o n T) :=
  scR_frame h fun b hb => by funext i; exact rowS_o (by omega)
theorem Rel_rowS {m : mz_M} {o n : Nat} {T : Nat → Int} (h : Rel m) (ho : o = 40 ∨ o = 41) : Rel (rowS m o n T) :=
  Rel_frame h (fun a ha => by funext i; exact rowS_o (by unfold frz at ha; omega)) ⟨rowS_o (by omega), rowS_o (by omega)⟩ ⟨rowS_o (by omega), rowS_o (by omega), rowS_o (by omega)⟩ (scR_rowS h.2.2.2 ho)
theorem b_revenue {m : mz_M} (h : Rel m) (z d : Int) : both 212 179 [mz_i z, mz_i d] m := by
  obtain ⟨N, hw⟩ := h.1
  have hs := RW_sz hw
  have ha := RW_mAm hw
  have h1 := sp_X8_revenue m z d (RW_lgO hw)
  have key : ∀ m1 : mz_M, m1 154 = m 154 → Rel m1 → ∃ m2, sp 179 [mz_r 9 0 153, mz_i z, mz_i d] m1 (some (mz_i (if (0 ≤ z ∧ z ≤ 3) ∧ 0 ≤ d ∧ d ≤ 6 then sm (mRv (m 154) z d) N else -1))) m2 ∧ Rel m2 := by
    intro m1 e1 hr
    have h2 := sp_X9_revenue m1 z d (n := N) (by rw [e1]; exact ha.1) (by rw [e1]; exact ha.2) (by rw [e1]; exact RW_mPO hw)
    rw [e1] at h2
    exact ⟨_, h2, Rel_thr hr⟩
  have e : sm (mRv (m 154) z d) N = sm (msT m 35 19 z d) N := sm_congr fun i hi => by
    have en := hw.2.2.2.2.2 i hi
    have b := en.1
    unfold mRv msT
    rw [show m (35 + 2) i = m (18 + 19) i from rfl, show m (35 + 1) i = m (18 + 18) i from rfl, show m (35 + 3) i = m (18 + 20) i from rfl, show m (35 + 4) i = m (18 + 21) i from rfl, ← b.1, ← b.2.1, ← b.2.2.1, ← b.2.2.2]
    by_cases q : me (m 154) i 1 = 2
    · obtain ⟨j, j1, j2, j3⟩ := en.2.2.1 q
      obtain ⟨c, hcc⟩ := nat_i en.2.1.2.2.1.1
      have pk := q_park hw c (i + 1) (by omega) ⟨j, by omega, j2, by rw [j3, hcc]⟩
      rw [hcc, Int.toNat_natCast, show pkF m 35 (i + 1) c = pkV (m 154) c (i + 1) from pk.1]
      rw [if_pos (show 0 ≤ pkV (m 154) c (i + 1) ∧ pkV (m 154) c (i + 1) < 10 by omega)]
      have hz := (hw.1.2.1.2.1 (pkV (m 154) c (i + 1)).toNat (by omega)).1
      rw [hz]
      by_cases w : me (m 154) i 0 / 1440 = d
      · by_cases y : m (18 + 1 + 1) (pkV (m 154) c (i + 1)).toNat = z
        · rw [if_pos ⟨q, w, y⟩, if_pos ⟨⟨q, w⟩, y⟩]
        · rw [if_neg (fun x => y x.2.2), if_neg (fun x => y x.2)]
      · rw [if_neg (fun x => w x.2.1), if_neg (fun x => w x.1.2)]
    · rw [if_neg (fun x => q x.1), if_neg (fun x => q x.1.1)]
  rw [e] at key
  by_cases hx : (0 ≤ z ∧ z ≤ 3) ∧ 0 ≤ d ∧ d ≤ 6
  · rw [if_pos hx, if_pos hx] at h1
    rw [if_pos hx] at key
    obtain ⟨m2, k1, k2⟩ := key (rowS m 40 16 (pkF m 35 N)) (by funext i; exact rowS_o (by omega)) (Rel_rowS h (Or.inl rfl))
    exact ⟨_, _, _, h1, k1, k2⟩
  · rw [if_neg hx, if_neg hx] at h1
    rw [if_neg hx] at key
    obtain ⟨m2, k1, k2⟩ := key m rfl h
    exact ⟨_, _, _, h1, k1, k2⟩
theorem mx_eq {F : Nat → Int} : ∀ j, (mxq F j).1 = (if (mxp F j).1 = -1 then -3 else (mxp F j).1) ∧ (mxq F j).2 = (mxp F j).2 ∧ 0 ≤ (mxp F j).2 := by
  intro j
  induction j with
  | zero => exact ⟨rfl, rfl, Int.le_refl _⟩
  | succ j ih =>
    unfold mxq mxp
    rw [ih.2.1]
    by_cases q : (mxp F j).2 < F j
    · rw [if_pos q, if_pos q]
      refine ⟨?_, rfl, by simp only; omega⟩
      simp only
      rw [if_neg (by omega)]
    · rw [if_neg q, if_neg q]
      exact ih
theorem mxp_st {F : Nat → Int} {s : Nat} (h : ∀ p, s ≤ p → p < 10 → F p = 0) : ∀ r, s + r ≤ 10 → mxp F (s + r) = mxp F s := by
  intro r
  induction r with
  | zero => intro _; rfl
  | succ r ih =>
    intro hr
    show mxp F (s + r + 1) = _
    have := (mx_eq (F := F) (s + r)).2.2
    rw [mxp, if_neg (by rw [h (s + r) (by omega) (by omega)]; omega)]
    exact ih (by omega)
theorem mxp_congr {F G : Nat → Int} : ∀ n, (∀ p, p < n → F p = G p) → mxp F n = mxp G n := by
  intro n
  induction n with
  | zero => intro _; rfl
  | succ n ih =>
    intro h
    unfold mxp
    rw [ih (fun p hp => h p (by omega)), h n (by omega)]
theorem b_busiestPlace {m : mz_M} (h : Rel m) (d : Int) : both 206 100 [mz_i d] m := by
  obtain ⟨N, hw⟩ := h.1
  have hs := RW_sz hw
  have ha := RW_mAm hw
  have hN := hw.2.2.2.2.1
  obtain ⟨s, hsn⟩ := nat_i (show 0 ≤ m (18 + 1) 0 by omega)
  have h1 := sp_X8_busiestPlace m d (RW_lgO hw) (fun i hi hk => by
    have en := hw.2.2.2.2.2 i hi
    have b := en.1
    have := en.2.1.2.2.2.2.2 (b.2.1.trans hk)
    show m (18 + 21) i < 10
    rw [← b.2.2.2]
    omega)
  have key : ∀ m1 : mz_M, m1 154 = m 154 → Rel m1 → ∃ m2, sp 100 [mz_r 9 0 153, mz_i d] m1 (some (mz_i (if 0 ≤ d ∧ d ≤ 6 then (mxq (fun p => sm (mPk (m 154) d p) N) s).1 else -1))) m2 ∧ Rel m2 := by
    intro m1 e1 hr
    have h2 := sp_X9_busiestPlace m1 d (n := N) (s := s) (by rw [e1]; exact hN.2.1) (by omega) (by rw [e1]; exact ha.2) (by rw [e1]; omega) (by omega)
    rw [e1] at h2
    exact ⟨_, h2, Rel_thr hr⟩
  have eF : ∀ p, sm (mPk (m 154) d p) N = pkT m 35 d N p := fun p => sm_congr fun i hi => by
    have b := (hw.2.2.2.2.2 i hi).1
    unfold mPk
    rw [show m (35 + 2) i = m (18 + 19) i from rfl, show m (35 + 1) i = m (18 + 18) i from rfl, show m (35 + 4) i = m (18 + 21) i from rfl, ← b.1, ← b.2.1, ← b.2.2.2]
    congr 1
    apply propext
    constructor
    · exact fun ⟨q1, q2, q3⟩ => ⟨⟨q1, q3⟩, q2⟩
    · exact fun ⟨⟨q1, q3⟩, q2⟩ => ⟨q1, q2, q3⟩
  have e : (mxq (fun p => sm (mPk (m 154) d p) N) s).1 = if (mxp (pkT m 35 d N) 10).1 = -1 then -3 else (mxp (pkT m 35 d N) 10).1 := by
    rw [(mx_eq s).1]
    have e1 : mxp (fun p => sm (mPk (m 154) d p) N) s = mxp (pkT m 35 d N) s := mxp_congr s fun p _ => eF p
    have e2 : mxp (pkT m 35 d N) 10 = mxp (pkT m 35 d N) s := by
      have := mxp_st (F := pkT m 35 d N) (s := s) (fun p hp hp2 => by
        have : pkT m 35 d N p = sm (fun _ => 0) N := sm_congr fun i hi => by
          have en := hw.2.2.2.2.2 i hi
          have b := en.1
          rw [show m (35 + 2) i = m (18 + 19) i from rfl, show m (35 + 1) i = m (18 + 18) i from rfl, show m (35 + 4) i = m (18 + 21) i from rfl, ← b.1, ← b.2.1, ← b.2.2.2]
          rw [if_neg]
          intro q
          have := en.2.1.2.2.2.2.2 q.1.1
          omega
        rw [this, sm_const]; omega) (10 - s) (by omega)
      rw [show s + (10 - s) = 10 by omega] at this
      exact this
    rw [e1, e2]
  rw [e] at key
  by_cases hx : 0 ≤ d ∧ d ≤ 6
  · rw [if_pos hx, if_pos hx] at h1
    rw [if_pos hx] at key
    obtain ⟨m2, k1, k2⟩ := key (rowS m 41 10 (pkT m 35 d N)) (by funext i; exact rowS_o (by omega)) (Rel_rowS h (Or.inr rfl))
    exact ⟨_, _, _, h1, k1, k2⟩
  · rw [if_neg hx, if_neg hx] at h1
    rw [if_neg hx] at key
    obtain ⟨m2, k1, k2⟩ := key m rfl h
    exact ⟨_, _, _, h1, k1, k2⟩
theorem tke_rank {P : Nat → Prop} [DecidablePred P] : ∀ (r j : Nat) (q : Int) (e : Nat), tke P r j q = some e → j ≤ e ∧ sm (fun i => if P (j + i) then 1 else 0) (e - j) = q := by
  intro r
  induction r with
  | zero => intro j q e h; cases h
  | succ r ih =>
    intro j q e h
    have hs : ∀ n, sm (fun i => if P (j + i) then 1 else 0) (n + 1) = (if P j then 1 else 0) + sm (fun i => if P (j + 1 + i) then 1 else 0) n := fun n => by
      have := sm_shift (fun i => if P (j + i) then 1 else 0) n
      have e : sm (fun i => if P (j + (i + 1)) then 1 else 0) n = sm (fun i => if P (j + 1 + i) then 1 else 0) n := sm_congr fun i _ => by rw [show j + (i + 1) = j + 1 + i by omega]
      rw [e] at this
      simp only [Nat.add_zero] at this
      rw [sm, this]
      omega
    unfold tke at h
    by_cases hp : P j
    · rw [if_pos hp] at h
      by_cases h0 : q = 0
      · rw [if_pos h0] at h
        cases h
        refine ⟨Nat.le_refl _, ?_⟩
        rw [Nat.sub_self, h0]
        rfl
      · rw [if_neg h0] at h
        have i1 := ih _ _ _ h
        refine ⟨by omega, ?_⟩
        rw [show e - j = (e - (j + 1)) + 1 by omega, hs, if_pos hp, i1.2]
        omega
    · rw [if_neg hp] at h
      have i1 := ih _ _ _ h
      refine ⟨by omega, ?_⟩
      rw [show e - j = (e - (j + 1)) + 1 by omega, hs, if_neg hp, i1.2]
      omega
theorem b_isTicketPaid {m : mz_M} (h : Rel m) (x i : Int) (hi : i ≤ 2147483647) : both 88 219 [mz_i x, mz_i i] m := by
  obtain ⟨N, hw⟩ := h.1
  have hN := hw.2.2.2.2.1
  refine b_read h (sp_X8_isTicketPaid m x i) (sp_X9_isTicketPaid m x i (n := N) hN.2.1 (by omega) hi) ?_
  by_cases hx : (0 ≤ x ∧ x < 16) ∧ 0 ≤ i
  · obtain ⟨c, rfl⟩ := nat_i hx.1.1
    rw [Int.toNat_natCast]
    have a := (hw.2.2.2.1 c (by omega)).2.2.1.1
    have hO : mOt (m 154) N c i = tke (fun k => me (m 154) k 1 = 4 ∧ me (m 154) k 2 = c) N 0 i := if_pos hx
    rw [hO]
    have hT : sm (fun k => if me (m 154) (0 + k) 1 = 4 ∧ me (m 154) (0 + k) 2 = c then 1 else 0) N = mTc (m 154) N c := sm_congr fun k _ => by rw [Nat.zero_add]
    cases hk : tke (fun k => me (m 154) k 1 = 4 ∧ me (m 154) k 2 = c) N 0 i with
    | none =>
      have hge : ¬ i < mTc (m 154) N c := fun q => by
        obtain ⟨e, he⟩ := tke_ex (P := fun k => me (m 154) k 1 = 4 ∧ me (m 154) k 2 = c) N 0 i hx.2 (by rw [hT]; exact q)
        rw [hk] at he
        cases he
      simp only
      rw [if_neg (by omega), if_neg (by omega)]
    | some e =>
      have hlt := tke_lt _ _ _ _ hk
      have hr := (tke_rank _ _ _ _ hk).2
      have en := hw.2.2.2.2.2 e (by omega)
      have hr2 : mTc (m 154) e c = i := by
        rw [← hr]
        show sm _ e = sm _ (e - 0)
        rw [Nat.sub_zero]
        exact sm_congr fun k _ => by rw [Nat.zero_add]
      have e4 := en.2.2.2
      rw [hlt.2.2.2, hr2, Int.toNat_natCast] at e4
      simp only
      by_cases q : i < m (18 + 24 + c) 6
      · rw [if_pos (show me (m 154) e 4 = 1 by rw [e4, if_pos ⟨hlt.2.2.1, q⟩]), if_pos ⟨hx.1, hx.2, q⟩]
      · rw [if_neg (show ¬ me (m 154) e 4 = 1 by rw [e4, if_neg (fun y => q y.2)]; omega), if_neg (fun q' => q q'.2.2)]
  · have hO : mOt (m 154) N x i = none := if_neg hx
    rw [hO]
    simp only
    rw [if_neg (by omega), if_neg (fun q => hx ⟨q.1, q.2.1⟩)]
