/-! Both objects: money for fines, inspections. -/
def RX (m0 : mz_M) (u : Nat) (m : mz_M) (V : Nat → Int) (N : Nat) : Prop := RW m u V N ∧ spR m u ∧ ∀ a, (a < u ∨ u + 40 ≤ a) → m a = m0 a
theorem RX_fr {m0 m m' : mz_M} {u N N' c : Nat} {V V' : Nat → Int} (h : RX m0 u m V N) (hw : RW m' u V' N') (hc : c < 16) (hf : ∀ a, a ≠ u → (a < u + 17 ∨ u + 21 < a) → a ≠ u + 24 + c → m' a = m a) (hp : ∀ p : Nat, cos m' u p c = true → cos m u p c = true) : RX m0 u m' V' N' :=
  ⟨hw, spR_car h.2.1 (c := c) (fun a h1 h2 h3 h4 => hf a (by omega) h3 h4) hp, fun a ha => by rw [hf a (by omega) (by omega) (by omega)]; exact h.2.2 a ha⟩
theorem RX_in {m0 m : mz_M} {u N c : Nat} {V : Nat → Int} {x : Int} (h : RX m0 u m V N) (hN : N + 1 ≤ 372) (hc : c < 16) (hx : 0 ≤ x ∧ x ≤ 100000) : RX m0 u (lgA (u + 17) (m u 3) 6 (m (u + 24 + c) 0) x (mz_up m (u + 24 + c) 10 (m (u + 24 + c) 10 + x))) (vF1 V c x) (N + 1) := by
  have hw := h.1
  have a := hw.2.2.2.1 c hc
  have t := hw.2.1
  have w1 := a.1.2
  have r2 := a.2.1
  refine RX_fr h (c := c) ?_ hc (fun b h1 h2 h3 => ?_) (fun p q => ?_)
  · unfold vF1
    have f3 : mz_up m (u + 24 + c) 10 (m (u + 24 + c) 10 + x) u 3 = m u 3 := by simp (disch := omega) only [up_o]
    rw [a.1.1]
    conv => arg 1; arg 2; rw [← f3]
    refine RW_op1 hw hN hc (fun b h1 h2 => ?_) (fun w hw => ?_) (fun j hj => ?_) ?_ (fun q hq y => ?_) (by omega) hx (fun _ => by omega) (fun q => by omega) ?_ ?_ (fun q => a.2.2.1.2.1 ?_) (fun q => Or.inr ?_)
    · funext j; simp (disch := omega) only [up_o]
    · simp (disch := omega) only [up_k]
    · simp (disch := omega) only [vU_n]
    · unfold timR at t ⊢
      simp (disch := omega) only [up_o, vU_n]
      exact t
    · refine Int.le_trans (Int.le_of_eq (sm_congr fun i hi => ?_)) (hw.2.2.1 q hq)
      unfold pnd
      by_cases z : i = c
      · subst z; simp (disch := omega) only [up_k]
      · simp (disch := omega) only [up_o]
    · simp (disch := omega) only [mc, vU_e, vU_n, up_s, up_k]
      simp only [mc] at w1
      exact ⟨w1.1, w1.2.1, w1.2.2.1, by rw [w1.2.2.2.1], w1.2.2.2.2⟩
    · simp (disch := omega) only [up_s, up_k]
      omega
    · simp (disch := omega) only [up_k] at q; exact q
    · simp (disch := omega) only [up_k] at q; exact q
  · rw [lgA_f (by omega)]; funext j; rw [up_o h3]
  · unfold cos at q ⊢
    rw [lgA_f (by omega)] at q
    simp (disch := omega) only [up_k] at q
    exact q
theorem RX_fee {m0 m : mz_M} {u N c : Nat} {V : Nat → Int} (h : RX m0 u m V N) (hN : N + 1 ≤ 372) (hc : c < 16) (h9 : 0 < m (u + 24 + c) 9 ∧ m (u + 24 + c) 9 ≤ m (u + 24 + c) 10) : RX m0 u (lgA (u + 17) (m u 3) 8 (m (u + 24 + c) 0) (m (u + 24 + c) 9) (mz_up (mz_up m (u + 24 + c) 10 (m (u + 24 + c) 10 - m (u + 24 + c) 9)) (u + 24 + c) 9 0)) (vL (vU (vU V (333 + 6 * c + 3) (mc V c 3 - mc V c 4)) (333 + 6 * c + 4) 0) 8 c (mc V c 4)) (N + 1) := by
  have hw := h.1
  have a := hw.2.2.2.1 c hc
  have t := hw.2.1
  have w1 := a.1.2
  have r2 := a.2.1
  have hx : m (u + 24 + c) 9 ≤ 100000 := by omega
  refine RX_fr h (c := c) ?_ hc (fun b h1 h2 h3 => ?_) (fun p q => ?_)
  · have f3 : mz_up (mz_up m (u + 24 + c) 10 (m (u + 24 + c) 10 - m (u + 24 + c) 9)) (u + 24 + c) 9 0 u 3 = m u 3 := by simp (disch := omega) only [up_o]
    rw [a.1.1, w1.2.2.2.2.1]
    conv => arg 1; arg 2; rw [← f3]
    refine RW_op1 hw hN hc (fun b h1 h2 => ?_) (fun w hw => ?_) (fun j hj => ?_) ?_ (fun q hq y => ?_) (by omega) ⟨by omega, hx⟩ (fun _ => by omega) (fun q => by omega) ?_ ?_ (fun q => a.2.2.1.2.1 ?_) (fun q => Or.inr ?_)
    · funext j; simp (disch := omega) only [up_o]
    · simp (disch := omega) only [up_k]
    · simp (disch := omega) only [vU_n]
    · unfold timR at t ⊢
      simp (disch := omega) only [up_o, vU_n]
      exact t
    · refine Int.le_trans (Int.le_of_eq (sm_congr fun i hi => ?_)) (hw.2.2.1 q hq)
      unfold pnd
      by_cases z : i = c
      · subst z; simp (disch := omega) only [up_k]
      · simp (disch := omega) only [up_o]
    · simp (disch := omega) only [mc, vU_e, vU_n, up_s, up_k]
      simp only [mc] at w1
      exact ⟨w1.1, w1.2.1, w1.2.2.1, by rw [w1.2.2.2.1], trivial, w1.2.2.2.2.2⟩
    · simp (disch := omega) only [up_s, up_k]
      omega
    · simp (disch := omega) only [up_k] at q; exact q
    · simp (disch := omega) only [up_k] at q; exact q
  · rw [lgA_f (by omega)]; funext j; rw [up_o h3, up_o h3]
  · unfold cos at q ⊢
    rw [lgA_f (by omega)] at q
    simp (disch := omega) only [up_k] at q
    exact q
theorem RX_rl {m0 m : mz_M} {u N c : Nat} {V : Nat → Int} (h : RX m0 u m V N) (hN : N + 1 ≤ 372) (hc : c < 16) (h9 : m (u + 24 + c) 9 = 0) (h5 : m (u + 24 + c) 5 = m (u + 24 + c) 6) : ∃ N', RX m0 u (rlS u (u + 24 + c) m) (vRl V c) N' ∧ N' ≤ N + 1 := by
  have hw := h.1
  have a := hw.2.2.2.1 c hc
  have t := hw.2.1
  have w1 := a.1.2
  have r2 := a.2.1
  have sz := RW_sz hw
  have t1 := t.1
  unfold rlS vRl
  rw [w1.1, w1.2.1]
  by_cases s2 : m (u + 24 + c) 1 = 2
  · rw [if_pos s2, if_pos s2]
    refine ⟨N + 1, RX_fr h (c := c) ?_ hc (fun b h1 h2 h3 => ?_) (fun p q => ?_), Nat.le_refl _⟩
    · have f3 : mz_up (mz_up m (u + 24 + c) 1 1) (u + 24 + c) 3 (m u 3) u 3 = m u 3 := by simp (disch := omega) only [up_o]
      rw [a.1.1]
      conv => arg 1; arg 2; rw [← f3]
      refine RW_op1 hw hN hc (fun b h1 h2 => ?_) (fun w hw => ?_) (fun j hj => ?_) ?_ (fun q hq y => ?_) (by omega) (by omega) (fun _ => by omega) (fun q => by omega) ?_ ?_ (fun q => by omega) (fun q => Or.inr (by omega))
      · funext j; simp (disch := omega) only [up_o]
      · simp (disch := omega) only [up_k]
      · simp (disch := omega) only [vU_n]
      · unfold timR at t ⊢
        simp (disch := omega) only [up_o, vU_n]
        exact t
      · unfold pnd at y
        simp (disch := omega) only [up_s, up_k] at y
        rw [if_neg (by omega)] at y
        omega
      · simp (disch := omega) only [mc, vU_e, vU_n, up_s, up_k]
        simp only [mc] at w1
        exact ⟨trivial, w1.2.1, t.1.1, w1.2.2.2⟩
      · simp (disch := omega) only [up_s, up_k]
        omega
    · rw [lgA_f (by omega)]; funext j; rw [up_o h3, up_o h3]
    · unfold cos at q ⊢
      rw [lgA_f (by omega)] at q
      simp (disch := omega) only [up_s, up_k, decide_eq_true_eq] at q ⊢
      exact ⟨Or.inr s2, q.2⟩
  · rw [if_neg s2, if_neg s2]
    by_cases s3 : m (u + 24 + c) 1 = 3
    · rw [if_pos s3, if_pos s3]
      refine ⟨N + 1, RX_fr h (c := c) ?_ hc (fun b h1 h2 h3 => ?_) (fun p q => ?_), Nat.le_refl _⟩
      · have f3 : mz_up m (u + 24 + c) 1 0 u 3 = m u 3 := by simp (disch := omega) only [up_o]
        rw [a.1.1]
        conv => arg 1; arg 2; rw [← f3]
        refine RW_op1 hw hN hc (fun b h1 h2 => ?_) (fun w hw => ?_) (fun j hj => ?_) ?_ (fun q hq y => ?_) (by omega) (by omega) (fun _ => by omega) (fun q => by omega) ?_ ?_ (fun q => by omega) (fun q => Or.inr (by omega))
        · funext j; simp (disch := omega) only [up_o]
        · simp (disch := omega) only [up_k]
        · simp (disch := omega) only [vU_n]
        · unfold timR at t ⊢
          simp (disch := omega) only [up_o, vU_n]
          exact t
        · unfold pnd at y
          simp (disch := omega) only [up_s, up_k] at y
          rw [if_neg (by omega)] at y
          omega
        · simp (disch := omega) only [mc, vU_e, vU_n, up_s, up_k]
          simp only [mc] at w1
          exact ⟨trivial, w1.2⟩
        · simp (disch := omega) only [up_s, up_k]
          omega
      · rw [lgA_f (by omega)]; funext j; rw [up_o h3]
      · unfold cos at q
        rw [lgA_f (by omega)] at q
        simp (disch := omega) only [up_s, up_k, decide_eq_true_eq] at q
        omega
    · rw [if_neg s3, if_neg s3]
      exact ⟨N, h, by omega⟩
theorem RX_pt {m0 : mz_M} {u c : Nat} (hc : c < 16) : ∀ (d r1 r2 : Nat) (m : mz_M) (V : Nat → Int) (N : Nat), RX m0 u m V N → m (u + 24 + c) 5 - m (u + 24 + c) 6 ≤ d → d ≤ r1 → d ≤ r2 → N + d ≤ 372 → ∃ N', RX m0 u (ptS u (u + 24 + c) r1 m) (vPt c r2 V) N' ∧ N' ≤ N + d := by
  intro d
  induction d with
  | zero =>
    intro r1 r2 m V N h hd _ _ _
    have hw := h.1
    have z := hw.2.2.2.2.1.2.1
    have e1 : ptS u (u + 24 + c) r1 m = m := by
      cases r1 with
      | zero => rfl
      | succ r => rw [ptS, if_neg (by omega)]
    have e2 : vPt c r2 V = V := by
      cases r2 with
      | zero => rfl
      | succ r =>
        rcases q_old hw hc with q | q
        · rw [vPt, z, Int.toNat_natCast, q.2]
        · omega
    rw [e1, e2]
    exact ⟨N, h, by omega⟩
  | succ d ih =>
    intro r1 r2 m V N h hd h1 h2 hN
    have hw := h.1
    have z := hw.2.2.2.2.1.2.1
    have a := hw.2.2.2.1 c hc
    have w1 := a.1.2
    obtain ⟨r1, rfl⟩ : ∃ r, r1 = r + 1 := ⟨r1 - 1, by omega⟩
    obtain ⟨r2, rfl⟩ : ∃ r, r2 = r + 1 := ⟨r2 - 1, by omega⟩
    rcases q_old hw hc with q | ⟨q, k, k1, k2, k3, k4, k5⟩
    · rw [ptS, if_neg (by omega), vPt, z, Int.toNat_natCast, q.2]
      exact ⟨N, h, by omega⟩
    · have en := hw.2.2.2.2.2 k k1
      have enA : nxA m (u + 17) (m (u + 24 + c) 0) (m (u + 24 + c) 6) = me V k 3 := by
        unfold nxA
        rw [a.1.1, hw.2.2.2.2.1.1, Int.toNat_natCast]
        have e : ∀ (r j : Nat) (q : Int), j + r ≤ N → tke (fun i => m (u + 17 + 2) i = 4 ∧ m (u + 17 + 3) i = c) r j q = tke (fun i => me V i 1 = 4 ∧ me V i 2 = c) r j q := by
          intro r
          induction r with
          | zero => intros; rfl
          | succ r ih =>
            intro j q hj
            have b := (hw.2.2.2.2.2 j (by omega)).1
            have hd : (m (u + 17 + 2) j = 4 ∧ m (u + 17 + 3) j = c) ↔ (me V j 1 = 4 ∧ me V j 2 = c) := by
              rw [b.2.1, b.2.2.1]
            rw [tke, tke, ih (j + 1) _ (by omega), ih (j + 1) _ (by omega)]
            by_cases y : me V j 1 = 4 ∧ me V j 2 = c
            · rw [if_pos y, if_pos (hd.mpr y)]
            · rw [if_neg y, if_neg (fun t => y (hd.mp t))]
        rw [e N 0 _ (by omega), k3]
        exact en.1.2.2.2.symm
      rw [ptS, if_pos q, enA, vPt, z, Int.toNat_natCast, k2]
      simp only
      rw [w1.2.2.2.1]
      by_cases y : me V k 3 ≤ m (u + 24 + c) 10
      · rw [if_pos y, if_pos y]
        have f3 : mz_up (mz_up (mz_up m (u + 24 + c) 10 (m (u + 24 + c) 10 - me V k 3)) (u + 24 + c) 8 (m (u + 24 + c) 8 - me V k 3)) (u + 24 + c) 6 (m (u + 24 + c) 6 + 1) u 3 = m u 3 := by simp (disch := omega) only [up_o]
        have st : RX m0 u (lgA (u + 17) (m u 3) 7 (m (u + 24 + c) 0) (me V k 3) (mz_up (mz_up (mz_up m (u + 24 + c) 10 (m (u + 24 + c) 10 - me V k 3)) (u + 24 + c) 8 (m (u + 24 + c) 8 - me V k 3)) (u + 24 + c) 6 (m (u + 24 + c) 6 + 1))) (vOn V c k) (N + 1) := by
          refine RX_fr h (c := c) ?_ hc (fun b h1 h2 h3 => ?_) (fun p q => ?_)
          · unfold vOn
            rw [a.1.1]
            conv => arg 1; arg 2; rw [← f3]
            refine RW_op3 (k := k) hw (by omega) hc (fun b h6 => ?_) (fun w h1 h2 h3 => ?_) ⟨?_, ?_, ?_⟩ k1 k4 k5 rfl y q rfl
            · funext j; simp (disch := omega) only [up_o]
            · simp (disch := omega) only [up_k]
            · simp (disch := omega) only [up_s]
            · simp (disch := omega) only [up_s, up_k]
            · simp (disch := omega) only [up_s, up_k]
          · rw [lgA_f (by omega)]; funext j; rw [up_o h3, up_o h3, up_o h3]
          · unfold cos at q ⊢
            rw [lgA_f (by omega)] at q
            simp (disch := omega) only [up_k] at q
            exact q
        obtain ⟨N', g1, g2⟩ := ih r1 r2 _ _ _ st (by
          rw [lgA_o (by omega), lgA_o (by omega)]
          simp (disch := omega) only [up_s, up_k]
          omega) (by omega) (by omega) (by omega)
        exact ⟨N', g1, by omega⟩
      · rw [if_neg y, if_neg y]
        exact ⟨N, h, by omega⟩
theorem RX_tm {m0 m : mz_M} {u N c : Nat} {V : Nat → Int} {x : Int} (h : RX m0 u m V N) (hN : N + 6 ≤ 372) (hc : c < 16) (hx : 0 ≤ x ∧ x ≤ 100000) : ∃ N', RX m0 u (tmS u (u + 24 + c) x m) (vPf V c x) N' := by
  have s1 := RX_in h (by omega) hc hx
  have a0 := (h.1.2.2.2.1 c hc).2.2.1.1
  obtain ⟨N2, s2, s2n⟩ := RX_pt hc 3 400 50 _ _ _ s1 (by
    rw [lgA_o (by omega), lgA_o (by omega)]
    simp (disch := omega) only [up_k]
    omega) (by omega) (by omega) (by omega)
  unfold tmS vPf
  simp only
  generalize ptS u (u + 24 + c) 400 (lgA (u + 17) (m u 3) 6 (m (u + 24 + c) 0) x (mz_up m (u + 24 + c) 10 (m (u + 24 + c) 10 + x))) = m2 at s2 ⊢
  generalize vPt c 50 (vF1 V c x) = V2 at s2 ⊢
  have hw := s2.1
  have a := hw.2.2.2.1 c hc
  have w1 := a.1.2
  have z := hw.2.2.2.2.1.2.1
  unfold vF4
  rw [z, Int.toNat_natCast]
  rcases q_old hw hc with q | ⟨q, k, k1, k2, k3, k4, k5⟩
  · rw [q.2]
    simp only
    have st : ∃ N3, RX m0 u (pfS u (u + 24 + c) m2) (vF3 V2 c) N3 ∧ N3 ≤ N2 + 1 ∧ pfS u (u + 24 + c) m2 (u + 24 + c) 5 = pfS u (u + 24 + c) m2 (u + 24 + c) 6 := by
      unfold pfS vF3
      rw [w1.2.2.2.1, w1.2.2.2.2.1]
      by_cases y : 0 < m2 (u + 24 + c) 9 ∧ m2 (u + 24 + c) 9 ≤ m2 (u + 24 + c) 10
      · rw [if_pos ⟨q.1, y⟩, if_pos y]
        have := RX_fee s2 (by omega) hc y
        rw [w1.2.2.2.1, w1.2.2.2.2.1] at this
        refine ⟨N2 + 1, this, Nat.le_refl _, ?_⟩
        rw [lgA_o (by omega), lgA_o (by omega)]
        simp (disch := omega) only [up_k]
        exact q.1
      · rw [if_neg (fun t => y t.2), if_neg y]
        exact ⟨N2, s2, by omega, q.1⟩
    obtain ⟨N3, s3, n3, e5⟩ := st
    have w3 := (s3.1.2.2.2.1 c hc).1
    rw [w3.2.2.2.2.2.1]
    by_cases y : pfS u (u + 24 + c) m2 (u + 24 + c) 9 = 0
    · rw [if_pos ⟨e5, y⟩, if_pos y]
      obtain ⟨N4, s4, n4⟩ := RX_rl s3 (by omega) hc y e5
      exact ⟨N4, s4⟩
    · rw [if_neg (fun t => y t.2), if_neg y]
      exact ⟨N3, s3⟩
  · rw [k2]
    simp only
    have e : pfS u (u + 24 + c) m2 = m2 := by unfold pfS; rw [if_neg (by omega)]
    rw [e, if_neg (by omega)]
    exact ⟨N2, s2⟩
theorem sp_X8_payFines2 (m : mz_M) (x k : Int) (hx : 0 ≤ x ∧ x < 16) (hk : 1 ≤ k ∧ k ≤ 99999) (hl : logO m 35) (ht : 0 ≤ m (18 + 24 + x.toNat) 5 ∧ m (18 + 24 + x.toNat) 5 ≤ 400 ∧ 0 ≤ m (18 + 24 + x.toNat) 6 ∧ m (18 + 24 + x.toNat) 6 ≤ m (18 + 24 + x.toNat) 5) (hc : 0 ≤ m (18 + 24 + x.toNat) 10 ∧ m (18 + 24 + x.toNat) 10 ≤ 90000000) (h8 : 0 ≤ m (18 + 24 + x.toNat) 8 ∧ m (18 + 24 + x.toNat) 8 ≤ 100000000) (hafter : ¬ 340 ≤ m 35 0 → cmy (tmS 18 (18 + 24 + x.toNat) k m) (18 + 24 + x.toNat)) : sp 268 [mz_r 8 0 0, mz_i x, mz_i k] m (some (mz_i (if m (18 + 24 + x.toNat) 5 = m (18 + 24 + x.toNat) 6 ∧ m (18 + 24 + x.toNat) 9 = 0 then -3 else if 340 ≤ m 35 0 then -4 else owe (tmS 18 (18 + 24 + x.toNat) k m) (18 + 24 + x.toNat)))) (if (m (18 + 24 + x.toNat) 5 = m (18 + 24 + x.toNat) 6 ∧ m (18 + 24 + x.toNat) 9 = 0) ∨ 340 ≤ m 35 0 then m else tmS 18 (18 + 24 + x.toNat) k m) := by
  refine mz_cl_vc 80 (fun _ => false) [some (mz_r 8 0 0), some (mz_i x), some (mz_i k), none] rfl ?_
  simp only [vcS0, vcS1, vcS2, vcS3, vcS4, vcS5, vcS6, vc_n0, vc_lk, vc_pop, vc_rc, vc_tsw, vc_fr, vc_ar, vc_tb, mz_nx, List.set_cons_zero, List.set_cons_succ, Nat.reduceAdd, Nat.reduceBEq, Nat.reduceEqDiff, Nat.reduceLeDiff, Nat.reduceLT, Nat.reduceMul, Int.reduceToNat, Bool.false_eq_true, Bool.or_self, Bool.or_true, Bool.true_or, Bool.or_false, reduceIte, Option.toList_some, Option.toList_none, List.nil_append, List.cons_append, List.length_cons, List.length_nil, true_and, and_true, Int.cast_ofNat_Int, Int.reduceEq, Int.reduceLT, Int.reduceLE, Nat.zero_le, and_self, or_true, true_or, cdS_268]
  refine ⟨_, _, sp_carOrNull m 18 x, ?_⟩
  rw [coR_ok hx]
  simp only [vcS0, vcS1, vcS2, vcS3, vcS4, vcS5, vcS6, vc_n0, vc_lk, vc_pop, vc_rc, vc_tsw, vc_fr, vc_ar, vc_tb, mz_nx, List.set_cons_zero, List.set_cons_succ, Nat.reduceAdd, Nat.reduceBEq, Nat.reduceEqDiff, Nat.reduceLeDiff, Nat.reduceLT, Nat.reduceMul, Int.reduceToNat, Bool.false_eq_true, Bool.or_self, Bool.or_true, Bool.true_or, Bool.or_false, reduceIte, Option.toList_some, Option.toList_none, List.nil_append, List.cons_append, List.length_cons, List.length_nil, true_and, and_true, Int.cast_ofNat_Int, Int.reduceEq, Int.reduceLT, Int.reduceLE, Nat.zero_le, and_self, or_true, true_or, cdS_268]
  refine ⟨_, _, sp_within m k 1 99999, ?_⟩
  rw [if_pos hk]
  simp only [vcS0, vcS1, vcS2, vcS3, vcS4, vcS5, vcS6, vc_n0, vc_lk, vc_pop, vc_rc, vc_tsw, vc_fr, vc_ar, vc_tb, mz_nx, List.set_cons_zero, List.set_cons_succ, Nat.reduceAdd, Nat.reduceBEq, Nat.reduceEqDiff, Nat.reduceLeDiff, Nat.reduceLT, Nat.reduceMul, Int.reduceToNat, Bool.false_eq_true, Bool.or_self, Bool.or_true, Bool.true_or, Bool.or_false, reduceIte, Option.toList_some, Option.toList_none, List.nil_append, List.cons_append, List.length_cons, List.length_nil, true_and, and_true, Int.cast_ofNat_Int, Int.reduceEq, Int.reduceLT, Int.reduceLE, Nat.zero_le, and_self, or_true, true_or, cdS_268]
  refine ⟨_, _, sp_owesNothing m (18 + 24 + x.toNat) (by omega), ?_⟩
  by_cases h1 : m (18 + 24 + x.toNat) 5 = m (18 + 24 + x.toNat) 6 ∧ m (18 + 24 + x.toNat) 9 = 0
  · rw [if_pos h1, if_pos h1, if_pos (Or.inl h1)]
    simp only [vcS0, vcS1, vcS2, vcS3, vcS4, vcS5, vcS6, vc_n0, vc_lk, vc_pop, vc_rc, vc_tsw, vc_fr, vc_ar, vc_tb, mz_nx, List.set_cons_zero, List.set_cons_succ, Nat.reduceAdd, Nat.reduceBEq, Nat.reduceEqDiff, Nat.reduceLeDiff, Nat.reduceLT, Nat.reduceMul, Int.reduceToNat, Bool.false_eq_true, Bool.or_self, Bool.or_true, Bool.true_or, Bool.or_false, reduceIte, Option.toList_some, Option.toList_none, List.nil_append, List.cons_append, List.length_cons, List.length_nil, true_and, and_true, Int.cast_ofNat_Int, Int.reduceEq, Int.reduceLT, Int.reduceLE, Nat.zero_le, and_self, or_true, true_or, cdS_268]
  · rw [if_neg h1, if_neg h1]
    simp only [vcS0, vcS1, vcS2, vcS3, vcS4, vcS5, vcS6, vc_n0, vc_lk, vc_pop, vc_rc, vc_tsw, vc_fr, vc_ar, vc_tb, mz_nx, List.set_cons_zero, List.set_cons_succ, Nat.reduceAdd, Nat.reduceBEq, Nat.reduceEqDiff, Nat.reduceLeDiff, Nat.reduceLT, Nat.reduceMul, Int.reduceToNat, Bool.false_eq_true, Bool.or_self, Bool.or_true, Bool.true_or, Bool.or_false, reduceIte, Option.toList_some, Option.toList_none, List.nil_append, List.cons_append, List.length_cons, List.length_nil, true_and, and_true, Int.cast_ofNat_Int, Int.reduceEq, Int.reduceLT, Int.reduceLE, Nat.zero_le, and_self, or_true, true_or, cdS_268]
    refine ⟨_, _, sp_lfull m 35, ?_⟩
    by_cases h2 : 340 ≤ m 35 0
    · rw [if_pos h2, if_pos h2, if_pos (Or.inr h2)]
      simp only [vcS0, vcS1, vcS2, vcS3, vcS4, vcS5, vcS6, vc_n0, vc_lk, vc_pop, vc_rc, vc_tsw, vc_fr, vc_ar, vc_tb, mz_nx, List.set_cons_zero, List.set_cons_succ, Nat.reduceAdd, Nat.reduceBEq, Nat.reduceEqDiff, Nat.reduceLeDiff, Nat.reduceLT, Nat.reduceMul, Int.reduceToNat, Bool.false_eq_true, Bool.or_self, Bool.or_true, Bool.true_or, Bool.or_false, reduceIte, Option.toList_some, Option.toList_none, List.nil_append, List.cons_append, List.length_cons, List.length_nil, true_and, and_true, Int.cast_ofNat_Int, Int.reduceEq, Int.reduceLT, Int.reduceLE, Nat.zero_le, and_self, or_true, true_or, cdS_268]
    · rw [if_neg h2, if_neg h2, if_neg (fun q => q.elim h1 h2)]
      simp only [vcS0, vcS1, vcS2, vcS3, vcS4, vcS5, vcS6, vc_n0, vc_lk, vc_pop, vc_rc, vc_tsw, vc_fr, vc_ar, vc_tb, mz_nx, List.set_cons_zero, List.set_cons_succ, Nat.reduceAdd, Nat.reduceBEq, Nat.reduceEqDiff, Nat.reduceLeDiff, Nat.reduceLT, Nat.reduceMul, Int.reduceToNat, Bool.false_eq_true, Bool.or_self, Bool.or_true, Bool.true_or, Bool.or_false, reduceIte, Option.toList_some, Option.toList_none, List.nil_append, List.cons_append, List.length_cons, List.length_nil, true_and, and_true, Int.cast_ofNat_Int, Int.reduceEq, Int.reduceLT, Int.reduceLE, Nat.zero_le, and_self, or_true, true_or, cdS_268]
      refine ⟨_, _, sp_takeMoney m (u := 18) (by omega) hl ht hc h8 (by omega), ?_⟩
      simp only [vcS0, vcS1, vcS2, vcS3, vcS4, vcS5, vcS6, vc_n0, vc_lk, vc_pop, vc_rc, vc_tsw, vc_fr, vc_ar, vc_tb, mz_nx, List.set_cons_zero, List.set_cons_succ, Nat.reduceAdd, Nat.reduceBEq, Nat.reduceEqDiff, Nat.reduceLeDiff, Nat.reduceLT, Nat.reduceMul, Int.reduceToNat, Bool.false_eq_true, Bool.or_self, Bool.or_true, Bool.true_or, Bool.or_false, reduceIte, Option.toList_some, Option.toList_none, List.nil_append, List.cons_append, List.length_cons, List.length_nil, true_and, and_true, Int.cast_ofNat_Int, Int.reduceEq, Int.reduceLT, Int.reduceLE, Nat.zero_le, and_self, or_true, true_or, cdS_268]
      refine ⟨_, _, sp_owed _ _ (hafter h2), ?_⟩
      simp only [vcS0, vcS1, vcS2, vcS3, vcS4, vcS5, vcS6, vc_n0, vc_lk, vc_pop, vc_rc, vc_tsw, vc_fr, vc_ar, vc_tb, mz_nx, List.set_cons_zero, List.set_cons_succ, Nat.reduceAdd, Nat.reduceBEq, Nat.reduceEqDiff, Nat.reduceLeDiff, Nat.reduceLT, Nat.reduceMul, Int.reduceToNat, Bool.false_eq_true, Bool.or_self, Bool.or_true, Bool.true_or, Bool.or_false, reduceIte, Option.toList_some, Option.toList_none, List.nil_append, List.cons_append, List.length_cons, List.length_nil, true_and, and_true, Int.cast_ofNat_Int, Int.reduceEq, Int.reduceLT, Int.reduceLE, Nat.zero_le, and_self, or_true, true_or, cdS_268]
      rfl
theorem sp_rPayFinesNo (m : mz_M) (V : Nat → Int) (x k : Int) (h : ¬ ((0 ≤ x ∧ x < 16) ∧ 1 ≤ k ∧ k ≤ 99999)) : sp 223 [mz_r 9 0 153, mz_i x, mz_i k] (rM m V) (some (mz_i (-1))) (rM (mz_up m 153 4 0) V) := by
  refine mz_cl_vc 60 (fun i => i == 24) [some (mz_r 9 0 153), some (mz_i x), some (mz_i k), none] rfl ?_
  simp only [vcS0, vcS1, vcS2, vcS3, vcS4, vcS5, vcS6, vc_n0, vc_lk, vc_pop, vc_rc, vc_tsw, vc_fr, vc_ar, vc_tb, mz_nx, List.set_cons_zero, List.set_cons_succ, Nat.reduceAdd, Nat.reduceBEq, Nat.reduceEqDiff, Nat.reduceLeDiff, Nat.reduceLT, Nat.reduceMul, Int.reduceToNat, Bool.false_eq_true, Bool.or_self, Bool.or_true, Bool.true_or, Bool.or_false, reduceIte, Option.toList_some, Option.toList_none, List.nil_append, List.cons_append, List.length_cons, List.length_nil, true_and, and_true, Int.cast_ofNat_Int, Int.reduceEq, Int.reduceLT, Int.reduceLE, Nat.zero_le, and_self, or_true, true_or, cdS_223]
  rw [rM_u3]
  refine ⟨_, _, sp_isCar _ x, ?_⟩
  by_cases h1 : 0 ≤ x ∧ x < 16
  · rw [if_pos (show 0 ≤ x ∧ x ≤ 15 by omega)]
    simp only [vcS0, vcS1, vcS2, vcS3, vcS4, vcS5, vcS6, vc_n0, vc_lk, vc_pop, vc_rc, vc_tsw, vc_fr, vc_ar, vc_tb, mz_nx, List.set_cons_zero, List.set_cons_succ, Nat.reduceAdd, Nat.reduceBEq, Nat.reduceEqDiff, Nat.reduceLeDiff, Nat.reduceLT, Nat.reduceMul, Int.reduceToNat, Bool.false_eq_true, Bool.or_self, Bool.or_true, Bool.true_or, Bool.or_false, reduceIte, Option.toList_some, Option.toList_none, List.nil_append, List.cons_append, List.length_cons, List.length_nil, true_and, and_true, Int.cast_ofNat_Int, Int.reduceEq, Int.reduceLT, Int.reduceLE, Nat.zero_le, and_self, or_true, true_or, cdS_223]
    refine ⟨_, _, sp_in _ k 1 99999, ?_⟩
    rw [if_neg (fun q => h ⟨h1, q⟩)]
    simp only [vcS0, vcS1, vcS2, vcS3, vcS4, vcS5, vcS6, vc_n0, vc_lk, vc_pop, vc_rc, vc_tsw, vc_fr, vc_ar, vc_tb, mz_nx, List.set_cons_zero, List.set_cons_succ, Nat.reduceAdd, Nat.reduceBEq, Nat.reduceEqDiff, Nat.reduceLeDiff, Nat.reduceLT, Nat.reduceMul, Int.reduceToNat, Bool.false_eq_true, Bool.or_self, Bool.or_true, Bool.true_or, Bool.or_false, reduceIte, Option.toList_some, Option.toList_none, List.nil_append, List.cons_append, List.length_cons, List.length_nil, true_and, and_true, Int.cast_ofNat_Int, Int.reduceEq, Int.reduceLT, Int.reduceLE, Nat.zero_le, and_self, or_true, true_or, cdS_223]
  · rw [if_neg (show ¬ (0 ≤ x ∧ x ≤ 15) by omega)]
    simp only [vcS0, vcS1, vcS2, vcS3, vcS4, vcS5, vcS6, vc_n0, vc_lk, vc_pop, vc_rc, vc_tsw, vc_fr, vc_ar, vc_tb, mz_nx, List.set_cons_zero, List.set_cons_succ, Nat.reduceAdd, Nat.reduceBEq, Nat.reduceEqDiff, Nat.reduceLeDiff, Nat.reduceLT, Nat.reduceMul, Int.reduceToNat, Bool.false_eq_true, Bool.or_self, Bool.or_true, Bool.true_or, Bool.or_false, reduceIte, Option.toList_some, Option.toList_none, List.nil_append, List.cons_append, List.length_cons, List.length_nil, true_and, and_true, Int.cast_ofNat_Int, Int.reduceEq, Int.reduceLT, Int.reduceLE, Nat.zero_le, and_self, or_true, true_or, cdS_223]
theorem b_payFines {m : mz_M} (h : Rel m) (x k : Int) : both 268 223 [mz_i x, mz_i k] m := by
  obtain ⟨N, hw⟩ := h.1
  have hs := RW_sz hw
  have hN := hw.2.2.2.2.1
  have hA := RW_mAm hw
  have e35 : m 35 0 = N := hN.1
  have full : ∀ c, c < 16 → ¬ (340 : Int) ≤ N → 1 ≤ k ∧ k ≤ 99999 → ∃ N', RX m 18 (tmS 18 (18 + 24 + c) k m) (vPf (m 154) c k) N' := fun c hc q hk => RX_tm (m0 := m) (u := 18) ⟨hw, h.2.2.2.2.1, fun _ _ => rfl⟩ (by omega) hc (by omega)
  by_cases hx : (0 ≤ x ∧ x < 16) ∧ 1 ≤ k ∧ k ≤ 99999
  · obtain ⟨c, rfl⟩ := nat_i hx.1.1
    have hc : c < 16 := by omega
    have a := hw.2.2.2.1 c hc
    have b := a.2.1
    have d := a.2.2.1
    have T := RW_cmy hw hc
    have tO := mTc_ok (m 154) N c
    have h2 := fun m1 => sp_rPayFines m1 (m 154) c k (n := N) hN.2.1 (by omega) (fun i hi => (hA.1.2.2 i hi)) (fun e he => by
      have w := hw.2.2.2.1 e he
      have y := q_up hw he
      rw [w.1.2.2.2.2.1]
      have := w.2.1
      have := w.2.2.1.1
      omega) (fun e he q1 q2 => by
      obtain rfl : c = e := by omega
      obtain ⟨N', g⟩ := full c hc (by rw [hN.2.1] at q2; exact q2) hx.2
      exact ⟨N', (RW_mAm g.1).1, RW_mMy g.1 c hc⟩)
    simp only [if_pos hx, Int.toNat_natCast, a.1.2.2.2.2.2.1, hN.2.1] at h2
    have ref : (fst1 (fun i => me (m 154) i 1 = 4 ∧ me (m 154) i 2 = c ∧ me (m 154) i 4 = 0) N 0 = none) ↔ m (18 + 24 + c) 5 = m (18 + 24 + c) 6 := by
      rcases q_old hw hc with q | ⟨q, k, k1, k2, k3, k4, k5⟩
      · exact ⟨fun _ => q.1, fun _ => q.2⟩
      · rw [k2]
        exact ⟨fun y => (by cases y), fun y => (by omega)⟩
    simp only [ref] at h2
    have h1 := sp_X8_payFines2 m c k hx.1 hx.2 (RW_logO hw) (by rw [Int.toNat_natCast]; omega) (by rw [Int.toNat_natCast]; omega) (by rw [Int.toNat_natCast]; have := T.1; unfold cmy at this; omega) (fun q => by
      rw [Int.toNat_natCast]
      obtain ⟨N', g⟩ := full c hc (by rw [e35] at q; exact q) hx.2
      exact (RW_cmy g.1 hc).1)
    rw [Int.toNat_natCast, e35] at h1
    by_cases q1 : m (18 + 24 + c) 5 = m (18 + 24 + c) 6 ∧ m (18 + 24 + c) 9 = 0
    · rw [if_pos q1, if_pos (Or.inl q1)] at h1
      have h2 := h2 m
      rw [if_pos q1, if_neg (fun y => y.2.1 q1)] at h2
      exact b_stay h h1 h2
    · rw [if_neg q1] at h1
      by_cases q3 : (340 : Int) ≤ N
      · rw [if_pos q3, if_pos (Or.inr q3)] at h1
        have h2 := h2 m
        rw [if_neg q1, if_pos q3, if_neg (fun y => y.2.2 q3)] at h2
        exact b_stay h h1 h2
      · rw [if_neg q3, if_neg (fun y => y.elim q1 q3)] at h1
        have h2 := h2 (tmS 18 (18 + 24 + c) k m)
        rw [if_neg q1, if_neg q3, if_pos ⟨hx, q1, q3⟩] at h2
        obtain ⟨N', g⟩ := full c hc q3 hx.2
        have z := g.1.2.2.2.2.1.2.1
        rw [z, Int.toNat_natCast, q_ow g.1 hc] at h2
        exact b_move h h1 g.2.2 h2 g.1 g.2.1
  · have h1 := sp_X8_payFinesNo m x k hx
    exact b_stay h h1 (sp_rPayFinesNo m (m 154) x k hx)
/-- a ticket, and perhaps a clamp -/
theorem lgA_up {l a j : Nat} {t k c x v : Int} {m : mz_M} (h : a < l ∨ l + 4 < a) : mz_up (lgA l t k c x m) a j v = lgA l t k c x (mz_up m a j v) := by
  funext b i
  unfold lgA
  rw [up_o (show l ≠ a by omega)]
  by_cases z : m l 0 < 400
  · rw [if_pos z, if_pos z]
    unfold mz_up
    grind
  · rw [if_neg z, if_neg z]
theorem vL_up {V : Nat → Int} {k c x v : Int} {j : Nat} (h : j < 429) (h2 : j ≠ 2) : vU (vL V k c x) j v = vL (vU V j v) k c x := by
  funext i
  unfold vL
  rw [vU_n (show 429 ≠ j by omega), vU_n (show 2 ≠ j by omega)]
  unfold vU
  grind
theorem RX_wt {m0 m : mz_M} {u N c : Nat} {V : Nat → Int} {x : Int} (h : RX m0 u m V N) (hN : N + 2 ≤ 372) (hc : c < 16) (hx : 0 ≤ x ∧ x ≤ 8500) (hs : m (u + 24 + c) 1 = 1) : ∃ N', RX m0 u (wtS u (u + 24 + c) x m) (vTk V c x) N' ∧ N' ≤ N + 2 := by
  have hw := h.1
  have a := hw.2.2.2.1 c hc
  have t := hw.2.1
  have t1 := t.1
  have w1 := a.1.2
  have r2 := a.2.1
  have r3 := a.2.2.1
  have hz := hw.2.2.2.2.1
  have up := q_up hw hc
  have vn := vL_0 (V := V) (k := 4) (c := c) (x := x) hz.2.1
  have eU : mUp (vL V 4 c x) (vL V 4 c x 429).toNat c = m (u + 24 + c) 5 + 1 - m (u + 24 + c) 6 := by
    rw [vL_z, hz.2.1, show ((N : Int) + 1).toNat = N + 1 by omega]
    show sm _ N + (if me (vL V 4 c x) N 1 = 4 ∧ me (vL V 4 c x) N 2 = c ∧ me (vL V 4 c x) N 4 = 0 then 1 else 0) = _
    rw [if_pos ⟨vn.2.1, vn.2.2.1, vn.2.2.2.2⟩]
    have : sm (fun i => if me (vL V 4 c x) i 1 = 4 ∧ me (vL V 4 c x) i 2 = c ∧ me (vL V 4 c x) i 4 = 0 then (1 : Int) else 0) N = mUp V N c := sm_congr fun i hi => by
      rw [vL_e hz.2.1 hi (by omega), vL_e hz.2.1 hi (by omega), vL_e hz.2.1 hi (by omega)]
    rw [this]
    omega
  unfold wtS vTk
  simp only
  rw [eU]
  by_cases y : 3 ≤ m (u + 24 + c) 5 + 1 - m (u + 24 + c) 6
  · rw [if_pos y, if_pos y, lgA_up (by omega), lgA_up (by omega), lgA_up (by omega), vL_up (by omega) (by omega), vL_up (by omega) (by omega), vL_up (by omega) (by omega), w1.2.2.2.2.1, a.1.1]
    have f3 : mz_up (mz_up (mz_up (mz_up (mz_up (mz_up m (u + 24 + c) 5 (m (u + 24 + c) 5 + 1)) (u + 24 + c) 7 (m u 3)) (u + 24 + c) 8 (m (u + 24 + c) 8 + x)) (u + 24 + c) 1 2) (u + 24 + c) 4 (m u 3)) (u + 24 + c) 9 (m (u + 24 + c) 9 + 8000) u 3 = m u 3 := by simp (disch := omega) only [up_o]
    have s1 : RX m0 u (lgA (u + 17) (m u 3) 4 c x (mz_up (mz_up (mz_up (mz_up (mz_up (mz_up m (u + 24 + c) 5 (m (u + 24 + c) 5 + 1)) (u + 24 + c) 7 (m u 3)) (u + 24 + c) 8 (m (u + 24 + c) 8 + x)) (u + 24 + c) 1 2) (u + 24 + c) 4 (m u 3)) (u + 24 + c) 9 (m (u + 24 + c) 9 + 8000))) (vL (vU (vU (vU V (333 + 6 * c) 2) (333 + 6 * c + 5) (V 2)) (333 + 6 * c + 4) (m (u + 24 + c) 9 + 8000)) 4 c x) (N + 1) := by
      refine RX_fr h (c := c) ?_ hc (fun b h1 h2 h3 => ?_) (fun p q => ?_)
      · conv => arg 1; arg 2; rw [← f3]
        refine RW_op2 hw (by omega) hc (fun b h1 => ?_) ⟨?_, ?_, ?_, ?_, ?_⟩ (fun j hj => ?_) hx (Or.inr ?_) hs ?_ ?_ (fun q => ?_)
        · funext j; simp (disch := omega) only [up_o]
        · simp (disch := omega) only [up_k]
        · simp (disch := omega) only [up_s, up_k]
        · simp (disch := omega) only [up_k]
        · simp (disch := omega) only [up_s, up_k]
        · simp (disch := omega) only [up_s, up_k]
        · simp (disch := omega) only [vU_n]
        · simp (disch := omega) only [up_s, up_k]
        · simp (disch := omega) only [mc, vU_e, vU_n, up_s, up_k]
          simp only [mc] at w1
          exact ⟨trivial, w1.2.1, w1.2.2.1, w1.2.2.2.1, trivial, t.1.1⟩
        · simp (disch := omega) only [up_s, up_k]
          omega
        · simp (disch := omega) only [up_s, up_k] at q
          omega
      · rw [lgA_f (by omega)]; funext j; simp (disch := omega) only [up_o]
      · unfold cos at q ⊢
        rw [lgA_f (by omega)] at q
        simp (disch := omega) only [up_s, up_k, decide_eq_true_eq] at q ⊢
        exact ⟨Or.inl hs, q.2⟩
    generalize hm : lgA (u + 17) (m u 3) 4 c x (mz_up (mz_up (mz_up (mz_up (mz_up (mz_up m (u + 24 + c) 5 (m (u + 24 + c) 5 + 1)) (u + 24 + c) 7 (m u 3)) (u + 24 + c) 8 (m (u + 24 + c) 8 + x)) (u + 24 + c) 1 2) (u + 24 + c) 4 (m u 3)) (u + 24 + c) 9 (m (u + 24 + c) 9 + 8000)) = m1 at s1 ⊢
    generalize vL (vU (vU (vU V (333 + 6 * c) 2) (333 + 6 * c + 5) (V 2)) (333 + 6 * c + 4) (m (u + 24 + c) 9 + 8000)) 4 c x = V1 at s1 ⊢
    have e3 : m1 u 3 = m u 3 := by rw [← hm, lgA_o (by omega)]; exact f3
    have e1 : m1 (u + 24 + c) 1 = 2 := by rw [← hm, lgA_o (by omega)]; simp (disch := omega) only [up_s, up_k]
    have b := s1.1.2.2.2.1 c hc
    refine ⟨N + 2, RX_fr s1 (c := c) ?_ hc (fun b h1 h2 h3 => lgA_f (by omega)) (fun p q => ?_), Nat.le_refl _⟩
    · rw [← e3]
      refine RW_op1 s1.1 (by omega) hc (fun _ _ _ => rfl) (fun _ _ => rfl) (fun _ _ => rfl) s1.1.2.1 (fun q hq _ => s1.1.2.2.1 q hq) (by omega) (by omega) (fun _ => by omega) (fun q => by omega) b.1.2 (by have := b.2.1; omega) (fun q => by omega) (fun q => Or.inr (by omega))
    · unfold cos at q ⊢
      rw [lgA_f (by omega)] at q
      exact q
  · rw [if_neg y, if_neg y]
    refine ⟨N + 1, RX_fr h (c := c) ?_ hc (fun b h1 h2 h3 => ?_) (fun p q => ?_), by omega⟩
    · have f3 : mz_up (mz_up (mz_up m (u + 24 + c) 5 (m (u + 24 + c) 5 + 1)) (u + 24 + c) 7 (m u 3)) (u + 24 + c) 8 (m (u + 24 + c) 8 + x) u 3 = m u 3 := by simp (disch := omega) only [up_o]
      rw [a.1.1]
      conv => arg 1; arg 2; rw [← f3]
      refine RW_op2 hw (by omega) hc (fun b h1 => ?_) ⟨?_, ?_, ?_, ?_, ?_⟩ (fun j hj => rfl) hx (Or.inl ?_) hs ?_ ?_ (fun q => by omega)
      · funext j; simp (disch := omega) only [up_o]
      · simp (disch := omega) only [up_k]
      · simp (disch := omega) only [up_s, up_k]
      · simp (disch := omega) only [up_k]
      · simp (disch := omega) only [up_s, up_k]
      · simp (disch := omega) only [up_s, up_k]
      · simp (disch := omega) only [up_s, up_k]
        exact hs
      · simp (disch := omega) only [up_k]
        exact w1
      · simp (disch := omega) only [up_k]
        omega
    · rw [lgA_f (by omega)]; funext j; simp (disch := omega) only [up_o]
    · unfold cos at q ⊢
      rw [lgA_f (by omega)] at q
      simp (disch := omega) only [up_k] at q
      exact q
theorem RX_wts {m0 m : mz_M} {u N p : Nat} {V : Nat → Int} (h : RX m0 u m V N) (hN : N + 32 ≤ 372) : ∀ j, j ≤ 16 → ∃ N', RX m0 u (wts u p m j).1 (vIn p V j).1 N' ∧ N' ≤ N + 2 * j ∧ (vIn p V j).2 = (wts u p m j).2 := by
  intro j
  induction j with
  | zero => intro _; exact ⟨N, h, by omega, rfl⟩
  | succ j ih =>
    intro hj
    obtain ⟨N1, i1, i2, i3⟩ := ih (by omega)
    unfold wts vIn
    generalize (wts u p m j) = A at i1 i3 ⊢
    generalize (vIn p V j) = B at i1 i3 ⊢
    have hw := i1.1
    have a := hw.2.2.2.1 j (by omega)
    have w1 := a.1.2
    have tt := hw.2.1.1
    obtain ⟨t, ht⟩ := nat_i (show 0 ≤ A.1 u 3 by omega)
    have hf := q_fi hw ht (show j < 16 by omega) 0
    rw [lat_0] at hf
    simp only [Nat.add_zero] at hf
    have e : vTa B.1 p j = wtA A.1 u p j := by
      unfold vTa wtA
      rw [hw.2.2.2.2.1.2.1, Int.toNat_natCast, hf, ht, Int.toNat_natCast, q_at hw p (by omega)]
      unfold cos
      simp only [decide_eq_true_eq]
      by_cases q : A.1 (u + 24 + j) 1 = 1 ∧ A.1 (u + 24 + j) 2 = p
      · rw [if_pos ⟨Or.inl q.1, q.2⟩, if_pos q]
      · rw [if_neg q]
        by_cases q2 : (A.1 (u + 24 + j) 1 = 1 ∨ A.1 (u + 24 + j) 1 = 2) ∧ A.1 (u + 24 + j) 2 = p
        · rw [if_pos q2]
          unfold tkF
          rw [if_pos (Or.inl (by omega))]
        · rw [if_neg q2]
    have ok : 0 ≤ wtA A.1 u p j ∧ wtA A.1 u p j ≤ 8500 := by
      rw [← e]
      unfold vTa
      have := mFi_ok (V := B.1) (B.1 429).toNat j
      split <;> omega
    rw [e]
    by_cases q : wtA A.1 u p j = 0
    · rw [if_pos q, if_neg (by omega)]
      exact ⟨N1, i1, by omega, i3⟩
    · rw [if_neg q, if_pos (by omega)]
      have hs : A.1 (u + 24 + j) 1 = 1 := by
        by_cases y : A.1 (u + 24 + j) 1 = 1 ∧ A.1 (u + 24 + j) 2 = p
        · exact y.1
        · exact absurd (if_neg y) q
      obtain ⟨N2, k1, k2⟩ := RX_wt i1 (by omega) (show j < 16 by omega) ok hs
      exact ⟨N2, k1, by omega, by show B.2 + 1 = A.2 + 1; rw [i3]⟩
theorem RW_carO {m : mz_M} {u N : Nat} {V : Nat → Int} (h : RW m u V N) : ∀ c, c < 16 → carO m (u + 24 + c) := by
  intro c hc
  have a := RW_caO h c hc
  have b := h.2.2.2.1 c hc
  have N2 := h.2.2.2.2.1.2.2
  have T := mTc_ok V N c
  have d := RW_cmy h hc
  have r := b.2.1
  have q := b.2.2.1.1.1
  have e : m (u + 24 + c) 8 ≤ 8500 * N := by
    rw [b.2.2.1.2.2.1]
    refine sm_ub fun i hi => ?_
    have := (h.2.2.2.2.2 i hi).2.1
    unfold mUA
    split <;> omega
  have f : 0 ≤ m (u + 24 + c) 8 := d.1.1
  refine ⟨a.1, a.2, by omega, by omega, by omega⟩
theorem sp_rInspectNo (m : mz_M) (V : Nat → Int) (p : Int) (h : plN' V) (h1 : ¬ (0 ≤ p ∧ p < V 0)) : sp 218 [mz_r 9 0 153, mz_i p] (rM m V) (some (mz_i (-1))) (rM (mz_up m 153 4 0) V) := by
  refine mz_cl_vc 60 (fun i => i == 18) [some (mz_r 9 0 153), some (mz_i p), none, none, none] rfl ?_
  simp only [vcS0, vcS1, vcS2, vcS3, vcS4, vcS5, vcS6, vc_n0, vc_lk, vc_pop, vc_rc, vc_tsw, vc_fr, vc_ar, vc_tb, mz_nx, List.set_cons_zero, List.set_cons_succ, Nat.reduceAdd, Nat.reduceBEq, Nat.reduceEqDiff, Nat.reduceLeDiff, Nat.reduceLT, Nat.reduceMul, Int.reduceToNat, Bool.false_eq_true, Bool.or_self, Bool.or_true, Bool.true_or, Bool.or_false, reduceIte, Option.toList_some, Option.toList_none, List.nil_append, List.cons_append, List.length_cons, List.length_nil, true_and, and_true, Int.cast_ofNat_Int, Int.reduceEq, Int.reduceLT, Int.reduceLE, Nat.zero_le, and_self, or_true, true_or, cdS_218]
  rw [rM_u3]
  refine ⟨_, _, sp_rpl _ V p h, ?_⟩
  rw [if_neg h1]
  simp only [vcS0, vcS1, vcS2, vcS3, vcS4, vcS5, vcS6, vc_n0, vc_lk, vc_pop, vc_rc, vc_tsw, vc_fr, vc_ar, vc_tb, mz_nx, List.set_cons_zero, List.set_cons_succ, Nat.reduceAdd, Nat.reduceBEq, Nat.reduceEqDiff, Nat.reduceLeDiff, Nat.reduceLT, Nat.reduceMul, Int.reduceToNat, Bool.false_eq_true, Bool.or_self, Bool.or_true, Bool.true_or, Bool.or_false, reduceIte, Option.toList_some, Option.toList_none, List.nil_append, List.cons_append, List.length_cons, List.length_nil, true_and, and_true, Int.cast_ofNat_Int, Int.reduceEq, Int.reduceLT, Int.reduceLE, Nat.zero_le, and_self, or_true, true_or, cdS_218]
theorem b_inspect {m : mz_M} (h : Rel m) (x : Int) : both 267 218 [mz_i x] m := by
  obtain ⟨N, hw⟩ := h.1
  have hs := RW_sz hw
  have hN := hw.2.2.2.2.1
  obtain ⟨t, ht, ht2⟩ := RW_t hw
  have e35 : m 35 0 = N := hN.1
  have h1 := sp_X8_inspect m x hs.2.2 (RW_logO hw) (RW_carO hw) ht (by omega)
  rw [e35] at h1
  by_cases hx : 0 ≤ x ∧ x < m (18 + 1) 0
  · obtain ⟨p, rfl⟩ := nat_i hx.1
    rw [Int.toNat_natCast] at h1
    have full : ¬ (340 : Int) ≤ N → ∀ j, j ≤ 16 → ∃ N', RX m 18 (wts 18 p m j).1 (vIn p (m 154) j).1 N' ∧ N' ≤ N + 2 * j ∧ (vIn p (m 154) j).2 = (wts 18 p m j).2 := fun q => RX_wts (m0 := m) (u := 18) ⟨hw, h.2.2.2.2.1, fun _ _ => rfl⟩ (by omega)
    have h2 := fun m1 => sp_rInspect m1 (m 154) p (n := N) (RW_pl hw) (RW_mVO hw) (fun q j hj => by
      rw [hN.2.1] at q
      obtain ⟨N', g, _⟩ := full q j (by omega)
      have := (RW_mMy g.1 j hj).2
      exact this)
    rw [hs.1] at h2
    simp only [hN.2.1, if_pos hx] at h2
    rw [if_pos hx] at h1
    by_cases q3 : (340 : Int) ≤ N
    · rw [if_pos q3, if_neg (fun y => y.2 q3)] at h1
      have h2 := h2 m
      rw [if_pos q3, if_neg (fun y => y.2 q3)] at h2
      exact b_stay h h1 h2
    · rw [if_neg q3, if_pos ⟨hx, q3⟩] at h1
      obtain ⟨N', g, _, g3⟩ := full q3 16 (by omega)
      have h2 := h2 (wts 18 p m 16).1
      rw [if_neg q3, if_pos ⟨hx, q3⟩, g3] at h2
      exact b_move h h1 g.2.2 h2 g.1 g.2.1
  · have h2 := sp_rInspectNo m (m 154) x (RW_pl hw) (by rw [hs.1]; exact hx)
    rw [if_neg hx, if_neg (fun q => hx q.1)] at h1
    exact b_stay h h1 h2
