/-! Both objects: parking, leaving, paying. -/
theorem b_stay {fc fm : Nat} {as : List mz_V} {m : mz_M} {v : Int} (h : Rel m) (h1 : sp fc (mz_r 8 0 0 :: as) m (some (mz_i v)) m) (h2 : sp fm (mz_r 9 0 153 :: as) (rM m (m 154)) (some (mz_i v)) (rM (mz_up m 153 4 0) (m 154))) : both fc fm as m := by
  rw [rM_self] at h2
  have e : rM (mz_up m 153 4 0) (m 154) = mz_up m 153 4 0 := by
    have := rM_self (mz_up m 153 4 0)
    rw [up_154] at this
    exact this
  rw [e] at h2
  exact ⟨_, _, _, h1, h2, Rel_thr h⟩
/-- the live world moves, and nothing else -/
theorem Rel_live {m m' : mz_M} {N : Nat} (h : Rel m) (e : ∀ a, (a < 18 ∨ 58 ≤ a) → a ≠ 153 → a ≠ 154 → m' a = m a) (e3 : m' 153 6 = m 153 6 ∧ m' 153 8 = m 153 8 ∧ m' 153 11 = m 153 11) (hw : RW m' 18 (m' 154) N) (hs : spR m' 18) : Rel m' := by
  obtain ⟨_, ⟨s0, s1⟩, hr, ⟨⟨c1, c2, c3, c4⟩, _, c6⟩⟩ := h
  have f : ∀ a, (59 ≤ a ∧ a < 140) ∨ a = 156 ∨ a = 157 → m' a = m a := fun a ha => e a (by omega) (by omega) (by omega)
  refine ⟨⟨N, hw⟩, ⟨slR_frame (by omega) s0 f, slR_frame (by omega) s1 f⟩, rdR_frame hr ⟨e 17 (by omega) (by omega) (by omega), e 158 (by omega) (by omega) (by omega)⟩ ⟨by rw [e 1 (by omega) (by omega) (by omega)], by rw [e 1 (by omega) (by omega) (by omega)]⟩ e3, ⟨⟨?_, ?_, ?_, ?_⟩, hs, fun x hx hu => spR_congr (fun a q1 q2 q3 q4 => e a (by omega) (by omega) (by omega)) (c6 x hx ?_)⟩⟩
  · rw [e 145 (by omega) (by omega) (by omega)]; exact c1
  · rw [e 146 (by omega) (by omega) (by omega)]; exact c2
  · rw [e 152 (by omega) (by omega) (by omega)]; exact c3
  · rw [e 165 (by omega) (by omega) (by omega)]; exact c4
  · rw [← e 139 (by omega) (by omega) (by omega)]; exact hu
theorem Rel_move {m m1 : mz_M} {N : Nat} {V' : Nat → Int} (h : Rel m) (hf : ∀ a, (a < 18 ∨ 58 ≤ a) → m1 a = m a) (hw : RW m1 18 V' N) (hs : spR m1 18) : Rel (rM (mz_up m1 153 4 0) V') := by
  have o : ∀ a, a ≠ 153 → a ≠ 154 → rM (mz_up m1 153 4 0) V' a = m1 a := fun a h1 h2 => by funext j; rw [rM_o h2, up_o h1]
  refine Rel_live (N := N) h (fun a h1 h2 h3 => by rw [o a h2 h3, hf a h1]) ?_ ?_ ?_
  · rw [rM_o (by omega), rM_o (by omega), rM_o (by omega), up_k (by omega), up_k (by omega), up_k (by omega), hf 153 (by omega)]
    exact ⟨rfl, rfl, rfl⟩
  · rw [rM_154]
    exact RW_congr (fun a h1 h2 h3 h4 => o a (by omega) (by omega)) (fun _ _ => rfl) hw
  · exact spR_congr (fun a h1 h2 h3 h4 => o a (by omega) (by omega)) hs
theorem b_move {fc fm : Nat} {as : List mz_V} {m m1 : mz_M} {v : Int} {N : Nat} {V' : Nat → Int} (h : Rel m) (h1 : sp fc (mz_r 8 0 0 :: as) m (some (mz_i v)) m1) (hf : ∀ a, (a < 18 ∨ 58 ≤ a) → m1 a = m a) (h2 : sp fm (mz_r 9 0 153 :: as) (rM m1 (m 154)) (some (mz_i v)) (rM (mz_up m1 153 4 0) V')) (hw : RW m1 18 V' N) (hs : spR m1 18) : both fc fm as m := by
  rw [show rM m1 (m 154) = m1 by rw [← hf 154 (by omega), rM_self]] at h2
  exact ⟨_, _, _, h1, h2, Rel_move h hf hw hs⟩
theorem spR_le {m m' : mz_M} {u : Nat} (h : spR m u) (e : m' (u + 3) = m (u + 3)) (hc : ∀ c p, c < 16 → p < 10 → cos m' u ((p : Nat) : Int) c = true → cos m u p c = true) : spR m' u := by
  intro p hp
  rw [e]
  refine Int.le_trans (sm_le fun c hc' => ?_) (h p hp)
  by_cases q : cos m' u p c = true
  · rw [if_pos q, if_pos (hc c p hc' hp q)]; exact Int.le_refl _
  · rw [if_neg q]; split <;> omega
theorem q_fre {m : mz_M} {u N : Nat} {V : Nat → Int} (h : RW m u V N) {p : Nat} (hp : p < 10) : mFr V p = m (u + 3) p - sm (fun c => if cos m u p c then 1 else 0) 16 := by
  unfold mFr
  rw [(h.1.2.1.2.1 p hp).2.1]
  have : sm (fun c => if mAt V p c = true then 1 else 0) 16 = sm (fun c => if cos m u p c then 1 else 0) 16 := sm_congr fun c hc => by rw [q_at h p hc]
  rw [this]
theorem RW_park {m : mz_M} {u N c p : Nat} {V : Nat → Int} (h : RW m u V N) (hN : N + 1 ≤ 372) (hc : c < 16) (hp : (p : Int) < m (u + 1) 0) (h0 : m (u + 24 + c) 1 = 0) : RW (pcS u (u + 24 + c) p m) u (vPark V c p) (N + 1) := by
  have a := h.2.2.2.1 c hc
  have t := h.2.1
  have w1 := a.1.2.2.2.2
  have r2 := a.2.1
  have sz := RW_sz h
  have t1 := t.1
  unfold pcS vPark
  have f3 : mz_up (mz_up (mz_up m (u + 24 + c) 1 1) (u + 24 + c) 2 p) (u + 24 + c) 3 (m u 3) u 3 = m u 3 := by simp (disch := omega) only [up_o]
  rw [a.1.1]
  conv => arg 1; arg 2; rw [← f3]
  refine RW_op1 h hN hc (fun b h1 h2 => ?_) (fun w hw => ?_) (fun j hj => ?_) ?_ (fun q hq y => ?_) (by omega) (by omega) (fun _ => hp) (fun q => by omega) ?_ ?_ (fun _ => a.2.2.1.2.1 (by omega)) (fun _ => Or.inl rfl)
  · funext j; simp (disch := omega) only [up_o]
  · simp (disch := omega) only [up_k]
  · simp (disch := omega) only [vU_n]
  · unfold timR at t ⊢
    simp (disch := omega) only [up_o, vU_n]
    exact t
  · unfold pnd at y
    simp (disch := omega) only [up_s, up_k] at y
    rw [if_neg (by omega)] at y
    omega
  · simp (disch := omega) only [mc, vU_e, vU_n, up_s, up_k]
    simp only [mc] at w1
    exact ⟨trivial, trivial, t.1.1, w1⟩
  · simp (disch := omega) only [up_s, up_k]
    omega
theorem b_park {m : mz_M} (h : Rel m) (x y : Int) : both 251 222 [mz_i x, mz_i y] m := by
  obtain ⟨N, hw⟩ := h.1
  have hs := RW_sz hw
  have hN := hw.2.2.2.2.1
  have rows := RW_rows hw
  have hsp := h.2.2.2.2.1
  have h2 := fun m1 => sp_rPark m1 (m 154) x y (n := N) (RW_pl hw) (fun p hp => (rows.1 p hp).1) hN.2.1
  by_cases hx : (0 ≤ x ∧ x < 16) ∧ 0 ≤ y ∧ y < m (18 + 1) 0
  · have h2 := fun m1 => h2 m1
    simp only [hs.1] at h2
    obtain ⟨c, rfl⟩ := nat_i hx.1.1
    obtain ⟨p, rfl⟩ := nat_i hx.2.1
    have hc : c < 16 := by omega
    have hp : p < 10 := by omega
    have a := (hw.2.2.2.1 c hc).1
    have h1 := sp_X8_park m (p := p) c hx.1 hx.2.2 hs.2.2 (RW_cnO hw) (fun i hi => by have := hw.1.1.2.2.2.2.1 i hi; show 0 ≤ m (18 + 1 + 2) i ∧ m (18 + 1 + 2) i ≤ 1000; omega) (by show 0 ≤ m (18 + 17) 0; omega)
    have ef : mFr (m 154) p = fre m p := q_fre hw hp
    have ge : 0 ≤ fre m p := by have := hsp p hp; show 0 ≤ m (18 + 3) p - _; omega
    have e35 : m 35 0 = N := hN.1
    simp only [Int.toNat_natCast] at h1 h2
    rw [e35] at h1
    simp only [a.2.1, ef, hN.2.1] at h2
    simp only [if_pos hx] at h2
    by_cases q1 : m (18 + 24 + c) 1 = 0
    · rw [if_neg (by omega)] at h1
      by_cases q2 : fre m p = 0
      · rw [if_pos (by omega), if_pos (by omega)] at h1
        have h2 := h2 m
        rw [if_neg (by omega), if_pos q2, if_neg (by omega)] at h2
        exact b_stay h h1 h2
      · rw [if_neg (by omega)] at h1
        by_cases q3 : (340 : Int) ≤ N
        · rw [if_pos q3, if_pos (by omega)] at h1
          have h2 := h2 m
          rw [if_neg (by omega), if_neg q2, if_pos q3, if_neg (by omega)] at h2
          exact b_stay h h1 h2
        · rw [if_neg q3, if_neg (by omega)] at h1
          have h2 := h2 (pcS 18 (18 + 24 + c) p m)
          rw [if_neg (by omega), if_neg q2, if_neg q3, if_pos (by omega)] at h2
          have hw' := RW_park hw (by omega) hc hx.2.2 q1
          rw [show mFr (vPark (m 154) c p) p = fre (pcS 18 (18 + 24 + c) p m) p from q_fre hw' hp] at h2
          refine b_move h h1 (fun b hb => ?_) h2 hw' ?_
          · funext j
            unfold pcS
            rw [lgA_o (by omega)]
            simp (disch := omega) only [up_o]
          · intro q hq
            have e3 : pcS 18 (18 + 24 + c) p m (18 + 3) q = m (18 + 3) q := by
              unfold pcS
              rw [lgA_o (by omega)]
              simp (disch := omega) only [up_o]
            rw [e3]
            have g : ∀ i, i < 16 → (if cos (pcS 18 (18 + 24 + c) p m) 18 q i then (1 : Int) else 0) = (if cos m 18 q i then 1 else 0) + if i = c then (if q = p then 1 else 0) else 0 := by
              intro i hi
              unfold cos pcS
              rw [lgA_o (by omega), lgA_o (by omega)]
              by_cases y : i = c
              · subst y
                simp (disch := omega) only [up_s, up_k]
                simp only [decide_eq_true_eq]
                rw [if_neg (show ¬ ((m (18 + 24 + i) 1 = 1 ∨ m (18 + 24 + i) 1 = 2) ∧ m (18 + 24 + i) 2 = (q : Int)) by omega)]
                simp only [true_or, true_and, if_true, Int.zero_add]
                by_cases z : q = p
                · rw [if_pos z, if_pos (by omega)]
                · rw [if_neg z, if_neg (by omega)]
              · simp (disch := omega) only [up_o]
                rw [if_neg y, Int.add_zero]
            rw [sm_one g, if_pos hc]
            have := hsp q hq
            by_cases z : q = p
            · subst z
              rw [if_pos rfl]
              unfold fre at ge q2
              show _ ≤ m (18 + 3) q
              have : m 21 q = m (18 + 3) q := rfl
              omega
            · rw [if_neg z]; omega
    · rw [if_pos q1, if_pos (Or.inl q1)] at h1
      have h2 := h2 m
      rw [if_pos q1, if_neg (by omega)] at h2
      exact b_stay h h1 h2
  · have h1 := sp_X8_parkNo m x y hx
    have h2 := h2 m
    rw [hs.1, if_neg hx, if_neg (fun q => hx q.1)] at h2
    exact b_stay h h1 h2
theorem RW_leave {m : mz_M} {u N c t : Nat} {V : Nat → Int} (h : RW m u V N) (hN : N + 1 ≤ 372) (hc : c < 16) (ht : m u 3 = t) (h1 : m (u + 24 + c) 1 = 1) : RW (lgA (u + 17) (m u 3) 3 (m (u + 24 + c) 0) (ovr m u (u + 24 + c) t) (mz_up m (u + 24 + c) 1 0)) u (vLv V c) (N + 1) := by
  have a := h.2.2.2.1 c hc
  have t' := h.2.1
  have w1 := a.1.2.2
  have r2 := a.2.1
  have ho := q_ov h ht hc 0
  rw [lat_0] at ho
  simp only [Nat.add_zero] at ho
  have hok := mOv_ok (V := V) (c := c) (by have := t'.1; omega)
  unfold vLv
  have f3 : mz_up m (u + 24 + c) 1 0 u 3 = m u 3 := by simp (disch := omega) only [up_o]
  rw [a.1.1, ← ho]
  conv => arg 1; arg 2; rw [← f3]
  refine RW_op1 h hN hc (fun b h1 h2 => ?_) (fun w hw => ?_) (fun j hj => ?_) ?_ (fun q hq y => ?_) (by omega) (by omega) (fun _ => by omega) (fun q => by omega) ?_ ?_ (fun _ => a.2.2.1.2.1 (by omega)) (fun q => ?_)
  · funext j; simp (disch := omega) only [up_o]
  · simp (disch := omega) only [up_k]
  · simp (disch := omega) only [vU_n]
  · unfold timR at t' ⊢
    simp (disch := omega) only [up_o, vU_n]
    exact t'
  · unfold pnd at y
    simp (disch := omega) only [up_s, up_k] at y
    rw [if_neg (by omega)] at y
    omega
  · simp (disch := omega) only [mc, vU_e, vU_n, up_s, up_k]
    simp only [mc] at w1
    exact ⟨trivial, w1⟩
  · simp (disch := omega) only [up_s, up_k]
    omega
  · rw [up_s] at q; omega
theorem RW_pay {m : mz_M} {u N c : Nat} {V : Nat → Int} {U k : Int} (h : RW m u V N) (hN : N + 1 ≤ 372) (hc : c < 16) (h1 : m (u + 24 + c) 1 = 1) (hU : 0 ≤ U ∧ U ≤ 10700) (hk : 0 ≤ k ∧ k ≤ 100000) : RW (lgA (u + 17) (m u 3) 2 (m (u + 24 + c) 0) k (mz_up m (u + 24 + c) 3 U)) u (vPay V c U k) (N + 1) := by
  have a := h.2.2.2.1 c hc
  have t' := h.2.1
  have w1 := a.1.2
  have r2 := a.2.1
  unfold vPay
  have f3 : mz_up m (u + 24 + c) 3 U u 3 = m u 3 := by simp (disch := omega) only [up_o]
  rw [a.1.1]
  conv => arg 1; arg 2; rw [← f3]
  refine RW_op1 h hN hc (fun b h1 h2 => ?_) (fun w hw => ?_) (fun j hj => ?_) ?_ (fun q hq y => ?_) (by omega) (by omega) (fun _ => by omega) (fun q => by omega) ?_ ?_ (fun _ => a.2.2.1.2.1 (by omega)) (fun q => Or.inr (by omega))
  · funext j; simp (disch := omega) only [up_o]
  · simp (disch := omega) only [up_k]
  · simp (disch := omega) only [vU_n]
  · unfold timR at t' ⊢
    simp (disch := omega) only [up_o, vU_n]
    exact t'
  · unfold pnd at y
    simp (disch := omega) only [up_k] at y
    rw [if_neg (by omega)] at y
    omega
  · simp (disch := omega) only [mc, vU_e, vU_n, up_s, up_k]
    simp only [mc] at w1
    exact ⟨w1.1, w1.2.1, trivial, w1.2.2.2⟩
  · simp (disch := omega) only [up_s, up_k]
    omega
/-- a step that moves no car onto a space -/
theorem spR_car {m m' : mz_M} {u c : Nat} (h : spR m u) (hf : ∀ a, u < a → a < u + 40 → (a < u + 17 ∨ u + 21 < a) → a ≠ u + 24 + c → m' a = m a) (hc : ∀ p : Nat, cos m' u p c = true → cos m u p c = true) : spR m' u := by
  refine spR_le h (by rw [hf _ (by omega) (by omega) (by omega) (by omega)]) (fun i p hi hp q => ?_)
  by_cases y : i = c
  · subst y; exact hc p q
  · unfold cos at q ⊢
    rw [hf _ (by omega) (by omega) (by omega) (by omega)] at q
    exact q
theorem b_leave {m : mz_M} (h : Rel m) (x : Int) : both 248 161 [mz_i x] m := by
  obtain ⟨N, hw⟩ := h.1
  have hs := RW_sz hw
  have hN := hw.2.2.2.2.1
  obtain ⟨t, ht, ht2⟩ := RW_t hw
  have h1 := sp_X8_leave m x ht (by omega) (by show 0 ≤ m (18 + 17) 0; omega) fun c hc => (RW_caO hw c hc).1
  have h2 := fun m1 => sp_rLeave m1 (m 154) x (n := N) (RW_mVO hw)
  have e35 : m 35 0 = N := hN.1
  by_cases hx : 0 ≤ x ∧ x < 16
  · obtain ⟨c, rfl⟩ := nat_i hx.1
    have hc : c < 16 := by omega
    have a := (hw.2.2.2.1 c hc).1
    have ho := q_ov hw ht hc 0
    rw [lat_0] at ho
    simp only [Nat.add_zero] at ho
    simp only [Int.toNat_natCast, e35] at h1
    simp only [Int.toNat_natCast, a.2.1, hN.2.1, ho] at h2
    rw [if_pos hx] at h1
    simp only [if_pos hx] at h2
    by_cases q1 : m (18 + 24 + c) 1 = 1
    · rw [if_pos q1] at h1
      by_cases q3 : (340 : Int) ≤ N
      · rw [if_pos q3, if_neg (by omega)] at h1
        have h2 := h2 m
        rw [if_pos q1, if_pos q3, if_neg (by omega)] at h2
        exact b_stay h h1 h2
      · rw [if_neg q3, if_pos (by omega)] at h1
        have h2 := h2 (lvM m (18 + 24 + c) t)
        rw [if_pos q1, if_neg q3, if_pos (by omega)] at h2
        refine b_move h h1 (fun b hb => ?_) h2 (RW_leave hw (by omega) hc ht q1) (spR_car h.2.2.2.2.1 (c := c) (fun b b1 b2 b3 b4 => ?_) fun p q => ?_)
        · unfold lvM; rw [lgA_f (by omega)]; funext j; rw [up_o (by omega)]
        · unfold lvM; rw [lgA_f (by omega)]; funext j; rw [up_o (by omega)]
        · unfold lvM cos at q
          rw [lgA_f (by omega)] at q
          simp (disch := omega) only [up_s, up_k, decide_eq_true_eq] at q
          omega
    · rw [if_neg q1, if_neg (by omega)] at h1
      have h2 := h2 m
      rw [if_neg q1, if_neg (by omega)] at h2
      exact b_stay h h1 h2
  · have h2 := h2 m
    rw [if_neg hx, if_neg (fun q => hx q.1)] at h1 h2
    exact b_stay h h1 h2
theorem b_pay {m : mz_M} (h : Rel m) (x k : Int) : both 252 173 [mz_i x, mz_i k] m := by
  obtain ⟨N, hw⟩ := h.1
  have hs := RW_sz hw
  have hN := hw.2.2.2.2.1
  obtain ⟨t, ht, ht2⟩ := RW_t hw
  have hR : ∀ z, z < 4 → okR (m (27 + 2 * z)) := fun z hz k hk => (hw.1.1.2.2.2.2.2.2 z hz).2 k hk
  have hS : ∀ z, z < 4 → 0 ≤ m (26 + 2 * z) 1 ∧ m (26 + 2 * z) 1 < 1000 := fun z hz => by
    have := (hw.1.1.2.2.2.2.2.2 z hz).1
    show 0 ≤ m (18 + 1 + 7 + 2 * z) 1 ∧ m (18 + 1 + 7 + 2 * z) 1 < 1000
    omega
  have h2 := fun m1 => sp_rPay m1 (m 154) x k (n := N) (RW_mVO hw) (RW_mRo hw) (RW_rows hw).2
  have e35 : m 35 0 = N := hN.1
  by_cases hx : (0 ≤ x ∧ x < 16) ∧ 1 ≤ k ∧ k ≤ 9999
  · obtain ⟨c, rfl⟩ := nat_i hx.1.1
    have hc : c < 16 := by omega
    have a := (hw.2.2.2.1 c hc).1
    have r := (hw.2.2.2.1 c hc).2.1
    simp only [Int.toNat_natCast, a.2.1, a.2.2.1, a.2.2.2.1, hN.2.1] at h2
    simp only [if_pos hx] at h2
    by_cases q1 : m (18 + 24 + c) 1 = 1
    · obtain ⟨p, hp⟩ := nat_i r.2.1.1
      obtain ⟨f, hf⟩ := nat_i (show 0 ≤ max (m (18 + 24 + c) 3) (t : Int) by omega)
      have z := q_zone hw (show p < 10 by omega)
      have zs : 0 ≤ m (zoA m 18 p) 1 ∧ m (zoA m 18 p) 1 < 1000 := by
        have := hS (znP m 19 p) (znP_lt m 19 p)
        unfold zoA
        rw [show 18 + 8 + 2 * znP m (18 + 1) p = 26 + 2 * znP m 19 p from rfl]
        exact this
      obtain ⟨s, hsn⟩ := nat_i zs.1
      have h1 := sp_X8_pay m c k ht (by omega) (by show 0 ≤ m (18 + 17) 0; omega) (fun c hc => (RW_caO hw c hc).1) hR hS hx.1 hx.2 (by rw [Int.toNat_natCast]; exact q1) p f s (by rw [Int.toNat_natCast]; exact hp) (by rw [Int.toNat_natCast]; exact hf) hsn
      rw [Int.toNat_natCast, e35] at h1
      have em : (mUn (m 154) c k : Int) = lu (m (zoA m 18 p + 1)) (t + s - f) (60 * k.toNat) f := by
        unfold mUn
        rw [a.2.2.1, a.2.2.2.1, hp, Int.toNat_natCast, z.2.2, hsn, hw.2.1.1.1, ht, Int.max_comm, hf, Int.toNat_natCast, Int.toNat_natCast, Int.toNat_natCast, lu_congr z.2.1, show 60 * k = 60 * (k.toNat : Int) by omega]
      have em2 : max (m 154 2) (m (18 + 24 + c) 3) = f := by rw [hw.2.1.1.1, ht, Int.max_comm]; exact hf
      simp only [em, em2] at h2
      have lb := lu_le (R := m (zoA m 18 p + 1)) (t + s - f) (60 * k.toNat) f
      have s600 : s ≤ 600 := by
        have := (hw.1.1.2.2.2.2.2.2 (znP m 19 p) (znP_lt m 19 p)).1
        have e : zoA m 18 p = 18 + 1 + 7 + 2 * znP m 19 p := rfl
        rw [e] at hsn
        omega
      generalize lu (m (zoA m 18 p + 1)) (t + s - f) (60 * k.toNat) f = U at h1 h2 lb
      by_cases q2 : (U : Int) = f
      · rw [if_pos (by omega), if_pos (by omega)] at h1
        have h2 := h2 m
        rw [if_pos q1, if_pos q2, if_neg (by omega)] at h2
        exact b_stay h h1 h2
      · rw [if_neg (by omega)] at h1
        by_cases q3 : (340 : Int) ≤ N
        · rw [if_pos q3, if_pos (by omega)] at h1
          have h2 := h2 m
          rw [if_pos q1, if_neg q2, if_pos q3, if_neg (by omega)] at h2
          exact b_stay h h1 h2
        · rw [if_neg q3, if_neg (by omega)] at h1
          have h2 := h2 (lgA 35 (m 18 3) 2 (m (18 + 24 + c) 0) k (mz_up m (18 + 24 + c) 3 U))
          rw [if_pos q1, if_neg q2, if_neg q3, if_pos (by omega)] at h2
          refine b_move h h1 (fun b hb => ?_) h2 (RW_pay hw (by omega) hc q1 (by omega) (by omega)) (spR_car h.2.2.2.2.1 (c := c) (fun b b1 b2 b3 b4 => ?_) fun p q => ?_)
          · rw [lgA_f (by omega)]; funext j; rw [up_o (by omega)]
          · rw [lgA_f (by omega)]; funext j; rw [up_o (by omega)]
          · unfold cos at q ⊢
            rw [lgA_f (by omega)] at q
            simp (disch := omega) only [up_k] at q
            exact q
    · have h1 := sp_X8_payWr m c k hx.1 hx.2 (by rw [Int.toNat_natCast]; exact q1)
      have h2 := h2 m
      rw [if_neg q1, if_neg (by omega)] at h2
      exact b_stay h h1 h2
  · have h1 := sp_X8_payNo m x k hx
    have h2 := h2 m
    rw [if_neg hx, if_neg (fun q => hx q.1)] at h2
    exact b_stay h h1 h2
