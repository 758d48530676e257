/-! Both objects: snapshots. -/
def agE (m : mz_M) (v : Nat) (m' : mz_M) (u : Nat) : Prop :=
  (∀ b j, tIn b j → m' (u + 1 + b) j = m (v + 1 + b) j) ∧ (m' u 3 = m v 3 ∧ m' u 4 = m v 4) ∧
  (m' (u + 17) 0 = m (v + 17) 0 ∧ ∀ i, i < 400 → m' (u + 18) i = m (v + 18) i ∧ m' (u + 19) i = m (v + 19) i ∧ m' (u + 20) i = m (v + 20) i ∧ m' (u + 21) i = m (v + 21) i) ∧
  ∀ c w, c < 16 → w < 11 → m' (u + 24 + c) w = m (v + 24 + c) w
theorem RW_ag {m m' : mz_M} {u v N : Nat} {V : Nat → Int} (g : agE m v m' u) (h : RW m v V N) : RW m' u V N := by
  obtain ⟨gT, ⟨g3, g4⟩, ⟨gl, ge⟩, gc⟩ := g
  obtain ⟨⟨⟨a1, a2, a3, a4, a5, a6, a7⟩, ⟨b1, b2, b3, b4⟩, c1⟩, h2, h3, h4, ⟨h5, h6, h7⟩, h8⟩ := h
  have t0 : ∀ j, j < 3 → m' (u + 1) j = m (v + 1) j := fun j hj => gT 0 j (by unfold tIn; omega)
  have t1 : ∀ j, j < 10 → m' (u + 1 + 1) j = m (v + 1 + 1) j := fun j hj => gT 1 j (by unfold tIn; omega)
  have t2 : ∀ j, j < 10 → m' (u + 1 + 2) j = m (v + 1 + 2) j := fun j hj => gT 2 j (by unfold tIn; omega)
  have t3 : ∀ j, j < 10 → m' (u + 1 + 3) j = m (v + 1 + 3) j := fun j hj => gT 3 j (by unfold tIn; omega)
  have t4 : ∀ j, j < 100 → m' (u + 1 + 4) j = m (v + 1 + 4) j := fun j hj => gT 4 j (by unfold tIn; omega)
  have t5 : ∀ j, j < 100 → m' (u + 1 + 5) j = m (v + 1 + 5) j := fun j hj => gT 5 j (by unfold tIn; omega)
  have tz : ∀ z, z < 4 → m' (u + 1 + 7 + 2 * z) 1 = m (v + 1 + 7 + 2 * z) 1 := fun z hz => by
    have := gT (7 + 2 * z) 1 (by unfold tIn; omega)
    rw [show u + 1 + 7 + 2 * z = u + 1 + (7 + 2 * z) by omega, show v + 1 + 7 + 2 * z = v + 1 + (7 + 2 * z) by omega]
    exact this
  have tr : ∀ z h, z < 4 → h < 24 → m' (u + 1 + 8 + 2 * z) h = m (v + 1 + 8 + 2 * z) h := fun z h hz hh => by
    have := gT (8 + 2 * z) h (by unfold tIn; omega)
    rw [show u + 1 + 8 + 2 * z = u + 1 + (8 + 2 * z) by omega, show v + 1 + 8 + 2 * z = v + 1 + (8 + 2 * z) by omega]
    exact this
  have sm3 : sm (fun p => if 0 < m' (u + 1 + 3) p then 1 else 0) 10 = sm (fun p => if 0 < m (v + 1 + 3) p then 1 else 0) 10 := sm_congr fun p hp => by rw [t3 p hp]
  refine ⟨⟨⟨?_, ?_, ?_, fun p hp => ?_, fun p hp => ?_, fun j hj => ?_, fun z hz => ⟨?_, fun h hh => ?_⟩⟩, ⟨?_, fun p hp => ?_, fun j hj => ?_, fun z hz => ⟨?_, fun h hh => ?_⟩⟩, fun j hj => ⟨?_, ?_⟩⟩, ?_, fun p hp => ?_, fun c hc => ?_, ⟨?_, h6, h7⟩, fun i hi => ?_⟩
  · rw [t0 0 (by omega)]; exact a1
  · rw [t0 2 (by omega), t0 0 (by omega)]
    rcases a2 with q | q
    · exact Or.inl ⟨q.1, fun p hp => by rw [t3 p hp]; exact q.2 p hp⟩
    · exact Or.inr ⟨q.1, by rw [t3 _ (by omega)]; exact q.2⟩
  · rw [t0 1 (by omega), sm3]; exact a3
  · rw [t3 p hp, t0 0 (by omega)]; exact a4 p hp
  · rw [t1 p hp, t2 p hp]; exact a5 p hp
  · rw [t4 j hj]; exact a6 j hj
  · rw [tz z hz]; exact (a7 z hz).1
  · rw [tr z h hz hh]; exact (a7 z hz).2 h hh
  · rw [t0 0 (by omega)]; exact b1
  · rw [t1 p hp, t2 p hp, t3 p hp]; exact b2 p hp
  · rw [t4 j hj]; exact b3 j hj
  · rw [tz z hz]; exact (b4 z hz).1
  · rw [tr z h hz hh]; exact (b4 z hz).2 h hh
  · show m' (u + 1 + 5) j = _
    rw [t5 j hj]
    rw [fwT_congr (T := m' (u + 5)) (U := m (v + 5)) (fun i hi => t4 i hi) j hj]
    exact (c1 j hj).1
  · show V (103 + j) = m' (u + 1 + 5) j
    rw [t5 j hj]
    exact (c1 j hj).2
  · unfold timR at h2 ⊢
    rw [g3, g4, t0 0 (by omega)]
    refine ⟨h2.1, h2.2.1, ?_⟩
    rcases h2.2.2 with q | q
    · exact Or.inl ⟨q.1, fun p hp => by have := t3 p hp; show m' (u + 1 + 3) p = 0; rw [this]; exact q.2 p hp⟩
    · exact Or.inr ⟨q.1, by show 0 < m' (u + 1 + 3) _; rw [t3 _ (by omega)]; exact q.2⟩
  · show _ ≤ m' (u + 1 + 3) p
    rw [t3 p hp]
    have : sm (pnd m' u p) 16 = sm (pnd m v p) 16 := sm_congr fun c hc => by unfold pnd; rw [gc c 1 hc (by omega), gc c 2 hc (by omega)]
    rw [this]
    exact h3 p hp
  · have a := h4 c hc
    unfold carR at a ⊢
    rw [t0 0 (by omega), gc c 0 hc (by omega), gc c 1 hc (by omega), gc c 2 hc (by omega), gc c 3 hc (by omega), gc c 4 hc (by omega), gc c 5 hc (by omega), gc c 6 hc (by omega), gc c 7 hc (by omega), gc c 8 hc (by omega), gc c 9 hc (by omega), gc c 10 hc (by omega)]
    exact a
  · rw [gl]; exact h5
  · have a := h8 i hi
    have e := ge i (by omega)
    have w := a.2.1.2.2.1
    unfold entR at a ⊢
    rw [t0 0 (by omega), e.1, e.2.1, e.2.2.1, e.2.2.2, gc _ 6 (by omega) (by omega)]
    exact a
theorem spR_ag {m m' : mz_M} {u v : Nat} (g : agE m v m' u) (h : spR m v) : spR m' u := by
  intro p hp
  have e := g.1 2 p (by unfold tIn; omega)
  show _ ≤ m' (u + 1 + 2) p
  rw [e]
  have : sm (fun c => if cos m' u p c then 1 else 0) 16 = sm (fun c => if cos m v p c then 1 else 0) 16 := sm_congr fun c hc => by
    unfold cos
    rw [g.2.2.2 c 1 hc (by omega), g.2.2.2 c 2 hc (by omega)]
  rw [this]
  exact h p hp
theorem agE_wc {m : mz_M} {u v : Nat} (h : v + 40 ≤ u ∨ u + 40 ≤ v) (h1 : cnO m u) (h2 : cnO m v) : agE m v (wcS u v m) u := by
  have tc : ∀ a j, ¬ (u + 1 ≤ a ∧ tIn (a - (u + 1)) j) → tCp (v + 1) (u + 1) m a j = m a j := fun a j q => by unfold tCp; exact if_neg q
  have tO : ∀ a j, (a < u + 1 ∨ u + 16 ≤ a) → tCp (v + 1) (u + 1) m a j = m a j := fun a j q => tCp_o (by omega)
  have cO : ∀ a j, (a < u + 24 ∨ u + 40 ≤ a) → ccS u v (tCp (v + 1) (u + 1) m) 16 a j = tCp (v + 1) (u + 1) m a j := fun a j q => by unfold ccS; rw [if_neg (by omega)]
  have lO : ∀ a j, (a < u + 17 ∨ u + 22 ≤ a) → lgC (v + 17) (u + 17) (ccS u v (tCp (v + 1) (u + 1) m) 16) a j = ccS u v (tCp (v + 1) (u + 1) m) 16 a j := fun a j q => by
    unfold lgC
    rw [cp_o (by omega), cp_o (by omega), cp_o (by omega), cp_o (by omega), up_o (by omega)]
  refine ⟨fun b j hb => ?_, ⟨?_, ?_⟩, ⟨?_, fun i hi => ⟨?_, ?_, ?_, ?_⟩⟩, fun c w hc hw => ?_⟩
  · have hb15 : b < 15 := by unfold tIn at hb; omega
    unfold wcS
    rw [up_o (by omega), up_o (by omega), lO _ _ (by omega), cO _ _ (by omega)]
    unfold tCp
    rw [if_pos ⟨by omega, by rw [show u + 1 + b - (u + 1) = b by omega]; exact hb⟩, show u + 1 + b - (u + 1) = b by omega]
  · unfold wcS
    rw [up_k (by omega), up_s, lO _ _ (by omega), cO _ _ (by omega), tO _ _ (by omega)]
  · unfold wcS
    rw [up_s, lO _ _ (by omega), cO _ _ (by omega), tO _ _ (by omega)]
  · unfold wcS
    rw [up_o (by omega), up_o (by omega)]
    unfold lgC
    rw [cp_o (by omega), cp_o (by omega), cp_o (by omega), cp_o (by omega), up_s, cO _ _ (by omega), tO _ _ (by omega)]
  · unfold wcS
    rw [up_o (by omega), up_o (by omega)]
    unfold lgC
    rw [cp_o (by omega), cp_o (by omega), cp_o (by omega), show u + 18 = u + 17 + 1 by omega, cp_s hi, up_o (by omega), cO _ _ (by omega), tO _ _ (by omega)]
  · unfold wcS
    rw [up_o (by omega), up_o (by omega)]
    unfold lgC
    rw [cp_o (by omega), cp_o (by omega), show u + 19 = u + 17 + 2 by omega, cp_s hi, cp_o (by omega), up_o (by omega), cO _ _ (by omega), tO _ _ (by omega)]
  · unfold wcS
    rw [up_o (by omega), up_o (by omega)]
    unfold lgC
    rw [cp_o (by omega), show u + 20 = u + 17 + 3 by omega, cp_s hi, cp_o (by omega), cp_o (by omega), up_o (by omega), cO _ _ (by omega), tO _ _ (by omega)]
  · unfold wcS
    rw [up_o (by omega), up_o (by omega)]
    unfold lgC
    rw [show u + 21 = u + 17 + 4 by omega, cp_s hi, cp_o (by omega), cp_o (by omega), cp_o (by omega), up_o (by omega), cO _ _ (by omega), tO _ _ (by omega)]
  · unfold wcS
    rw [up_o (by omega), up_o (by omega), lO _ _ (by omega)]
    unfold ccS
    by_cases q : w = 0
    · subst q
      rw [if_neg (by omega), tO _ _ (by omega), h1 c hc, h2 c hc]
    · rw [if_pos ⟨by omega, by omega, by omega, hw⟩, show u + 24 + c - (u + 24) = c by omega, tO _ _ (by omega)]
theorem wcS_n {m : mz_M} {u v c : Nat} (hc : c < 16) : wcS u v m (u + 24 + c) 0 = m (u + 24 + c) 0 := by
  unfold wcS lgC
  rw [up_o (by omega), up_o (by omega), cp_o (by omega), cp_o (by omega), cp_o (by omega), cp_o (by omega), up_o (by omega)]
  unfold ccS
  rw [if_neg (by omega), tCp_o (by omega)]
theorem cpR_o {m : mz_M} {o h d t a : Nat} (ha : a ≠ d) : cpR m o h d t a = m a := by funext j; unfold cpR; rw [if_neg (fun q => ha q.1)]
theorem cpR_s {m : mz_M} {o h d t j : Nat} (hj : j < 2430) : cpR m o h d t d (2430 * t + j) = m o (2430 * h + j) := by
  unfold cpR
  rw [if_pos ⟨rfl, by omega, by omega⟩, show 2430 * t + j - 2430 * t = j by omega]
theorem cpR_n {m : mz_M} {o h d t j : Nat} (hj : j < 2430 * t ∨ 2430 * t + 2430 ≤ j) : cpR m o h d t d j = m d j := by
  unfold cpR
  rw [if_neg (by omega)]
theorem b_save {m : mz_M} (h : Rel m) (x : Int) : both 270 119 [mz_i x] m := by
  obtain ⟨N, hw⟩ := h.1
  have h1 := sp_X8_saveSnapshot m x
  by_cases hx : 0 ≤ x ∧ x ≤ 1
  · obtain ⟨k, rfl⟩ := nat_i hx.1
    have hk : k < 2 := by omega
    rw [if_pos hx, if_pos hx, Int.toNat_natCast] at h1
    have h2 := sp_X9_save (mz_up (wcS (59 + 40 * k) 18 m) 139 k 1) k
    rw [if_pos hx, if_pos hx, Int.toNat_natCast] at h2
    have sl : slR m k := by
      rcases (show k = 0 ∨ k = 1 by omega) with q | q
      · rw [q]; exact h.2.1.1
      · rw [q]; exact h.2.1.2
    have g := agE_wc (m := m) (u := 59 + 40 * k) (v := 18) (by omega) sl.2.1 (RW_cnO hw)
    have o : ∀ a j, (a < 59 + 40 * k ∨ 59 + 40 * k + 40 ≤ a) → wcS (59 + 40 * k) 18 m a j = m a j := fun a j q => wcS_o q
    rw [show mz_up (wcS (59 + 40 * k) 18 m) 139 k 1 154 2 = m 18 3 by rw [up_o (by omega), o 154 2 (by omega)]; exact hw.2.1.1.1] at h2
    refine ⟨m 18 3, _, _, h1, h2, ?_⟩
    · have F : ∀ a, a ≠ 139 → a ≠ 153 → a ≠ 156 → a ≠ 157 → (a < 59 + 40 * k ∨ 59 + 40 * k + 40 ≤ a) → mz_up (cpR (mz_up (mz_up (wcS (59 + 40 * k) 18 m) 139 k 1) 153 4 0) 154 0 156 k) 157 k 1 a = m a := fun a q1 q2 q3 q4 q5 => by
        funext j
        rw [up_o q4, cpR_o q3, up_o q2, up_o q1, o a j q5]
      have F2 : ∀ a, 59 + 40 * k ≤ a → a < 59 + 40 * k + 40 → mz_up (cpR (mz_up (mz_up (wcS (59 + 40 * k) 18 m) 139 k 1) 153 4 0) 154 0 156 k) 157 k 1 a = wcS (59 + 40 * k) 18 m a := fun a q1 q2 => by
        funext j
        rw [up_o (by omega), cpR_o (by omega), up_o (by omega), up_o (by omega)]
      have e156 : ∀ j, mz_up (cpR (mz_up (mz_up (wcS (59 + 40 * k) 18 m) 139 k 1) 153 4 0) 154 0 156 k) 157 k 1 156 j = cpR m 154 0 156 k 156 j := fun j => by
        rw [up_o (by omega)]
        unfold cpR
        rw [up_o (by omega), up_o (by omega), o 154 _ (by omega), up_o (by omega), up_o (by omega), o 156 _ (by omega)]
      have e139 : ∀ j, mz_up (cpR (mz_up (mz_up (wcS (59 + 40 * k) 18 m) 139 k 1) 153 4 0) 154 0 156 k) 157 k 1 139 j = if j = k then 1 else m 139 j := fun j => by
        rw [up_o (by omega), cpR_o (by omega), up_o (by omega), up_at, o 139 _ (by omega)]
        simp
      have e157 : ∀ j, mz_up (cpR (mz_up (mz_up (wcS (59 + 40 * k) 18 m) 139 k 1) 153 4 0) 154 0 156 k) 157 k 1 157 j = if j = k then 1 else m 157 j := fun j => by
        rw [up_at, cpR_o (by omega), up_o (by omega), up_o (by omega), o 157 _ (by omega)]
        simp
      have e153 : ∀ j, j ≠ 4 → mz_up (cpR (mz_up (mz_up (wcS (59 + 40 * k) 18 m) 139 k 1) 153 4 0) 154 0 156 k) 157 k 1 153 j = m 153 j := fun j q => by
        rw [up_o (by omega), cpR_o (by omega), up_k q, up_o (by omega), o 153 _ (by omega)]
      generalize mz_up (cpR (mz_up (mz_up (wcS (59 + 40 * k) 18 m) 139 k 1) 153 4 0) 154 0 156 k) 157 k 1 = M at F F2 e156 e139 e157 e153 ⊢
      have S1 : slR M k := by
        refine ⟨by rw [e139, e157, if_pos rfl, if_pos rfl]; exact ⟨rfl, Or.inr rfl⟩, fun c hc => ?_, fun _ => ⟨N, ?_⟩⟩
        · rw [F2 _ (by omega) (by omega), wcS_n hc]; exact sl.2.1 c hc
        · refine RW_congr (m := wcS (59 + 40 * k) 18 m) (V := m 154) (fun a q1 q2 q3 q4 => F2 a q1 q2) (fun j hj => ?_) (RW_ag g hw)
          rw [e156, cpR_s hj, Nat.mul_zero, Nat.zero_add]
      have S2 : ∀ y, y < 2 → y ≠ k → slR m y → slR M y := fun y hy hyk s => by
        unfold slR at s ⊢
        rw [e139, e157, if_neg hyk, if_neg hyk]
        refine ⟨s.1, fun c hc => ?_, fun q => ?_⟩
        · rw [F _ (by omega) (by omega) (by omega) (by omega) (by omega)]; exact s.2.1 c hc
        · obtain ⟨N', g'⟩ := s.2.2 q
          refine ⟨N', RW_congr (fun a q1 q2 q3 q4 => F a (by omega) (by omega) (by omega) (by omega) (by omega)) (fun j hj => ?_) g'⟩
          rw [e156, cpR_n (by omega)]
      have S : ∀ y, y < 2 → slR m y → slR M y := fun y hy s => by
        by_cases q : y = k
        · rw [q]; exact S1
        · exact S2 y hy q s
      obtain ⟨_, ⟨s0, s1⟩, hr, ⟨⟨c1, c2, c3, c4⟩, c5, c6⟩⟩ := h
      refine ⟨⟨N, ?_⟩, ⟨S 0 (by omega) s0, S 1 (by omega) s1⟩, rdR_frame hr ⟨F 17 (by omega) (by omega) (by omega) (by omega) (by omega), F 158 (by omega) (by omega) (by omega) (by omega) (by omega)⟩ ⟨by rw [F 1 (by omega) (by omega) (by omega) (by omega) (by omega)], by rw [F 1 (by omega) (by omega) (by omega) (by omega) (by omega)]⟩ ⟨e153 6 (by omega), e153 8 (by omega), e153 11 (by omega)⟩, ⟨⟨?_, ?_, ?_, ?_⟩, ?_, fun y hy hu => ?_⟩⟩
      · refine RW_congr (fun a q1 q2 q3 q4 => F a (by omega) (by omega) (by omega) (by omega) (by omega)) (fun j hj => ?_) hw
        rw [F 154 (by omega) (by omega) (by omega) (by omega) (by omega)]
      · rw [F 145 (by omega) (by omega) (by omega) (by omega) (by omega)]; exact c1
      · rw [F 146 (by omega) (by omega) (by omega) (by omega) (by omega)]; exact c2
      · rw [F 152 (by omega) (by omega) (by omega) (by omega) (by omega)]; exact c3
      · rw [F 165 (by omega) (by omega) (by omega) (by omega) (by omega)]; exact c4
      · exact spR_congr (fun a q1 q2 q3 q4 => F a (by omega) (by omega) (by omega) (by omega) (by omega)) c5
      · by_cases q : y = k
        · subst q
          exact spR_congr (fun a q1 q2 q3 q4 => F2 a (by omega) q2) (spR_ag g c5)
        · rw [e139, if_neg q] at hu
          exact spR_congr (fun a q1 q2 q3 q4 => F a (by omega) (by omega) (by omega) (by omega) (by omega)) (c6 y hy hu)
  · rw [if_neg hx, if_neg hx] at h1
    have h2 := sp_X9_save m x
    rw [if_neg hx, if_neg hx] at h2
    exact b_read h h1 h2 rfl
theorem b_restore {m : mz_M} (h : Rel m) (x : Int) : both 269 117 [mz_i x] m := by
  obtain ⟨N, hw⟩ := h.1
  have h1 := sp_X8_restoreSnapshot m x
  by_cases hx : 0 ≤ x ∧ x ≤ 1
  · obtain ⟨k, rfl⟩ := nat_i hx.1
    have hk : k < 2 := by omega
    rw [if_pos hx, Int.toNat_natCast] at h1
    have sl : slR m k := by
      rcases (show k = 0 ∨ k = 1 by omega) with q | q
      · rw [q]; exact h.2.1.1
      · rw [q]; exact h.2.1.2
    by_cases hu : m 139 k = 0
    · rw [if_pos hu, if_neg (fun q => q.2 hu)] at h1
      have h2 := sp_X9_restore m k
      rw [if_pos hx, Int.toNat_natCast, if_pos (show m 157 k = 0 by rw [← sl.1.1]; exact hu), if_neg (fun q => q.2 (by rw [← sl.1.1]; exact hu))] at h2
      exact b_read h h1 h2 rfl
    · rw [if_neg hu, if_pos ⟨hx, hu⟩] at h1
      obtain ⟨N', hS⟩ := sl.2.2 hu
      have g := agE_wc (m := m) (u := 18) (v := 59 + 40 * k) (by omega) (RW_cnO hw) sl.2.1
      have o : ∀ a, (a < 18 ∨ 58 ≤ a) → wcS 18 (59 + 40 * k) m a = m a := fun a q => funext fun j => wcS_o (by omega)
      have h2 := sp_X9_restore (wcS 18 (59 + 40 * k) m) k
      rw [if_pos hx, Int.toNat_natCast, o 157 (by omega), o 156 (by omega), if_neg (show ¬ m 157 k = 0 by rw [← sl.1.1]; exact hu), if_pos ⟨hx, (by rw [← sl.1.1]; exact hu : ¬ m 157 k = 0)⟩] at h2
      have e3 : m 156 (2430 * k + 2) = wcS 18 (59 + 40 * k) m 18 3 := by
        rw [g.2.1.1]
        exact hS.2.1.1.1
      rw [e3] at h2
      refine ⟨_, _, _, h1, h2, ?_⟩
      have F : ∀ a, a ≠ 154 → a ≠ 153 → cpR (mz_up (wcS 18 (59 + 40 * k) m) 153 4 0) 156 k 154 0 a = wcS 18 (59 + 40 * k) m a := fun a q1 q2 => by
        rw [cpR_o q1]; funext j; rw [up_o q2]
      refine Rel_live (N := N') h (fun a q1 q2 q3 => by rw [F a q3 q2, o a q1]) ?_ ?_ ?_
      · rw [cpR_o (by omega), up_k (by omega), up_k (by omega), up_k (by omega), o 153 (by omega)]
        exact ⟨rfl, rfl, rfl⟩
      · refine RW_congr (m := wcS 18 (59 + 40 * k) m) (V := fun j => m 156 (2430 * k + j)) (fun a q1 q2 q3 q4 => F a (by omega) (by omega)) (fun j hj => ?_) (RW_ag g hS)
        have := cpR_s (m := mz_up (wcS 18 (59 + 40 * k) m) 153 4 0) (o := 156) (h := k) (d := 154) (t := 0) hj
        rw [Nat.mul_zero, Nat.zero_add] at this
        rw [this, up_o (by omega), o 156 (by omega)]
      · exact spR_congr (fun a q1 q2 q3 q4 => F a (by omega) (by omega)) (spR_ag g (h.2.2.2.2.2 k hk hu))
  · rw [if_neg hx, if_neg (fun q => hx q.1)] at h1
    have h2 := sp_X9_restore m x
    rw [if_neg hx, if_neg (fun q => hx q.1)] at h2
    exact b_read h h1 h2 rfl
